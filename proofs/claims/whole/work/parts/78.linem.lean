/-! line: the reference -/
/-- the bins that are out, the first i places looked at -/
def NI (r : Int → Int) (s : Int) (i : Nat) (m : Mem) : Prop := m 169 49 = lineC r s i ∧ ∀ j : Nat, j < i → lineQ r s j = true → m 194 (lineC r s j) = 16 * s + (8 * ((j : Int) % 2) + (j : Int) / 2)
theorem lineC_lt {r : Int → Int} {s : Int} {i j : Nat} (h : j < i) (q : lineQ r s j = true) : lineC r s j < lineC r s i := by
  have e : lineC r s (j + 1) = lineC r s j + 1 := by rw [lineC_step, q]; rfl
  have m := lineC_mono (r := r) (s := s) (i := j + 1) (i - (j + 1))
  rw [show j + 1 + (i - (j + 1)) = i by omega] at m
  omega
theorem NI.skip {r : Int → Int} {s : Int} {i : Nat} {m : Mem} (h : NI r s i m) (q : lineQ r s i = false) : NI r s (i + 1) m := by
  refine ⟨?_, fun j hj hq => ?_⟩
  · rw [lineC_step, q, h.1]; show _ = _ + 0; omega
  · by_cases c : j = i
    · subst c; rw [q] at hq; cases hq
    · exact h.2 j (by omega) hq
theorem NI.add {r : Int → Int} {s : Int} {i : Nat} {m : Mem} (h : NI r s i m) (q : lineQ r s i = true) : NI r s (i + 1) (up2 (up2 m 194 (m 169 49) (16 * s + (8 * ((i : Int) % 2) + (i : Int) / 2))) 169 49 (m 169 49 + 1)) := by
  refine ⟨?_, fun j hj hq => ?_⟩
  · rw [up2_same, lineC_step, q, h.1]; rfl
  · rw [up2_k (by decide), h.1]
    by_cases c : j = i
    · subst c; rw [up2_same]
    · have := lineC_lt (r := r) (s := s) (show j < i by omega) hq
      rw [up2_j (by omega)]
      exact h.2 j (by omega) hq
theorem NI.of {r : Int → Int} {s : Int} {i : Nat} {m m' : Mem} (h : NI r s i m) (e : m' 169 49 = m 169 49) (e2 : m' 194 = m 194) : NI r s i m' := ⟨e.trans h.1, fun j hj hq => by rw [e2]; exact h.2 j hj hq⟩
def nearS (r : Int → Int) (s i j : Int) : Int → Int := fun b => if (16 * s ≤ b ∧ b < 16 * s + 16) ∧ r b = 1 ∧ i ≤ posN (b - 16 * s) ∧ posN (b - 16 * s) < j then 0 else r b
theorem mt_laysNear {E : Nat × (Nat → Int32)} {m : Mem} {r : Int → Int} {s n : Int} {i : Nat} (s0 : 0 ≤ s) (s6 : s < 6) (n0 : 0 ≤ n) (n8 : n ≤ 8) (hi : (i : Int) ≤ 2 * n) (h : NI r s (2 * n).toNat m) (er : ∀ b : Int, 0 ≤ b → b < 99 → m 180 b = r b) (hw : ∀ x : Int, 0 ≤ x → x < 16 → r (16 * s + x) = 1 → x % 8 < n) : K_X12_laysNear E [.ref 169, vi s, vi (lineC r s i)] m (fun m' => (∀ b : Int, 0 ≤ b → b < 99 → m' 181 b = nearR r s i b) ∧ ∀ k, k ≠ 181 → m' k = m k) := by
  refine en_X12_laysNear (sg_X12_laysNear_0 (ca_X12_laysNear_8 (ct_puts (by decide) (by decide) (by decide) (by decide) (by decide)) (fun m1 h1 => sg_X12_laysNear_11 ?_)))
  have k1 : ∀ k, k ≠ 181 → m1 k = m k := fun k hk => by rw [h1, mv_k hk]
  have r1 : ∀ b : Int, 0 ≤ b → b < 99 → m1 181 b = r b := fun b b0 b1 => by
    rw [h1, mv_in (by omega) (by omega), ← er b b0 b1]
    congr 1
    omega
  clear h1
  have h1 : NI r s (2 * n).toNat m1 := h.of (by rw [k1 169 (by decide)]) (k1 194 (by decide))
  have key : ∀ (d j : Nat) (m2 : Mem), i ≤ j → j + d = (2 * n).toNat → (∀ b : Int, 0 ≤ b → b < 99 → m2 181 b = nearS r s i j b) → (∀ k, k ≠ 181 → m2 k = m1 k) → GM E (m_X12_laysNear 1) (Pv fun m' => (∀ b : Int, 0 ≤ b → b < 99 → m' 181 b = nearR r s i b) ∧ ∀ k, k ≠ 181 → m' k = m k) 13 [.ref 169, vi s, vi (lineC r s i), vi (lineC r s j)] [] m2 := by
    intro d
    induction d with
    | zero =>
      intro j m2 ij hj q1 q2
      have ej : j = (2 * n).toNat := by omega
      have e49 : m2 169 49 = lineC r s j := by rw [q2 169 (by decide), h1.1, ej]
      have cr := lineC_rng (r := r) (s := s) (i := j)
      refine sg_X12_laysNear_13 ⟨by omega, by omega⟩ (by rw [e49]; constructor <;> omega) (by omega) (by omega) (fun _ => ⟨rfl, fun b b0 b1 => ?_, fun k hk => (q2 k hk).trans (k1 k hk)⟩) (by omega)
      rw [q1 b b0 b1]
      unfold nearS nearR
      by_cases c : (16 * s ≤ b ∧ b < 16 * s + 16) ∧ r b = 1 ∧ (i : Int) ≤ posN (b - 16 * s)
      · have h4 : posN (b - 16 * s) < j := by
          have := hw (b - 16 * s) (by omega) (by omega) (by rw [show 16 * s + (b - 16 * s) = b by omega]; exact c.2.1)
          unfold posN
          omega
        rw [if_pos c, if_pos ⟨c.1, c.2.1, c.2.2, h4⟩]
      · rw [if_neg c, if_neg (fun o => c ⟨o.1, o.2.1, o.2.2.1⟩)]
    | succ d ih =>
      intro j m2 ij hj q1 q2
      have ep : posN (8 * ((j : Int) % 2) + (j : Int) / 2) = j := by unfold posN; omega
      have pinj : ∀ x : Int, 0 ≤ x → x < 16 → posN x = j → x = 8 * ((j : Int) % 2) + (j : Int) / 2 := fun x x0 x1 hx => by unfold posN at hx; omega
      rcases q : lineQ r s j with _ | _
      · have ec : lineC r s (j + 1) = lineC r s j := by rw [lineC_step, q]; show _ + 0 = _; omega
        have g := ih (j + 1) m2 (by omega) (by omega) (fun b b0 b1 => ?_) q2
        · rw [ec] at g
          exact g
        · rw [q1 b b0 b1]
          unfold nearS
          by_cases c : (16 * s ≤ b ∧ b < 16 * s + 16) ∧ r b = 1 ∧ (i : Int) ≤ posN (b - 16 * s) ∧ posN (b - 16 * s) < j
          · rw [if_pos c, if_pos ⟨c.1, c.2.1, c.2.2.1, by omega⟩]
          · rw [if_neg c, if_neg (fun o => ?_)]
            have : posN (b - 16 * s) = j := by
              by_cases g : posN (b - 16 * s) < j
              · exact absurd ⟨o.1, o.2.1, o.2.2.1, g⟩ c
              · omega
            have e := pinj (b - 16 * s) (by omega) (by omega) this
            unfold lineQ at q
            rw [beq_eq_false_iff_ne, ← e, show 16 * s + (b - 16 * s) = b by omega] at q
            exact q o.2.1
      · have ec : lineC r s (j + 1) = lineC r s j + 1 := by rw [lineC_step, q]; rfl
        have lt := lineC_lt (r := r) (s := s) (show j < (2 * n).toNat by omega) q
        have e49 : m2 169 49 = lineC r s (2 * n).toNat := by rw [q2 169 (by decide), h1.1]
        have cr := lineC_rng (r := r) (s := s) (i := (2 * n).toNat)
        have cj := lineC_rng (r := r) (s := s) (i := j)
        have e94 : m2 194 (lineC r s j) = 16 * s + (8 * ((j : Int) % 2) + (j : Int) / 2) := by rw [q2 194 (by decide)]; exact h1.2 j (by omega) q
        refine sg_X12_laysNear_13 ⟨by omega, by omega⟩ (by rw [e49]; constructor <;> omega) (fun _ => ⟨by omega, by omega⟩) (fun _ => by rw [e94]; omega) (by rw [e49]; omega) (fun _ => ?_)
        rw [← ec, e94]
        refine ih (j + 1) _ (by omega) (by omega) (fun b b0 b1 => ?_) (fun k hk => by rw [up2_k hk, q2 k hk])
        by_cases c : b = 16 * s + (8 * ((j : Int) % 2) + (j : Int) / 2)
        · subst c
          rw [up2_same]
          unfold nearS
          unfold lineQ at q
          rw [beq_iff_eq] at q
          have h4 : (i : Int) ≤ posN (16 * s + (8 * ((j : Int) % 2) + (j : Int) / 2) - 16 * s) ∧ posN (16 * s + (8 * ((j : Int) % 2) + (j : Int) / 2) - 16 * s) < ((j + 1 : Nat) : Int) := by
            rw [show 16 * s + (8 * ((j : Int) % 2) + (j : Int) / 2) - 16 * s = 8 * ((j : Int) % 2) + (j : Int) / 2 by omega, ep]
            omega
          rw [if_pos ⟨by omega, q, h4⟩]
        · rw [up2_j c, q1 b b0 b1]
          unfold nearS
          by_cases c2 : (16 * s ≤ b ∧ b < 16 * s + 16) ∧ r b = 1 ∧ (i : Int) ≤ posN (b - 16 * s) ∧ posN (b - 16 * s) < j
          · rw [if_pos c2, if_pos ⟨c2.1, c2.2.1, c2.2.2.1, by omega⟩]
          · rw [if_neg c2, if_neg (fun o => ?_)]
            have : posN (b - 16 * s) = j := by
              by_cases g : posN (b - 16 * s) < j
              · exact absurd ⟨o.1, o.2.1, o.2.2.1, g⟩ c2
              · omega
            have e := pinj (b - 16 * s) (by omega) (by omega) this
            omega
  refine key ((2 * n).toNat - i) i m1 (Nat.le_refl _) (by omega) (fun b b0 b1 => ?_) (fun _ _ => rfl)
  rw [r1 b b0 b1]
  unfold nearS
  rw [if_neg (fun o => by omega)]
theorem nearR_0 {a : Mem} {v : (Int → Int) → Int} {r : Int → Int} {s : Int} (hT : WTown a) (hS : WSet a) (s0 : 0 ≤ s) (s6 : s < 6) : lineT a v r s 0 2 = 0 := by
  have t := hT.2.2.1 s s0 s6
  have m1 := hS.2.2.1
  have m4 := hS.2.2.2.1
  have no : ∀ k : Nat, (k : Int) ≤ 2 * a 172 s → walkN a v s 2 1000000 (a 173 s) (a 179 1) (a 172 s) k (x0 (emptyRow (nearR r s 0))) = x0 (emptyRow (nearR r s 0)) := by
    intro k
    induction k with
    | zero => intro _; rfl
    | succ k ih =>
      intro hk
      have hr := houseN_rng (how := 2) (i := k) (by omega : a 172 s ≤ 8) (by omega) (by omega)
      rw [walkN, ih (by omega)]
      refine wk_skip (Or.inl ?_)
      rw [x0_row (by omega) (by omega), emptyRow_b (by omega)]
      intro e
      have := (nearR_1 hr.1 hr.2).1 e
      unfold posN at this
      omega
  show handsP (a 179 1) (goesP a v (emptyRow (nearR r s 0)) s 2 1000000 (a 173 s) (a 179 1) 132) + movesR a s 2 = 0
  have eg : goesP a v (emptyRow (nearR r s 0)) s 2 1000000 (a 173 s) (a 179 1) 132 = 0 := by
    unfold goesP
    rw [no _ (by omega)]
    exact x0_0 (by decide)
  rw [eg]
  have em : movesR a s 2 = 0 := rfl
  rw [em]
  unfold handsP
  rw [divI_nn ⟨by omega, by omega⟩ ⟨by omega, by omega⟩, Int.ediv_eq_zero_of_lt (by omega) (by omega)]
  rfl
/-- the reference's line -/
theorem mt_line {E : Nat × (Nat → Int32)} {m a : Mem} {v : (Int → Int) → Int} {s B : Int} (rs : RI s) (hm : HighEq a m) (hR : RuleM a v) (hT : WTown a) (hS : WSet a) (hn : StOK B a (a 180)) : K_X12_line E [.ref 169, vi s] m (fun z m' => ((0 ≤ s ∧ s < a 169 3) ∧ z = (lineA a v (a 180) s).1 ∧ PEq m' (rowU m 2 (rwL [(lineA a v (a 180) s).2.1, (lineA a v (a 180) s).2.2])) ∧ LowEq m m') ∨ (¬ (0 ≤ s ∧ s < a 169 3) ∧ z = -1 ∧ m' = up2 m 169 0 0)) := by
  have n0 := hT.1
  have n6 := hT.2.1
  have e3 : m 169 3 = a 169 3 := by rw [hm 169 (by decide)]
  refine en_X12_line (sg_X12_line_0 (by rw [e3]; constructor <;> omega) rs (fun p => by omega) (fun p => ?_) (fun p => ⟨_, rfl, Or.inr ⟨by omega, rfl, rfl⟩⟩))
  rw [e3] at p
  have s0 := p.1
  have s6 : s < 6 := by omega
  have t := hT.2.2.1 s s0 s6
  have m1' := hS.2.2.1
  have m4 := hS.2.2.2.1
  have T := fun i how => lineT_rng (v := v) (i := i) (how := how) hT hS s0 s6 hn.r3
  generalize hM : up2 (up2 (up2 (up2 m 169 0 0) 169 30 (m 179 1)) 169 31 (m 173 s)) 169 49 0 = M
  have M1 : ∀ k, k ≠ 169 → M k = m k := fun k q => by rw [← hM, up2_k q, up2_k q, up2_k q, up2_k q]
  have M2 : ∀ j : Int, j ≠ 0 → j ≠ 30 → j ≠ 31 → j ≠ 49 → M 169 j = m 169 j := fun j q1 q2 q3 q4 => by rw [← hM, up2_j q4, up2_j q3, up2_j q2, up2_j q1]
  have M31 : M 169 31 = a 173 s := by rw [← hM, up2_j (by decide), up2_same, hm 173 (by decide)]
  have M30 : M 169 30 = a 179 1 := by rw [← hM, up2_j (by decide), up2_j (by decide), up2_same, hm 179 (by decide)]
  have M49 : M 169 49 = 0 := by rw [← hM, up2_same]
  clear hM
  have MBa : MB a M := hm.mb.trans ⟨M2 3 (by decide) (by decide) (by decide) (by decide), M2 26 (by decide) (by decide) (by decide) (by decide), fun k _ _ => M1 k (by omega), M1 185 (by decide)⟩
  have M180 : M 180 = a 180 := by rw [M1 180 (by decide), hm 180 (by decide)]
  have hw : ∀ x : Int, 0 ≤ x → x < 16 → a 180 (16 * s + x) = 1 → x % 8 < a 172 s := fun x x0 x1 e => by
    have hh := (hT.2.2.2 s x s0 s6 x0 x1).2.2
    have hnn := (hn.1 (16 * s + x) (by omega) (by omega)).2.2 (by omega)
    by_cases c : x % 8 < a 172 s
    · exact c
    · exact absurd (hh (by omega)) hnn
  -- what stays while it is reckoned
  have fin : ∀ (m2 : Mem) (x y z : Int), (∀ k, k ≠ 189 → k ≠ 169 → k ≠ 187 → k ≠ 188 → k ≠ 181 → k ≠ 194 → m2 k = M k) → (∀ j : Int, (j < 30 ∨ 37 < j) → j ≠ 39 → j ≠ 49 → m2 169 j = M 169 j) → z = (lineA a v (a 180) s).1 → x = (lineA a v (a 180) s).2.1 → y = (lineA a v (a 180) s).2.2 → (Pi fun z m' => ((0 ≤ s ∧ s < a 169 3) ∧ z = (lineA a v (a 180) s).1 ∧ PEq m' (rowU m 2 (rwL [(lineA a v (a 180) s).2.1, (lineA a v (a 180) s).2.2])) ∧ LowEq m m') ∨ (¬ (0 ≤ s ∧ s < a 169 3) ∧ z = -1 ∧ m' = up2 m 169 0 0)) (some (vi z)) (up2 (up2 (up2 (up2 (up2 m2 169 1 0) 170 0 x) 169 1 1) 170 1 y) 169 1 2) := by
    intro m2 x y z q1 q2 ez ex ey
    subst ez ex ey
    refine ⟨_, rfl, Or.inl ⟨p, rfl, PEq.two (PEq.of (fun k hk h9 => ?_) (fun j hj => ?_)), fun k hk => ?_⟩⟩
    · have := hk.not
      rw [q1 k (by omega) h9 (by omega) (by omega) (by omega) (by omega), M1 k h9]
    · have := hj.not
      rw [q2 j (by omega) (by omega) (by omega), M2 j (by omega) (by omega) (by omega) (by omega)]
    · rw [up2_k (by omega), up2_k (by omega), up2_k (by omega), up2_k (by omega), up2_k (by omega), q1 k (by omega) (by omega) (by omega) (by omega) (by omega) (by omega), M1 k (by omega)]
  -- one reckoning, i places looked at
  have one : ∀ (P : Option Value → Mem → Prop) (i : Nat) (m2 : Mem) (x2 x3 x4 x6 : Int), (i : Int) ≤ 2 * a 172 s → NI (a 180) s (2 * a 172 s).toNat m2 → x6 = lineC (a 180) s i → (∀ k, k ≠ 189 → k ≠ 169 → k ≠ 187 → k ≠ 188 → k ≠ 181 → k ≠ 194 → m2 k = M k) → (∀ j : Int, (j < 30 ∨ 37 < j) → j ≠ 39 → j ≠ 49 → m2 169 j = M 169 j) → m2 169 31 = a 173 s → m2 169 30 = a 179 1 →
      (∀ m3 : Mem, NI (a 180) s (2 * a 172 s).toNat m3 → (∀ k, k ≠ 189 → k ≠ 169 → k ≠ 187 → k ≠ 188 → k ≠ 181 → k ≠ 194 → m3 k = M k) → (∀ j : Int, (j < 30 ∨ 37 < j) → j ≠ 39 → j ≠ 49 → m3 169 j = M 169 j) → m3 169 31 = a 173 s → m3 169 30 = a 179 1 → lineT a v (a 180) s i 2 ≤ min (lineT a v (a 180) s i 0) (lineT a v (a 180) s i 1) → GM E (m_X12_line 7) P 109 [.ref 169, vi s, vi (lineT a v (a 180) s i 2), vi (min (lineT a v (a 180) s i 0) (lineT a v (a 180) s i 1)), vi x6, vi 1, vi (x6 + 1)] [] m3) →
      (∀ m3 : Mem, NI (a 180) s (2 * a 172 s).toNat m3 → (∀ k, k ≠ 189 → k ≠ 169 → k ≠ 187 → k ≠ 188 → k ≠ 181 → k ≠ 194 → m3 k = M k) → (∀ j : Int, (j < 30 ∨ 37 < j) → j ≠ 39 → j ≠ 49 → m3 169 j = M 169 j) → ¬ lineT a v (a 180) s i 2 ≤ min (lineT a v (a 180) s i 0) (lineT a v (a 180) s i 1) → GM E (m_X12_line 7) P 109 [.ref 169, vi s, vi (lineT a v (a 180) s i 2), vi (min (lineT a v (a 180) s i 0) (lineT a v (a 180) s i 1)), vi x4, vi 0, vi (x6 + 1)] [] m3) →
      GM E (m_X12_line 7) P 127 [.ref 169, vi s, vi x2, vi x3, vi x4, vi 1, vi x6] [vi x6, vi s, .ref 169] m2 := by
    intro P i m2 x2 x3 x4 x6 hi hN ex q1 q2 q31 q30 kg kb
    subst ex
    have e180 : ∀ b : Int, 0 ≤ b → b < 99 → m2 180 b = a 180 b := fun b _ _ => by rw [q1 180 (by decide) (by decide) (by decide) (by decide) (by decide) (by decide), M180]
    refine ca_X12_line_127 (mt_laysNear (n := a 172 s) s0 s6 (by omega) (by omega) hi hN e180 hw) (fun m3 h3 => sg_X12_line_130 ?_)
    obtain ⟨w1, w2⟩ := h3
    have b3 : MB a m3 := MBa.trans ⟨by rw [w2 169 (by decide)]; exact q2 3 (by omega) (by decide) (by decide), by rw [w2 169 (by decide)]; exact q2 26 (by omega) (by decide) (by decide), fun k k0 k1 => by rw [w2 k (by omega)]; exact q1 k (by omega) (by omega) (by omega) (by omega) (by omega) (by omega), by rw [w2 185 (by decide)]; exact q1 185 (by decide) (by decide) (by decide) (by decide) (by decide) (by decide)⟩
    have r3 := nearR_r3 (s := s) (i := i) hn.r3
    refine ca_X12_line_137 (mt_takesOf2 (r0 := nearR (a 180) s i) (hill := a 173 s) (men := a 179 1) (by decide) (by decide) (by decide) b3 hR hT hS s0 s6 (by decide) (by decide) (by rw [w2 169 (by decide)]; exact q31) (by rw [w2 169 (by decide)]; exact q30) ⟨by omega, by omega⟩ ⟨by omega, by omega⟩ w1 r3) (fun z4 m4 h4 => sg_X12_line_140 ?_)
    obtain ⟨y4, -, -, f4, g31, g30, -⟩ := h4
    have y4 : z4 = lineT a v (a 180) s i 2 := y4
    have s4 : ∀ b : Int, 0 ≤ b → b < 99 → m4 181 b = nearR (a 180) s i b := fun b b0 b1 => by rw [f4.1 181 (by decide) (by decide) (by decide) (by decide)]; exact w1 b b0 b1
    refine ca_X12_line_148 (mt_takesOf2 (r0 := nearR (a 180) s i) (hill := a 173 s) (men := a 179 1) (by decide) (by decide) (by decide) (b3.trans f4.mb) hR hT hS s0 s6 (by decide) (by decide) (by rw [g31, w2 169 (by decide)]; exact q31) (by rw [g30, w2 169 (by decide)]; exact q30) ⟨by omega, by omega⟩ ⟨by omega, by omega⟩ s4 r3) (fun z5 m5 h5 => sg_X12_line_151 ?_)
    obtain ⟨y5, -, -, f5, g31', g30', -⟩ := h5
    have y5 : z5 = lineT a v (a 180) s i 0 := y5
    have s5 : ∀ b : Int, 0 ≤ b → b < 99 → m5 181 b = nearR (a 180) s i b := fun b b0 b1 => by rw [f5.1 181 (by decide) (by decide) (by decide) (by decide)]; exact s4 b b0 b1
    refine ca_X12_line_158 (mt_takesOf2 (r0 := nearR (a 180) s i) (hill := a 173 s) (men := a 179 1) (by decide) (by decide) (by decide) ((b3.trans f4.mb).trans f5.mb) hR hT hS s0 s6 (by decide) (by decide) (by rw [g31', g31, w2 169 (by decide)]; exact q31) (by rw [g30', g30, w2 169 (by decide)]; exact q30) ⟨by omega, by omega⟩ ⟨by omega, by omega⟩ s5 r3) (fun z6 m6 h6 => ?_)
    obtain ⟨y6, -, -, f6, g31'', g30'', -⟩ := h6
    have y6 : z6 = lineT a v (a 180) s i 1 := y6
    have f := (f4.trans f5).trans f6
    have t2 := T i 2
    have t0 := T i 0
    have t1 := T i 1
    have F1 : ∀ k, k ≠ 189 → k ≠ 169 → k ≠ 187 → k ≠ 188 → k ≠ 181 → k ≠ 194 → m6 k = M k := fun k k1 k2 k3 k4 k5 k6 => by rw [f.1 k k1 k2 k3 k4, w2 k k5]; exact q1 k k1 k2 k3 k4 k5 k6
    have F2 : ∀ j : Int, (j < 30 ∨ 37 < j) → j ≠ 39 → j ≠ 49 → m6 169 j = M 169 j := fun j j1 j2 j3 => by rw [f.2 j j1 j2, w2 169 (by decide)]; exact q2 j j1 j2 j3
    have FN : NI (a 180) s (2 * a 172 s).toNat m6 := hN.of (by rw [f.2 49 (by omega) (by decide), w2 169 (by decide)]) (by rw [f.1 194 (by decide) (by decide) (by decide) (by decide), w2 194 (by decide)])
    have F31 : m6 169 31 = a 173 s := by rw [g31'', g31', g31, w2 169 (by decide)]; exact q31
    have F30 : m6 169 30 = a 179 1 := by rw [g30'', g30', g30, w2 169 (by decide)]; exact q30
    subst y4 y5 y6
    refine sg_X12_line_161 ⟨by omega, by omega⟩ ⟨by omega, by omega⟩ ⟨by omega, by omega⟩ ⟨by omega, by omega⟩ (fun g => kb m6 FN F1 F2 (by omega)) (fun g => kg m6 FN F1 F2 F31 F30 (by omega))
  have key : ∀ (d i : Nat) (m2 : Mem) (x2 x3 : Int), i + d = (2 * a 172 s).toNat → NI (a 180) s (2 * a 172 s).toNat m2 → (∀ k, k ≠ 189 → k ≠ 169 → k ≠ 187 → k ≠ 188 → k ≠ 181 → k ≠ 194 → m2 k = M k) → (∀ j : Int, (j < 30 ∨ 37 < j) → j ≠ 39 → j ≠ 49 → m2 169 j = M 169 j) → m2 169 31 = a 173 s → m2 169 30 = a 179 1 → RI x2 → RI x3 → lineG (lineT a v (a 180) s) (lineQ (a 180) s) d i (lineC (a 180) s i) = lineA a v (a 180) s → GM E (m_X12_line 7) (Pi fun z m' => ((0 ≤ s ∧ s < a 169 3) ∧ z = (lineA a v (a 180) s).1 ∧ PEq m' (rowU m 2 (rwL [(lineA a v (a 180) s).2.1, (lineA a v (a 180) s).2.2])) ∧ LowEq m m') ∨ (¬ (0 ≤ s ∧ s < a 169 3) ∧ z = -1 ∧ m' = up2 m 169 0 0)) 109 [.ref 169, vi s, vi x2, vi x3, vi (lineC (a 180) s i), vi 1, vi (lineC (a 180) s i + 1)] [] m2 := by
    intro d
    induction d with
    | zero =>
      intro i m2 x2 x3 hi hN q1 q2 q31 q30 rx2 rx3 hA
      have cr := lineC_rng (r := a 180) (s := s) (i := i)
      have e49 : m2 169 49 = lineC (a 180) s i := by rw [hN.1, show (2 * a 172 s).toNat = i by omega]
      refine sg_X12_line_109 ⟨by omega, by omega⟩ (by rw [e49]; constructor <;> omega) (by decide) rx3 rx2 (fun _ q => absurd q (by decide)) (fun _ q => absurd q (by decide)) (fun _ _ q => absurd q (by decide)) (fun _ _ _ => ?_) (fun q => by omega) (fun q => by omega) (fun q => by omega) (fun q => by omega) (fun q => by omega)
      have e : lineG (lineT a v (a 180) s) (lineQ (a 180) s) 0 i (lineC (a 180) s i) = (lineC (a 180) s i, -1, -1) := rfl
      rw [e] at hA
      exact fin m2 _ _ _ q1 q2 (by rw [← hA]) (by rw [← hA]) (by rw [← hA])
    | succ d ih =>
      intro i m2 x2 x3 hi hN q1 q2 q31 q30 rx2 rx3 hA
      have cr := lineC_rng (r := a 180) (s := s) (i := i)
      rcases q : lineQ (a 180) s i with _ | _
      · have ec : lineC (a 180) s (i + 1) = lineC (a 180) s i := by rw [lineC_step, q]; show _ + 0 = _; omega
        have el : lineG (lineT a v (a 180) s) (lineQ (a 180) s) (d + 1) i (lineC (a 180) s i) = lineG (lineT a v (a 180) s) (lineQ (a 180) s) d (i + 1) (lineC (a 180) s i) := by
          rw [lineG, if_neg (by rw [q]; decide)]
        rw [el] at hA
        have g := ih (i + 1) m2 x2 x3 (by omega) hN q1 q2 q31 q30 rx2 rx3 (by rw [ec]; exact hA)
        rw [ec] at g
        exact g
      · have ec : lineC (a 180) s (i + 1) = lineC (a 180) s i + 1 := by rw [lineC_step, q]; rfl
        have el : lineG (lineT a v (a 180) s) (lineQ (a 180) s) (d + 1) i (lineC (a 180) s i) = if lineT a v (a 180) s (i + 1) 2 ≤ min (lineT a v (a 180) s (i + 1) 0) (lineT a v (a 180) s (i + 1) 1) then lineG (lineT a v (a 180) s) (lineQ (a 180) s) d (i + 1) (lineC (a 180) s i + 1) else (lineC (a 180) s i, min (lineT a v (a 180) s (i + 1) 0) (lineT a v (a 180) s (i + 1) 1), lineT a v (a 180) s (i + 1) 2) := by
          rw [lineG, if_pos q]
        rw [el] at hA
        have le := lineC_mono (r := a 180) (s := s) (i := i + 1) d
        rw [show i + 1 + d = (2 * a 172 s).toNat by omega, ec] at le
        have e49 : m2 169 49 = lineC (a 180) s (2 * a 172 s).toNat := hN.1
        have crK := lineC_rng (r := a 180) (s := s) (i := (2 * a 172 s).toNat)
        refine sg_X12_line_109 ⟨by omega, by omega⟩ (by rw [e49]; constructor <;> omega) (by decide) rx3 rx2 (fun g => by omega) (fun g => by omega) (fun g => by omega) (fun g => by omega) (fun _ q => absurd q (by decide)) (fun _ q => absurd q (by decide)) (fun _ q => absurd q (by decide)) (fun _ q => absurd q (by decide)) (fun _ _ => ?_)
        have t2 := T (i + 1) 2
        have t0 := T (i + 1) 0
        have t1 := T (i + 1) 1
        refine one _ (i + 1) m2 x2 x3 _ _ (by omega) hN ec.symm q1 q2 q31 q30 (fun m3 h1 h2 h3 h4 h5 g => ?_) (fun m3 h1 h2 h3 g => ?_)
        · rw [show (((i + 1 : Nat)) : Int) = (i : Int) + 1 by omega] at g ⊢
          rw [if_pos g] at hA
          have gg := ih (i + 1) m3 (lineT a v (a 180) s (i + 1) 2) (min (lineT a v (a 180) s (i + 1) 0) (lineT a v (a 180) s (i + 1) 1)) (by omega) h1 h2 h3 h4 h5 ⟨by omega, by omega⟩ ⟨by omega, by omega⟩ (by rw [ec]; exact hA)
          rw [ec] at gg
          exact gg
        · rw [show (((i + 1 : Nat)) : Int) = (i : Int) + 1 by omega] at g ⊢
          rw [if_neg g] at hA
          refine sg_X12_line_109 ⟨by omega, by omega⟩ (by rw [h1.1]; constructor <;> omega) (by decide) ⟨by omega, by omega⟩ ⟨by omega, by omega⟩ (fun _ _ _ => ?_) (fun _ _ q => absurd rfl q) (fun _ q => absurd rfl q) (fun _ q => absurd rfl q) (fun _ _ _ _ => ?_) (fun _ _ _ q => absurd rfl q) (fun _ _ q => absurd rfl q) (fun _ _ q => absurd rfl q) (fun _ q => absurd rfl q)
          · exact fin m3 _ _ _ h2 h3 (by rw [← hA]) (by rw [← hA]) (by rw [← hA])
          · exact fin m3 _ _ _ h2 h3 (by rw [← hA]) (by rw [← hA]) (by rw [← hA])
  refine up_loop (i0 := 0) (n := a 172 s) (fun b m2 => GM E _ _ 27 [.ref 169, vi s, vi b, un, un, un, un] [] m2) (fun b m2 => NI (a 180) s (2 * b).toNat m2 ∧ (∀ k, k ≠ 169 → k ≠ 194 → m2 k = M k) ∧ ∀ j : Int, j ≠ 49 → m2 169 j = M 169 j) (fun m2 h => ?_) (fun b m2 a0 a1 h k => ?_) (i := 0) (s := M) (by omega) (by omega) ⟨⟨M49.trans (by rw [show (2 * (0 : Int)).toNat = 0 from rfl]; rfl), fun j hj => by omega⟩, fun _ _ _ => rfl, fun _ _ => rfl⟩
  · obtain ⟨hN, q1, q2⟩ := h
    have e172 : m2 172 = a 172 := by rw [q1 172 (by decide) (by decide), M1 172 (by decide), hm 172 (by decide)]
    refine sg_X12_line_27 ⟨s0, s6⟩ ⟨by omega, by omega⟩ (by rw [e172]; constructor <;> omega) (fun _ => ?_) (by rw [e172]; omega)
    have crK := lineC_rng (r := a 180) (s := s) (i := (2 * a 172 s).toNat)
    have e49 : m2 169 49 = lineC (a 180) s (2 * a 172 s).toNat := hN.1
    have Q1 : ∀ k, k ≠ 189 → k ≠ 169 → k ≠ 187 → k ≠ 188 → k ≠ 181 → k ≠ 194 → m2 k = M k := fun k _ k2 _ _ _ k6 => q1 k k2 k6
    have Q2 : ∀ j : Int, (j < 30 ∨ 37 < j) → j ≠ 39 → j ≠ 49 → m2 169 j = M 169 j := fun j _ _ j3 => q2 j j3
    refine sg_X12_line_109 (by decide) (by rw [e49]; constructor <;> omega) (by decide) (by decide) (by decide) (fun g => by omega) (fun g => by omega) (fun g => by omega) (fun g => by omega) (fun _ q => absurd q (by decide)) (fun _ q => absurd q (by decide)) (fun _ q => absurd q (by decide)) (fun _ q => absurd q (by decide)) (fun _ _ => ?_)
    have z0 := nearR_0 (v := v) (r := a 180) hT hS s0 s6
    have t0 := T 0 0
    have t1 := T 0 1
    refine one _ 0 m2 (-1) (-1) (-1) 0 (by omega) hN rfl Q1 Q2 ((q2 31 (by decide)).trans M31) ((q2 30 (by decide)).trans M30) (fun m3 h1 h2 h3 h4 h5 g => ?_) (fun m3 h1 h2 h3 g => ?_)
    · exact key (2 * a 172 s).toNat 0 m3 _ _ (by omega) h1 h2 h3 h4 h5 (by show RI (lineT a v (a 180) s 0 2); rw [z0]; decide) (by show RI (min (lineT a v (a 180) s 0 0) (lineT a v (a 180) s 0 1)); constructor <;> omega) rfl
    · have g : ¬ lineT a v (a 180) s 0 2 ≤ min (lineT a v (a 180) s 0 0) (lineT a v (a 180) s 0 1) := g
      omega
  · obtain ⟨hN, q1, q2⟩ := h
    have e172 : m2 172 = a 172 := by rw [q1 172 (by decide) (by decide), M1 172 (by decide), hm 172 (by decide)]
    have e180 : m2 180 = a 180 := by rw [q1 180 (by decide) (by decide), M180]
    refine sg_X12_line_27 ⟨s0, s6⟩ ⟨by omega, by omega⟩ (by rw [e172]; constructor <;> omega) (by rw [e172]; omega) (fun _ => ?_)
    -- one side
    have side : ∀ (P : Option Value → Mem → Prop) (d : Int) (m3 : Mem), (d = 0 ∨ d = 1) → NI (a 180) s (2 * b + d).toNat m3 → (∀ k, k ≠ 169 → k ≠ 194 → m3 k = M k) → (∀ j : Int, j ≠ 49 → m3 169 j = M 169 j) → (∀ m4 : Mem, NI (a 180) s (2 * b + d + 1).toNat m4 → (∀ k, k ≠ 169 → k ≠ 194 → m4 k = M k) → (∀ j : Int, j ≠ 49 → m4 169 j = M 169 j) → GM E (m_X12_line 7) P 39 [.ref 169, vi s, vi b, vi (d + 1), un, un, un] [] m4) → GM E (m_X12_line 7) P 39 [.ref 169, vi s, vi b, vi d, un, un, un] [] m3 := by
      intro P d m3 hd hN q1 q2 kk
      have e180 : m3 180 = a 180 := by rw [q1 180 (by decide) (by decide), M180]
      have ei : (((2 * b + d).toNat : Nat) : Int) = 2 * b + d := Int.toNat_of_nonneg (by omega)
      have eh : 8 * (((2 * b + d).toNat : Int) % 2) + ((2 * b + d).toNat : Int) / 2 = 8 * d + b := by rw [ei]; omega
      have en : (2 * b + d + 1).toNat = (2 * b + d).toNat + 1 := by omega
      have eA : (16 * s + 8 * d) + b = 16 * s + (8 * d + b) := by omega
      have cr := lineC_rng (r := a 180) (s := s) (i := (2 * b + d).toNat)
      have cr2 : lineC (a 180) s (2 * b + d).toNat ≤ 2 * b + d := by omega
      refine sg_X12_line_39 ⟨by omega, by omega⟩ (fun _ => ⟨by omega, by omega⟩) (fun _ => by rw [e180]; exact hn.ri (by omega) (by omega)) (fun _ _ => by rw [hN.1]; constructor <;> omega) (by omega) (fun _ g => kk _ ?_ q1 q2) (fun _ g => kk _ ?_ (fun k k1 k2 => by rw [up2_k k1, up2_k k2, q1 k k1 k2]) (fun j hj => by rw [up2_j hj, up2_k (by decide), q2 j hj]))
      · rw [en]
        refine hN.skip ?_
        rw [e180, eA, ← eh] at g
        unfold lineQ
        rw [beq_eq_false_iff_ne]
        exact g
      · rw [en, eA, ← eh]
        refine hN.add ?_
        rw [e180, eA, ← eh] at g
        unfold lineQ
        rw [beq_iff_eq]
        exact g
    refine side _ 0 m2 (Or.inl rfl) (by rw [Int.add_zero]; exact hN) q1 q2 (fun m3 h1 h2 h3 => ?_)
    refine side _ (0 + 1) m3 (Or.inr rfl) (by rw [show 2 * b + ((0 : Int) + 1) = 2 * b + 0 + 1 by omega]; exact h1) h2 h3 (fun m4 h4 h5 h6 => ?_)
    refine sg_X12_line_39 (by decide) (by omega) (by omega) (by omega) (fun _ => k m4 ⟨?_, h5, h6⟩) (by omega) (by omega)
    rw [show 2 * (b + 1) = 2 * b + (0 + 1) + 1 by omega]
    exact h4
