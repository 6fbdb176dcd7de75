/-! the last step of the rest of those that change something else than the row -/
theorem up0_peq {m1 : Mem} {f : Mem → Mem} (h1 : ∀ m : Mem, ∀ k, k ≠ 169 → f (up2 m 169 0 0) k = f m k) (h2 : ∀ j : Int, PF j → f (up2 m1 169 0 0) 169 j = f m1 169 j) : PEq (f (up2 m1 169 0 0)) (f m1) := PEq.of (fun k _ h => h1 m1 k h) h2
theorem PF.n0 {j : Int} (h : PF j) : j ≠ 0 := fun e => npf0 (e ▸ h)
/-- the class as it was, the reference's scratch alone -/
theorem Rel.same {v : (Int → Int) → Int} {B : Int} {m : Mem} (h : Rel v B m) : Rel v B (up2 m 169 0 0) := h.queryS (CQ.stay h.1) (PEq.field npf0) low0
theorem step_count {E E2 : Nat × (Nat → Int32)} {m : Mem} {v : (Int → Int) → Int} {B : Int} {s : Int} (rs : RI s) (h : Rel v B m) : K_X11_count E [.ref 0, vi s] m (fun z m1 => K_X12_count E2 [.ref 169, vi s] m1 (fun z' m2 => z' = z ∧ Rel v B m2)) := by
  have w := h.2.2.2
  refine (ct_count rs h.1).mono (fun o m1 hz => ?_)
  obtain ⟨z, rfl, ez, em⟩ := hz
  refine ⟨z, rfl, ?_⟩
  subst em
  refine (mt_count (B := B) rs w.now).mono (fun o m2 hy => ?_)
  obtain ⟨y, rfl, ey, em⟩ := hy
  refine ⟨y, rfl, by rw [ez, ey], ?_⟩
  rw [em]
  exact h.same
theorem step_takes {E E2 : Nat × (Nat → Int32)} {m : Mem} {v : (Int → Int) → Int} {B : Int} {s how : Int} (rs : RI s) (rh : RI how) (h : Rel v B m) : K_X11_takes E [.ref 0, vi s, vi how] m (fun z m1 => K_X12_takes E2 [.ref 169, vi s, vi how] m1 (fun z' m2 => z' = z ∧ Rel v B m2)) := by
  have w := h.2.2.2
  refine (ct_takes (v := v) rs rh h.1 h.2.1 w.town w.set w.now).mono (fun o m1 hz => ?_)
  obtain ⟨z, rfl, hz⟩ := hz
  refine ⟨z, rfl, ?_⟩
  have hz := qst h.1 hz
  have hi := qhi hz
  have w1 := w.peq hi.peq
  refine (mt_takes (v := v) rs rh (h.2.2.1.peq hi.peq) w1.town w1.set w1.now).mono (fun o m2 hy => ?_)
  obtain ⟨y, rfl, hy⟩ := hy
  refine ⟨y, rfl, ?_⟩
  have e3 : m1 169 3 = m 169 3 := by rw [hi 169 (by decide)]
  have e1 : takesP m1 v (m1 180) s how (m1 173 s) (m1 179 1) = takesP m v (m 180) s how (m 173 s) (m 179 1) := by
    rw [hi 180 (by decide), hi 173 (by decide), hi 179 (by decide)]
    unfold takesP
    rw [goesP_congr (hi 172 (by decide)) (hi 178 (by decide)) (hi 179 (by decide))]
  have e2 : movesR m1 s how = movesR m s how := by unfold movesR; rw [hi 172 (by decide), hi 174 (by decide)]
  rw [e3, e1, e2] at hy
  have hy : ((0 ≤ s ∧ s < m 169 3 ∧ 0 ≤ how ∧ how ≤ 2) ∧ y = takesP m v (m 180) s how (m 173 s) (m 179 1) + movesR m s how ∧ PEq m2 (rowU m1 2 (rwL [takesP m v (m 180) s how (m 173 s) (m 179 1), movesR m s how])) ∧ LowEq m1 m2) ∨ (¬ (0 ≤ s ∧ s < m 169 3 ∧ 0 ≤ how ∧ how ≤ 2) ∧ y = -1 ∧ PEq m2 m1 ∧ LowEq m1 m2) := by
    rcases hy with ⟨p, ey, g1, g2, g3, g4, g5⟩ | ⟨p, ey, g⟩
    · refine Or.inl ⟨p, ey, PEq.row (fun k hk h9 h0 => ?_) g5 g1 (fun j j0 j1 => ?_), fun k hk => g4 k (by omega) (by omega) (by omega) (by omega) (by omega)⟩
      · have hk : (169 ≤ k ∧ k < 181) ∨ k = 182 ∨ k = 185 ∨ k = 190 ∨ k = 201 ∨ k = 202 ∨ (205 ≤ k ∧ k < 208) := hk
        exact g4 k (by omega) h9 h0 (by omega) (by omega)
      · have : j = 0 ∨ j = 1 := by omega
        rcases this with rfl | rfl
        · exact g2
        · exact g3
    · exact Or.inr ⟨p, ey, by rw [g]; exact PEq.field npf0, by rw [g]; exact low0⟩
  exact h.qq hz hy (fun c => by
    have t := w.tn
    have g1 := hands_rng (men := m 179 1) (w := goesP m v (emptyRow (m 180)) s how 1000000 (m 173 s) (m 179 1) 132) ⟨w.set.2.2.1, by have := w.set.2.2.2.1; omega⟩
    have g2 := goes_rng (v := v) (r := emptyRow (m 180)) (how := how) (full := 1000000) (hill := m 173 s) (men := m 179 1) w.town w.set c.1 (by omega) (fun b b0 b1 => by rw [emptyRow_b (by omega)]; exact w.now.r3 b b0 b1) (by rw [emptyRow_96]; decide)
    obtain ⟨-, -, -, -, x1, x2, -⟩ := g2
    have g1 : 0 ≤ takesP m v (m 180) s how (m 173 s) (m 179 1) ∧ takesP m v (m 180) s how (m 173 s) (m 179 1) ≤ 17600 := g1 x1 (by omega)
    have g3 := movesR_rng (how := how) w.town c.1 (by omega)
    exact ⟨by decide, by decide, rwL_2 (LR.of (by omega)) (LR.of (by omega))⟩)
theorem step_wet {E E2 : Nat × (Nat → Int32)} {m : Mem} {v : (Int → Int) → Int} {B : Int} {s x : Int} (rs : RI s) (rx : RI x) (h : Rel v B m) : K_X11_wet E [.ref 0, vi s, vi x] m (fun z m1 => K_X12_wet E2 [.ref 169, vi s, vi x] m1 (fun z' m2 => z' = z ∧ Rel v B m2)) := by
  have w := h.2.2.2
  refine (ct_wet rs rx h.1 w.town w.set).mono (fun o m1 hz => ?_)
  obtain ⟨z, rfl, hz⟩ := hz
  refine ⟨z, rfl, ?_⟩
  have hz : ((0 ≤ s ∧ s < m 169 3 ∧ 0 ≤ x ∧ x ≤ 9) ∧ z = rW m (m 180) s x 16 ∧ CQ m m1 1 (rwL [rT m (m 180) s x 16])) ∨ (¬ (0 ≤ s ∧ s < m 169 3 ∧ 0 ≤ x ∧ x ≤ 9) ∧ z = -1 ∧ CQ m m1 (m 169 1) (m 170)) := by
    rcases hz with ⟨p, ez, e⟩ | ⟨p, ez, e⟩
    · exact Or.inl ⟨p, ez, by rw [e]; exact CQ.one⟩
    · exact Or.inr ⟨p, ez, by rw [e]; exact CQ.stay h.1⟩
  have hi := qhi hz
  have w1 := w.peq hi.peq
  refine (mt_wet (B := B) rs rx w1.town w1.set w1.now).mono (fun o m2 hy => ?_)
  obtain ⟨y, rfl, hy⟩ := hy
  refine ⟨y, rfl, ?_⟩
  have e3 : m1 169 3 = m 169 3 := by rw [hi 169 (by decide)]
  have e1 : rW m1 (m1 180) s x 16 = rW m (m 180) s x 16 := rW_congr (hi 178 (by decide)) (hi 179 (by decide)) (hi 180 (by decide))
  have e2 : rT m1 (m1 180) s x 16 = rT m (m 180) s x 16 := rT_congr (hi 178 (by decide)) (hi 179 (by decide)) (hi 180 (by decide))
  rw [e3, e1, e2] at hy
  have hy : ((0 ≤ s ∧ s < m 169 3 ∧ 0 ≤ x ∧ x ≤ 9) ∧ y = rW m (m 180) s x 16 ∧ PEq m2 (rowU m1 1 (rwL [rT m (m 180) s x 16])) ∧ LowEq m1 m2) ∨ (¬ (0 ≤ s ∧ s < m 169 3 ∧ 0 ≤ x ∧ x ≤ 9) ∧ y = -1 ∧ PEq m2 m1 ∧ LowEq m1 m2) := by
    rcases hy with ⟨p, ey, e⟩ | ⟨p, ey, e⟩
    · refine Or.inl ⟨p, ey, by rw [e]; exact PEq.one (PEq.field npf0), fun k hk => ?_⟩
      rw [e, up2_k (by omega), up2_k (by omega), up2_k (by omega), up2_k (by omega)]
    · exact Or.inr ⟨p, ey, by rw [e]; exact PEq.field npf0, by rw [e]; exact low0⟩
  exact h.qq hz hy (fun _ => ⟨by decide, by decide, rwL_1 (LR.of (by have := rT_rng (sg := m) (r := m 180) (s := s) (rain := x) (n := 16); omega))⟩)
/-- the weekday -/
theorem ctown_day {c a : Mem} {s x : Int} (h : CTown c a) (s0 : 0 ≤ s) (s6 : s < 6) : CTown (up2 c (11 + 2 * s.toNat) 6 x) (up2 a 175 s x) := by
  obtain ⟨h1, h2⟩ := h
  have r : ∀ k, k ≠ 175 → up2 a 175 s x k = a k := fun k hk => up2_k hk
  unfold CTown
  rw [r 169 (by decide), r 171 (by decide), r 172 (by decide), r 173 (by decide), r 174 (by decide), r 176 (by decide), r 177 (by decide), r 178 (by decide)]
  refine ⟨by rw [up2_k (by omega)]; exact h1, fun q hq => ?_⟩
  obtain ⟨g1, g2, g3⟩ := h2 q hq
  have e : ∀ j : Int, j ≠ 6 → up2 c (11 + 2 * s.toNat) 6 x (11 + 2 * q) j = c (11 + 2 * q) j := fun j hj => by
    by_cases k : 11 + 2 * q = 11 + 2 * s.toNat
    · rw [k, up2_j hj]
    · rw [up2_k k]
  rw [e 0 (by decide), e 2 (by decide), e 3 (by decide), e 4 (by decide), e 5 (by decide), e 7 (by decide), e 8 (by decide), up2_k (show 11 + 2 * q + 1 ≠ 11 + 2 * s.toNat by omega)]
  refine ⟨g1, ?_, g3⟩
  by_cases k : q = s.toNat
  · rw [k, up2_same, show ((s.toNat : Nat) : Int) = s by omega, up2_same]
  · rw [up2_k (by omega), up2_j (by omega)]
    exact g2

theorem step_dayOf {E E2 : Nat × (Nat → Int32)} {m : Mem} {v : (Int → Int) → Int} {B : Int} {s x : Int} (rs : RI s) (rx : RI x) (h : Rel v B m) : K_X11_dayOf E [.ref 0, vi s, vi x] m (fun z m1 => K_X12_dayOf E2 [.ref 169, vi s, vi x] m1 (fun z' m2 => z' = z ∧ Rel v B m2)) := by
  have w := h.2.2.2
  have t := w.tn
  refine (ct_dayOf rs rx h.1.town w.town).mono (fun o m1 hz => ?_)
  obtain ⟨z, rfl, hz⟩ := hz
  refine ⟨z, rfl, ?_⟩
  have hi : HighEq m m1 := by
    rcases hz with ⟨p, -, e⟩ | ⟨-, -, e⟩
    · rw [e]; exact fun k hk => up2_k (by omega)
    · rw [e]; exact HighEq.rf
  have w1 := w.peq hi.peq
  refine (mt_dayOf rs rx w1.town).mono (fun o m2 hy => ?_)
  obtain ⟨y, rfl, hy⟩ := hy
  refine ⟨y, rfl, ?_⟩
  rw [hi 169 (by decide), hi 175 (by decide)] at hy
  rcases hz with ⟨p, ez, e⟩ | ⟨p, ez, e⟩
  · rcases hy with ⟨-, ey, g⟩ | ⟨p', -, -⟩
    · refine ⟨by rw [ez, ey], ?_⟩
      have r : ∀ k, k ≠ 175 → up2 m 175 s x k = m k := fun k hk => up2_k hk
      have r9 : ∀ j : Int, j ≠ -1 → up2 m 175 s x 169 j = m 169 j := fun j _ => by rw [r 169 (by decide)]
      have ce : ∀ k, (k < 11 ∨ 22 < k) → m1 k = m k := fun k hk => by rw [e, up2_k (by omega)]
      refine Rel.fin (b := up2 m 175 s x) ⟨by rw [e]; exact ctown_day h.1.town p.1 (by omega), cset_of (h.1.set.fr (ce 4 (by omega))) (r 179 (by omega)), ctext_of (h.1.text.fr (ce 1 (by omega)) (ce 2 (by omega))) (r9 17 (by omega)) (r 182 (by omega)), by rw [r 180 (by omega)]; exact h.1.now.congr (ce _ (by omega)) (ce _ (by omega)) (ce _ (by omega)) (ce _ (by omega)), chist_of (h.1.hist.fr (by rw [ce 27 (by omega)]) (ce 28 (by omega)) (fun k _ _ => ce k (by omega))) (r9 40 (by omega)) (r 190 (by omega)), cloads_of (h.1.loads.fr (by rw [ce 93 (by omega)]) (ce 94 (by omega)) (ce 95 (by omega))) (r9 62 (by omega)) (r 201 (by omega)) (r 202 (by omega)), ckept_of (h.1.kept.fr (ce 166 (by omega)) (fun k _ _ => ce k (by omega))) (r9 3 (by omega)) (r9 4 (by omega)) (r 205 (by omega)) (r 206 (by omega)) (r 207 (by omega)), crow_of (h.1.row.fr (by rw [ce 0 (by omega)]) (ce 168 (by omega))) (r9 1 (by omega)) (r 170 (by omega))⟩ (h.2.1.fr (fun x _ => by rw [ce 5 (by omega)]) (ce 6 (by omega)) (ce 7 (by omega))) (h.2.2.1.of (r9 26 (by omega)) (r 185 (by omega))) ⟨?_, w.set.of (r 179 (by omega)), wtext_of w.text (r9 17 (by omega)) (r 182 (by omega)), by rw [r 180 (by omega)]; exact wst_of w.now (r 178 (by omega)), whist_of w.hist (r9 40 (by omega)) (r 190 (by omega)) (r 178 (by omega)), wloads_of w.loads (r9 62 (by omega)) (r9 3 (by omega)) (r 201 (by omega)) (r 202 (by omega)), wkept_of w.kept (r9 4 (by omega)) (r 205 (by omega)) (r 206 (by omega)) (r 207 (by omega)) (r 178 (by omega)), wrow_of w.row (r9 1 (by omega)) (r 170 (by omega))⟩ ?_ ?_
      · obtain ⟨t1, t2, t3, t4⟩ := w.town
        unfold WTown
        rw [r 169 (by decide), r 171 (by decide), r 172 (by decide), r 173 (by decide), r 174 (by decide), r 176 (by decide), r 177 (by decide), r 178 (by decide)]
        refine ⟨t1, t2, fun q q0 q6 => ?_, t4⟩
        by_cases k : q = s
        · subst k
          rw [up2_same]
          obtain ⟨a1, a2, a3, a4, a5, a6, a7, a8, a9, a10, a11, a12⟩ := t3 q q0 q6
          exact ⟨a1, a2, a3, a4, a5, a6, a7, by omega, by omega, a10, a11, fun o => by omega⟩
        · rw [up2_j k]
          exact t3 q q0 q6
      · rw [g]
        exact (up0_peq (f := fun q => up2 q 175 s x) (fun q k hk => by
          show up2 _ 175 s x k = up2 q 175 s x k
          by_cases c : k = 175
          · subst c
            unfold up2
            simp
          · rw [up2_k c, up2_k c, up2_k hk]) (fun j hj => by
          show up2 _ 175 s x 169 j = up2 m1 175 s x 169 j
          rw [up2_k (show (169 : Nat) ≠ 175 by decide), up2_k (show (169 : Nat) ≠ 175 by decide), up2_j hj.n0])).trans (hi_up hi).peq
      · rw [g]
        exact fun k hk => by rw [up2_k (by omega), up2_k (by omega)]
    · exact absurd p p'
  · rcases hy with ⟨p', -, -⟩ | ⟨-, ey, g⟩
    · exact absurd p' p
    · subst e
      rw [g]
      exact ⟨by rw [ez, ey], h.same⟩
theorem step_set {E E2 : Nat × (Nat → Int32)} {m : Mem} {v : (Int → Int) → Int} {B : Int} {s x : Int} (rs : RI s) (rx : RI x) (h : Rel v B m) : K_X11_set E [.ref 0, vi s, vi x] m (fun z m1 => K_X12_set E2 [.ref 169, vi s, vi x] m1 (fun z' m2 => z' = z ∧ Rel v B m2)) := by
  have w := h.2.2.2
  have t := w.tn
  refine (ct_set rs rx h.1.set h.1.now.2.1 (by have := w.now.2.1; have := w.now.2.2.1; constructor <;> omega)).mono (fun o m1 hz => ?_)
  obtain ⟨z, rfl, hz⟩ := hz
  refine ⟨z, rfl, ?_⟩
  have hi : HighEq m m1 := by
    rcases hz with ⟨p, -, e⟩ | ⟨-, -, e⟩
    · rw [e]; exact fun k hk => up2_k (by omega)
    · rw [e]; exact HighEq.rf
  have w1 := w.peq hi.peq
  refine (mt_set rs rx (by have := w1.now.2.1; have := w1.now.2.2.1; constructor <;> omega)).mono (fun o m2 hy => ?_)
  obtain ⟨y, rfl, hy⟩ := hy
  refine ⟨y, rfl, ?_⟩
  have es : setOk m1 s x = setOk m s x := by unfold setOk; rw [hi 180 (by decide)]
  rw [es, hi 179 (by decide)] at hy
  rcases hz with ⟨p, ez, e⟩ | ⟨p, ez, e⟩
  · rcases hy with ⟨-, ey, g⟩ | ⟨p', -, -⟩
    · refine ⟨by rw [ez, ey], ?_⟩
      have r : ∀ k, k ≠ 179 → up2 m 179 s x k = m k := fun k hk => up2_k hk
      have r9 : ∀ j : Int, j ≠ -1 → up2 m 179 s x 169 j = m 169 j := fun j _ => by rw [r 169 (by decide)]
      have ce : ∀ k, k ≠ 4 → m1 k = m k := fun k hk => by rw [e, up2_k (by omega)]
      refine Rel.fin (b := up2 m 179 s x) ⟨ctown_of (h.1.town.fr (ce 9 (by omega)) (fun _ _ => ⟨ce _ (by omega), ce _ (by omega)⟩)) (r9 3 (by omega)) (fun k _ _ => r k (by omega)), ?_, ctext_of (h.1.text.fr (ce 1 (by omega)) (ce 2 (by omega))) (r9 17 (by omega)) (r 182 (by omega)), by rw [r 180 (by omega)]; exact h.1.now.congr (ce _ (by omega)) (ce _ (by omega)) (ce _ (by omega)) (ce _ (by omega)), chist_of (h.1.hist.fr (by rw [ce 27 (by omega)]) (ce 28 (by omega)) (fun k _ _ => ce k (by omega))) (r9 40 (by omega)) (r 190 (by omega)), cloads_of (h.1.loads.fr (by rw [ce 93 (by omega)]) (ce 94 (by omega)) (ce 95 (by omega))) (r9 62 (by omega)) (r 201 (by omega)) (r 202 (by omega)), ckept_of (h.1.kept.fr (ce 166 (by omega)) (fun k _ _ => ce k (by omega))) (r9 3 (by omega)) (r9 4 (by omega)) (r 205 (by omega)) (r 206 (by omega)) (r 207 (by omega)), crow_of (h.1.row.fr (by rw [ce 0 (by omega)]) (ce 168 (by omega))) (r9 1 (by omega)) (r 170 (by omega))⟩ (h.2.1.fr (fun x _ => by rw [ce 5 (by omega)]) (ce 6 (by omega)) (ce 7 (by omega))) (h.2.2.1.of (r9 26 (by omega)) (r 185 (by omega))) ⟨w.town.of (r9 3 (by omega)) (fun k _ _ => r k (by omega)), ?_, wtext_of w.text (r9 17 (by omega)) (r 182 (by omega)), by rw [r 180 (by omega)]; exact wst_of w.now (r 178 (by omega)), whist_of w.hist (r9 40 (by omega)) (r 190 (by omega)) (r 178 (by omega)), wloads_of w.loads (r9 62 (by omega)) (r9 3 (by omega)) (r 201 (by omega)) (r 202 (by omega)), wkept_of w.kept (r9 4 (by omega)) (r 205 (by omega)) (r 206 (by omega)) (r 207 (by omega)) (r 178 (by omega)), wrow_of w.row (r9 1 (by omega)) (r 170 (by omega))⟩ ?_ ?_
      · intro i i0 i7
        rw [e]
        by_cases k : i = s
        · rw [k, up2_same, up2_same]
        · rw [up2_j k, up2_j k]
          exact h.1.set i i0 i7
      · obtain ⟨p1, p2, p3, p4⟩ := p
        have hS := w.set
        have c7 : s = 0 ∨ s = 1 ∨ s = 2 ∨ s = 3 ∨ s = 4 ∨ s = 5 ∨ s = 6 := by omega
        unfold WSet at hS ⊢
        rcases c7 with rfl | rfl | rfl | rfl | rfl | rfl | rfl
        · have p2 : 1 ≤ x := p2
          have p3 : x ≤ 999 := p3
          rw [up2_same, up2_j (by decide), up2_j (by decide), up2_j (by decide), up2_j (by decide), up2_j (by decide), up2_j (by decide)]
          omega
        · have p2 : 1 ≤ x := p2
          have p3 : x ≤ 4 := p3
          rw [up2_same, up2_j (by decide), up2_j (by decide), up2_j (by decide), up2_j (by decide), up2_j (by decide), up2_j (by decide)]
          omega
        · have p2 : 0 ≤ x := p2
          have p3 : x ≤ 9 := p3
          rw [up2_same, up2_j (by decide), up2_j (by decide), up2_j (by decide), up2_j (by decide), up2_j (by decide), up2_j (by decide)]
          omega
        · have p2 : 1 ≤ x := p2
          have p3 : x ≤ 2 := p3
          rw [up2_same, up2_j (by decide), up2_j (by decide), up2_j (by decide), up2_j (by decide), up2_j (by decide), up2_j (by decide)]
          omega
        · have p2 : 1 ≤ x := p2
          have p3 : x ≤ 99 := p3
          rw [up2_same, up2_j (by decide), up2_j (by decide), up2_j (by decide), up2_j (by decide), up2_j (by decide), up2_j (by decide)]
          omega
        · have p2 : 0 ≤ x := p2
          have p3 : x ≤ 99 := p3
          rw [up2_same, up2_j (by decide), up2_j (by decide), up2_j (by decide), up2_j (by decide), up2_j (by decide), up2_j (by decide)]
          omega
        · have p2 : 0 ≤ x := p2
          have p3 : x ≤ 999 := p3
          rw [up2_same, up2_j (by decide), up2_j (by decide), up2_j (by decide), up2_j (by decide), up2_j (by decide), up2_j (by decide)]
          omega
      · rw [g]
        exact (up0_peq (f := fun q => up2 q 179 s x) (fun q k hk => by
          show up2 _ 179 s x k = up2 q 179 s x k
          by_cases c : k = 179
          · subst c
            unfold up2
            simp
          · rw [up2_k c, up2_k c, up2_k hk]) (fun j hj => by
          show up2 _ 179 s x 169 j = up2 m1 179 s x 169 j
          rw [up2_k (show (169 : Nat) ≠ 179 by decide), up2_k (show (169 : Nat) ≠ 179 by decide), up2_j hj.n0])).trans (hi_up hi).peq
      · rw [g]
        exact fun k hk => by rw [up2_k (by omega), up2_k (by omega)]
    · exact absurd p p'
  · rcases hy with ⟨p', -, -⟩ | ⟨-, ey, g⟩
    · exact absurd p' p
    · subst e
      rw [g]
      exact ⟨by rw [ez, ey], h.same⟩
theorem step_forget {E E2 : Nat × (Nat → Int32)} {m : Mem} {v : (Int → Int) → Int} {B : Int} (h : Rel v B m) : K_X11_forget E [.ref 0] m (fun z m1 => K_X12_forget E2 [.ref 169] m1 (fun z' m2 => z' = z ∧ Rel v B m2)) := by
  have w := h.2.2.2
  refine (ct_forget (c := m)).mono (fun o m1 hz => ?_)
  obtain ⟨z, rfl, ez, e⟩ := hz
  refine ⟨z, rfl, ?_⟩
  have hi : HighEq m m1 := by rw [e]; exact fun k hk => up2_k (by omega)
  refine (mt_forget (a := m1)).mono (fun o m2 hy => ?_)
  obtain ⟨y, rfl, ey, g⟩ := hy
  refine ⟨y, rfl, by rw [ez, ey, hi 169 (by decide)]; exact h.1.loads.1.symm, ?_⟩
  have r : ∀ k, k ≠ 169 → up2 m 169 62 0 k = m k := fun k hk => up2_k hk
  have r9 : ∀ j : Int, j ≠ 62 → up2 m 169 62 0 169 j = m 169 j := fun j hj => up2_j hj
  have ce : ∀ k, k ≠ 93 → m1 k = m k := fun k hk => by rw [e, up2_k hk]
  refine Rel.fin (b := up2 m 169 62 0) ⟨ctown_of (h.1.town.fr (ce 9 (by omega)) (fun _ _ => ⟨ce _ (by omega), ce _ (by omega)⟩)) (r9 3 (by omega)) (fun k _ _ => r k (by omega)), cset_of (h.1.set.fr (ce 4 (by omega))) (r 179 (by omega)), ctext_of (h.1.text.fr (ce 1 (by omega)) (ce 2 (by omega))) (r9 17 (by omega)) (r 182 (by omega)), by rw [r 180 (by omega)]; exact h.1.now.congr (ce _ (by omega)) (ce _ (by omega)) (ce _ (by omega)) (ce _ (by omega)), chist_of (h.1.hist.fr (by rw [ce 27 (by omega)]) (ce 28 (by omega)) (fun k _ _ => ce k (by omega))) (r9 40 (by omega)) (r 190 (by omega)), ?_, ckept_of (h.1.kept.fr (ce 166 (by omega)) (fun k _ _ => ce k (by omega))) (r9 3 (by omega)) (r9 4 (by omega)) (r 205 (by omega)) (r 206 (by omega)) (r 207 (by omega)), crow_of (h.1.row.fr (by rw [ce 0 (by omega)]) (ce 168 (by omega))) (r9 1 (by omega)) (r 170 (by omega))⟩ (h.2.1.fr (fun x _ => by rw [ce 5 (by omega)]) (ce 6 (by omega)) (ce 7 (by omega))) (h.2.2.1.of (r9 26 (by omega)) (r 185 (by omega))) ⟨w.town.of (r9 3 (by omega)) (fun k _ _ => r k (by omega)), w.set.of (r 179 (by omega)), wtext_of w.text (r9 17 (by omega)) (r 182 (by omega)), by rw [r 180 (by omega)]; exact wst_of w.now (r 178 (by omega)), whist_of w.hist (r9 40 (by omega)) (r 190 (by omega)) (r 178 (by omega)), ?_, wkept_of w.kept (r9 4 (by omega)) (r 205 (by omega)) (r 206 (by omega)) (r 207 (by omega)) (r 178 (by omega)), wrow_of w.row (r9 1 (by omega)) (r 170 (by omega))⟩ ?_ ?_
  · refine ⟨by rw [e, up2_same, up2_same], fun j j0 j1 => ?_⟩
    rw [up2_same] at j1
    omega
  · refine ⟨by rw [up2_same]; decide, by rw [up2_same]; decide, fun j j0 j1 => ?_⟩
    rw [up2_same] at j1
    omega
  · rw [g]
    refine (PEq.of (fun k _ hk => ?_) (fun j hj => ?_)).trans (hi_up hi).peq
    · rw [up2_k hk, up2_k hk, up2_k hk]
    · by_cases c : j = 62
      · rw [c, up2_same, up2_same]
      · rw [up2_j c, up2_j hj.n0, up2_j c]
  · rw [g]
    exact fun k hk => by rw [up2_k (by omega), up2_k (by omega)]
theorem step_undo {E E2 : Nat × (Nat → Int32)} {m : Mem} {v : (Int → Int) → Int} {B : Int} (h : Rel v B m) : K_X11_undo E [.ref 0] m (fun z m1 => K_X12_undo E2 [.ref 169] m1 (fun z' m2 => z' = z ∧ Rel v B m2)) := by
  have w := h.2.2.2
  have t := w.tn
  refine (ct_undo h.1.hist w.hist.1 w.hist.2.1).mono (fun o m1 hz => ?_)
  obtain ⟨z, rfl, hz⟩ := hz
  refine ⟨z, rfl, ?_⟩
  have hi : HighEq m m1 := by
    rcases hz with ⟨-, -, e⟩ | ⟨-, -, -, -, e⟩
    · rw [e]; exact HighEq.rf
    · exact fun k hk => e k (by omega) (by omega)
  have w1 := w.peq hi.peq
  refine (mt_undo w1.hist.1 w1.hist.2.1).mono (fun o m2 hy => ?_)
  obtain ⟨y, rfl, hy⟩ := hy
  refine ⟨y, rfl, ?_⟩
  rw [hi 169 (by decide)] at hy
  rcases hz with ⟨p, ez, e⟩ | ⟨p, ez, st, ch, ce⟩
  · rcases hy with ⟨-, ey, g⟩ | ⟨p', -, -⟩
    · subst e
      rw [g]
      exact ⟨by rw [ez, ey], h.same⟩
    · exact absurd p p'
  · rcases hy with ⟨p', -, -⟩ | ⟨-, ey, g⟩
    · exact absurd p' p
    · refine ⟨by rw [ez, ey], ?_⟩
      have u0 := w.hist.1
      have ce : ∀ k, (k < 23 ∨ 27 < k) → m1 k = m k := fun k hk => ce k (by omega) hk
      have r : ∀ k, k ≠ 180 ∧ k ≠ 169 → undoU m k = m k := fun k hk => by unfold undoU; rw [mv_k hk.1, up2_k hk.2]
      have r9 : ∀ j : Int, j ≠ 40 → undoU m 169 j = m 169 j := fun j hj => by unfold undoU; rw [mv_k (by decide), up2_j hj]
      have r40 : undoU m 169 40 = m 169 40 - 1 := by unfold undoU; rw [mv_k (by decide), up2_same]
      refine Rel.fin (b := undoU m) ⟨ctown_of (h.1.town.fr (ce 9 (by omega)) (fun _ _ => ⟨ce _ (by omega), ce _ (by omega)⟩)) (r9 3 (by omega)) (fun k _ _ => r k (by omega)), cset_of (h.1.set.fr (ce 4 (by omega))) (r 179 (by omega)), ctext_of (h.1.text.fr (ce 1 (by omega)) (ce 2 (by omega))) (r9 17 (by omega)) (r 182 (by omega)), st, ch, cloads_of (h.1.loads.fr (by rw [ce 93 (by omega)]) (ce 94 (by omega)) (ce 95 (by omega))) (r9 62 (by omega)) (r 201 (by omega)) (r 202 (by omega)), ckept_of (h.1.kept.fr (ce 166 (by omega)) (fun k _ _ => ce k (by omega))) (r9 3 (by omega)) (r9 4 (by omega)) (r 205 (by omega)) (r 206 (by omega)) (r 207 (by omega)), crow_of (h.1.row.fr (by rw [ce 0 (by omega)]) (ce 168 (by omega))) (r9 1 (by omega)) (r 170 (by omega))⟩ (h.2.1.fr (fun x _ => by rw [ce 5 (by omega)]) (ce 6 (by omega)) (ce 7 (by omega))) (h.2.2.1.of (r9 26 (by omega)) (r 185 (by omega))) ⟨w.town.of (r9 3 (by omega)) (fun k _ _ => r k (by omega)), w.set.of (r 179 (by omega)), wtext_of w.text (r9 17 (by omega)) (r 182 (by omega)), ?_, ?_, wloads_of w.loads (r9 62 (by omega)) (r9 3 (by omega)) (r 201 (by omega)) (r 202 (by omega)), wkept_of w.kept (r9 4 (by omega)) (r 205 (by omega)) (r 206 (by omega)) (r 207 (by omega)) (r 178 (by omega)), wrow_of w.row (r9 1 (by omega)) (r 170 (by omega))⟩ ?_ ?_
      · refine (w.hist.2.2 (m 169 40 - 1) (by omega) (by omega)).congr (fun k k0 k1 => ?_) (fun b _ _ => by rw [r 178 (by decide)])
        unfold undoU
        rw [mv_in k0 (by omega), up2_k (by decide), show k - 0 + 99 * (m 169 40 - 1) = 99 * (m 169 40 - 1) + k by omega]
      · unfold WHist
        rw [r40, r 190 (by decide)]
        exact ⟨by omega, by have := w.hist.2.1; omega, fun i i0 i1 => wst_of (w.hist.2.2 i i0 (by omega)) (r 178 (by decide))⟩
      · rw [g]
        refine (PEq.of (fun k _ hk => ?_) (fun j hj => ?_)).trans (show HighEq (undoU m) (undoU m1) from ?_).peq
        · by_cases c : k = 180
          · subst c
            funext j
            unfold undoU mv
            rw [upr_same, upr_same]
            simp only [up2_k (show (190 : Nat) ≠ 169 by decide), up2_k (show (180 : Nat) ≠ 169 by decide), up2_j (show (40 : Int) ≠ 0 by decide)]
          · unfold undoU
            rw [mv_k c, mv_k c, up2_k hk, up2_k hk, up2_k hk]
        · unfold undoU
          rw [mv_k (by decide), mv_k (by decide)]
          by_cases c : j = 40
          · rw [c, up2_same, up2_same, up2_j (by decide)]
          · rw [up2_j c, up2_j c, up2_j hj.n0]
        · intro k hk
          by_cases c : k = 180
          · subst c
            funext j
            unfold undoU mv
            rw [upr_same, upr_same, up2_k (by decide), up2_k (by decide), up2_k (by decide), up2_k (by decide), hi 190 (by decide), hi 180 (by decide), hi 169 (by decide)]
          · unfold undoU
            rw [mv_k c, mv_k c, hi 169 (by decide)]
            exact hi_up hi k hk
      · rw [g]
        exact fun k hk => by unfold undoU; rw [mv_k (by omega), up2_k (by omega), up2_k (by omega)]
