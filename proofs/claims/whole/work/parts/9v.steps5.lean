/-! keep, again, sheet, weighed -/
theorem step_keep {E E2 : Nat × (Nat → Int32)} {m : Mem} {v : (Int → Int) → Int} {B : Int} {i : Int} (ri : RI i) (h : Rel v B m) : K_X11_keep E [.ref 0, vi i] m (fun z m1 => K_X12_keep E2 [.ref 169, vi i] m1 (fun z' m2 => z' = z ∧ Rel v B m2)) := by
  have w := h.2.2.2
  have t := w.tn
  refine (ct_keep ri h.1.kept h.1.now h.1.town.1 w.tn.1).mono (fun o m1 hz => ?_)
  obtain ⟨z, rfl, hz⟩ := hz
  refine ⟨z, rfl, ?_⟩
  have hi : HighEq m m1 := by
    rcases hz with ⟨-, -, -, e⟩ | ⟨-, -, e⟩
    · exact fun k hk => e k (by omega)
    · rw [e]; exact HighEq.rf
  have w1 := w.peq hi.peq
  refine (mt_keep (m := m1) ri).mono (fun o m2 hy => ?_)
  obtain ⟨y, rfl, hy⟩ := hy
  refine ⟨y, rfl, ?_⟩
  rcases hz with ⟨p, ez, ck, ce⟩ | ⟨p, ez, e⟩
  · rcases hy with ⟨-, ey, g⟩ | ⟨p', -, -⟩
    · refine ⟨by rw [ez, ey], ?_⟩
      have hi3 : HighEq (keepU m i) (keepU m1 i) := fun k hk => by
        unfold keepU mv
        rw [hi 169 (by decide)]
        by_cases c : k = 207
        · subst c
          funext j
          rw [upr_same, upr_same, up2_k (by decide), up2_k (by decide), up2_k (by decide), up2_k (by decide), up2_k (by decide), up2_k (by decide), up2_k (by decide), up2_k (by decide), hi 180 (by decide), hi 207 (by decide)]
        · rw [upr_k c, upr_k c]
          exact hi_up (hi_up hi) k hk
      have r : ∀ k, k ≠ 205 ∧ k ≠ 206 ∧ k ≠ 207 → keepU m i k = m k := fun k hk => by unfold keepU; rw [mv_k hk.2.2, up2_k hk.2.1, up2_k hk.1]
      have r9 : ∀ j : Int, j ≠ -1 → keepU m i 169 j = m 169 j := fun j _ => by rw [r 169 (by decide)]
      refine Rel.fin (b := keepU m i) ⟨ctown_of (h.1.town.fr (ce 9 (by omega)) (fun _ _ => ⟨ce _ (by omega), ce _ (by omega)⟩)) (r9 3 (by omega)) (fun k _ _ => r k (by omega)), cset_of (h.1.set.fr (ce 4 (by omega))) (r 179 (by omega)), ctext_of (h.1.text.fr (ce 1 (by omega)) (ce 2 (by omega))) (r9 17 (by omega)) (r 182 (by omega)), by rw [r 180 (by omega)]; exact h.1.now.congr (ce _ (by omega)) (ce _ (by omega)) (ce _ (by omega)) (ce _ (by omega)), chist_of (h.1.hist.fr (by rw [ce 27 (by omega)]) (ce 28 (by omega)) (fun k _ _ => ce k (by omega))) (r9 40 (by omega)) (r 190 (by omega)), cloads_of (h.1.loads.fr (by rw [ce 93 (by omega)]) (ce 94 (by omega)) (ce 95 (by omega))) (r9 62 (by omega)) (r 201 (by omega)) (r 202 (by omega)), ck, crow_of (h.1.row.fr (by rw [ce 0 (by omega)]) (ce 168 (by omega))) (r9 1 (by omega)) (r 170 (by omega))⟩ (h.2.1.fr (fun x _ => by rw [ce 5 (by omega)]) (ce 6 (by omega)) (ce 7 (by omega))) (h.2.2.1.of (r9 26 (by omega)) (r 185 (by omega))) ⟨w.town.of (r9 3 (by omega)) (fun k _ _ => r k (by omega)), w.set.of (r 179 (by omega)), wtext_of w.text (r9 17 (by omega)) (r 182 (by omega)), by rw [r 180 (by omega)]; exact wst_of w.now (r 178 (by omega)), whist_of w.hist (r9 40 (by omega)) (r 190 (by omega)) (r 178 (by omega)), wloads_of w.loads (r9 62 (by omega)) (r9 3 (by omega)) (r 201 (by omega)) (r 202 (by omega)), ?_, wrow_of w.row (r9 1 (by omega)) (r 170 (by omega))⟩ ?_ ?_
      · obtain ⟨k1, k2, k3⟩ := w.kept
        unfold WKept
        rw [r9 4 (by omega)]
        refine ⟨k1, k2, fun q q0 q3 => ?_⟩
        by_cases c : q = i
        · subst c
          refine Or.inr ⟨?_, ?_, ?_, w.now.congr (fun k k0 k9 => ?_) (fun b _ _ => by rw [r 178 (by decide)])⟩
          · unfold keepU; rw [mv_k (by decide), up2_k (by decide), up2_same]
          · unfold keepU; rw [mv_k (by decide), up2_same]; exact k1
          · unfold keepU; rw [mv_k (by decide), up2_same]; exact Int.le_refl _
          · unfold keepU; rw [mv_in (by omega) (by omega), up2_k (by decide), up2_k (by decide), show 99 * q + k - 99 * q + 0 = k by omega]
        · have e5 : keepU m i 205 q = m 205 q := by unfold keepU; rw [mv_k (by decide), up2_k (by decide), up2_j c]
          have e6 : keepU m i 206 q = m 206 q := by unfold keepU; rw [mv_k (by decide), up2_j c, up2_k (by decide)]
          rw [e5, e6]
          rcases k3 q q0 q3 with g | ⟨g1, g2, g3, g4⟩
          · exact Or.inl g
          · refine Or.inr ⟨g1, g2, g3, g4.congr (fun k k0 k9 => ?_) (fun b _ _ => by rw [r 178 (by decide)])⟩
            unfold keepU; rw [mv_out (by omega), up2_k (by decide), up2_k (by decide)]
      · rw [g]
        refine (PEq.of (fun k _ hk => ?_) (fun j hj => ?_)).trans hi3.peq
        · unfold keepU mv
          rw [up2_j (show (4 : Int) ≠ 0 by decide)]
          by_cases c : k = 207
          · subst c
            funext j
            rw [upr_same, upr_same, up2_k (by decide), up2_k (by decide), up2_k (by decide), up2_k (by decide), up2_k (by decide), up2_k (by decide), up2_k (by decide), up2_k (by decide), up2_k (by decide), up2_k (by decide)]
          · rw [upr_k c, upr_k c]
            by_cases c6 : k = 206
            · subst c6; funext j; unfold up2; simp
            · rw [up2_k c6, up2_k c6]
              by_cases c5 : k = 205
              · subst c5; funext j; unfold up2; simp
              · rw [up2_k c5, up2_k c5, up2_k hk]
        · unfold keepU
          rw [mv_k (by decide), mv_k (by decide), up2_k (show (169 : Nat) ≠ 206 by decide), up2_k (show (169 : Nat) ≠ 205 by decide), up2_k (show (169 : Nat) ≠ 206 by decide), up2_k (show (169 : Nat) ≠ 205 by decide), up2_j hj.n0]
      · rw [g]
        exact fun k hk => by unfold keepU; rw [mv_k (by omega), up2_k (by omega), up2_k (by omega), up2_k (by omega)]
    · exact absurd p p'
  · rcases hy with ⟨p', -, -⟩ | ⟨-, ey, g⟩
    · exact absurd p' p
    · subst e
      rw [g]
      exact ⟨by rw [ez, ey], h.same⟩
theorem step_again {E E2 : Nat × (Nat → Int32)} {m : Mem} {v : (Int → Int) → Int} {B : Int} {i : Int} (ri : RI i) (h : Rel v B m) (hB : B ≤ 1000000000) : K_X11_again E [.ref 0, vi i] m (fun z m1 => K_X12_again E2 [.ref 169, vi i] m1 (fun z' m2 => z' = z ∧ Rel v B m2)) := by
  have w := h.2.2.2
  have t := w.tn
  refine (ct_again (B := B) ri h.1.kept w.kept h.1.hist h.1.town.1 t.1 t.2 (h.1.set 0 (by decide) (by decide)) (by have q0 := w.set.1; have q1 := w.set.2.1; constructor <;> omega)).mono (fun o m1 hz => ?_)
  obtain ⟨z, rfl, hz⟩ := hz
  refine ⟨z, rfl, ?_⟩
  have hi : HighEq m m1 := by
    rcases hz with ⟨-, -, -, -, e⟩ | ⟨-, -, e⟩
    · exact fun k hk => e k (by omega)
    · rw [e]; exact HighEq.rf
  have w1 := w.peq hi.peq
  refine (mt_again ri (by have q0 := w1.kept.1; have q1 := w1.kept.2.1; constructor <;> omega) (by have q0 := w1.set.1; have q1 := w1.set.2.1; constructor <;> omega) (fun i0 i2 => by rcases w1.kept.2.2 i i0 (by omega) with g | ⟨g1, g2, g3, g4⟩; exact ⟨by rw [g]; decide, fun c => absurd g c⟩; exact ⟨by rw [g1]; decide, fun _ => ⟨by have q0 := w1.kept.1; have q1 := w1.kept.2.1; constructor <;> omega, by have q2 : 0 ≤ m1 207 (99 * i + 96) := g4.2.1; have q3 : m1 207 (99 * i + 96) ≤ 999 := g4.2.2.1; constructor <;> omega⟩⟩)).mono (fun o m2 hy => ?_)
  obtain ⟨y, rfl, hy⟩ := hy
  refine ⟨y, rfl, ?_⟩
  have es : againOk m1 i = againOk m i := by unfold againOk; rw [hi 205 (by decide), hi 206 (by decide), hi 207 (by decide), hi 169 (by decide), hi 179 (by decide)]
  rw [es] at hy
  rcases hz with ⟨p, ez, st, ch, ce⟩ | ⟨p, ez, e⟩
  · rcases hy with ⟨-, ey, g⟩ | ⟨p', -, -⟩
    · refine ⟨by rw [ez, ey], ?_⟩
      have hi3 : HighEq (againU m i) (againU m1 i) := fun k hk => by
        unfold againU mv
        refine hi_up (fun q hq => ?_) k hk
        by_cases c : q = 180
        · subst c
          funext j
          rw [upr_same, upr_same, hi 180 (by decide), hi 207 (by decide)]
        · rw [upr_k c, upr_k c]
          exact hi q hq
      have r : ∀ k, k ≠ 180 ∧ k ≠ 169 → againU m i k = m k := fun k hk => by unfold againU; rw [up2_k hk.2, mv_k hk.1]
      have r9 : ∀ j : Int, j ≠ 40 → againU m i 169 j = m 169 j := fun j hj => by unfold againU; rw [up2_j hj, mv_k (by decide)]
      have r40 : againU m i 169 40 = 0 := by unfold againU; rw [up2_same]
      refine Rel.fin (b := againU m i) ⟨ctown_of (h.1.town.fr (ce 9 (by omega)) (fun _ _ => ⟨ce _ (by omega), ce _ (by omega)⟩)) (r9 3 (by omega)) (fun k _ _ => r k (by omega)), cset_of (h.1.set.fr (ce 4 (by omega))) (r 179 (by omega)), ctext_of (h.1.text.fr (ce 1 (by omega)) (ce 2 (by omega))) (r9 17 (by omega)) (r 182 (by omega)), st, ch, cloads_of (h.1.loads.fr (by rw [ce 93 (by omega)]) (ce 94 (by omega)) (ce 95 (by omega))) (r9 62 (by omega)) (r 201 (by omega)) (r 202 (by omega)), ckept_of (h.1.kept.fr (ce 166 (by omega)) (fun k _ _ => ce k (by omega))) (r9 3 (by omega)) (r9 4 (by omega)) (r 205 (by omega)) (r 206 (by omega)) (r 207 (by omega)), crow_of (h.1.row.fr (by rw [ce 0 (by omega)]) (ce 168 (by omega))) (r9 1 (by omega)) (r 170 (by omega))⟩ (h.2.1.fr (fun x _ => by rw [ce 5 (by omega)]) (ce 6 (by omega)) (ce 7 (by omega))) (h.2.2.1.of (r9 26 (by omega)) (r 185 (by omega))) ⟨w.town.of (r9 3 (by omega)) (fun k _ _ => r k (by omega)), w.set.of (r 179 (by omega)), wtext_of w.text (r9 17 (by omega)) (r 182 (by omega)), ?_, ?_, wloads_of w.loads (r9 62 (by omega)) (r9 3 (by omega)) (r 201 (by omega)) (r 202 (by omega)), wkept_of w.kept (r9 4 (by omega)) (r 205 (by omega)) (r 206 (by omega)) (r 207 (by omega)) (r 178 (by omega)), wrow_of w.row (r9 1 (by omega)) (r 170 (by omega))⟩ ?_ ?_
      · have p1 := p.1
        rcases w.kept.2.2 i p1.1 (by omega) with g | ⟨g1, g2, g3, g4⟩
        · exact absurd g p.2.1
        · refine g4.congr (fun k k0 k1 => ?_) (fun b _ _ => by rw [r 178 (by decide)])
          unfold againU
          rw [up2_k (by decide), mv_in k0 (by omega), show k - 0 + 99 * i = 99 * i + k by omega]
      · unfold WHist
        rw [r40]
        exact ⟨by decide, by decide, fun i i0 i1 => by omega⟩
      · rw [g]
        refine (PEq.of (fun k _ hk => ?_) (fun j hj => ?_)).trans hi3.peq
        · unfold againU mv
          rw [up2_k hk, up2_k hk]
          by_cases c : k = 180
          · subst c
            funext j
            rw [upr_same, upr_same, up2_k (by decide), up2_k (by decide)]
          · rw [upr_k c, upr_k c, up2_k hk]
        · unfold againU
          by_cases c : j = 40
          · rw [c, up2_same, up2_same]
          · rw [up2_j c, up2_j c, mv_k (by decide), mv_k (by decide), up2_j hj.n0]
      · rw [g]
        exact fun k hk => by unfold againU; rw [up2_k (by omega), mv_k (by omega), up2_k (by omega)]
    · exact absurd p p'
  · rcases hy with ⟨p', -, -⟩ | ⟨-, ey, g⟩
    · exact absurd p' p
    · subst e
      rw [g]
      exact ⟨by rw [ez, ey], h.same⟩
theorem step_sheet {E E2 : Nat × (Nat → Int32)} {m : Mem} {v : (Int → Int) → Int} {B : Int} {kind n f step : Int} (rkind : RI kind) (rn : RI n) (h : Rel v B m) : K_X11_sheet E [.ref 0, vi kind, vi n, vi f, vi step] m (fun z m1 => K_X12_sheet E2 [.ref 169, vi kind, vi n, vi f, vi step] m1 (fun z' m2 => z' = z ∧ Rel v B m2)) := by
  have w := h.2.2.2
  have t := w.tn
  refine (ct_sheet rkind rn h.1.town w.town).mono (fun o m1 hz => ?_)
  obtain ⟨z, rfl, hz⟩ := hz
  refine ⟨z, rfl, ?_⟩
  have hi : HighEq m m1 := by
    rcases hz with ⟨-, -, -, e⟩ | ⟨-, -, e⟩
    · exact fun k hk => e k (by omega)
    · rw [e]; exact HighEq.rf
  have w1 := w.peq hi.peq
  refine (mt_sheet (a := m) rkind rn hi w.town).mono (fun o m2 hy => ?_)
  obtain ⟨y, rfl, hy⟩ := hy
  refine ⟨y, rfl, ?_⟩
  rcases hz with ⟨p, ez, ct, ce⟩ | ⟨p, ez, e⟩
  · rcases hy with ⟨-, ey, pq, lw⟩ | ⟨p', -, -⟩
    · refine ⟨by rw [ez, ey], ?_⟩
      have hi3 : HighEq (sheetU m kind n f step) (sheetU m1 kind n f step) := by
        unfold sheetU
        rw [hi 169 (by decide), hi 171 (by decide)]
        exact hi_upr hi
      have r : ∀ k, k ≠ 171 → sheetU m kind n f step k = m k := fun k hk => upr_k hk
      have r9 : ∀ j : Int, j ≠ -1 → sheetU m kind n f step 169 j = m 169 j := fun j _ => by rw [r 169 (by decide)]
      refine Rel.fin (b := sheetU m kind n f step) ⟨ct, cset_of (h.1.set.fr (ce 4 (by omega))) (r 179 (by omega)), ctext_of (h.1.text.fr (ce 1 (by omega)) (ce 2 (by omega))) (r9 17 (by omega)) (r 182 (by omega)), by rw [r 180 (by omega)]; exact h.1.now.congr (ce _ (by omega)) (ce _ (by omega)) (ce _ (by omega)) (ce _ (by omega)), chist_of (h.1.hist.fr (by rw [ce 27 (by omega)]) (ce 28 (by omega)) (fun k _ _ => ce k (by omega))) (r9 40 (by omega)) (r 190 (by omega)), cloads_of (h.1.loads.fr (by rw [ce 93 (by omega)]) (ce 94 (by omega)) (ce 95 (by omega))) (r9 62 (by omega)) (r 201 (by omega)) (r 202 (by omega)), ckept_of (h.1.kept.fr (ce 166 (by omega)) (fun k _ _ => ce k (by omega))) (r9 3 (by omega)) (r9 4 (by omega)) (r 205 (by omega)) (r 206 (by omega)) (r 207 (by omega)), crow_of (h.1.row.fr (by rw [ce 0 (by omega)]) (ce 168 (by omega))) (r9 1 (by omega)) (r 170 (by omega))⟩ (h.2.1.fr (fun x _ => by rw [ce 5 (by omega)]) (ce 6 (by omega)) (ce 7 (by omega))) (h.2.2.1.of (r9 26 (by omega)) (r 185 (by omega))) ⟨?_, w.set.of (r 179 (by omega)), wtext_of w.text (r9 17 (by omega)) (r 182 (by omega)), by rw [r 180 (by omega)]; exact wst_of w.now (r 178 (by omega)), whist_of w.hist (r9 40 (by omega)) (r 190 (by omega)) (r 178 (by omega)), wloads_of w.loads (r9 62 (by omega)) (r9 3 (by omega)) (r 201 (by omega)) (r 202 (by omega)), wkept_of w.kept (r9 4 (by omega)) (r 205 (by omega)) (r 206 (by omega)) (r 207 (by omega)) (r 178 (by omega)), wrow_of w.row (r9 1 (by omega)) (r 170 (by omega))⟩ ?_ ?_
      · obtain ⟨t1, t2, t3, t4⟩ := w.town
        unfold WTown
        rw [r 169 (by decide), r 172 (by decide), r 173 (by decide), r 174 (by decide), r 175 (by decide), r 176 (by decide), r 177 (by decide), r 178 (by decide)]
        refine ⟨t1, t2, fun q q0 q6 => ?_, t4⟩
        obtain ⟨a1, a2, a3⟩ := t3 q q0 q6
        have e : 0 ≤ sheetU m kind n f step 171 q ∧ sheetU m kind n f step 171 q ≤ 99 := by
          unfold sheetU
          rw [upr_same]
          split
          · exact sheetX_rng
          · exact ⟨a1, a2⟩
        exact ⟨e.1, e.2, a3⟩
      · exact pq.trans hi3.peq
      · exact lw
    · exact absurd p p'
  · rcases hy with ⟨p', -, -⟩ | ⟨-, ey, pq, lw⟩
    · exact absurd p' p
    · subst e
      exact ⟨by rw [ez, ey], h.queryS (CQ.stay h.1) pq lw⟩
theorem step_weighed {E E2 : Nat × (Nat → Int32)} {m : Mem} {v : (Int → Int) → Int} {B : Int} {s x : Int} (rs : RI s) (rx : RI x) (h : Rel v B m) : K_X11_weighed E [.ref 0, vi s, vi x] m (fun z m1 => K_X12_weighed E2 [.ref 169, vi s, vi x] m1 (fun z' m2 => z' = z ∧ Rel v B m2)) := by
  have w := h.2.2.2
  have t := w.tn
  refine (ct_weighed rs rx h.1 w.town w.loads).mono (fun o m1 hz => ?_)
  obtain ⟨z, rfl, hz⟩ := hz
  refine ⟨z, rfl, ?_⟩
  have hi : HighEq m m1 := by
    rcases hz with ⟨-, -, e⟩ | ⟨-, -, e⟩
    · rw [e]; exact fun k hk => by rw [up2_k (by omega), up2_k (by omega), up2_k (by omega)]
    · rw [e]; exact HighEq.rf
  have w1 := w.peq hi.peq
  refine (mt_weighed (a := m) rs rx hi w.town w.loads).mono (fun o m2 hy => ?_)
  obtain ⟨y, rfl, hy⟩ := hy
  refine ⟨y, rfl, ?_⟩
  rcases hz with ⟨p, ez, e⟩ | ⟨p, ez, e⟩
  · rcases hy with ⟨-, ey, pq, lw⟩ | ⟨p', -, -⟩
    · refine ⟨by rw [ez, ey], ?_⟩
      have hi3 : HighEq (weighedU m s x) (weighedU m1 s x) := by
        unfold weighedU
        rw [hi 169 (by decide)]
        exact hi_up (hi_up (hi_up hi))
      have r : ∀ k, k ≠ 201 ∧ k ≠ 202 ∧ k ≠ 169 → weighedU m s x k = m k := fun k hk => by unfold weighedU; rw [up2_k hk.2.2, up2_k hk.2.1, up2_k hk.1]
      have r9 : ∀ j : Int, j ≠ 62 → weighedU m s x 169 j = m 169 j := fun j hj => by unfold weighedU; rw [up2_j hj, up2_k (by decide), up2_k (by decide)]
      have r62 : weighedU m s x 169 62 = m 169 62 + 1 := by unfold weighedU; rw [up2_same]
      have ra : ∀ j : Int, weighedU m s x 201 j = if j = m 169 62 then s else m 201 j := fun j => by
        unfold weighedU
        rw [up2_k (by decide), up2_k (by decide)]
        unfold up2
        by_cases c : j = m 169 62
        · rw [if_pos ⟨rfl, c⟩, if_pos c]
        · rw [if_neg (fun o => c o.2), if_neg c]
      have rb : ∀ j : Int, weighedU m s x 202 j = if j = m 169 62 then x else m 202 j := fun j => by
        unfold weighedU
        rw [up2_k (by decide)]
        by_cases c : j = m 169 62
        · rw [c, up2_same, if_pos rfl]
        · rw [up2_j c, up2_k (by decide), if_neg c]
      have ce : ∀ k, k ≠ 93 ∧ k ≠ 94 ∧ k ≠ 95 → m1 k = m k := fun k hk => by rw [e, up2_k hk.1, up2_k hk.2.2, up2_k hk.2.1]
      refine Rel.fin (b := weighedU m s x) ⟨ctown_of (h.1.town.fr (ce 9 (by omega)) (fun _ _ => ⟨ce _ (by omega), ce _ (by omega)⟩)) (r9 3 (by omega)) (fun k _ _ => r k (by omega)), cset_of (h.1.set.fr (ce 4 (by omega))) (r 179 (by omega)), ctext_of (h.1.text.fr (ce 1 (by omega)) (ce 2 (by omega))) (r9 17 (by omega)) (r 182 (by omega)), by rw [r 180 (by omega)]; exact h.1.now.congr (ce _ (by omega)) (ce _ (by omega)) (ce _ (by omega)) (ce _ (by omega)), chist_of (h.1.hist.fr (by rw [ce 27 (by omega)]) (ce 28 (by omega)) (fun k _ _ => ce k (by omega))) (r9 40 (by omega)) (r 190 (by omega)), ?_, ckept_of (h.1.kept.fr (ce 166 (by omega)) (fun k _ _ => ce k (by omega))) (r9 3 (by omega)) (r9 4 (by omega)) (r 205 (by omega)) (r 206 (by omega)) (r 207 (by omega)), crow_of (h.1.row.fr (by rw [ce 0 (by omega)]) (ce 168 (by omega))) (r9 1 (by omega)) (r 170 (by omega))⟩ (h.2.1.fr (fun x _ => by rw [ce 5 (by omega)]) (ce 6 (by omega)) (ce 7 (by omega))) (h.2.2.1.of (r9 26 (by omega)) (r 185 (by omega))) ⟨w.town.of (r9 3 (by omega)) (fun k _ _ => r k (by omega)), w.set.of (r 179 (by omega)), wtext_of w.text (r9 17 (by omega)) (r 182 (by omega)), by rw [r 180 (by omega)]; exact wst_of w.now (r 178 (by omega)), whist_of w.hist (r9 40 (by omega)) (r 190 (by omega)) (r 178 (by omega)), ?_, wkept_of w.kept (r9 4 (by omega)) (r 205 (by omega)) (r 206 (by omega)) (r 207 (by omega)) (r 178 (by omega)), wrow_of w.row (r9 1 (by omega)) (r 170 (by omega))⟩ ?_ ?_
      · refine ⟨by rw [e, up2_same, r62], fun j j0 j1 => ?_⟩
        rw [r62] at j1
        rw [ra, rb, e, up2_k (show (94 : Nat) ≠ 93 by decide), up2_k (show (94 : Nat) ≠ 95 by decide), up2_k (show (95 : Nat) ≠ 93 by decide)]
        by_cases c : j = m 169 62
        · rw [c, up2_same, up2_same, if_pos rfl, if_pos rfl]
          exact ⟨rfl, rfl⟩
        · rw [up2_j c, up2_j c, up2_k (show (95 : Nat) ≠ 94 by decide), if_neg c, if_neg c]
          exact h.1.loads.2 j j0 (by omega)
      · obtain ⟨l1, l2, l3⟩ := w.loads
        have pa := p.2
        unfold WLoads
        rw [r62, r9 3 (by omega)]
        refine ⟨by omega, by omega, fun j j0 j1 => ?_⟩
        rw [ra, rb]
        by_cases c : j = m 169 62
        · have sf := set_facts w.town p.1
          rw [if_pos c, if_pos c]
          refine ⟨sf.1, sf.2.1, pa.1.1, pa.1.2, fun q hq => ?_⟩
          by_cases q6 : q < 6
          · exact sf.2.2.2.2 q hq q6
          · exact hi64 sf.1 sf.2.1 (by omega)
        · rw [if_neg c, if_neg c]
          exact l3 j j0 (by omega)
      · exact pq.trans hi3.peq
      · exact lw
    · exact absurd p p'
  · rcases hy with ⟨p', -, -⟩ | ⟨-, ey, pq, lw⟩
    · exact absurd p' p
    · subst e
      exact ⟨by rw [ez, ey], h.queryS (CQ.stay h.1) pq lw⟩
