/-! the last step of the acts, of the text's tellers and of order -/
theorem Rel.aa {v : (Int → Int) → Int} {B B2 : Int} {m m1 m2 : Mem} {C : Prop} {z y R R' n : Int} {f : Int → Int} {r : Int → Int} (h : Rel v B m) (hB : B ≤ B2) (hz : (C ∧ z = R ∧ CR0 m1 (actU m r n f) ∧ RF m m1 ∧ HighEq m m1) ∨ (¬ C ∧ z = R' ∧ CQ m m1 (m 169 1) (m 170))) (hy : (C ∧ y = R ∧ PEq m2 (actU m1 r n f) ∧ LowEq m1 m2) ∨ (¬ C ∧ y = R' ∧ PEq m2 m1 ∧ LowEq m1 m2)) (g : C → StOK B2 m r ∧ 0 ≤ n ∧ n ≤ 6 ∧ ∀ j : Int, 0 ≤ j → j < n → LR (f j)) : y = z ∧ Rel v B2 m2 := by
  rcases hz with ⟨p, ez, cr, rf, hi⟩ | ⟨p, ez, cq⟩
  · rcases hy with ⟨-, ey, pq, lw⟩ | ⟨p', -, -, -⟩
    · exact ⟨by rw [ez, ey], h.act hB cr rf hi pq lw (g p).1 (g p).2.1 (g p).2.2.1 (g p).2.2.2⟩
    · exact absurd p p'
  · rcases hy with ⟨p', -, -, -⟩ | ⟨-, ey, pq, lw⟩
    · exact absurd p' p
    · exact ⟨by rw [ez, ey], (h.queryS cq pq lw).mono hB⟩
theorem ahi {m m1 : Mem} {C : Prop} {z R R' n' : Int} {f' : Int → Int} {X : Mem} (hz : (C ∧ z = R ∧ CR0 m1 X ∧ RF m m1 ∧ HighEq m m1) ∨ (¬ C ∧ z = R' ∧ CQ m m1 n' f')) : HighEq m m1 := by
  rcases hz with ⟨-, -, -, -, q⟩ | ⟨-, -, q⟩
  · exact q
  · exact q.2.2.2.2.2.2.2
theorem W0.rowL {B : Int} {m : Mem} (w : W0 B m) : 0 ≤ m 169 1 ∧ m 169 1 ≤ 6 ∧ ∀ j : Int, 0 ≤ j → j < m 169 1 → LR (m 170 j) := w.row
theorem step_drive {E E2 : Nat × (Nat → Int32)} {m : Mem} {v : (Int → Int) → Int} {B : Int} {s : Int} (rs : RI s) (h : Rel v B m) (hB : B ≤ 1000000000) : K_X11_drive E [.ref 0, vi s] m (fun z m1 => K_X12_drive E2 [.ref 169, vi s] m1 (fun z' m2 => z' = z ∧ Rel v (B + 600000) m2)) := by
  have w := h.2.2.2
  refine (ct_drive rs h.1 w).mono (fun o m1 hz => ?_)
  obtain ⟨z, rfl, hz⟩ := hz
  refine ⟨z, rfl, ?_⟩
  have hi := ahi hz
  refine (mt_drive (a := m) rs hi w).mono (fun o m2 hy => ?_)
  obtain ⟨y, rfl, hy⟩ := hy
  refine ⟨y, rfl, ?_⟩
  exact h.aa (by omega) hz hy (fun c => by
    have t := w.tn
    have q := w.town.2.2.1 s c.1 (by omega)
    obtain ⟨n1, n2, n3, n4, n5, n6, n7⟩ := w.now
    have d := dist_rng n4 n5 q.1 q.2.1
    exact ⟨ok_lorry w.now n2 n3 q.1 q.2.1 (by omega) (by omega), w.rowL⟩)
theorem step_tip {E E2 : Nat × (Nat → Int32)} {m : Mem} {v : (Int → Int) → Int} {B : Int} (h : Rel v B m) (hB : B ≤ 1000000000) : K_X11_tip E [.ref 0] m (fun z m1 => K_X12_tip E2 [.ref 169] m1 (fun z' m2 => z' = z ∧ Rel v (B + 600000) m2)) := by
  have w := h.2.2.2
  refine (ct_tip h.1 w hB).mono (fun o m1 hz => ?_)
  obtain ⟨z, rfl, hz⟩ := hz
  refine ⟨z, rfl, ?_⟩
  have hi := ahi hz
  refine (mt_tip (a := m) hi w hB).mono (fun o m2 hy => ?_)
  obtain ⟨y, rfl, hy⟩ := hy
  refine ⟨y, rfl, ?_⟩
  exact h.aa (by omega) hz hy (fun c => by
    have hS := w.set
    obtain ⟨-, -, -, -, -, -, -, -, -, -, s5, s5', -, -⟩ := hS
    obtain ⟨n1, n2, n3, n4, n5, n6, n7⟩ := w.now
    have d : 0 ≤ tipD m (m 180) ∧ tipD m (m 180) ≤ 990 := dist_rng n4 n5 s5 s5'
    exact ⟨ok_lorry w.now (by decide) (by decide) s5 s5' (by omega) (by omega), by decide, by decide, fun j _ _ => rwL_1 (LR.of (by omega)) j⟩)
theorem step_pause {E E2 : Nat × (Nat → Int32)} {m : Mem} {v : (Int → Int) → Int} {B : Int} {s : Int} (rs : RI s) (h : Rel v B m) (hB : B ≤ 1000000000) : K_X11_pause E [.ref 0, vi s] m (fun z m1 => K_X12_pause E2 [.ref 169, vi s] m1 (fun z' m2 => z' = z ∧ Rel v (B + 600000) m2)) := by
  have w := h.2.2.2
  refine (ct_pause rs h.1 w hB).mono (fun o m1 hz => ?_)
  obtain ⟨z, rfl, hz⟩ := hz
  refine ⟨z, rfl, ?_⟩
  have hi := ahi hz
  refine (mt_pause (a := m) rs hi w).mono (fun o m2 hy => ?_)
  obtain ⟨y, rfl, hy⟩ := hy
  refine ⟨y, rfl, ?_⟩
  exact h.aa (by omega) hz hy (fun c => by
    obtain ⟨n1, n2, n3, n4, n5, n6, n7⟩ := w.now
    exact ⟨ok_lorry w.now n2 n3 n4 n5 (by omega) (by omega), w.rowL⟩)
theorem step_week {E E2 : Nat × (Nat → Int32)} {m : Mem} {v : (Int → Int) → Int} {B : Int} (h : Rel v B m) (hB : B ≤ 1000000000) : K_X11_week E [.ref 0] m (fun z m1 => K_X12_week E2 [.ref 169] m1 (fun z' m2 => z' = z ∧ Rel v (B + 600000) m2)) := by
  have w := h.2.2.2
  refine (ct_week h.1 w).mono (fun o m1 hz => ?_)
  obtain ⟨z, rfl, hz⟩ := hz
  refine ⟨z, rfl, ?_⟩
  refine (mt_week (a := m) hz.2.2.2 w).mono (fun o m2 hy => ?_)
  obtain ⟨y, rfl, hy⟩ := hy
  refine ⟨y, rfl, ?_⟩
  have r := w.rowL
  exact ⟨by rw [hz.1, hy.1], h.act (by omega) hz.2.1 hz.2.2.1 hz.2.2.2 hy.2.1 hy.2.2 (weekR_ok (by have := w.now.2.2.2.2.2; omega)) r.1 r.2.1 r.2.2⟩
theorem step_empty {E E2 : Nat × (Nat → Int32)} {m : Mem} {v : (Int → Int) → Int} {B : Int} {s how : Int} (rs : RI s) (rh : RI how) (h : Rel v B m) (hB : B ≤ 1000000000) : K_X11_empty E [.ref 0, vi s, vi how] m (fun z m1 => K_X12_empty E2 [.ref 169, vi s, vi how] m1 (fun z' m2 => z' = z ∧ Rel v (B + 600000) m2)) := by
  have w := h.2.2.2
  refine (ct_empty rs rh h.1 h.2.1 w).mono (fun o m1 hz => ?_)
  obtain ⟨z, rfl, hz⟩ := hz
  refine ⟨z, rfl, ?_⟩
  have hi := ahi hz
  refine (mt_empty (a := m) rs rh hi h.2.2.1 w hB).mono (fun o m2 hy => ?_)
  obtain ⟨y, rfl, hy⟩ := hy
  refine ⟨y, rfl, ?_⟩
  exact h.aa (by omega) hz hy (fun c => by
    have t := w.tn
    have s0 := c.1.1
    have s6 : s < 6 := by omega
    have g : WkOK (m 180 96) 16 (goX m v (m 180) s how) := goes_rng (v := v) (how := how) (full := m 179 0) (hill := m 173 s) (men := m 179 1) w.town w.set s0.1 s6 w.now.r3 w.now.2.1
    obtain ⟨-, -, -, -, -, -, g7, g8, g9, g10, g11, g12⟩ := g
    have o := rO_rng (r := goX m v (m 180) s how) (s := s)
    refine ⟨emptyR_ok w.town w.set w.now s0.1 s6 (by omega), by decide, by decide, fun j _ _ => rwL_rng (fun x hx => ?_) j⟩
    rcases List.mem_cons.1 hx with e | e
    · rw [e]; exact LR.of (by omega)
    · rcases List.mem_cons.1 e with e | e
      · rw [e]; exact LR.of (by omega)
      · rcases List.mem_cons.1 e with e | e
        · rw [e]; exact LR.of (by omega)
        · rw [List.mem_singleton] at e; rw [e]; exact LR.of (by omega))
theorem step_sign {E E2 : Nat × (Nat → Int32)} {m : Mem} {v : (Int → Int) → Int} {B : Int} {s : Int} (h : Rel v B m) : K_X11_sign E [.ref 0, vi s] m (fun z m1 => K_X12_sign E2 [.ref 169, vi s] m1 (fun z' m2 => z' = z ∧ Rel v B m2)) := by
  have w := h.2.2.2
  refine (ct_sign h.1.text w.text).mono (fun o m1 hz => ?_)
  obtain ⟨z, rfl, hz⟩ := hz
  refine ⟨z, rfl, ?_⟩
  have hi : HighEq m m1 := by
    rcases hz with ⟨-, -, -, q⟩ | ⟨-, -, q⟩
    · exact fun k hk => q k (by omega) (by omega)
    · rw [q]; exact HighEq.rf
  refine (mt_sign (a := m) hi w.text).mono (fun o m2 hy => ?_)
  obtain ⟨y, rfl, hy⟩ := hy
  refine ⟨y, rfl, ?_⟩
  have t := w.text
  rcases hz with ⟨p, ez, ct, e⟩ | ⟨p, ez, e⟩
  · rcases hy with ⟨-, ey, pq, lw⟩ | ⟨p', -, -, -⟩
    · refine ⟨by rw [ez, ey], h.text' ct e pq lw (by have := t.1; omega) (by omega) (fun j j0 j1 => ?_)⟩
      unfold signF
      split
      · exact band255 _
      · exact t.2.2 j j0 (by omega)
    · exact absurd p p'
  · rcases hy with ⟨p', -, -, -⟩ | ⟨-, ey, pq, lw⟩
    · exact absurd p' p
    · subst e
      exact ⟨by rw [ez, ey], h.queryS (CQ.stay h.1) pq lw⟩
theorem step_end {E E2 : Nat × (Nat → Int32)} {m : Mem} {v : (Int → Int) → Int} {B : Int} {s : Int} (rs : RI s) (h : Rel v B m) : K_X11_end E [.ref 0, vi s] m (fun z m1 => K_X12_end E2 [.ref 169, vi s] m1 (fun z' m2 => z' = z ∧ Rel v B m2)) := by
  have w := h.2.2.2
  refine (ct_end rs h.1.text w.text).mono (fun o m1 hz => ?_)
  obtain ⟨z, rfl, hz⟩ := hz
  refine ⟨z, rfl, ?_⟩
  have hi : HighEq m m1 := by
    rcases hz with ⟨-, -, -, q⟩ | ⟨-, -, q⟩
    · exact fun k hk => q k (by omega) (by omega)
    · rw [q]; exact HighEq.rf
  refine (mt_end (a := m) rs hi w.text).mono (fun o m2 hy => ?_)
  obtain ⟨y, rfl, hy⟩ := hy
  refine ⟨y, rfl, ?_⟩
  have t := w.text
  rcases hz with ⟨p, ez, ct, e⟩ | ⟨p, ez, e⟩
  · rcases hy with ⟨-, ey, pq, lw⟩ | ⟨p', -, -, -⟩
    · exact ⟨by rw [ez, ey], h.text' ct e pq lw p.1 (by have := t.2.1; omega) (fun j j0 j1 => t.2.2 j j0 (by omega))⟩
    · exact absurd p p'
  · rcases hy with ⟨p', -, -, -⟩ | ⟨-, ey, pq, lw⟩
    · exact absurd p' p
    · subst e
      exact ⟨by rw [ez, ey], h.queryS (CQ.stay h.1) pq lw⟩
/-- a text that is emptied -/
theorem peq_empty {m m1 : Mem} {f g : Int → Int} (hi : HighEq m m1) : PEq (textU m1 0 f) (textU m 0 g) := by
  have hi := hi_textU (n := 0) (f := g) hi
  refine (PEq.text' (a' := textU m1 0 f) (n := 0) (f := g) (a := m1) (fun k _ h1 h2 => textU_k h1 h2) (fun j _ hj => textU_f hj) textU_n (fun j j0 j1 => by omega)).trans hi.peq
theorem Rel.tx {v : (Int → Int) → Int} {B : Int} {m c1 m1 m2 : Mem} {n : Int} {f : Int → Int} (h : Rel v B m) (t : TX m m c1) (q : CQ c1 m1 n f) (p : PEq m2 (rowU (textU m 0 (m 182)) n f)) (l : LowEq m1 m2) (n0 : 0 ≤ n) (n6 : n ≤ 6) (hf : ∀ j : Int, 0 ≤ j → j < n → LR (f j)) : Rel v B m2 := by
  have r1 : RuleC c1 v := h.2.1.fr (fun x _ => by rw [t.2 5 (by decide)]) (t.2 6 (by decide)) (t.2 7 (by decide))
  have w0 : W0 B (textU m 0 (m 182)) := h.2.2.2.text' (by decide) (by decide) (fun j j0 j1 => by omega)
  refine Rel.fin (q.rel t.1) (q.rule r1) (h.2.2.1.of ?_ ?_) (w0.rowC n0 n6 hf) p l
  · rw [rowU_f (by decide), textU_f (by decide)]
  · rw [rowU_k (by decide) (by decide), textU_k (by decide) (by decide)]
theorem step_order {E E2 : Nat × (Nat → Int32)} {m : Mem} {v : (Int → Int) → Int} {B : Int} (h : Rel v B m) (hB : B ≤ 1000000000) : K_X11_order E [.ref 0] m (fun z m1 => K_X12_order E2 [.ref 169] m1 (fun z' m2 => z' = z ∧ Rel v B m2)) := by
  have w := h.2.2.2
  refine (ct_order (v := v) h.1 h.2.1 w.town w.set w.now hB).mono (fun o m1 hz => ?_)
  obtain ⟨z, rfl, hz⟩ := hz
  refine ⟨z, rfl, ?_⟩
  obtain ⟨c1, tx, hz⟩ := hz
  have hi0 : HighEq m c1 := fun k hk => tx.2 k (by omega)
  have hi : HighEq m m1 := by
    rcases hz with ⟨-, -, q⟩ | ⟨-, -, q⟩ | ⟨-, -, -, q⟩
    · exact hi0.trans q.2.2.2.2.2.2.2
    · exact hi0.trans q.2.2.2.2.2.2.2
    · exact hi0.trans q.2.2.2.2.2.2.2
  refine (mt_order (a := m) (v := v) hi w.text h.2.2.1 w.town w.set w.now hB).mono (fun o m2 hy => ?_)
  obtain ⟨y, rfl, hy⟩ := hy
  refine ⟨y, rfl, ?_⟩
  obtain ⟨hy, lw⟩ := hy
  have pe : PEq (textU m1 0 (textN m1)) (textU m 0 (m 182)) := peq_empty hi
  have stay : PEq m2 (textU m1 0 (textN m1)) → PEq m2 (rowU (textU m 0 (m 182)) (m 169 1) (m 170)) := fun p => by
    have g := (p.trans pe).stay
    rw [textU_f (by decide), textU_k (a := m) (k := 170) (by decide) (by decide)] at g
    exact g
  have rl := w.rowL
  rcases hz with ⟨p, ez, cq⟩ | ⟨p, ⟨t1, et1, ez⟩, cq⟩ | ⟨p, e, ez, cq⟩
  · rcases hy with ⟨p', ey, pq⟩ | ⟨p', -, -⟩ | ⟨p', -, -, -⟩
    · exact ⟨by rw [ez, ey], h.tx tx cq (stay pq) lw rl.1 rl.2.1 rl.2.2⟩
    · exact absurd p' p
    · exact absurd p' p
  · rcases hy with ⟨p', -, -⟩ | ⟨p', ⟨t2, et2, ey⟩, pq⟩ | ⟨p', e', -, -⟩
    · exact absurd p p'
    · rw [et1] at et2
      have et2 := Option.some.inj et2
      have g := oTips_rng (a := m) (v := v) (r := m 180) (ordL m) (trow (m 180))
      have l6 := (ordL_ok (a := m)).2.2
      exact ⟨by rw [ez, ey, et2], h.tx tx cq (pq.trans pe.rowC) lw (by decide) (by decide) (fun j _ _ => rwL_2 (LR.of (by omega)) (LR.of (by omega)) j)⟩
    · rw [et1] at e'; cases e'
  · rcases hy with ⟨p', -, -⟩ | ⟨p', ⟨t2, et2, ey⟩, pq⟩ | ⟨p', e', ey, pq⟩
    · exact absurd p p'
    · rw [e] at et2; cases et2
    · exact ⟨by rw [ez, ey], h.tx tx cq (stay pq) lw rl.1 rl.2.1 rl.2.2⟩
