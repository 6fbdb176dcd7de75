/-! the last step of soonest and weeks -/
theorem step_soonest {E E2 : Nat × (Nat → Int32)} {m : Mem} {v : (Int → Int) → Int} {B t : Int} (rt : RI t) (h : Rel v B m) (hB : B ≤ 1000000000) : K_X11_soonest E [.ref 0, vi t] m (fun z m1 => K_X12_soonest E2 [.ref 169, vi t] m1 (fun z' m2 => z' = z ∧ Rel v B m2)) := by
  have w := h.2.2.2
  refine (ct_soonest (v := v) rt h.1 h.2.1 w.town w.set w.now hB).mono (fun o m1 hz => ?_)
  obtain ⟨z, rfl, hz⟩ := hz
  refine ⟨z, rfl, ?_⟩
  have hi : HighEq m m1 := by
    rcases hz with ⟨-, -, -, q⟩ | ⟨-, -, -, q⟩ | ⟨-, -, q⟩
    · exact q.2.2.2.2.2.2.2
    · exact q.2.2.2.2.2.2.2
    · exact q.2.2.2.2.2.2.2
  refine (mt_soonest (a := m) (v := v) rt hi h.2.2.1 w.town w.set w.now hB).mono (fun o m2 hy => ?_)
  obtain ⟨y, rfl, hy⟩ := hy
  refine ⟨y, rfl, ?_⟩
  rcases hz with ⟨p, q, ez, cq⟩ | ⟨p, q, ez, cq⟩ | ⟨p, ez, cq⟩
  · rcases hy with ⟨p', q', ey, pq, lw⟩ | ⟨p', q', ey, pq, lw⟩ | ⟨p', ey, pq, lw⟩
    · have sf := set_facts w.town p.1
      exact ⟨by rw [ez, ey], h.query cq pq lw sf.2.2.2.1 sf.2.2.1 (fun j _ _ => by have := bestL_rng (v := v) (t := t) (j := j) w.town; unfold RI at this; omega)⟩
    · exact absurd q q'
    · exact absurd p p'
  · rcases hy with ⟨p', q', ey, pq, lw⟩ | ⟨p', q', ey, pq, lw⟩ | ⟨p', ey, pq, lw⟩
    · exact absurd q' q
    · exact ⟨by rw [ez, ey], h.queryS cq pq lw⟩
    · exact absurd p p'
  · rcases hy with ⟨p', q', ey, pq, lw⟩ | ⟨p', q', ey, pq, lw⟩ | ⟨p', ey, pq, lw⟩
    · exact absurd p' p
    · exact absurd p' p
    · exact ⟨by rw [ez, ey], h.queryS cq pq lw⟩
theorem step_weeks {E E2 : Nat × (Nat → Int32)} {m : Mem} {v : (Int → Int) → Int} {B x n p : Int} (rn : RI n) (rp : RI p) (h : Rel v B m) : K_X11_weeks E [.ref 0, vi x, vi n, vi p] m (fun z m1 => K_X12_weeks E2 [.ref 169, vi x, vi n, vi p] m1 (fun z' m2 => z' = z ∧ Rel v B m2)) := by
  have w := h.2.2.2
  refine (ct_weeks (v := v) rn rp h.1 h.2.1 w.town w.set).mono (fun o m1 hz => ?_)
  obtain ⟨z, rfl, hz⟩ := hz
  refine ⟨z, rfl, ?_⟩
  have hi : HighEq m m1 := by
    rcases hz with ⟨-, -, q⟩ | ⟨-, -, q⟩
    · exact q.2.2.2.2.2.2.2
    · exact q.2.2.2.2.2.2.2
  refine (mt_weeks (a := m) (v := v) rn rp hi h.2.2.1 w.town w.set).mono (fun o m2 hy => ?_)
  obtain ⟨y, rfl, hy⟩ := hy
  refine ⟨y, rfl, ?_⟩
  rcases hz with ⟨q, ez, cq⟩ | ⟨q, ez, cq⟩
  · rcases hy with ⟨q', ey, pq, lw⟩ | ⟨q', ey, pq, lw⟩
    · have g := wkN_rng (v := v) (x := x) (p := p) w.town w.set n.toNat
      refine ⟨by rw [ez, ey], h.query cq pq lw (by decide) (by decide) (fun j j0 j1 => ?_)⟩
      have : j = 0 ∨ j = 1 := by omega
      rcases this with e | e
      · rw [e]; show -9223372036854775808 ≤ (wkN' m v x p n.toNat).2.2.1 ∧ (wkN' m v x p n.toNat).2.2.1 < 9223372036854775808; omega
      · rw [e]; show -9223372036854775808 ≤ (wkN' m v x p n.toNat).2.2.2 ∧ (wkN' m v x p n.toNat).2.2.2 < 9223372036854775808; omega
    · exact absurd q q'
  · rcases hy with ⟨q', ey, pq, lw⟩ | ⟨q', ey, pq, lw⟩
    · exact absurd q' q
    · exact ⟨by rw [ez, ey], h.queryS cq pq lw⟩
