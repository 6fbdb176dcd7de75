/-! all is made: from here on the references that never change are told by name; and what holds at the start -/
theorem rt_ok : ∀ q ∈ rtab, q.1 < 208 ∧ q.2.1 < lenS q.1 ∧ V0 q.1 q.2.1 = (q.2.2 : Int) := by decide +kernel
theorem ra_10 : ∀ j : Nat, j < 6 → j < lenS 10 ∧ V0 10 j = ((11 + 2 * j : Nat) : Int) := by decide +kernel
theorem ra_107 : ∀ j : Nat, j < 6 → j < lenS 107 ∧ V0 107 j = ((111 + 6 * j : Nat) : Int) := by decide +kernel
theorem ra_153 : ∀ j : Nat, j < 3 → j < lenS 153 ∧ V0 153 j = ((154 + 4 * j : Nat) : Int) := by decide +kernel
theorem rM_ok {k t : Nat} {j : Int} (h : ρM k j = some t) : ∃ i : Nat, j = (i : Int) ∧ k < 208 ∧ i < lenS k ∧ V0 k i = (t : Int) := by
  unfold ρM at h
  split at h
  · cases h
  split at h
  · rename_i c
    split at h
    · rename_i c2
      have g := ra_10 j.toNat (by omega)
      cases h
      exact ⟨j.toNat, by omega, by omega, by rw [c]; exact g.1, by rw [c]; exact g.2⟩
    · cases h
  split at h
  · rename_i c
    split at h
    · rename_i c2
      have g := ra_107 j.toNat (by omega)
      cases h
      exact ⟨j.toNat, by omega, by omega, by rw [c]; exact g.1, by rw [c]; exact g.2⟩
    · cases h
  split at h
  · rename_i c
    split at h
    · rename_i c2
      have g := ra_153 j.toNat (by omega)
      cases h
      exact ⟨j.toNat, by omega, by omega, by rw [c]; exact g.1, by rw [c]; exact g.2⟩
    · cases h
  · rcases hf : rtab.find? (fun q => decide (q.1 = k ∧ (q.2.1 : Int) = j)) with _ | q
    · rw [hf] at h; cases h
    · rw [hf] at h
      cases h
      have g := rt_ok q (List.mem_of_find?_eq_some hf)
      have g2 := List.find?_some hf
      simp only [decide_eq_true_eq] at g2
      obtain ⟨rfl, rfl⟩ := g2
      exact ⟨q.2.1, rfl, g⟩
def Made (m : Mem) : Prop := BtR 0 208 m
theorem Made.rf {m : Mem} {A : Nat → Nat} (h : Made m) (k : Nat) (j : Int) : rfv ρM A m k j = rfv ρ0 A m k j := by
  unfold rfv
  rcases hr : ρM k j with _ | t
  · rfl
  · obtain ⟨i, rfl, hk, hi, hv⟩ := rM_ok hr
    have e := h k (Nat.zero_le _) hk i hi
    show some (A t) = (if m k (i : Int) < 0 then none else some (A (m k (i : Int)).toNat))
    rw [e, hv, if_neg (by omega), Int.toNat_natCast]
theorem Made.ce {m : Mem} {A : Nat → Nat} {cA : Nat → ClassId} (h : Made m) (k : Nat) (e : Shp) : cel ρM A cA m k e = cel ρ0 A cA m k e := by
  cases e with
  | inl ci =>
    show (Sum.inr (ci, _) : va_E) = Sum.inr (ci, _)
    congr 2
    refine List.map_congr_left fun j _ => ?_
    unfold fv
    split <;> simp only [h.rf]
  | inr tn =>
    show (Sum.inl (cA tn.1, tn.2, ar ρM A tn.1 m k) : va_E) = Sum.inl (cA tn.1, tn.2, ar ρ0 A tn.1 m k)
    unfold ar
    split <;> simp only [h.rf]
theorem Made.ws {m : Mem} {A : Nat → Nat} {cA : Nat → ClassId} (h : Made m) (nw : Nat) : Ws ρM A cA m nw = Ws ρ0 A cA m nw := List.map_congr_left fun k _ => by rw [h.ce]
theorem Made.wf {m : Mem} {nw : Nat} (h : WFm ρ0 nw m) : WFm ρM nw m := fun k j hk _ hb => h k j hk rfl hb
theorem G_made {E : Nat × (Nat → Int32)} {μ : Mu} {QQ : QF} {nw0 pc : Nat} {lv st : List Value} {nw k u : Nat} {m : Mem} (h : Made m) (kk : G ρM E μ QQ nw0 pc lv st nw k u m) : G ρ0 E μ QQ nw0 pc lv st nw k u m := by
  intro p l e s mi args below meth c D cA A0 A H locs ls C hA hP hD hS hl
  exact kk p l e s mi args below meth c D cA A0 A H locs ls C hA ⟨by rw [h.ws]; exact hP.1, Made.wf hP.2⟩ (by rw [h.ws]; exact hD) hS hl
