/-! the last step of the questions -/
def LR (z : Int) : Prop := -9223372036854775808 ≤ z ∧ z < 9223372036854775808
theorem LR.of {z : Int} (h : -4000000000 ≤ z ∧ z ≤ 4000000000) : LR z := by unfold LR; omega
theorem rwL_rng {l : List Int} (h : ∀ x ∈ l, LR x) (j : Int) : LR (rwL l j) := by
  unfold rwL
  by_cases c : j.toNat < l.length
  · exact h _ (getD_mem0 c)
  · rw [List.getD_eq_getElem?_getD, List.getElem?_eq_none (by omega)]
    exact LR.of (by decide)
theorem rwL_1 {x : Int} (h : LR x) (j : Int) : LR (rwL [x] j) := rwL_rng (fun y hy => by rw [List.mem_singleton] at hy; rw [hy]; exact h) j
theorem rwL_2 {x y : Int} (h : LR x) (g : LR y) (j : Int) : LR (rwL [x, y] j) := rwL_rng (fun z hz => by
  rcases List.mem_cons.1 hz with e | e
  · rw [e]; exact h
  · rw [List.mem_singleton] at e; rw [e]; exact g) j
theorem rwL_3 {x y z : Int} (h : LR x) (g : LR y) (k : LR z) (j : Int) : LR (rwL [x, y, z] j) := rwL_rng (fun u hu => by
  rcases List.mem_cons.1 hu with e | e
  · rw [e]; exact h
  · rcases List.mem_cons.1 e with e | e
    · rw [e]; exact g
    · rw [List.mem_singleton] at e; rw [e]; exact k) j
theorem qst {m m1 : Mem} {C : Prop} {z R R' n : Int} {f : Int → Int} (hc : CR0 m m) (hz : (C ∧ z = R ∧ CQ m m1 n f) ∨ (¬ C ∧ z = R' ∧ m1 = m)) : (C ∧ z = R ∧ CQ m m1 n f) ∨ (¬ C ∧ z = R' ∧ CQ m m1 (m 169 1) (m 170)) := by
  rcases hz with h | ⟨h1, h2, h3⟩
  · exact Or.inl h
  · exact Or.inr ⟨h1, h2, by rw [h3]; exact CQ.stay hc⟩
theorem qhi {m m1 : Mem} {C : Prop} {z R R' n n' : Int} {f f' : Int → Int} (hz : (C ∧ z = R ∧ CQ m m1 n f) ∨ (¬ C ∧ z = R' ∧ CQ m m1 n' f')) : HighEq m m1 := by
  rcases hz with ⟨-, -, q⟩ | ⟨-, -, q⟩
  · exact q.2.2.2.2.2.2.2
  · exact q.2.2.2.2.2.2.2
theorem low0 {m : Mem} {z : Int} : LowEq m (up2 m 169 0 z) := fun k hk => up2_k (by omega)
theorem mst {m1 m2 X : Mem} {C : Prop} {y R R' : Int} (hy : (C ∧ y = R ∧ PEq m2 X ∧ LowEq m1 m2) ∨ (¬ C ∧ y = R' ∧ m2 = up2 m1 169 0 0)) : (C ∧ y = R ∧ PEq m2 X ∧ LowEq m1 m2) ∨ (¬ C ∧ y = R' ∧ PEq m2 m1 ∧ LowEq m1 m2) := by
  rcases hy with h | ⟨h1, h2, h3⟩
  · exact Or.inl h
  · exact Or.inr ⟨h1, h2, by rw [h3]; exact PEq.field npf0, by rw [h3]; exact low0⟩
theorem Rel.qq {v : (Int → Int) → Int} {B : Int} {m m1 m2 : Mem} {C : Prop} {z y R R' n : Int} {f : Int → Int} (h : Rel v B m) (hz : (C ∧ z = R ∧ CQ m m1 n f) ∨ (¬ C ∧ z = R' ∧ CQ m m1 (m 169 1) (m 170))) (hy : (C ∧ y = R ∧ PEq m2 (rowU m1 n f) ∧ LowEq m1 m2) ∨ (¬ C ∧ y = R' ∧ PEq m2 m1 ∧ LowEq m1 m2)) (g : C → 0 ≤ n ∧ n ≤ 6 ∧ ∀ j : Int, LR (f j)) : y = z ∧ Rel v B m2 := by
  rcases hz with ⟨p, ez, cq⟩ | ⟨p, ez, cq⟩
  · rcases hy with ⟨-, ey, pq, lw⟩ | ⟨p', -, -, -⟩
    · exact ⟨by rw [ez, ey], h.query cq pq lw (g p).1 (g p).2.1 (fun j _ _ => (g p).2.2 j)⟩
    · exact absurd p p'
  · rcases hy with ⟨p', -, -, -⟩ | ⟨-, ey, pq, lw⟩
    · exact absurd p' p
    · exact ⟨by rw [ez, ey], h.queryS cq pq lw⟩
theorem Rel.q1 {v : (Int → Int) → Int} {B : Int} {m m1 m2 : Mem} {z y R n : Int} {f : Int → Int} (h : Rel v B m) (hz : z = R ∧ CQ m m1 n f) (hy : y = R ∧ PEq m2 (rowU m1 n f) ∧ LowEq m1 m2) (g : 0 ≤ n ∧ n ≤ 6 ∧ ∀ j : Int, LR (f j)) : y = z ∧ Rel v B m2 := ⟨by rw [hz.1, hy.1], h.query hz.2 hy.2.1 hy.2.2 g.1 g.2.1 (fun j _ _ => g.2.2 j)⟩
theorem W0.tn {B : Int} {a : Mem} (w : W0 B a) : 0 ≤ a 169 3 ∧ a 169 3 ≤ 6 := ⟨w.town.1, w.town.2.1⟩
theorem lineA_rng {B : Int} {a : Mem} {v : (Int → Int) → Int} {s : Int} (hT : WTown a) (hS : WSet a) (hn : StOK B a (a 180)) (s0 : 0 ≤ s) (s6 : s < 6) : LR (lineA a v (a 180) s).2.1 ∧ LR (lineA a v (a 180) s).2.2 := by
  have g := lineG_rng (T := lineT a v (a 180) s) (q := lineQ (a 180) s) (fun i how => lineT_rng hT hS s0 s6 hn.r3) (2 * a 172 s).toNat 0 0 (by decide)
  have g : 0 ≤ (lineA a v (a 180) s).1 ∧ (lineA a v (a 180) s).1 ≤ 0 + ((2 * a 172 s).toNat : Int) ∧ -1 ≤ (lineA a v (a 180) s).2.1 ∧ (lineA a v (a 180) s).2.1 ≤ 17712 ∧ -1 ≤ (lineA a v (a 180) s).2.2 ∧ (lineA a v (a 180) s).2.2 ≤ 17712 := g
  exact ⟨LR.of (by omega), LR.of (by omega)⟩
theorem right_rng {p n : Nat} (hp : p ≤ 10) (hn : n ≤ 16) (j : Int) : LR (rwL (rightL p n) j) := by
  have h1 : p ^ n ≤ 10 ^ 16 := Nat.le_trans (Nat.pow_le_pow_left hp n) (Nat.pow_le_pow_right (by decide) hn)
  have h2 : 10 ^ n ≤ 10 ^ 16 := Nat.pow_le_pow_right (by decide) hn
  have e16 : (10 : Nat) ^ 16 = 10000000000000000 := by decide
  have h3 : p ^ n / rightG p n ≤ 10000000000000000 := by rw [← e16]; exact Nat.le_trans (Nat.div_le_self _ _) h1
  have h4 : 10 ^ n / rightG p n ≤ 10000000000000000 := by rw [← e16]; exact Nat.le_trans (Nat.div_le_self _ _) h2
  unfold rightL
  have lr : ∀ x : Nat, x ≤ 10000000000000000 → LR (x : Int) := fun x h => by unfold LR; omega
  exact rwL_2 (lr _ h3) (lr _ h4) j
theorem most_rng {B S U : Int} {a : Mem} {v : (Int → Int) → Int} {r : Int → Int} (hT : WTown a) (hS : WSet a) (hn : StOK B a r) : 0 ≤ oMost a v r S U ∧ oMost a v r S U < 64 := by
  have t0 : trOK B (trow r) := ⟨hn.2.1, hn.2.2.1, hn.2.2.2.1, hn.2.2.2.2.1, hn.2.2.2.2.2.1, hn.2.2.2.2.2.2⟩
  have ch := (jM_char (a := a) (U := U) (oNodes a v r S 6 0 [] (trow r)) 0).1
  unfold oMost
  rcases ch with e | ⟨-, nd, hm, e⟩
  · rw [e]; decide
  · rw [← e.2]; exact (nodes_ok (v := v) (S := S) hT hS hn 6 0 [] (trow r) B (by decide) (by decide) t0 nd hm).1
theorem hol_len {a : Mem} {d : Int} (hT : WTown a) : (mvA a d).length ≤ 6 := by
  have n0 := hT.1
  have n6 := hT.2.1
  have g : ∀ k : Nat, (mvL a d k).length ≤ k := fun k => by
    induction k with
    | zero => exact Nat.le_refl _
    | succ k ih =>
      unfold mvL
      split
      · rw [List.length_append]; exact Nat.succ_le_succ ih
      · omega
  have g := g (a 169 3).toNat
  have g : (mvA a d).length ≤ (a 169 3).toNat := g
  omega

theorem step_best {E E2 : Nat × (Nat → Int32)} {m : Mem} {v : (Int → Int) → Int} {B : Int} {s : Int} (rs : RI s) (h : Rel v B m) (hB : B ≤ 1000000000) : K_X11_best E [.ref 0, vi s] m (fun z m1 => K_X12_best E2 [.ref 169, vi s] m1 (fun z' m2 => z' = z ∧ Rel v B m2)) := by
  have w := h.2.2.2
  refine (ct_best (v := v) rs h.1 h.2.1 w.town w.set w.now).mono (fun o m1 hz => ?_)
  obtain ⟨z, rfl, hz⟩ := hz
  refine ⟨z, rfl, ?_⟩
  have hz := qst h.1 hz
  have hi := qhi hz
  refine (mt_best (v := v) (a := m) rs hi h.2.2.1 w.town w.set w.now).mono (fun o m2 hy => ?_)
  obtain ⟨y, rfl, hy⟩ := hy
  refine ⟨y, rfl, ?_⟩
  exact h.qq hz (mst hy) (fun c => by have t := w.tn; have g := fun how => BT_rng (v := v) (how := how) w.town w.set c.1 (by omega) w.now.r3; exact ⟨by decide, by decide, rwL_3 (LR.of (by have := g 0; omega)) (LR.of (by have := g 1; omega)) (LR.of (by have := g 2; omega))⟩)
theorem step_less {E E2 : Nat × (Nat → Int32)} {m : Mem} {v : (Int → Int) → Int} {B : Int} {s : Int} (rs : RI s) (h : Rel v B m) (hB : B ≤ 1000000000) : K_X11_less E [.ref 0, vi s] m (fun z m1 => K_X12_less E2 [.ref 169, vi s] m1 (fun z' m2 => z' = z ∧ Rel v B m2)) := by
  have w := h.2.2.2
  refine (ct_less (v := v) rs h.1 h.2.1 w.town w.set w.now).mono (fun o m1 hz => ?_)
  obtain ⟨z, rfl, hz⟩ := hz
  refine ⟨z, rfl, ?_⟩
  have hz := qst h.1 hz
  have hi := qhi hz
  refine (mt_less (v := v) (a := m) rs hi h.2.2.1 w.town w.set w.now).mono (fun o m2 hy => ?_)
  obtain ⟨y, rfl, hy⟩ := hy
  refine ⟨y, rfl, ?_⟩
  exact h.qq hz (mst hy) (fun c => ⟨by decide, by decide, rwL_1 (LR.of (by have := bestH_rng (fun how => secN m v (emptyRow (m 180)) s how (m 173 s) (m 179 1 - 1)); omega))⟩)
theorem step_line {E E2 : Nat × (Nat → Int32)} {m : Mem} {v : (Int → Int) → Int} {B : Int} {s : Int} (rs : RI s) (h : Rel v B m) (hB : B ≤ 1000000000) : K_X11_line E [.ref 0, vi s] m (fun z m1 => K_X12_line E2 [.ref 169, vi s] m1 (fun z' m2 => z' = z ∧ Rel v B m2)) := by
  have w := h.2.2.2
  refine (ct_line (v := v) rs h.1 h.2.1 w.town w.set w.now).mono (fun o m1 hz => ?_)
  obtain ⟨z, rfl, hz⟩ := hz
  refine ⟨z, rfl, ?_⟩
  have hz := qst h.1 hz
  have hi := qhi hz
  refine (mt_line (v := v) (a := m) rs hi h.2.2.1 w.town w.set w.now).mono (fun o m2 hy => ?_)
  obtain ⟨y, rfl, hy⟩ := hy
  refine ⟨y, rfl, ?_⟩
  exact h.qq hz (mst hy) (fun c => by have t := w.tn; have g := lineA_rng (v := v) w.town w.set w.now c.1 (by omega); exact ⟨by decide, by decide, rwL_2 g.1 g.2⟩)
theorem step_right {E E2 : Nat × (Nat → Int32)} {m : Mem} {v : (Int → Int) → Int} {B : Int} {s p : Int} (rs : RI s) (rp : RI p) (h : Rel v B m) (hB : B ≤ 1000000000) : K_X11_right E [.ref 0, vi s, vi p] m (fun z m1 => K_X12_right E2 [.ref 169, vi s, vi p] m1 (fun z' m2 => z' = z ∧ Rel v B m2)) := by
  have w := h.2.2.2
  refine (ct_right rs rp h.1 w.town).mono (fun o m1 hz => ?_)
  obtain ⟨z, rfl, hz⟩ := hz
  refine ⟨z, rfl, ?_⟩
  have hz := qst h.1 hz
  have hi := qhi hz
  refine (mt_right (a := m) (B := B) rs rp hi w.town w.now).mono (fun o m2 hy => ?_)
  obtain ⟨y, rfl, hy⟩ := hy
  refine ⟨y, rfl, ?_⟩
  exact h.qq hz (mst hy) (fun c => by have g := rO_rng (r := m 180) (s := s); have e : rightN m s ≤ 16 := (by unfold rightN; omega); exact ⟨by decide, by decide, right_rng (by omega) e⟩)
theorem step_tipnow {E E2 : Nat × (Nat → Int32)} {m : Mem} {v : (Int → Int) → Int} {B : Int} {s : Int} (rs : RI s) (h : Rel v B m) (hB : B ≤ 1000000000) : K_X11_tipnow E [.ref 0, vi s] m (fun z m1 => K_X12_tipnow E2 [.ref 169, vi s] m1 (fun z' m2 => z' = z ∧ Rel v B m2)) := by
  have w := h.2.2.2
  refine (ct_tipnow (v := v) rs h.1 h.2.1 w.town w.set w.now).mono (fun o m1 hz => ?_)
  obtain ⟨z, rfl, hz⟩ := hz
  refine ⟨z, rfl, ?_⟩
  have hi := qhi hz
  refine (mt_tipnow (v := v) (a := m) rs hi h.2.2.1 w.town w.set w.now).mono (fun o m2 hy => ?_)
  obtain ⟨y, rfl, hy⟩ := hy
  refine ⟨y, rfl, ?_⟩
  exact h.qq hz (hy) (fun c => by have t := w.tn; have g := tn_rng (v := v) w.town w.set w.now c.1.1 (by omega); exact ⟨by decide, by decide, rwL_2 (LR.of (by omega)) (by split; exact LR.of (by decide); exact LR.of (by omega))⟩)
theorem step_most {E E2 : Nat × (Nat → Int32)} {m : Mem} {v : (Int → Int) → Int} {B : Int} {t u : Int} (rt : RI t) (ru : RI u) (h : Rel v B m) (hB : B ≤ 1000000000) : K_X11_most E [.ref 0, vi t, vi u] m (fun z m1 => K_X12_most E2 [.ref 169, vi t, vi u] m1 (fun z' m2 => z' = z ∧ Rel v B m2)) := by
  have w := h.2.2.2
  refine (ct_most (v := v) rt ru h.1 h.2.1 w.town w.set w.now hB).mono (fun o m1 hz => ?_)
  obtain ⟨z, rfl, hz⟩ := hz
  refine ⟨z, rfl, ?_⟩
  have hi := qhi hz
  refine (mt_most (v := v) (a := m) rt ru hi h.2.2.1 w.town w.set w.now hB).mono (fun o m2 hy => ?_)
  obtain ⟨y, rfl, hy⟩ := hy
  refine ⟨y, rfl, ?_⟩
  exact h.qq hz (hy) (fun c => by have g := most_rng (v := v) (r := m 180) (S := t) (U := u) w.town w.set w.now; exact ⟨by decide, by decide, rwL_1 (LR.of (by omega))⟩)
theorem step_share {E E2 : Nat × (Nat → Int32)} {m : Mem} {v : (Int → Int) → Int} {B : Int} {t : Int} (rt : RI t) (h : Rel v B m) (hB : B ≤ 1000000000) : K_X11_share E [.ref 0, vi t] m (fun z m1 => K_X12_share E2 [.ref 169, vi t] m1 (fun z' m2 => z' = z ∧ Rel v B m2)) := by
  have w := h.2.2.2
  refine (ct_share (v := v) rt h.1 h.2.1 w.town w.set w.now).mono (fun o m1 hz => ?_)
  obtain ⟨z, rfl, hz⟩ := hz
  refine ⟨z, rfl, ?_⟩
  have hz := qst h.1 hz
  have hi := qhi hz
  refine (mt_share (v := v) (a := m) rt hi h.2.2.1 w.town w.set w.now).mono (fun o m2 hy => ?_)
  obtain ⟨y, rfl, hy⟩ := hy
  refine ⟨y, rfl, ?_⟩
  exact h.qq hz (hy) (fun c => by have g := shG_rng (v := v) (t := t) w.town w.set w.now 63; have g2 := shS_rng (v := v) (t := t) w.town w.set w.now; have g : -106272 ≤ (shR m v t).1 ∧ (shR m v t).1 ≤ 106272 ∧ 0 ≤ (shR m v t).2 ∧ (shR m v t).2 ≤ ((63 : Nat) : Int) := g; exact ⟨by decide, by decide, rwL_2 (LR.of (by omega)) (LR.of (by omega))⟩)
theorem step_next {E E2 : Nat × (Nat → Int32)} {m : Mem} {v : (Int → Int) → Int} {B : Int} (h : Rel v B m) (hB : B ≤ 1000000000) : K_X11_next E [.ref 0] m (fun z m1 => K_X12_next E2 [.ref 169] m1 (fun z' m2 => z' = z ∧ Rel v B m2)) := by
  have w := h.2.2.2
  refine (ct_next h.1 w.town w.set w.loads).mono (fun o m1 hz => ?_)
  obtain ⟨z, rfl, hz⟩ := hz
  refine ⟨z, rfl, ?_⟩
  have hi := qhi hz
  refine (mt_next (a := m) hi w.town w.set w.loads).mono (fun o m2 hy => ?_)
  obtain ⟨y, rfl, hy⟩ := hy
  refine ⟨y, rfl, ?_⟩
  exact h.qq hz (hy) (fun c => by have r := rubA_rng w.town w.set w.loads; have g := nextG_rng w.town w.set w.loads r.1 r.2 (shlI 1 (m 169 3) - 1).toNat; have g : -9504 ≤ (nextR m).1 ∧ (nextR m).1 ≤ 9504 := ⟨g.1, g.2.1⟩; exact ⟨by decide, by decide, rwL_1 (LR.of (by omega))⟩)
theorem step_rubble {E E2 : Nat × (Nat → Int32)} {m : Mem} {v : (Int → Int) → Int} {B : Int} (h : Rel v B m) (hB : B ≤ 1000000000) : K_X11_rubble E [.ref 0] m (fun z m1 => K_X12_rubble E2 [.ref 169] m1 (fun z' m2 => z' = z ∧ Rel v B m2)) := by
  have w := h.2.2.2
  refine (ct_rubble h.1 w.town w.set w.loads).mono (fun o m1 hz => ?_)
  obtain ⟨z, rfl, hz⟩ := hz
  refine ⟨z, rfl, ?_⟩
  have hi : HighEq m m1 := hz.2.2.2.2.2.2.2.2
  refine (mt_rubble (a := m) hi w.town w.set w.loads).mono (fun o m2 hy => ?_)
  obtain ⟨y, rfl, hy⟩ := hy
  refine ⟨y, rfl, ?_⟩
  exact h.q1 hz hy (by
      unfold rubN rubL
      split
      · exact ⟨by decide, by decide, rwL_rng (fun x hx => by cases hx)⟩
      · have g1 := rubF_rng (a := m) (m 169 3).toNat 0 (by decide)
        have t := w.tn
        have g2 := loN_rng (s := rubS m) w.town w.set w.loads (wL m) (by have := w.loads.1; unfold wL; omega)
        have g1 : -1 ≤ rubS m ∧ rubS m < 0 + ((m 169 3).toNat : Int) := g1
        exact ⟨by decide, by decide, rwL_rng (fun x hx => by
          rcases List.mem_cons.1 hx with e | e
          · rw [e]; exact LR.of (by omega)
          · rcases List.mem_cons.1 e with e | e
            · rw [e]; exact LR.of (by decide)
            · rcases List.mem_cons.1 e with e | e
              · rw [e]; exact LR.of (by decide)
              · rw [List.mem_singleton] at e; rw [e]; exact LR.of (by omega))⟩)
theorem step_whose {E E2 : Nat × (Nat → Int32)} {m : Mem} {v : (Int → Int) → Int} {B : Int} (h : Rel v B m) (hB : B ≤ 1000000000) : K_X11_whose E [.ref 0] m (fun z m1 => K_X12_whose E2 [.ref 169] m1 (fun z' m2 => z' = z ∧ Rel v B m2)) := by
  have w := h.2.2.2
  refine (ct_whose h.1 w.town w.set w.loads).mono (fun o m1 hz => ?_)
  obtain ⟨z, rfl, hz⟩ := hz
  refine ⟨z, rfl, ?_⟩
  have hi : HighEq m m1 := hz.2.2.2.2.2.2.2.2
  refine (mt_whose (a := m) hi w.town w.set w.loads).mono (fun o m2 hy => ?_)
  obtain ⟨y, rfl, hy⟩ := hy
  refine ⟨y, rfl, ?_⟩
  exact h.q1 hz hy ⟨by decide, by decide, rwL_1 (by split; exact LR.of (by decide); exact LR.of (by decide))⟩
theorem step_busiest {E E2 : Nat × (Nat → Int32)} {m : Mem} {v : (Int → Int) → Int} {B : Int} (h : Rel v B m) (hB : B ≤ 1000000000) : K_X11_busiest E [.ref 0] m (fun z m1 => K_X12_busiest E2 [.ref 169] m1 (fun z' m2 => z' = z ∧ Rel v B m2)) := by
  have w := h.2.2.2
  refine (ct_busiest (v := v) h.1 h.2.1 w.town w.set w.now).mono (fun o m1 hz => ?_)
  obtain ⟨z, rfl, hz⟩ := hz
  refine ⟨z, rfl, ?_⟩
  have hi : HighEq m m1 := hz.2.2.2.2.2.2.2.2
  refine (mt_busiest (v := v) (a := m) hi h.2.2.1 w.town w.set w.now).mono (fun o m2 hy => ?_)
  obtain ⟨y, rfl, hy⟩ := hy
  refine ⟨y, rfl, ?_⟩
  exact h.q1 hz hy (by have t := w.tn; have g := fun d => dayS_rng (v := v) (d := d) w.town w.set w.now (n := (m 169 3).toNat) (by omega); exact ⟨by decide, by decide, rwL_2 (LR.of (by have := g (busyG (dayF m v) 6); show -4000000000 ≤ dayS m v _ _ ∧ dayS m v _ _ ≤ 4000000000; omega)) (LR.of (by have := g (idleG (dayF m v) 6); show -4000000000 ≤ dayS m v _ _ ∧ dayS m v _ _ ≤ 4000000000; omega))⟩)
theorem step_holiday {E E2 : Nat × (Nat → Int32)} {m : Mem} {v : (Int → Int) → Int} {B : Int} {d n : Int} (rd : RI d) (rn : RI n) (h : Rel v B m) (hB : B ≤ 1000000000) : K_X11_holiday E [.ref 0, vi d, vi n] m (fun z m1 => K_X12_holiday E2 [.ref 169, vi d, vi n] m1 (fun z' m2 => z' = z ∧ Rel v B m2)) := by
  have w := h.2.2.2
  refine (ct_holiday (v := v) rd rn h.1 h.2.1 w.town w.set w.now).mono (fun o m1 hz => ?_)
  obtain ⟨z, rfl, hz⟩ := hz
  refine ⟨z, rfl, ?_⟩
  have hi : HighEq m m1 := by
    rcases hz with ⟨-, -, -, -, q⟩ | ⟨-, -, -, -, q⟩ | ⟨-, -, -, q⟩ | ⟨-, -, q⟩
    · exact q.2.2.2.2.2.2.2
    · exact q.2.2.2.2.2.2.2
    · exact q.2.2.2.2.2.2.2
    · exact q.2.2.2.2.2.2.2
  refine (mt_holiday (v := v) (a := m) rd rn hi h.2.2.1 w.town w.set w.now).mono (fun o m2 hy => ?_)
  obtain ⟨y, rfl, hy⟩ := hy
  refine ⟨y, rfl, ?_⟩
  rcases hz with ⟨p1, p2, p3, ez, cq⟩ | ⟨p1, p2, p3, ez, cq⟩ | ⟨p1, p2, ez, cq⟩ | ⟨p1, ez, cq⟩
  · rcases hy with ⟨q1, q2, q3, ey, pq, lw⟩ | ⟨q1, q2, q3, ey, pq, lw⟩ | ⟨q1, q2, ey, pq, lw⟩ | ⟨q1, ey, pq, lw⟩
    · have l6 := hol_len (a := m) (d := d) w.town
      have g := hol_rng (a := m) (v := v) (d := d) (n := n) p1.1.1
      exact ⟨by rw [ez, ey], h.query cq pq lw (by omega) (by omega) (fun j _ _ => rwL_rng (l := (holR m v d n).2.2) (fun x hx => LR.of (by have := g x hx; have := p1.1; omega)) j)⟩
    · exact absurd p3 q3
    · exact absurd q2 p2
    · exact absurd p1 q1
  · rcases hy with ⟨q1, q2, q3, ey, pq, lw⟩ | ⟨q1, q2, q3, ey, pq, lw⟩ | ⟨q1, q2, ey, pq, lw⟩ | ⟨q1, ey, pq, lw⟩
    · exact absurd q3 p3
    · exact ⟨by rw [ez, ey], h.queryS cq pq lw⟩
    · exact absurd q2 p2
    · exact absurd p1 q1
  · rcases hy with ⟨q1, q2, q3, ey, pq, lw⟩ | ⟨q1, q2, q3, ey, pq, lw⟩ | ⟨q1, q2, ey, pq, lw⟩ | ⟨q1, ey, pq, lw⟩
    · exact absurd p2 q2
    · exact absurd p2 q2
    · exact ⟨by rw [ez, ey], h.query cq pq lw (by decide) (by decide) (fun j _ _ => rwL_rng (fun x hx => by cases hx) j)⟩
    · exact absurd p1 q1
  · rcases hy with ⟨q1, q2, q3, ey, pq, lw⟩ | ⟨q1, q2, q3, ey, pq, lw⟩ | ⟨q1, q2, ey, pq, lw⟩ | ⟨q1, ey, pq, lw⟩
    · exact absurd q1 p1
    · exact absurd q1 p1
    · exact absurd q1 p1
    · exact ⟨by rw [ez, ey], h.queryS cq pq lw⟩
theorem step_care {E E2 : Nat × (Nat → Int32)} {m : Mem} {v : (Int → Int) → Int} {B : Int} {s x : Int} (rs : RI s) (rx : RI x) (h : Rel v B m) (hB : B ≤ 1000000000) : K_X11_care E [.ref 0, vi s, vi x] m (fun z m1 => K_X12_care E2 [.ref 169, vi s, vi x] m1 (fun z' m2 => z' = z ∧ Rel v B m2)) := by
  have w := h.2.2.2
  refine (ct_care rs rx h.1 w.town).mono (fun o m1 hz => ?_)
  obtain ⟨z, rfl, hz⟩ := hz
  refine ⟨z, rfl, ?_⟩
  have hz : (((0 ≤ s ∧ s < m 169 3) ∧ 0 ≤ x ∧ x ≤ 100) ∧ z = careG (rightN m s) x 10 0 ∧ m1 = m) ∨ (¬ ((0 ≤ s ∧ s < m 169 3) ∧ 0 ≤ x ∧ x ≤ 100) ∧ z = -1 ∧ m1 = m) := hz
  have em : m1 = m := by
    rcases hz with ⟨-, -, q⟩ | ⟨-, -, q⟩
    · exact q
    · exact q
  subst em
  refine (mt_care (a := m1) (B := B) rs rx HighEq.rf w.town w.now).mono (fun o m2 hy => ?_)
  obtain ⟨y, rfl, hy⟩ := hy
  refine ⟨y, rfl, ?_⟩
  rcases hz with ⟨p, ez, -⟩ | ⟨p, ez, -⟩
  · rcases hy with ⟨-, ey, pq, lw⟩ | ⟨p', -, -, -⟩
    · exact ⟨by rw [ez, ey], h.queryS (CQ.stay h.1) pq lw⟩
    · exact absurd p p'
  · rcases hy with ⟨p', -, -, -⟩ | ⟨-, ey, pq, lw⟩
    · exact absurd p' p
    · exact ⟨by rw [ez, ey], h.queryS (CQ.stay h.1) pq lw⟩
