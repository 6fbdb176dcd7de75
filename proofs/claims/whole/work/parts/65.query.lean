/-! questions: the row alone is told anew -/
def rowU (a : Mem) (n : Int) (f : Int → Int) : Mem := upr (up2 a 169 1 n) 170 f
theorem rowU_k {a : Mem} {n : Int} {f : Int → Int} {k : Nat} (h : k ≠ 169) (h2 : k ≠ 170) : rowU a n f k = a k := by unfold rowU; rw [upr_k h2, up2_k h]
theorem rowU_f {a : Mem} {n j : Int} {f : Int → Int} (h : j ≠ 1) : rowU a n f 169 j = a 169 j := by unfold rowU; rw [upr_k (by decide), up2_j h]
theorem rowU_1 {a : Mem} {n : Int} {f : Int → Int} : rowU a n f 169 1 = n := by unfold rowU; rw [upr_k (by decide), up2_same]
theorem rowU_r {a : Mem} {n j : Int} {f : Int → Int} : rowU a n f 170 j = f j := by unfold rowU; exact upr_same _ _ _ _
def rwL (l : List Int) : Int → Int := fun j => l.getD j.toNat 0
theorem PR.hi {k : Nat} (h : PR k) : 169 ≤ k := by
  have h : (169 ≤ k ∧ k < 181) ∨ k = 182 ∨ k = 185 ∨ k = 190 ∨ k = 201 ∨ k = 202 ∨ (205 ≤ k ∧ k < 208) := h
  omega
theorem PEq.row {a a' : Mem} {n : Int} {f : Int → Int} (hr : ∀ k, PR k → k ≠ 169 → k ≠ 170 → a' k = a k) (hf : ∀ j, PF j → j ≠ 1 → a' 169 j = a 169 j) (h1 : a' 169 1 = n) (h170 : ∀ j : Int, 0 ≤ j → j < n → a' 170 j = f j) : PEq a' (rowU a n f) := by
  have hr : ∀ k, ((169 ≤ k ∧ k < 181) ∨ k = 182 ∨ k = 185 ∨ k = 190 ∨ k = 201 ∨ k = 202 ∨ (205 ≤ k ∧ k < 208)) → k ≠ 169 → k ≠ 170 → a' k = a k := hr
  have hf : ∀ j : Int, (j = 1 ∨ j = 3 ∨ j = 4 ∨ j = 17 ∨ j = 26 ∨ j = 40 ∨ j = 62) → j ≠ 1 → a' 169 j = a 169 j := hf
  refine ⟨⟨h1.trans rowU_1.symm, (hf 3 (by omega) (by decide)).trans (rowU_f (by decide)).symm, (hf 4 (by omega) (by decide)).trans (rowU_f (by decide)).symm, (hf 17 (by omega) (by decide)).trans (rowU_f (by decide)).symm, (hf 26 (by omega) (by decide)).trans (rowU_f (by decide)).symm, (hf 40 (by omega) (by decide)).trans (rowU_f (by decide)).symm, (hf 62 (by omega) (by decide)).trans (rowU_f (by decide)).symm⟩, fun j _ _ => ?_, fun j _ _ => ?_, fun j _ _ => ?_, fun j _ _ => ?_, fun j j0 j1 => ?_, fun j _ _ => ?_, fun j _ _ => ?_, fun j _ _ => ?_, fun j _ _ => ?_, fun j _ _ => ?_, fun j _ _ => ?_⟩
  · rw [hr 171 (by omega) (by omega) (by omega), hr 172 (by omega) (by omega) (by omega), hr 173 (by omega) (by omega) (by omega), hr 174 (by omega) (by omega) (by omega), hr 175 (by omega) (by omega) (by omega), hr 176 (by omega) (by omega) (by omega), hr 177 (by omega) (by omega) (by omega), rowU_k (by omega) (by omega), rowU_k (by omega) (by omega), rowU_k (by omega) (by omega), rowU_k (by omega) (by omega), rowU_k (by omega) (by omega), rowU_k (by omega) (by omega), rowU_k (by omega) (by omega)]
    exact ⟨rfl, rfl, rfl, rfl, rfl, rfl, rfl⟩
  · rw [hr 178 (by omega) (by omega) (by omega), rowU_k (by omega) (by omega)]
  · rw [hr 179 (by omega) (by omega) (by omega), rowU_k (by omega) (by omega)]
  · rw [hr 180 (by omega) (by omega) (by omega), rowU_k (by omega) (by omega)]
  · rw [rowU_1] at j1
    rw [rowU_r]
    exact h170 j j0 j1
  · rw [hr 182 (by omega) (by omega) (by omega), rowU_k (by omega) (by omega)]
  · rw [hr 185 (by omega) (by omega) (by omega), rowU_k (by omega) (by omega)]
  · rw [hr 190 (by omega) (by omega) (by omega), rowU_k (by omega) (by omega)]
  · rw [hr 201 (by omega) (by omega) (by omega), hr 202 (by omega) (by omega) (by omega), rowU_k (by omega) (by omega), rowU_k (by omega) (by omega)]
    exact ⟨rfl, rfl⟩
  · rw [hr 205 (by omega) (by omega) (by omega), hr 206 (by omega) (by omega) (by omega), rowU_k (by omega) (by omega), rowU_k (by omega) (by omega)]
    exact ⟨rfl, rfl⟩
  · rw [hr 207 (by omega) (by omega) (by omega), rowU_k (by omega) (by omega)]
/-- nothing told: the row is as it was -/
theorem PEq.stay {a a' : Mem} (h : PEq a' a) : PEq a' (rowU a (a 169 1) (a 170)) := h.trans (PEq.of (fun k _ h => by
    unfold rowU
    by_cases c : k = 170
    · subst c; funext j; exact (upr_same _ _ _ _).symm
    · rw [upr_k c, up2_k h]) (fun j _ => by
    by_cases c : j = 1
    · subst c; rw [rowU_1]
    · rw [rowU_f c]))
def CQ (c c' : Mem) (n : Int) (f : Int → Int) : Prop := c' 0 14 = n ∧ (∀ j : Int, 0 ≤ j → j < n → c' 168 j = f j) ∧ (∀ k, Told k → k ≠ 168 → c' k = c k) ∧ c' 93 4 = c 93 4 ∧ (∀ x : Int, x ≠ 5 → c' 5 x = c 5 x) ∧ c' 6 = c 6 ∧ c' 7 = c 7 ∧ HighEq c c'
theorem Told.ne {k : Nat} (h : Told k) : k < 169 ∧ k ≠ 0 ∧ k ≠ 5 ∧ k ≠ 6 ∧ k ≠ 7 ∧ k ≠ 8 ∧ k ≠ 29 ∧ k ≠ 30 ∧ k ≠ 31 ∧ k ≠ 32 ∧ k ≠ 93 ∧ (k < 96 ∨ 153 < k) ∧ k ≠ 167 := by
  have h : (k ≠ 0 ∧ k < 5) ∨ (9 ≤ k ∧ k < 29) ∨ (33 ≤ k ∧ k < 93) ∨ k = 94 ∨ k = 95 ∨ (154 ≤ k ∧ k < 167) ∨ k = 168 := h
  omega
theorem CQ.rel {c c' a : Mem} {n : Int} {f : Int → Int} (h : CR0 c a) (q : CQ c c' n f) : CR0 c' (rowU a n f) := by
  obtain ⟨q1, q2, q3, q4, q5, q6, q7, q8⟩ := q
  have e : ∀ k, ((k ≠ 0 ∧ k < 5) ∨ (9 ≤ k ∧ k < 29) ∨ (33 ≤ k ∧ k < 93) ∨ k = 94 ∨ k = 95 ∨ (154 ≤ k ∧ k < 167) ∨ k = 168) → k ≠ 168 → c' k = c k := q3
  have r : ∀ k, k ≠ 169 → k ≠ 170 → rowU a n f k = a k := fun k h1 h2 => rowU_k h1 h2
  have r9 : ∀ j : Int, j ≠ 1 → rowU a n f 169 j = a 169 j := fun j hj => rowU_f hj
  refine ⟨?_, ?_, ?_, ?_, ?_, ?_, ?_, ?_⟩
  · have g := h.town.fr (e 9 (by omega) (by omega)) (fun s hs => ⟨e _ (by omega) (by omega), e _ (by omega) (by omega)⟩)
    unfold CTown
    rw [r9 3 (by decide), r 171 (by decide) (by decide), r 172 (by decide) (by decide), r 173 (by decide) (by decide), r 174 (by decide) (by decide), r 175 (by decide) (by decide), r 176 (by decide) (by decide), r 177 (by decide) (by decide), r 178 (by decide) (by decide)]
    exact g
  · have g := h.set.fr (e 4 (by omega) (by omega))
    unfold CSet
    rw [r 179 (by decide) (by decide)]
    exact g
  · have g := h.text.fr (e 1 (by omega) (by omega)) (e 2 (by omega) (by omega))
    unfold CText
    rw [r9 17 (by decide), r 182 (by decide) (by decide)]
    exact g
  · rw [r 180 (by decide) (by decide)]
    exact h.now.congr (e _ (by omega) (by omega)) (e _ (by omega) (by omega)) (e _ (by omega) (by omega)) (e _ (by omega) (by omega))
  · have g := h.hist.fr (c' := c') (by rw [e 27 (by omega) (by omega)]) (e 28 (by omega) (by omega)) (fun k _ _ => e k (by omega) (by omega))
    unfold CHist
    rw [r9 40 (by decide), r 190 (by decide) (by decide)]
    exact g
  · have g := h.loads.fr q4 (e 94 (by omega) (by omega)) (e 95 (by omega) (by omega))
    unfold CLoads
    rw [r9 62 (by decide), r 201 (by decide) (by decide), r 202 (by decide) (by decide)]
    exact g
  · have g := h.kept.fr (e 166 (by omega) (by omega)) (fun k _ _ => e k (by omega) (by omega))
    unfold CKept
    rw [r9 3 (by decide), r9 4 (by decide), r 205 (by decide) (by decide), r 206 (by decide) (by decide), r 207 (by decide) (by decide)]
    exact g
  · unfold CRow
    rw [rowU_1]
    exact ⟨q1, fun j j0 j1 => by rw [rowU_r]; exact q2 j j0 j1⟩
theorem CQ.rule {c c' : Mem} {n : Int} {f : Int → Int} {v : (Int → Int) → Int} (q : CQ c c' n f) (h : RuleC c v) : RuleC c' v := h.fr q.2.2.2.2.1 q.2.2.2.2.2.1 q.2.2.2.2.2.2.1
theorem CQ.stay {c a : Mem} (h : CR0 c a) : CQ c c (a 169 1) (a 170) := ⟨h.row.1, h.row.2, fun _ _ _ => rfl, rfl, fun _ _ => rfl, rfl, rfl, fun _ _ => rfl⟩
theorem CQ.job {c m c' : Mem} {n : Int} {f : Int → Int} {o : Nat} (jr : 99 < o ∧ o + 5 < 147) (j : JobFr o c m) (q : CQ m c' n f) : CQ c c' n f := by
  obtain ⟨q1, q2, q3, q4, q5, q6, q7, q8⟩ := q
  refine ⟨q1, q2, fun k hk h8 => (q3 k hk h8).trans (j.1 k (by have := hk.ne; omega) (by have := hk.ne; omega) (by have := hk.ne; omega)), q4.trans (by rw [j.1 93 (by omega) (by omega) (by omega)]), fun x hx => (q5 x hx).trans (j.2 x hx), q6.trans (j.1 6 (by omega) (by omega) (by omega)), q7.trans (j.1 7 (by omega) (by omega) (by omega)), fun k hk => (q8 k hk).trans (j.1 k (by omega) (by omega) (by omega))⟩
/-- a job thinks, the row stays -/
theorem CQ.jobS {c m a : Mem} {o : Nat} (jr : 99 < o ∧ o + 5 < 147) (h : CR0 c a) (j : JobFr o c m) : CQ c m (a 169 1) (a 170) := by
  refine CQ.job jr j ⟨?_, fun x x0 x1 => ?_, fun _ _ _ => rfl, rfl, fun _ _ => rfl, rfl, rfl, fun _ _ => rfl⟩
  · rw [j.1 0 (by omega) (by omega) (by omega)]; exact h.row.1
  · rw [j.1 168 (by omega) (by omega) (by omega)]; exact h.row.2 x x0 x1
theorem CQ.of2 {c c' : Mem} {n : Int} {f : Int → Int} (e : ∀ k, k ≠ 0 → k ≠ 168 → c' k = c k) (h1 : c' 0 14 = n) (h2 : ∀ j : Int, 0 ≤ j → j < n → c' 168 j = f j) : CQ c c' n f :=
  ⟨h1, h2, fun k hk h8 => e k (by have := hk.ne; omega) h8, by rw [e 93 (by decide) (by decide)], fun x _ => by rw [e 5 (by decide) (by decide)], e 6 (by decide) (by decide), e 7 (by decide) (by decide), fun k hk => e k (by omega) (by omega)⟩
theorem CQ.one {c : Mem} {x : Int} : CQ c (up2 (up2 (up2 c 0 14 0) 168 0 x) 0 14 1) 1 (rwL [x]) := by
  refine CQ.of2 (fun k h0 h8 => by rw [up2_k h0, up2_k h8, up2_k h0]) (up2_same _ _ _ _) (fun j j0 j1 => ?_)
  have : j = 0 := by omega
  subst this
  rw [up2_k (by decide), up2_same]
  rfl
theorem CQ.two {c : Mem} {x y : Int} : CQ c (up2 (up2 (up2 (up2 (up2 c 0 14 0) 168 0 x) 0 14 1) 168 1 y) 0 14 2) 2 (rwL [x, y]) := by
  refine CQ.of2 (fun k h0 h8 => by rw [up2_k h0, up2_k h8, up2_k h0, up2_k h8, up2_k h0]) (up2_same _ _ _ _) (fun j j0 j1 => ?_)
  have : j = 0 ∨ j = 1 := by omega
  rcases this with rfl | rfl
  · rw [up2_k (by decide), up2_j (by decide), up2_k (by decide), up2_same]; rfl
  · rw [up2_k (by decide), up2_same]; rfl
theorem CQ.three {c : Mem} {x y z : Int} : CQ c (up2 (up2 (up2 (up2 (up2 (up2 (up2 c 0 14 0) 168 0 x) 0 14 1) 168 1 y) 0 14 2) 168 2 z) 0 14 3) 3 (rwL [x, y, z]) := by
  refine CQ.of2 (fun k h0 h8 => by rw [up2_k h0, up2_k h8, up2_k h0, up2_k h8, up2_k h0, up2_k h8, up2_k h0]) (up2_same _ _ _ _) (fun j j0 j1 => ?_)
  have : j = 0 ∨ j = 1 ∨ j = 2 := by omega
  rcases this with rfl | rfl | rfl
  · rw [up2_k (by decide), up2_j (by decide), up2_k (by decide), up2_j (by decide), up2_k (by decide), up2_same]; rfl
  · rw [up2_k (by decide), up2_j (by decide), up2_k (by decide), up2_same]; rfl
  · rw [up2_k (by decide), up2_same]; rfl
/-- what the reference writes into its row -/
theorem PEq.rowC {a b : Mem} (h : PEq a b) {n : Int} {f : Int → Int} : PEq (rowU a n f) (rowU b n f) := by
  obtain ⟨⟨e1, e3, e4, e17, e26, e40, e62⟩, a8, a9, a10, a11, a12, a13, a14, a15, a16, a17, a18⟩ := h
  have r : ∀ (m : Mem) k, k ≠ 169 → k ≠ 170 → rowU m n f k = m k := fun m k h1 h2 => rowU_k h1 h2
  have f3 : ∀ m : Mem, rowU m n f 169 3 = m 169 3 := fun m => rowU_f (by decide)
  have f4 : ∀ m : Mem, rowU m n f 169 4 = m 169 4 := fun m => rowU_f (by decide)
  have f17 : ∀ m : Mem, rowU m n f 169 17 = m 169 17 := fun m => rowU_f (by decide)
  have f26 : ∀ m : Mem, rowU m n f 169 26 = m 169 26 := fun m => rowU_f (by decide)
  have f40 : ∀ m : Mem, rowU m n f 169 40 = m 169 40 := fun m => rowU_f (by decide)
  have f62 : ∀ m : Mem, rowU m n f 169 62 = m 169 62 := fun m => rowU_f (by decide)
  unfold PEq
  simp only [rowU_1, rowU_r, f3, f4, f17, f26, f40, f62]
  rw [r a 171 (by decide) (by decide), r a 172 (by decide) (by decide), r a 173 (by decide) (by decide), r a 174 (by decide) (by decide), r a 175 (by decide) (by decide), r a 176 (by decide) (by decide), r a 177 (by decide) (by decide), r a 178 (by decide) (by decide), r a 179 (by decide) (by decide), r a 180 (by decide) (by decide), r a 182 (by decide) (by decide), r a 185 (by decide) (by decide), r a 190 (by decide) (by decide), r a 201 (by decide) (by decide), r a 202 (by decide) (by decide), r a 205 (by decide) (by decide), r a 206 (by decide) (by decide), r a 207 (by decide) (by decide), r b 171 (by decide) (by decide), r b 172 (by decide) (by decide), r b 173 (by decide) (by decide), r b 174 (by decide) (by decide), r b 175 (by decide) (by decide), r b 176 (by decide) (by decide), r b 177 (by decide) (by decide), r b 178 (by decide) (by decide), r b 179 (by decide) (by decide), r b 180 (by decide) (by decide), r b 182 (by decide) (by decide), r b 185 (by decide) (by decide), r b 190 (by decide) (by decide), r b 201 (by decide) (by decide), r b 202 (by decide) (by decide), r b 205 (by decide) (by decide), r b 206 (by decide) (by decide), r b 207 (by decide) (by decide)]
  exact ⟨⟨trivial, e3, e4, e17, e26, e40, e62⟩, a8, a9, a10, a11, fun _ _ _ => trivial, a13, a14, a15, a16, a17, a18⟩
theorem PEq.one {a a1 : Mem} {x : Int} (h : PEq a1 a) : PEq (up2 (up2 (up2 a1 169 1 0) 170 0 x) 169 1 1) (rowU a 1 (rwL [x])) := by
  refine (PEq.row (a := a1) (fun k _ h9 h0 => by rw [up2_k h9, up2_k h0, up2_k h9]) (fun j _ hj => by rw [up2_j hj, up2_k (by decide), up2_j hj]) (up2_same _ _ _ _) (fun j j0 j1 => ?_)).trans h.rowC
  have : j = 0 := by omega
  subst this
  rw [up2_k (by decide), up2_same]
  rfl
theorem PEq.two {a a1 : Mem} {x y : Int} (h : PEq a1 a) : PEq (up2 (up2 (up2 (up2 (up2 a1 169 1 0) 170 0 x) 169 1 1) 170 1 y) 169 1 2) (rowU a 2 (rwL [x, y])) := by
  refine (PEq.row (a := a1) (fun k _ h9 h0 => by rw [up2_k h9, up2_k h0, up2_k h9, up2_k h0, up2_k h9]) (fun j _ hj => by rw [up2_j hj, up2_k (by decide), up2_j hj, up2_k (by decide), up2_j hj]) (up2_same _ _ _ _) (fun j j0 j1 => ?_)).trans h.rowC
  have : j = 0 ∨ j = 1 := by omega
  rcases this with rfl | rfl
  · rw [up2_k (by decide), up2_j (by decide), up2_k (by decide), up2_same]; rfl
  · rw [up2_k (by decide), up2_same]; rfl
/-- the whole of it -/
def Rel (v : (Int → Int) → Int) (B : Int) (m : Mem) : Prop := CR0 m m ∧ RuleC m v ∧ RuleM m v ∧ W0 B m
theorem W0.rowC {B : Int} {a : Mem} {n : Int} {f : Int → Int} (h : W0 B a) (n0 : 0 ≤ n) (n6 : n ≤ 6) (hf : ∀ j : Int, 0 ≤ j → j < n → -9223372036854775808 ≤ f j ∧ f j < 9223372036854775808) : W0 B (rowU a n f) := by
  have r : ∀ k, k ≠ 169 → k ≠ 170 → rowU a n f k = a k := fun k h1 h2 => rowU_k h1 h2
  have r9 : ∀ j : Int, j ≠ 1 → rowU a n f 169 j = a 169 j := fun j hj => rowU_f hj
  have so : ∀ r : Int → Int, StOK B a r → StOK B (rowU a n f) r := fun r h => h.congr (fun _ _ _ => rfl) (fun b _ _ => by rw [rowU_k (by decide) (by decide)])
  refine ⟨?_, ?_, ?_, ?_, ?_, ?_, ?_, ?_⟩
  · exact h.town.of (r9 3 (by decide)) (fun k k0 k1 => r k (by omega) (by omega))
  · exact h.set.of (r 179 (by decide) (by decide))
  · unfold WText; rw [r9 17 (by decide), r 182 (by decide) (by decide)]; exact h.text
  · rw [r 180 (by decide) (by decide)]; exact so _ h.now
  · unfold WHist; rw [r9 40 (by decide), r 190 (by decide) (by decide)]; exact ⟨h.hist.1, h.hist.2.1, fun i i0 i1 => so _ (h.hist.2.2 i i0 i1)⟩
  · unfold WLoads; rw [r9 62 (by decide), r9 3 (by decide), r 201 (by decide) (by decide), r 202 (by decide) (by decide)]; exact h.loads
  · unfold WKept; rw [r9 4 (by decide), r 205 (by decide) (by decide), r 206 (by decide) (by decide), r 207 (by decide) (by decide)]
    refine ⟨h.kept.1, h.kept.2.1, fun i i0 i1 => ?_⟩
    rcases h.kept.2.2 i i0 i1 with g | ⟨g1, g2, g3, g4⟩
    · exact Or.inl g
    · exact Or.inr ⟨g1, g2, g3, so _ g4⟩
  · unfold WRow; rw [rowU_1]; exact ⟨n0, n6, fun j j0 j1 => by rw [rowU_r]; exact hf j j0 j1⟩
/-- the class' side read off another memory of which the reference's rows are the same -/
theorem CR0.lo {c m a : Mem} (h : CR0 c a) (l : LowEq c m) : CR0 m a := h.fr (fun k hk => l k hk.ne.1) (by rw [l 0 (by decide)]) (by rw [l 93 (by decide)])
theorem RuleC.lo {c m : Mem} {v : (Int → Int) → Int} (h : RuleC c v) (l : LowEq c m) : RuleC m v := h.fr (fun x _ => by rw [l 5 (by decide)]) (l 6 (by decide)) (l 7 (by decide))
theorem HighEq.peq {m m1 : Mem} (h : HighEq m m1) : PEq m1 m := PEq.of (fun k hk _ => h k hk.hi) (fun j _ => by rw [h 169 (by decide)])
theorem Rel.query {v : (Int → Int) → Int} {B : Int} {m m1 m2 : Mem} {n : Int} {f : Int → Int} (h : Rel v B m) (q : CQ m m1 n f) (p : PEq m2 (rowU m1 n f)) (l : LowEq m1 m2) (n0 : 0 ≤ n) (n6 : n ≤ 6) (hf : ∀ j : Int, 0 ≤ j → j < n → -9223372036854775808 ≤ f j ∧ f j < 9223372036854775808) : Rel v B m2 := by
  obtain ⟨h1, h2, h3, h4⟩ := h
  have e := q.2.2.2.2.2.2.2.peq
  have p2 : PEq m2 (rowU m n f) := p.trans e.rowC
  have w := h4.rowC n0 n6 hf
  refine ⟨((q.rel h1).peq p2 w.town).lo l, (q.rule h2).lo l, ?_, w.peq p2⟩
  have : RuleM (rowU m n f) v := h3.of (rowU_f (by decide)) (rowU_k (by decide) (by decide))
  exact this.peq p2
/-- the row may stay -/
theorem Rel.queryS {v : (Int → Int) → Int} {B : Int} {m m1 m2 : Mem} (h : Rel v B m) (q : CQ m m1 (m 169 1) (m 170)) (p : PEq m2 m1) (l : LowEq m1 m2) : Rel v B m2 := by
  have w := h.2.2.2.row
  have e := q.2.2.2.2.2.2.2
  refine h.query q ?_ l w.1 w.2.1 w.2.2
  have := p.stay
  rw [e 169 (by decide), e 170 (by decide)] at this
  exact this
theorem Rel.mono {v : (Int → Int) → Int} {B B2 : Int} {m : Mem} (h : Rel v B m) (hB : B ≤ B2) : Rel v B2 m := ⟨h.1, h.2.1, h.2.2.1, h.2.2.2.mono hB⟩
