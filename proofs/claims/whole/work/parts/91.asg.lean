/-! holiday: all ways, in the order of their rows -/
def asgD (n : Int) (rest : (Int → Int) → List (List Int)) (t : Int) (ld : Int → Int) : Nat → Int → List (List Int)
  | 0, _ => []
  | k + 1, d => (if ld d + t ≤ n then (rest (pt ld d (ld d + t))).map (fun q => d :: q) else []) ++ asgD n rest t ld k (d + 1)
def asg (n lo : Int) (k : Nat) : List Int → (Int → Int) → List (List Int)
  | [], _ => [[]]
  | t :: ts, ld => asgD n (asg n lo k ts) t ld k lo
theorem mem_asgD {n t : Int} {rest : (Int → Int) → List (List Int)} {ld : Int → Int} {q : List Int} : ∀ (k : Nat) (d : Int), q ∈ asgD n rest t ld k d → ∃ x r, q = x :: r ∧ d ≤ x ∧ x < d + k ∧ r ∈ rest (pt ld x (ld x + t))
  | 0, d, h => by cases h
  | k + 1, d, h => by
    rw [asgD, List.mem_append] at h
    rcases h with h | h
    · by_cases c : ld d + t ≤ n
      · rw [if_pos c, List.mem_map] at h
        obtain ⟨r, hr, rfl⟩ := h
        exact ⟨d, r, rfl, Int.le_refl _, by omega, hr⟩
      · rw [if_neg c] at h; cases h
    · obtain ⟨x, r, e, h1, h2, h3⟩ := mem_asgD k (d + 1) h
      exact ⟨x, r, e, by omega, by omega, h3⟩
theorem mem_asg {n lo : Int} {k : Nat} : ∀ (secs : List Int) (ld : Int → Int) (q : List Int), q ∈ asg n lo k secs ld → q.length = secs.length ∧ ∀ x ∈ q, lo ≤ x ∧ x < lo + k
  | [], ld, q, h => by
    rw [asg, List.mem_singleton] at h
    subst h
    exact ⟨rfl, fun x hx => by cases hx⟩
  | t :: ts, ld, q, h => by
    rw [asg] at h
    obtain ⟨x, r, e, h1, h2, h3⟩ := mem_asgD k lo h
    obtain ⟨g1, g2⟩ := mem_asg ts _ r h3
    subst e
    refine ⟨by rw [List.length_cons, List.length_cons, g1], fun y hy => ?_⟩
    rcases List.mem_cons.1 hy with e | hy
    · subst e; exact ⟨h1, h2⟩
    · exact g2 y hy
def sumL : List Int → Int
  | [] => 0
  | x :: q => x + sumL q
theorem sumL_ge {lo hi : Int} : ∀ q : List Int, (∀ x ∈ q, lo ≤ x ∧ x ≤ hi) → (q.length : Int) * lo ≤ sumL q ∧ sumL q ≤ (q.length : Int) * hi
  | [], _ => by simp [sumL]
  | x :: q, h => by
    have ih := sumL_ge q (fun y hy => h y (List.mem_cons_of_mem _ hy))
    have hx := h x List.mem_cons_self
    rw [sumL, List.length_cons]
    have e1 : ((q.length + 1 : Nat) : Int) * lo = (q.length : Int) * lo + lo := by rw [Int.natCast_add, Int.add_mul]; simp
    have e2 : ((q.length + 1 : Nat) : Int) * hi = (q.length : Int) * hi + hi := by rw [Int.natCast_add, Int.add_mul]; simp
    omega
/-- fewer days: those ways alone that keep to them -/
theorem asgD_filter {n t B : Int} {rest rest' : (Int → Int) → List (List Int)} {ld : Int → Int} (hr : ∀ ld, rest' ld = (rest ld).filter (fun q => q.all (fun x => decide (x < B)))) : ∀ (k k' : Nat) (d : Int), k' ≤ k → B = d + k' → asgD n rest' t ld k' d = (asgD n rest t ld k d).filter (fun q => q.all (fun x => decide (x < B)))
  | k, 0, d, _, hB => by
    rw [asgD]
    symm
    rw [List.filter_eq_nil_iff]
    intro q hq
    obtain ⟨x, r, e, h1, -, -⟩ := mem_asgD k d hq
    subst e
    rw [List.all_cons, Bool.and_eq_true, decide_eq_true_eq]
    intro o
    omega
  | 0, k' + 1, d, h, _ => by omega
  | k + 1, k' + 1, d, h, hB => by
    rw [asgD, asgD, List.filter_append, asgD_filter hr k k' (d + 1) (by omega) (by omega)]
    congr 1
    by_cases c : ld d + t ≤ n
    · rw [if_pos c, if_pos c, hr, List.filter_map]
      congr 1
      refine List.filter_congr (fun q _ => ?_)
      have : decide (d < B) = true := by rw [decide_eq_true_eq]; omega
      simp [Function.comp, this]
    · rw [if_neg c, if_neg c]; rfl
theorem asg_filter {n lo B : Int} {k k' : Nat} (hk : k' ≤ k) (hB : B = lo + k') : ∀ (secs : List Int) (ld : Int → Int), asg n lo k' secs ld = (asg n lo k secs ld).filter (fun q => q.all (fun x => decide (x < B)))
  | [], ld => by rw [asg, asg]; rfl
  | t :: ts, ld => by
    rw [asg, asg]
    exact asgD_filter (fun ld => asg_filter hk hB ts ld) k k' lo hk hB
/-- the class' choice, and the reference's -/
def stC (p : List Int) (sum : Int) (st : Int × List Int) (q : List Int) : Int × List Int := if sum + sumL q < st.1 then (sum + sumL q, p ++ q) else st
def stR (p : List Int) (lat sum : Int) (st : Int × Int × List Int) (q : List Int) : Int × Int × List Int := if q.foldl max lat < st.1 ∨ (q.foldl max lat = st.1 ∧ sum + sumL q < st.2.1) then (q.foldl max lat, sum + sumL q, p ++ q) else st
theorem fold_mapC {p : List Int} {sum d : Int} : ∀ (l : List (List Int)) (st : Int × List Int), (l.map (fun q => d :: q)).foldl (stC p sum) st = l.foldl (stC (p ++ [d]) (sum + d)) st
  | [], st => rfl
  | q :: l, st => by
    rw [List.map_cons, List.foldl_cons, List.foldl_cons, fold_mapC l]
    congr 1
    unfold stC
    rw [sumL, show sum + (d + sumL q) = sum + d + sumL q by omega, List.append_assoc]
    rfl
theorem fold_mapR {p : List Int} {lat sum d : Int} : ∀ (l : List (List Int)) (st : Int × Int × List Int), (l.map (fun q => d :: q)).foldl (stR p lat sum) st = l.foldl (stR (p ++ [d]) (max lat d) (sum + d)) st
  | [], st => rfl
  | q :: l, st => by
    rw [List.map_cons, List.foldl_cons, List.foldl_cons, fold_mapR l]
    congr 1
    unfold stR
    rw [sumL, show sum + (d + sumL q) = sum + d + sumL q by omega, List.append_assoc, List.foldl_cons]
    rfl
theorem fold_id {A : Type} {f : A → List Int → A} {st : A} : ∀ l : List (List Int), (∀ q ∈ l, f st q = st) → l.foldl f st = st
  | [], _ => rfl
  | q :: l, h => by
    rw [List.foldl_cons, h q List.mem_cons_self]
    exact fold_id l (fun r hr => h r (List.mem_cons_of_mem _ hr))
theorem foldmax_ge : ∀ (q : List Int) (x : Int), x ≤ q.foldl max x
  | [], x => Int.le_refl _
  | y :: q, x => by
    rw [List.foldl_cons]
    have := foldmax_ge q (max x y)
    omega
theorem foldmax_lt {B : Int} : ∀ (q : List Int) (x : Int), q.foldl max x < B ↔ x < B ∧ ∀ y ∈ q, y < B
  | [], x => ⟨fun h => ⟨h, fun y hy => by cases hy⟩, fun h => h.1⟩
  | z :: q, x => by
    rw [List.foldl_cons, foldmax_lt q]
    constructor
    · rintro ⟨h1, h2⟩
      refine ⟨by omega, fun y hy => ?_⟩
      rcases List.mem_cons.1 hy with e | hy
      · omega
      · exact h2 y hy
    · rintro ⟨h1, h2⟩
      have := h2 z List.mem_cons_self
      exact ⟨by omega, fun y hy => h2 y (List.mem_cons_of_mem _ hy)⟩
/-- both choices, side by side -/
def InvH (R : Int × Int × List Int) (C : Int → Int × List Int) : Prop := R.1 ≤ 7 ∧ (∀ B : Int, 1 ≤ B → B ≤ 7 → (C B).1 ≤ 1000000 ∧ ((C B).1 = 1000000 ↔ B ≤ R.1)) ∧ (R.1 < 7 → 0 ≤ R.1 ∧ C (R.1 + 1) = (R.2.1, R.2.2))
theorem InvH.step {R : Int × Int × List Int} {C : Int → Int × List Int} {q : List Int} (h : InvH R C) (hq : ∀ x ∈ q, 1 ≤ x ∧ x ≤ 6) (hs : sumL q < 1000000) : InvH (stR [] 0 0 R q) (fun B => if q.all (fun x => decide (x < B)) = true then stC [] 0 (C B) q else C B) := by
  obtain ⟨h1, h2, h3⟩ := h
  have m0 := foldmax_ge q 0
  have m7 : q.foldl max 0 < 7 := (foldmax_lt q 0).2 ⟨by decide, fun y hy => by have := hq y hy; omega⟩
  have hall : ∀ B : Int, 1 ≤ B → (q.all (fun x => decide (x < B)) = true ↔ q.foldl max 0 < B) := fun B hB => by
    rw [foldmax_lt, List.all_eq_true]
    constructor
    · intro h
      exact ⟨by omega, fun y hy => by have := h y hy; rwa [decide_eq_true_eq] at this⟩
    · intro h x hx
      rw [decide_eq_true_eq]
      exact h.2 x hx
  generalize hm : q.foldl max 0 = M at *
  generalize hsm : sumL q = S at *
  by_cases c : M < R.1 ∨ (M = R.1 ∧ S < R.2.1)
  · have eR : stR [] 0 0 R q = (M, S, q) := by
      unfold stR
      rw [hm, hsm, Int.zero_add, if_pos c]
      rfl
    rw [eR]
    refine ⟨by show M ≤ 7; omega, fun B B1 B7 => ?_, fun _ => ⟨m0, ?_⟩⟩
    · obtain ⟨g1, g2⟩ := h2 B B1 B7
      show (if q.all _ = true then stC [] 0 (C B) q else C B).1 ≤ 1000000 ∧ ((if q.all _ = true then stC [] 0 (C B) q else C B).1 = 1000000 ↔ B ≤ M)
      by_cases cB : M < B
      · rw [if_pos ((hall B B1).2 cB)]
        unfold stC
        rw [hsm, Int.zero_add]
        by_cases cs : S < (C B).1
        · rw [if_pos cs]
          show S ≤ 1000000 ∧ (S = 1000000 ↔ B ≤ M)
          omega
        · rw [if_neg cs]
          omega
      · rw [if_neg (fun o => cB ((hall B B1).1 o))]
        refine ⟨g1, ?_⟩
        rw [g2]
        omega
    · show (if q.all _ = true then stC [] 0 (C (M + 1)) q else C (M + 1)) = (S, q)
      rw [if_pos ((hall (M + 1) (by omega)).2 (by omega))]
      unfold stC
      rw [hsm, Int.zero_add, if_pos]
      · rfl
      · rcases c with c | ⟨c, c2⟩
        · have := (h2 (M + 1) (by omega) (by omega)).2.2 (by omega)
          omega
        · have := (h3 (by omega)).2
          rw [c, this]
          exact c2
  · have eR : stR [] 0 0 R q = R := by
      unfold stR
      rw [hm, hsm, Int.zero_add, if_neg c]
    rw [eR]
    refine ⟨h1, fun B B1 B7 => ?_, fun g => ⟨(h3 g).1, ?_⟩⟩
    · obtain ⟨g1, g2⟩ := h2 B B1 B7
      show (if q.all _ = true then stC [] 0 (C B) q else C B).1 ≤ 1000000 ∧ ((if q.all _ = true then stC [] 0 (C B) q else C B).1 = 1000000 ↔ B ≤ R.1)
      by_cases cB : M < B
      · rw [if_pos ((hall B B1).2 cB)]
        unfold stC
        rw [hsm, Int.zero_add]
        by_cases cs : S < (C B).1
        · rw [if_pos cs]
          show S ≤ 1000000 ∧ (S = 1000000 ↔ B ≤ R.1)
          omega
        · rw [if_neg cs]
          exact ⟨g1, g2⟩
      · rw [if_neg (fun o => cB ((hall B B1).1 o))]
        exact ⟨g1, g2⟩
    · have e := (h3 g).2
      show (if q.all _ = true then stC [] 0 (C (R.1 + 1)) q else C (R.1 + 1)) = (R.2.1, R.2.2)
      by_cases cB : M < R.1 + 1
      · rw [if_pos ((hall (R.1 + 1) (by have := (h3 g).1; omega)).2 cB)]
        unfold stC
        rw [hsm, Int.zero_add, e, if_neg]
        intro o
        have o : S < R.2.1 := o
        exact c (by omega)
      · rw [if_neg (fun o => cB ((hall (R.1 + 1) (by have := (h3 g).1; omega)).1 o))]
        exact e
theorem InvH.fold : ∀ (l : List (List Int)) (R : Int × Int × List Int) (C : Int → Int × List Int), (∀ q ∈ l, (∀ x ∈ q, 1 ≤ x ∧ x ≤ 6) ∧ sumL q < 1000000) → InvH R C → InvH (l.foldl (stR [] 0 0) R) (fun B => (l.filter (fun q => q.all (fun x => decide (x < B)))).foldl (stC [] 0) (C B))
  | [], R, C, _, h => h
  | q :: l, R, C, hl, h => by
    have hq := hl q List.mem_cons_self
    have := InvH.fold l _ _ (fun r hr => hl r (List.mem_cons_of_mem _ hr)) (h.step hq.1 hq.2)
    rw [List.foldl_cons]
    refine cast ?_ this
    congr 1
    funext B
    rw [List.filter_cons]
    by_cases c : q.all (fun x => decide (x < B)) = true
    · rw [if_pos c, if_pos c, List.foldl_cons]
    · rw [if_neg c, if_neg c]
theorem InvH.start : InvH (7, 0, []) (fun _ => (1000000, [])) := ⟨by decide, fun B _ B7 => ⟨Int.le_refl _, ⟨fun _ => B7, fun _ => rfl⟩⟩, fun g => absurd g (by decide)⟩
