/-! most: the best of a set -/
def mFeas (a : Mem) (U : Int) (nd : Nd) : Prop := nd.2.1 ≠ 0 ∧ oOpen a nd.2.2 ∧ oThere a nd.2.2 + 300 ≤ U
theorem jM_char {a : Mem} {U : Int} : ∀ (l : List Nd) (mb : Int), (l.foldl (jM a U) mb = mb ∨ (mBet (l.foldl (jM a U) mb) mb ∧ ∃ nd, nd ∈ l ∧ mFeas a U nd ∧ nd.2.1 = l.foldl (jM a U) mb)) ∧ ∀ nd ∈ l, mFeas a U nd → ¬ mBet nd.2.1 (l.foldl (jM a U) mb)
  | [], mb => ⟨Or.inl rfl, fun nd h => by cases h⟩
  | x :: l, mb => by
    rw [List.foldl_cons]
    by_cases c : mFeas a U x ∧ mBet x.2.1 mb
    · have e : jM a U mb x = x.2.1 := by
        unfold jM
        rw [if_neg (fun o => by rcases o with o | o; exact c.1.1 o; exact o c.1.2.1), if_pos ⟨c.1.2.2, c.2⟩]
      rw [e]
      have ih := jM_char (a := a) (U := U) l x.2.1
      have b := c.2
      refine ⟨Or.inr ?_, fun nd hnd hf => ?_⟩
      · rcases ih.1 with o | ⟨o1, nd, o2, o3, o4⟩
        · rw [o]; exact ⟨c.2, x, List.mem_cons_self, c.1, rfl⟩
        · refine ⟨?_, nd, List.mem_cons_of_mem _ o2, o3, o4⟩
          generalize l.foldl (jM a U) x.2.1 = z at o1
          have o1 : mBet z x.2.1 := o1
          omega
      · rcases List.mem_cons.1 hnd with o | o
        · subst o
          rcases ih.1 with o | ⟨o1, -⟩
          · rw [o]; omega
          · omega
        · exact ih.2 nd o hf
    · have e : jM a U mb x = mb := by
        unfold jM
        by_cases d : x.2.1 = 0 ∨ ¬ oOpen a x.2.2
        · rw [if_pos d]
        · rw [if_neg d, if_neg]
          intro o
          exact c ⟨⟨fun z => d (Or.inl z), Classical.byContradiction (fun z => d (Or.inr z)), o.1⟩, o.2⟩
      rw [e]
      have ih := jM_char (a := a) (U := U) l mb
      refine ⟨?_, fun nd hnd hf => ?_⟩
      · rcases ih.1 with o | ⟨o1, nd, o2, o3, o4⟩
        · exact Or.inl o
        · exact Or.inr ⟨o1, nd, List.mem_cons_of_mem _ o2, o3, o4⟩
      · rcases List.mem_cons.1 hnd with o | o
        · subst o
          have nb : ¬ mBet nd.2.1 mb := fun z => c ⟨hf, z⟩
          rcases ih.1 with o | ⟨o1, -⟩
          · rw [o]; exact nb
          · omega
        · exact ih.2 nd o hf
theorem jS_char {a : Mem} {U T : Int} : ∀ (l : List Nd) (st : Int × List Int), (∀ nd ∈ l, 0 ≤ oThere a nd.2.2) → ((0 ≤ (l.foldl (jS a T) st).1 ∧ (l.foldl (jS a T) st).1 ≤ U) ↔ ((0 ≤ st.1 ∧ st.1 ≤ U) ∨ ∃ nd, nd ∈ l ∧ mFeas a U nd ∧ nd.2.1 = T))
  | [], st, _ => ⟨fun h => Or.inl h, fun h => by
    rcases h with h | ⟨nd, h, -⟩
    · exact h
    · cases h⟩
  | x :: l, st, hl => by
    rw [List.foldl_cons, jS_char l _ (fun nd h => hl nd (List.mem_cons_of_mem _ h))]
    have x0 := hl x List.mem_cons_self
    have ex : (∃ nd, nd ∈ x :: l ∧ mFeas a U nd ∧ nd.2.1 = T) ↔ ((mFeas a U x ∧ x.2.1 = T) ∨ ∃ nd, nd ∈ l ∧ mFeas a U nd ∧ nd.2.1 = T) := by
      refine ⟨fun ⟨nd, h, g⟩ => ?_, fun h => ?_⟩
      · rcases List.mem_cons.1 h with o | o
        · subst o; exact Or.inl g
        · exact Or.inr ⟨nd, o, g⟩
      · rcases h with h | ⟨nd, h, g⟩
        · exact ⟨x, List.mem_cons_self, h⟩
        · exact ⟨nd, List.mem_cons_of_mem _ h, g⟩
    rw [ex, ← or_assoc]
    refine or_congr ?_ Iff.rfl
    unfold jS mFeas
    by_cases d : x.2.1 = 0 ∨ ¬ oOpen a x.2.2
    · rw [if_pos d]
      refine ⟨fun h => Or.inl h, fun h => ?_⟩
      rcases h with h | h
      · exact h
      · rcases d with d | d
        · exact absurd d h.1.1
        · exact absurd h.1.2.1 d
    · rw [if_neg d]
      have d1 : x.2.1 ≠ 0 := fun z => d (Or.inl z)
      have d2 : oOpen a x.2.2 := Classical.byContradiction (fun z => d (Or.inr z))
      by_cases e : x.2.1 = T ∧ (st.1 < 0 ∨ oThere a x.2.2 + 300 < st.1)
      · rw [if_pos e]
        show (0 ≤ oThere a x.2.2 + 300 ∧ oThere a x.2.2 + 300 ≤ U) ↔ _
        refine ⟨fun h => Or.inr ⟨⟨d1, d2, h.2⟩, e.1⟩, fun h => ?_⟩
        rcases h with h | h
        · omega
        · exact ⟨by omega, h.1.2.2⟩
      · rw [if_neg e]
        refine ⟨fun h => Or.inl h, fun h => ?_⟩
        rcases h with h | h
        · exact h
        · have h1 := h.1.2.2
          have h2 := h.2
          omega
theorem nodes_ok {B : Int} {a : Mem} {v : (Int → Int) → Int} {r : Int → Int} {S : Int} (hT : WTown a) (hS : WSet a) (hn : StOK B a r) : ∀ (f : Nat) (u : Int) (p : List Int) (t : Tr) (W : Int), 0 ≤ u → u < 64 → trOK W t → ∀ nd ∈ oNodes a v r S f u p t, (0 ≤ nd.2.1 ∧ nd.2.1 < 64) ∧ (∀ i : Int, 0 ≤ i → i < 6 → tb nd.2.1 i = true → tb S i = true ∨ tb u i = true) ∧ 0 ≤ oThere a nd.2.2 := by
  have n0 := hT.1
  have n6 := hT.2.1
  intro f
  induction f with
  | zero =>
    intro u p t W u0 u1 ht nd hnd
    have hnd : nd ∈ [(p, u, t)] := hnd
    rw [List.mem_singleton] at hnd
    subst hnd
    exact ⟨⟨u0, u1⟩, fun i _ _ h => Or.inr h, (oTip_ok hS ht).2.1⟩
  | succ f ih =>
    intro u p t W u0 u1 ht nd hnd
    rw [oNodes] at hnd
    rcases List.mem_cons.1 hnd with o | o
    · subst o
      exact ⟨⟨u0, u1⟩, fun i _ _ h => Or.inr h, (oTip_ok hS ht).2.1⟩
    · have key : ∀ (k : Nat) (s : Int), 0 ≤ s → s + k = a 169 3 → nd ∈ kidsN S u (fun s => oVisit a v r s t) (fun s t' => oNodes a v r S f (inc u s) (p ++ [s]) t') s k → (0 ≤ nd.2.1 ∧ nd.2.1 < 64) ∧ (∀ i : Int, 0 ≤ i → i < 6 → tb nd.2.1 i = true → tb S i = true ∨ tb u i = true) ∧ 0 ≤ oThere a nd.2.2 := by
        intro k
        induction k with
        | zero => intro s _ _ h; cases h
        | succ k ihk =>
          intro s s0 hs h
          rw [kidsN] at h
          rcases List.mem_append.1 h with h | h
          · split at h
            · rename_i c
              cases d : oVisit a v r s t with
              | none => rw [d] at h; cases h
              | some t' =>
                rw [d] at h
                have i6 := inc64 u0 u1 s0 (by omega : s < 6)
                have g := ih _ _ _ _ i6.1 i6.2 (oVisit_ok hT hS hn s0 (by omega) ht d) nd h
                refine ⟨g.1, fun i i0 i6' hi => ?_, g.2.2⟩
                rcases g.2.1 i i0 i6' hi with x | x
                · exact Or.inl x
                · rw [tb_inc s0 (by omega) i0 (by omega)] at x
                  by_cases e : i = s
                  · subst e; exact Or.inl c.1
                  · simp [e] at x
                    exact Or.inr x
            · cases h
          · exact ihk (s + 1) (by omega) (by omega) h
      exact key _ 0 (Int.le_refl _) (by omega) o
/-- a set that is done by then -/
def mCan (a : Mem) (v : (Int → Int) → Int) (r : Int → Int) (U q : Int) : Prop := 0 ≤ (oBest a v r q).1 ∧ r 98 + (oBest a v r q).1 ≤ U
def subB (q t : Int) : Prop := ∀ i : Int, 0 ≤ i → i < 6 → tb q i = true → tb t i = true
theorem can_node {B S U q : Int} {a : Mem} {v : (Int → Int) → Int} {r : Int → Int} (hT : WTown a) (hS : WSet a) (hn : StOK B a r) (hB : B ≤ 1000000000) (SN : ∀ i : Int, a 169 3 ≤ i → i < 6 → tb S i = false) (q0 : 0 < q) (q1 : q < 64) (qs : subB q S) : mCan a v r U q ↔ ∃ nd, nd ∈ oNodes a v r S 6 0 [] (trow r) ∧ mFeas a U nd ∧ nd.2.1 = q := by
  have t0 : trOK B (trow r) := ⟨hn.2.1, hn.2.2.1, hn.2.2.2.1, hn.2.2.2.2.1, hn.2.2.2.2.2.1, hn.2.2.2.2.2.2⟩
  have rel := soon_best (S := S) (T := q) (v := v) hT hS hn hB q0 q1 qs (fun i i0 i6 => by
    cases c : tb q i with
    | false => rfl
    | true => have := qs i (by have := hT.1; omega) i6 c; rw [SN i i0 i6] at this; cases this)
  have ch := jS_char (a := a) (U := U) (T := q) (oNodes a v r S 6 0 [] (trow r)) (-1, []) (fun nd h => (nodes_ok hT hS hn 6 0 [] _ B (by decide) (by decide) t0 nd h).2.2)
  have ch : (0 ≤ (oSoon a v r S q).1 ∧ (oSoon a v r S q).1 ≤ U) ↔ (((0 : Int) ≤ -1 ∧ -1 ≤ U) ∨ ∃ nd, nd ∈ oNodes a v r S 6 0 [] (trow r) ∧ mFeas a U nd ∧ nd.2.1 = q) := ch
  have r98 := hn.2.2.2.2.2.1
  unfold mCan
  refine ⟨fun h => ?_, fun h => ?_⟩
  · have : 0 ≤ (oSoon a v r S q).1 ∧ (oSoon a v r S q).1 ≤ U := by
      rcases rel with x | x <;> omega
    rcases ch.1 this with x | x
    · omega
    · exact x
  · have := ch.2 (Or.inr h)
    rcases rel with x | x <;> omega
/-- the best is one alone -/
theorem most_one {B S U z : Int} {a : Mem} {v : (Int → Int) → Int} {r : Int → Int} (hT : WTown a) (hS : WSet a) (hn : StOK B a r) (hB : B ≤ 1000000000) (SN : ∀ i : Int, a 169 3 ≤ i → i < 6 → tb S i = false) (z1 : z = 0 ∨ (0 < z ∧ z < 64 ∧ subB z S ∧ mCan a v r U z)) (z2 : ∀ q : Int, 0 < q → q < 64 → subB q S → mCan a v r U q → ¬ mBet q z) : oMost a v r S U = z := by
  have t0 : trOK B (trow r) := ⟨hn.2.1, hn.2.2.1, hn.2.2.2.1, hn.2.2.2.2.1, hn.2.2.2.2.2.1, hn.2.2.2.2.2.2⟩
  have ok := fun nd h => nodes_ok (v := v) (S := S) hT hS hn 6 0 [] (trow r) B (by decide) (by decide) t0 nd h
  have sub : ∀ nd, nd ∈ oNodes a v r S 6 0 [] (trow r) → subB nd.2.1 S := fun nd h i i0 i6 hi => by
    rcases (ok nd h).2.1 i i0 i6 hi with x | x
    · exact x
    · rw [tb_0] at x; cases x
  have ch := jM_char (a := a) (U := U) (oNodes a v r S 6 0 [] (trow r)) 0
  have p0 : pop 0 = 0 := by decide
  have pos : ∀ q : Int, 0 < q → q < 64 → 0 < pop q := fun q h0 h1 => by
    have := (pop_rng q).1
    by_cases c : pop q = 0
    · have := pop_zero (by omega) h1 c; omega
    · omega
  unfold oMost
  obtain ⟨c1, c2⟩ := ch
  rcases c1 with c1 | ⟨-, nd, n1, n2, n3⟩
  · rcases z1 with z1 | ⟨g1, g2, g3, g4⟩
    · rw [c1, z1]
    · obtain ⟨nd, n1, n2, n3⟩ := (can_node hT hS hn hB SN g1 g2 g3).1 g4
      have := c2 nd n1 n2
      rw [c1, n3] at this
      have := pos z g1 g2
      omega
  · have o := (ok nd n1).1
    have nz : nd.2.1 ≠ 0 := n2.1
    have o1 : 0 < nd.2.1 := by omega
    have can := (can_node hT hS hn hB SN o1 o.2 (sub nd n1)).2 ⟨nd, n1, n2, rfl⟩
    have b1 := z2 nd.2.1 o1 o.2 (sub nd n1) can
    rw [← n3]
    rcases z1 with z1 | ⟨g1, g2, g3, g4⟩
    · rw [z1] at b1
      have := pos _ o1 o.2
      omega
    · obtain ⟨nd2, m1, m2, m3⟩ := (can_node hT hS hn hB SN g1 g2 g3).1 g4
      have b2 := c2 nd2 m1 m2
      rw [m3, ← n3] at b2
      omega
