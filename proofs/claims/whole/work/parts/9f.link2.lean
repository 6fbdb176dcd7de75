/-! orders: both searches find the same, in the set -/
theorem link_in {a : Mem} {v : (Int → Int) → Int} {r : Int → Int} {S T : Int} (n0 : 0 ≤ a 169 3) (n6 : a 169 3 ≤ 6) (T0 : 0 < T) (T1 : T < 64) (TS : ∀ i : Int, 0 ≤ i → i < 6 → tb T i = true → tb S i = true) (TN : ∀ i : Int, a 169 3 ≤ i → i < 6 → tb T i = false) : ∀ (f g : Nat) (u q : Int) (p : List Int) (t : Tr) (st : Int × List Int), g ≤ f → 0 ≤ u → u < 64 → 0 ≤ q → q < 64 → pop q = g → (∀ i : Int, 0 ≤ i → i < 6 → tb q i = (tb T i && !tb u i)) → (∀ i : Int, 0 ≤ i → i < 6 → tb u i = true → tb T i = true) → oPath a v r p (trow r) = some t → (oNodes a v r S f u p t).foldl (jS a T) st = (oPerms (a 169 3).toNat g q).foldl (fun st x => stA a v r st (p ++ x)) st := by
  -- the node of the whole set
  have whole : ∀ (p : List Int) (t : Tr) (st : Int × List Int), oPath a v r p (trow r) = some t → jS a T st (p, T, t) = stA a v r st p := fun p t st h => by
    unfold jS stA oEnd
    rw [h]
    show (if T = 0 ∨ ¬ oOpen a t then st else if T = T ∧ (st.1 < 0 ∨ oThere a t + 300 < st.1) then (oThere a t + 300, p) else st) = _
    show _ = match oLast a t with | none => st | some t' => if st.1 < 0 ∨ t'.2.2 < st.1 then (t'.2.2, p) else st
    unfold oLast
    by_cases o : oOpen a t
    · rw [if_neg (fun x => by rcases x with x | x; omega; exact x o), if_pos o]
      show _ = if st.1 < 0 ∨ oThere a t + 300 < st.1 then (oThere a t + 300, p) else st
      by_cases c : st.1 < 0 ∨ oThere a t + 300 < st.1
      · rw [if_pos ⟨rfl, c⟩, if_pos c]
      · rw [if_neg (fun x => c x.2), if_neg c]
    · rw [if_pos (Or.inr o), if_neg o]
  have done : ∀ (u q : Int), 0 ≤ u → u < 64 → (∀ i : Int, 0 ≤ i → i < 6 → tb q i = (tb T i && !tb u i)) → (∀ i : Int, 0 ≤ i → i < 6 → tb u i = true → tb T i = true) → q = 0 → u = T := fun u q u0 u1 h1 h2 h3 => by
    subst h3
    refine ext64 u0 u1 (by omega) T1 (fun i i0 i6 => ?_)
    have h := h1 i i0 i6
    have h' := h2 i i0 i6
    rw [tb_0] at h
    cases c : tb u i
    · rw [c] at h
      cases d : tb T i
      · rfl
      · rw [d] at h; cases h
    · exact (h' c).symm
  intro f
  induction f with
  | zero =>
    intro g u q p t st hg u0 u1 q0 q1 hq h1 h2 hp
    have g0 : g = 0 := by omega
    subst g0
    have qz := pop_zero q0 q1 hq
    have uT := done u q u0 u1 h1 h2 qz
    subst uT
    rw [oNodes, List.foldl_cons, whole p t st hp]
    show stA a v r st p = stA a v r st (p ++ [])
    rw [List.append_nil]
  | succ f ih =>
    intro g u q p t st hg u0 u1 q0 q1 hq h1 h2 hp
    rw [oNodes, List.foldl_cons]
    cases g with
    | zero =>
      have qz := pop_zero q0 q1 hq
      have uT := done u q u0 u1 h1 h2 qz
      subst uT
      rw [whole p t st hp]
      have eR : (oPerms (a 169 3).toNat 0 q).foldl (fun st x => stA a v r st (p ++ x)) st = stA a v r st p := by
        show stA a v r st (p ++ []) = _
        rw [List.append_nil]
      rw [eR]
      generalize stA a v r st p = st2
      have key : ∀ (k : Nat) (s : Int), 0 ≤ s → s + k = a 169 3 → (kidsN S u (fun s => oVisit a v r s t) (fun s t' => oNodes a v r S f (inc u s) (p ++ [s]) t') s k).foldl (jS a u) st2 = st2 := by
        intro k
        induction k with
        | zero => intro s _ _; rfl
        | succ k ihk =>
          intro s s0 hs
          rw [kidsN]
          refine foldl_app_id ?_ (ihk (s + 1) (by omega) (by omega))
          split
          · rename_i c
            cases oVisit a v r s t with
            | none => rfl
            | some t' => exact link_out n0 n6 f _ _ _ _ ⟨s, s0, by omega, by rw [tb_inc s0 (by omega) s0 (by omega)]; simp, c.2⟩
          · rfl
      exact key _ 0 (Int.le_refl _) (by omega)
    | succ g =>
      have nT : u ≠ T := fun o => by
        subst o
        have : q = 0 := ext64 q0 q1 (by decide) (by decide) (fun i i0 i6 => by rw [h1 i i0 i6, tb_0]; cases tb u i <;> rfl)
        rw [this] at hq
        have : pop 0 = 0 := by decide
        omega
      have eJ : jS a T st (p, u, t) = st := by
        unfold jS
        dsimp only
        split
        · rfl
        · rw [if_neg (fun o => nT o.1)]
      rw [eJ]
      have key : ∀ (k : Nat) (s : Int) (st : Int × List Int), 0 ≤ s → s + k = a 169 3 → (kidsN S u (fun s => oVisit a v r s t) (fun s t' => oNodes a v r S f (inc u s) (p ++ [s]) t') s k).foldl (jS a T) st = (kids q (fun s => oPerms (a 169 3).toNat g (clr q s)) s k).foldl (fun st x => stA a v r st (p ++ x)) st := by
        intro k
        induction k with
        | zero => intro s st _ _; rfl
        | succ k ihk =>
          intro s st s0 hs
          have s6 : s < 6 := by omega
          rw [kidsN, kids, List.foldl_append, List.foldl_append, ihk (s + 1) _ (by omega) (by omega)]
          congr 1
          have hs1 := h1 s s0 s6
          by_cases cq : tb q s = true
          · rw [if_pos cq, List.foldl_map]
            rw [cq] at hs1
            have hu : tb u s = false := by cases c : tb u s with | false => rfl | true => rw [c, Bool.not_true, Bool.and_false] at hs1; cases hs1
            have hT : tb T s = true := by cases c : tb T s with | true => rfl | false => rw [c] at hs1; cases hs1
            rw [if_pos ⟨TS s s0 s6 hT, hu⟩]
            have ap : ∀ x : List Int, p ++ s :: x = (p ++ [s]) ++ x := fun x => by rw [List.append_assoc]; rfl
            cases c : oVisit a v r s t with
            | none =>
              refine (foldl_id _ st _ (fun x _ => ?_)).symm
              unfold stA oEnd
              rw [oPath_app, hp]
              show (match ((oPath a v r (s :: x) t).bind (oLast a)) with | none => st | some t' => _) = st
              rw [oPath, c]
              rfl
            | some t' =>
              dsimp only
              have i6 := inc64 u0 u1 s0 s6
              have c6 := clr64 q0 q1 s0 s6
              have pc := pop_clr q0 q1 s0 s6 cq
              have e := ih g (inc u s) (clr q s) (p ++ [s]) t' st (by omega) i6.1 i6.2 c6.1 c6.2 (by omega) (fun i i0 i6' => by
                rw [tb_clr s0 s6 i0 (by omega), tb_inc s0 s6 i0 (by omega), h1 i i0 i6']
                cases tb T i <;> cases tb u i <;> simp) (fun i i0 i6' hi => by
                rw [tb_inc s0 s6 i0 (by omega)] at hi
                by_cases e : i = s
                · subst e; exact hT
                · simp [e] at hi
                  exact h2 i i0 i6' hi) (by
                rw [oPath_app, hp]
                show oPath a v r [s] t = some t'
                rw [oPath, c]
                rfl)
              rw [e]
              congr 1
              funext st x
              rw [ap x]
          · rw [if_neg cq]
            show _ = st
            split
            · rename_i d
              cases oVisit a v r s t with
              | none => rfl
              | some t' =>
                refine link_out n0 n6 f _ _ _ _ ⟨s, s0, s6, by rw [tb_inc s0 s6 s0 (by omega)]; simp, ?_⟩
                cases c : tb T s with
                | false => rfl
                | true => rw [c, d.2] at hs1; exact absurd hs1 cq
            · rfl
      exact key _ 0 st (Int.le_refl _) (by omega)
