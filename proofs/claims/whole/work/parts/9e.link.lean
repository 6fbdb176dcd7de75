/-! orders: both searches find the same -/
theorem oPath_app {a : Mem} {v : (Int → Int) → Int} {r : Int → Int} : ∀ (p x : List Int) (t : Tr), oPath a v r (p ++ x) t = (oPath a v r p t).bind (oPath a v r x)
  | [], x, t => rfl
  | s :: p, x, t => by
    rw [List.cons_append, oPath, oPath]
    cases oVisit a v r s t with
    | none => rfl
    | some t2 => exact oPath_app p x t2
def stA (a : Mem) (v : (Int → Int) → Int) (r : Int → Int) (st : Int × List Int) (p : List Int) : Int × List Int :=
  match oEnd a v r p (trow r) with
  | none => st
  | some t' => if st.1 < 0 ∨ t'.2.2 < st.1 then (t'.2.2, p) else st
theorem foldl_id {A B : Type} (F : A → B → A) (st : A) : ∀ l : List B, (∀ x ∈ l, F st x = st) → l.foldl F st = st
  | [], _ => rfl
  | x :: l, h => by
    rw [List.foldl_cons, h x List.mem_cons_self]
    exact foldl_id F st l (fun y hy => h y (List.mem_cons_of_mem _ hy))
theorem foldl_app_id {A B : Type} {F : A → B → A} {st : A} {l m : List B} (h1 : l.foldl F st = st) (h2 : m.foldl F st = st) : (l ++ m).foldl F st = st := by rw [List.foldl_append, h1, h2]
theorem link_out {a : Mem} {v : (Int → Int) → Int} {r : Int → Int} {S T : Int} (n0 : 0 ≤ a 169 3) (n6 : a 169 3 ≤ 6) : ∀ (f : Nat) (u : Int) (p : List Int) (t : Tr) (st : Int × List Int), (∃ i : Int, 0 ≤ i ∧ i < 6 ∧ tb u i = true ∧ tb T i = false) → (oNodes a v r S f u p t).foldl (jS a T) st = st := by
  intro f
  have one : ∀ (u : Int) (p : List Int) (t : Tr) (st : Int × List Int), (∃ i : Int, 0 ≤ i ∧ i < 6 ∧ tb u i = true ∧ tb T i = false) → jS a T st (p, u, t) = st := fun u p t st ⟨i, _, _, h1, h2⟩ => by
    unfold jS
    dsimp only
    split
    · rfl
    · rw [if_neg]
      intro o
      rw [o.1, h2] at h1
      cases h1
  induction f with
  | zero =>
    intro u p t st h
    rw [oNodes, List.foldl_cons, one u p t st h]
    rfl
  | succ f ih =>
    intro u p t st h
    rw [oNodes, List.foldl_cons, one u p t st h]
    have key : ∀ (k : Nat) (s : Int), 0 ≤ s → s + k = a 169 3 → (kidsN S u (fun s => oVisit a v r s t) (fun s t' => oNodes a v r S f (inc u s) (p ++ [s]) t') s k).foldl (jS a T) st = st := by
      intro k
      induction k with
      | zero => intro s _ _; rfl
      | succ k ihk =>
        intro s s0 hs
        rw [kidsN]
        refine foldl_app_id ?_ (ihk (s + 1) (by omega) (by omega))
        split
        · cases oVisit a v r s t with
          | none => rfl
          | some t' =>
            obtain ⟨i, i0, i6, h1, h2⟩ := h
            exact ih _ _ _ _ ⟨i, i0, i6, by rw [tb_inc s0 (by omega) i0 (by omega), h1]; rfl, h2⟩
        · rfl
    exact key _ 0 (Int.le_refl _) (by omega)
