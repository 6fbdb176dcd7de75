/-! order: the text of a way -/
def ordG (a : Mem) : Nat → List Int → List Int
  | 0, p => p
  | f + 1, p => if (p.length : Int) < a 169 17 ∧ (0 ≤ a 182 p.length - 48 ∧ a 182 p.length - 48 < a 169 3) ∧ a 182 p.length - 48 ∉ p then ordG a f (p ++ [a 182 p.length - 48]) else p
def ordL (a : Mem) : List Int := ordG a 6 []
def ordP (a : Mem) : Prop := (ordL a).length ≠ 0 ∧ ((ordL a).length : Int) = a 169 17
theorem ordG_ok {a : Mem} : ∀ (f : Nat) (p : List Int), (∀ s ∈ p, 0 ≤ s ∧ s < a 169 3) → ndP p → p.length + f = 6 → (∀ s ∈ ordG a f p, 0 ≤ s ∧ s < a 169 3) ∧ ndP (ordG a f p) ∧ (ordG a f p).length ≤ 6 ∧ p.length ≤ (ordG a f p).length
  | 0, p, h1, h2, h3 => ⟨h1, h2, by show p.length ≤ 6; omega, Nat.le_refl _⟩
  | f + 1, p, h1, h2, h3 => by
    rw [ordG]
    split
    · rename_i c
      have e : (p ++ [a 182 p.length - 48]).length = p.length + 1 := by rw [List.length_append]; rfl
      have g := ordG_ok f (p ++ [a 182 p.length - 48]) (fun s hs => by
        rcases List.mem_append.1 hs with o | o
        · exact h1 s o
        · rw [List.mem_singleton] at o; rw [o]; exact c.2.1) (ndP_snoc h2 c.2.2) (by omega)
      exact ⟨g.1, g.2.1, g.2.2.1, by omega⟩
    · exact ⟨h1, h2, by omega, Nat.le_refl _⟩
theorem ordL_ok {a : Mem} : (∀ s ∈ ordL a, 0 ≤ s ∧ s < a 169 3) ∧ ndP (ordL a) ∧ (ordL a).length ≤ 6 := by
  have g := ordG_ok (a := a) 6 [] (fun s hs => by cases hs) (fun i j _ hj => by have hj : j < 0 := hj; omega) rfl
  exact ⟨g.1, g.2.1, g.2.2.1⟩
def RdF (c c' : Mem) : Prop := (∀ k, k ≠ 1 → k ≠ 106 → k ≠ 109 → c' k = c k) ∧ ∀ j : Int, j ≠ 5 → c' 106 j = c 106 j
theorem ct_readPath {E : Nat × (Nat → Int32)} {c a : Mem} (hC : CTown c a) (hX : CText c a) (hT : WTown a) : K_X4_readPath E [.ref 106, .ref 1] c (fun z c' => ((ordP a ∧ z = 0 ∧ c' 106 5 = (ordL a).length ∧ ∀ j : Nat, j < (ordL a).length → c' 109 j = (ordL a).getD j 0) ∨ (¬ ordP a ∧ z = -1 - (ordL a).length)) ∧ RdF c c' ∧ TextOK c') := by
  have n0 := hT.1
  have n6 := hT.2.1
  obtain ⟨⟨x1, x2, -, -, -, -, x7⟩, y1, y2⟩ := hX
  rw [y1] at x1 x2
  refine en_X4_readPath (sg_X4_readPath_0 (by rw [y1]; constructor <;> omega) ?_)
  rw [y1, show min (a 169 17) 80 = a 169 17 by omega]
  have key : ∀ (f : Nat) (p : List Int) (u : Int) (c2 : Mem), p.length + f = 6 → 0 ≤ u → u < 64 → (∀ d : Int, 0 ≤ d → d < 6 → (tb u d = true ↔ d ∈ p)) → ordL a = ordG a f p → c2 1 1 = a 169 17 → c2 1 2 = p.length → c2 1 3 = a 169 17 → c2 2 = c 2 → (∀ j : Nat, j < p.length → c2 109 j = p.getD j 0) → c2 106 5 = p.length → RdF c c2 → (p.length = 0 ∨ (p.length : Int) < a 169 17) → GM E (m_X4_readPath 2) (Pi fun z c' => ((ordP a ∧ z = 0 ∧ c' 106 5 = (ordL a).length ∧ ∀ j : Nat, j < (ordL a).length → c' 109 j = (ordL a).getD j 0) ∨ (¬ ordP a ∧ z = -1 - (ordL a).length)) ∧ RdF c c' ∧ TextOK c') 15 [.ref 106, .ref 1, vi u, vi (p.length : Int), un] [] c2 := by
    intro f
    induction f with
    | zero =>
      intro p u c2 hl u0 u1 hu eL q1 q2 q3 q4 q5 q6 q7 q8
      have hl : p.length = 6 := by omega
      have eL : ordL a = p := eL
      have t2 : TextOK c2 := ⟨by omega, by omega, by omega, by omega, by omega, by omega, by rw [q4]; exact x7⟩
      refine sg_X4_readPath_15 ⟨by omega, by omega⟩ (by omega) (by omega) (by omega) (by omega) (by omega) (by omega) (fun _ => ⟨_, rfl, Or.inr ⟨fun o => ?_, by rw [q2, eL]⟩, q7, t2⟩) (by omega) (by omega) (by omega) (by omega)
      have := o.2
      rw [eL] at this
      omega
    | succ f ih =>
      intro p u c2 hl u0 u1 hu eL q1 q2 q3 q4 q5 q6 q7 q8
      have t2 : TextOK c2 := ⟨by omega, by omega, by omega, by omega, by omega, by omega, by rw [q4]; exact x7⟩
      have e91 : c2 9 1 = a 169 3 := by rw [q7.1 9 (by decide) (by decide) (by decide)]; exact hC.1
      have eLk : lookM c2 = if (p.length : Int) < a 169 17 then a 182 p.length else -1 := by
        unfold lookM
        rw [q2, q3, q4]
        by_cases g : (p.length : Int) < a 169 17
        · rw [if_pos ⟨by omega, g, by omega⟩, if_pos g]
          exact y2 _ (by omega) g
        · rw [if_neg (fun o => g o.2.1), if_neg g]
      have rL : -1 ≤ lookM c2 ∧ lookM c2 < 256 := by
        rw [eLk]
        split
        · rename_i g
          have := x7 p.length (by omega) (by omega)
          rw [y2 _ (by omega) g] at this
          omega
        · omega
      rw [ordG] at eL
      have stop : ¬ ((p.length : Int) < a 169 17 ∧ (0 ≤ a 182 p.length - 48 ∧ a 182 p.length - 48 < a 169 3) ∧ a 182 p.length - 48 ∉ p) → (Pi fun z c' => ((ordP a ∧ z = 0 ∧ c' 106 5 = (ordL a).length ∧ ∀ j : Nat, j < (ordL a).length → c' 109 j = (ordL a).getD j 0) ∨ (¬ ordP a ∧ z = -1 - (ordL a).length)) ∧ RdF c c' ∧ TextOK c') (some (vi (-1 - c2 1 2))) c2 := fun g => by
        rw [if_neg g] at eL
        refine ⟨_, rfl, Or.inr ⟨fun o => ?_, by rw [q2, eL]⟩, q7, t2⟩
        have o1 := o.1
        have o2 := o.2
        rw [eL] at o1 o2
        rcases q8 with x | x
        · exact o1 x
        · omega
      have ok : 0 ≤ lookM c2 - 48 → (p.length : Int) < a 169 17 ∧ lookM c2 = a 182 p.length := fun g => by
        rw [eLk] at g ⊢
        split
        · rename_i h; exact ⟨h, rfl⟩
        · rename_i h; rw [if_neg h] at g; omega
      have mem3 : ∀ (d : Int), ∀ k, k ≠ 1 → k ≠ 106 → k ≠ 109 → up2 (up2 (up2 c2 1 2 (c2 1 2 + 1)) 109 (p.length : Int) d) 106 5 ((p.length : Int) + 1) k = c2 k := fun d k k1 k2 k3 => by rw [up2_k k2, up2_k k3, up2_k k1]
      have go : ∀ g : 0 ≤ lookM c2 - 48 ∧ lookM c2 - 48 < a 169 3, bandI (shrI u (lookM c2 - 48)) 1 = 0 → ((p.length : Int) < a 169 17 ∧ (0 ≤ a 182 p.length - 48 ∧ a 182 p.length - 48 < a 169 3) ∧ a 182 p.length - 48 ∉ p) := fun g b => by
        have k := ok g.1
        rw [k.2] at g b
        rw [bit_0 g.1 (by omega)] at b
        exact ⟨k.1, g, fun o => by rw [(hu _ g.1 (by omega)).2 o] at b; cases b⟩
      have new : ∀ d : Int, RdF c (up2 (up2 (up2 c2 1 2 (c2 1 2 + 1)) 109 (p.length : Int) d) 106 5 ((p.length : Int) + 1)) ∧ (∀ j : Nat, j < p.length + 1 → up2 (up2 (up2 c2 1 2 (c2 1 2 + 1)) 109 (p.length : Int) d) 106 5 ((p.length : Int) + 1) 109 j = (p ++ [d]).getD j 0) := fun d => by
        refine ⟨⟨fun k k1 k2 k3 => by rw [mem3 d k k1 k2 k3, q7.1 k k1 k2 k3], fun j hj => by rw [up2_j hj, up2_k (by decide), up2_k (by decide), q7.2 j hj]⟩, fun j hj => ?_⟩
        rw [up2_k (by decide), getD_app]
        by_cases c : j < p.length
        · rw [if_pos c, up2_j (by omega), up2_k (by decide)]; exact q5 j c
        · rw [if_neg c, if_pos (by omega), show j = p.length by omega, up2_same]
      have len1 : ∀ d : Int, (p ++ [d]).length = p.length + 1 := fun d => by rw [List.length_append]; rfl
      refine sg_X4_readPath_15 ⟨by omega, by omega⟩ (fun _ => t2) (fun _ => by rw [e91]; omega) (fun _ => ⟨by omega, by omega⟩) (fun _ _ _ => by omega) (fun _ _ _ => by rw [q2]; constructor <;> omega) (fun _ _ _ => by rw [q1]; constructor <;> omega) (by omega) (fun _ g b en => ?_) (fun _ g b en => ?_) (fun _ g b => stop (fun o => ?_)) (fun _ g => stop (fun o => ?_))
      · rw [e91] at g
        have cond := go g b
        have k := ok g.1
        rw [k.2]
        rw [if_pos cond] at eL
        rw [q1, q2] at en
        have N := new (a 182 p.length - 48)
        have eF : ordG a f (p ++ [a 182 p.length - 48]) = p ++ [a 182 p.length - 48] := by
          cases f with
          | zero => rfl
          | succ f => rw [ordG, if_neg]; intro o; have := o.1; rw [len1] at this; omega
        rw [eF] at eL
        refine ⟨_, rfl, Or.inl ⟨⟨by rw [eL, len1]; omega, by rw [eL, len1]; omega⟩, rfl, by rw [up2_same, eL, len1]; omega, fun j hj => ?_⟩, N.1, ?_⟩
        · rw [eL, len1] at hj
          rw [eL]
          exact N.2 j hj
        · have m1 : ∀ j : Int, j ≠ 2 → up2 (up2 (up2 c2 1 2 (c2 1 2 + 1)) 109 (p.length : Int) (a 182 p.length - 48)) 106 5 ((p.length : Int) + 1) 1 j = c2 1 j := fun j hj => by rw [up2_k (by decide), up2_k (by decide), up2_j hj]
          have m2 : up2 (up2 (up2 c2 1 2 (c2 1 2 + 1)) 109 (p.length : Int) (a 182 p.length - 48)) 106 5 ((p.length : Int) + 1) 1 2 = c2 1 2 + 1 := by rw [up2_k (by decide), up2_k (by decide), up2_same]
          unfold TextOK
          rw [m1 1 (by decide), m1 3 (by decide), m2, mem3 _ 2 (by decide) (by decide) (by decide)]
          exact ⟨by omega, by omega, by omega, by omega, by omega, by omega, by rw [q4]; exact x7⟩
      · rw [e91] at g
        have cond := go g b
        have k := ok g.1
        rw [k.2] at g ⊢
        rw [if_pos cond] at eL
        rw [q1, q2] at en
        have N := new (a 182 p.length - 48)
        have i6 := inc64 u0 u1 g.1 (by omega : a 182 p.length - 48 < 6)
        have hm : ((p ++ [a 182 p.length - 48]).length : Int) = p.length + 1 := by rw [len1]; omega
        have := ih (p ++ [a 182 p.length - 48]) (inc u (a 182 p.length - 48)) _ (by rw [len1]; omega) i6.1 i6.2 (fun d d0 d6 => ?_) eL (by rw [up2_k (by decide), up2_k (by decide), up2_j (by decide)]; exact q1) (by rw [up2_k (by decide), up2_k (by decide), up2_same, q2, hm]) (by rw [up2_k (by decide), up2_k (by decide), up2_j (by decide)]; exact q3) (by rw [mem3 _ 2 (by decide) (by decide) (by decide)]; exact q4) (fun j hj => by rw [len1] at hj; exact N.2 j hj) (by rw [up2_same, hm]) N.1 (Or.inr (by rw [hm]; omega))
        · rw [hm] at this
          exact this
        · rw [tb_inc g.1 (by omega) d0 (by omega), List.mem_append, List.mem_singleton]
          by_cases e : d = a 182 p.length - 48
          · simp [e]
          · simp [e]
            exact hu d d0 d6
      · rw [e91] at g
        have k := ok g.1
        rw [k.2] at g b
        apply b
        rw [bit_0 g.1 (by omega)]
        cases c : tb u (a 182 p.length - 48) with
        | false => rfl
        | true => exact absurd ((hu _ g.1 (by omega)).1 c) o.2.2
      · rw [e91] at g
        rw [eLk, if_pos o.1] at g
        exact g o.2.1
  have k3 : ∀ k, k ≠ 1 → k ≠ 106 → up2 (up2 (up2 c 1 2 0) 1 3 (a 169 17)) 106 5 0 k = c k := fun k k1 k2 => by rw [up2_k k2, up2_k k1, up2_k k1]
  refine key 6 [] 0 _ rfl (by decide) (by decide) (fun d _ _ => ?_) rfl ?_ ?_ ?_ (k3 2 (by decide) (by decide)) (fun j hj => by have hj : j < 0 := hj; omega) (up2_same _ _ _ _) ⟨fun k k1 k2 _ => k3 k k1 k2, fun j hj => by rw [up2_j hj, up2_k (by decide), up2_k (by decide)]⟩ (Or.inl rfl)
  · rw [tb_0]
    exact ⟨fun h => absurd h (by decide), fun h => by cases h⟩
  · rw [up2_k (by decide), up2_j (by decide), up2_j (by decide)]; exact y1
  · rw [up2_k (by decide), up2_j (by decide), up2_same]; rfl
  · rw [up2_k (by decide), up2_same]
