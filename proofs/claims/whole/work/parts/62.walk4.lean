/-! what the walk leaves, what it counts -/
theorem wk_not1 {a : Mem} {v : (Int → Int) → Int} {s how full hill men h b : Int} {x : Int → Int} (hb : b < 96) (c : x b ≠ 1) : wk a v s how full hill men h x b = x b := by
  by_cases e : b = 16 * s + h
  · subst e
    rw [wk_skip (Or.inl c)]
  · exact wk_other hb e
theorem walkN_not1 {a : Mem} {v : (Int → Int) → Int} {s how full hill men n b : Int} {x : Int → Int} (hb : b < 96) (c : x b ≠ 1) : ∀ k : Nat, walkN a v s how full hill men n k x b = x b
  | 0 => rfl
  | k + 1 => by
    have ih := walkN_not1 (a := a) (v := v) (s := s) (how := how) (full := full) (hill := hill) (men := men) (n := n) hb c k
    rw [walkN, wk_not1 hb (by rw [ih]; exact c), ih]
theorem wk_was {a : Mem} {v : (Int → Int) → Int} {s how full hill men h b : Int} {x : Int → Int} (hb : b < 96) : wk a v s how full hill men h x b = x b ∨ (x b = 1 ∧ (wk a v s how full hill men h x b = 2 ∨ wk a v s how full hill men h x b = 3)) := by
  by_cases e : b = 16 * s + h
  · subst e
    unfold wk
    split
    · rename_i g
      split
      · split
        · refine Or.inr ⟨g.1, Or.inl ?_⟩
          rw [pt_ne (by omega), pt_ne (by omega), pt_same]
        · refine Or.inl ?_
          rw [pt_ne (by omega)]
      · refine Or.inr ⟨g.1, Or.inr ?_⟩
        rw [pt_ne (by omega), pt_ne (by omega), pt_same]
    · exact Or.inl rfl
  · exact Or.inl (wk_other hb e)
theorem walkN_was1 {a : Mem} {v : (Int → Int) → Int} {s how full hill men n b : Int} {x : Int → Int} (hb : b < 96) (c : x b = 1) : ∀ k : Nat, walkN a v s how full hill men n k x b = 1 ∨ walkN a v s how full hill men n k x b = 2 ∨ walkN a v s how full hill men n k x b = 3
  | 0 => Or.inl c
  | k + 1 => by
    have ih := walkN_was1 (a := a) (v := v) (s := s) (how := how) (full := full) (hill := hill) (men := men) (n := n) hb c k
    rw [walkN]
    rcases wk_was (a := a) (v := v) (s := s) (how := how) (full := full) (hill := hill) (men := men) (h := houseN n how k) (x := walkN a v s how full hill men n k x) hb with g | ⟨-, g | g⟩
    · rw [g]; exact ih
    · exact Or.inr (Or.inl g)
    · exact Or.inr (Or.inr g)
theorem wk_far {a : Mem} {v : (Int → Int) → Int} {s how full hill men h b : Int} {x : Int → Int} (h0 : b = 97 ∨ b = 98) (h6 : 16 * s + h < 96) : wk a v s how full hill men h x b = x b := by
  unfold wk
  split
  · split
    · split
      · rw [pt_ne (by omega), pt_ne (by omega), pt_ne (by omega), pt_ne (by omega), pt_ne (by omega)]
      · rw [pt_ne (by omega)]
    · rw [pt_ne (by omega), pt_ne (by omega), pt_ne (by omega)]
  · rfl
theorem walkN_far {a : Mem} {v : (Int → Int) → Int} {s how full hill men n b : Int} {x : Int → Int} (h0 : b = 97 ∨ b = 98) (s6 : s < 6) (n8 : n ≤ 8) : ∀ k : Nat, (k : Int) ≤ 2 * n → walkN a v s how full hill men n k x b = x b
  | 0, _ => rfl
  | k + 1, hk => by
    have r := houseN_rng (how := how) (i := k) n8 (by omega) (by omega)
    rw [walkN, wk_far h0 (by omega), walkN_far h0 s6 n8 k (by omega)]
/-- other streets -/
theorem walkN_other {a : Mem} {v : (Int → Int) → Int} {s how full hill men n b : Int} {x : Int → Int} (hb : b < 96) (n8 : n ≤ 8) (hs : b < 16 * s ∨ 16 * s + 16 ≤ b) : ∀ k : Nat, (k : Int) ≤ 2 * n → walkN a v s how full hill men n k x b = x b
  | 0, _ => rfl
  | k + 1, hk => by
    have r := houseN_rng (how := how) (i := k) n8 (by omega) (by omega)
    rw [walkN, wk_other hb (by omega), walkN_other hb n8 hs k (by omega)]
/-- a sum of which one thing changes -/
theorem sumI_pt {f g : Int → Int} {i d : Int} : ∀ {n : Nat}, 0 ≤ i → i < n → f i = g i + d → (∀ j : Int, 0 ≤ j → j < n → j ≠ i → f j = g j) → sumI f n = sumI g n + d
  | 0, h0, h1, _, _ => by omega
  | n + 1, h0, h1, e, h => by
    rw [sumI, sumI]
    by_cases c : i = n
    · subst c
      rw [e, sumI_congr (f := f) (g := g) (n := n) (fun j j0 j1 => h j j0 (by omega) (by omega))]
      omega
    · rw [sumI_pt (i := i) (d := d) (n := n) h0 (by omega) e (fun j j0 j1 j2 => h j j0 (by omega) j2), h n (by omega) (by omega) (fun e => c e.symm)]
      omega
theorem pop_add {b h : Int} (h0 : 0 ≤ h) (h1 : h < 16) (t : tb b h = false) : pop (borI b (shlI 1 h)) = pop b + 1 := by
  unfold pop
  refine sumI_pt (i := h) h0 (by omega) ?_ (fun j j0 j1 ne => ?_)
  · rw [tb_or, tb_one h0 (by omega) h0 (by omega), t]
    simp [b01]
  · rw [tb_or, tb_one h0 (by omega) j0 (by omega)]
    simp [ne]
/-- how many stand out, how many were emptied, left -/
theorem wk_cnt {a : Mem} {v : (Int → Int) → Int} {s how full hill men h : Int} {x : Int → Int} (s6 : s < 6) (h0 : 0 ≤ h) (h1 : h < 16) : rO (wk a v s how full hill men h x) s 16 + (wk a v s how full hill men h x 134 + wk a v s how full hill men h x 135) = rO x s 16 + (x 134 + x 135) := by
  by_cases g : x (16 * s + h) = 1 ∧ x 137 = 0
  · unfold rO
    unfold wk
    rw [if_pos g]
    split
    · split
      · rw [pt_ne (by decide), pt_same, pt_ne (by decide), pt_ne (by decide), pt_ne (by omega), pt_ne (by decide), pt_ne (by decide)]
        have e := sumI_pt (f := fun i => b01 (pt (pt (pt (pt (pt x 96 (x 96 + hv a (16 * s + h) (a 179 2))) 136 (x 136 + hv a (16 * s + h) (a 179 2))) (16 * s + h) 2) 134 (x 134 + 1)) 132 (x 132 + (sec v (fct a s h hill men (carriedOf how h)) + extraOf how h)) (16 * s + i) == 1)) (g := fun i => b01 (x (16 * s + i) == 1)) (i := h) (d := -1) (n := 16) h0 (by omega) (by
          show b01 (pt _ _ _ (16 * s + h) == 1) = b01 (x (16 * s + h) == 1) + -1
          rw [pt_ne (by omega), pt_ne (by omega), pt_same, g.1]
          rfl) (fun j j0 j1 ne => by
          show b01 (pt _ _ _ (16 * s + j) == 1) = b01 (x (16 * s + j) == 1)
          rw [pt_ne (by omega), pt_ne (by omega), pt_ne (by omega), pt_ne (by omega), pt_ne (by omega)])
        rw [e]
        omega
      · rw [pt_ne (by decide), pt_ne (by decide)]
        have e : sumI (fun i => b01 (pt x 137 1 (16 * s + i) == 1)) 16 = sumI (fun i => b01 (x (16 * s + i) == 1)) 16 := sumI_congr (fun j j0 j1 => by
          show b01 (pt _ _ _ (16 * s + j) == 1) = b01 (x (16 * s + j) == 1)
          rw [pt_ne (by omega)])
        rw [e]
    · rw [pt_ne (by decide), pt_ne (by decide), pt_ne (by omega), pt_ne (by decide), pt_same]
      have e := sumI_pt (f := fun i => b01 (pt (pt (pt x (16 * s + h) 3) 135 (x 135 + 1)) 132 (x 132 + 3) (16 * s + i) == 1)) (g := fun i => b01 (x (16 * s + i) == 1)) (i := h) (d := -1) (n := 16) h0 (by omega) (by
        show b01 (pt _ _ _ (16 * s + h) == 1) = b01 (x (16 * s + h) == 1) + -1
        rw [pt_ne (by omega), pt_ne (by omega), pt_same, g.1]
        rfl) (fun j j0 j1 ne => by
        show b01 (pt _ _ _ (16 * s + j) == 1) = b01 (x (16 * s + j) == 1)
        rw [pt_ne (by omega), pt_ne (by omega), pt_ne (by omega)])
      rw [e]
      omega
  · have e : wk a v s how full hill men h x = x := if_neg g
    rw [e]
theorem walkN_cnt {a : Mem} {v : (Int → Int) → Int} {s how full hill men n : Int} {x : Int → Int} (s6 : s < 6) (n8 : n ≤ 8) : ∀ k : Nat, (k : Int) ≤ 2 * n → rO (walkN a v s how full hill men n k x) s 16 + (walkN a v s how full hill men n k x 134 + walkN a v s how full hill men n k x 135) = rO x s 16 + (x 134 + x 135)
  | 0, _ => rfl
  | k + 1, hk => by
    have r := houseN_rng (how := how) (i := k) n8 (by omega) (by omega)
    rw [walkN, wk_cnt s6 r.1 r.2, walkN_cnt s6 n8 k (by omega)]
/-- the numbers of the houses, and a sum along them -/
theorem sumI_split {f : Int → Int} {p : Nat} : ∀ q : Nat, sumI f (p + q) = sumI f p + sumI (fun i => f (p + i)) q
  | 0 => by simp [sumI]
  | q + 1 => by
    rw [← Nat.add_assoc, sumI, sumI_split q, sumI, Int.add_assoc]
    congr 2
theorem sumI_rev {f : Int → Int} : ∀ {n : Nat}, sumI (fun i => f (n - 1 - i)) n = sumI f n
  | 0 => rfl
  | n + 1 => by
    have e : sumI (fun i => f (((n + 1 : Nat) : Int) - 1 - i)) (n + 1) = f n + sumI (fun i => f (n - 1 - i)) n := by
      rw [Nat.add_comm n 1, sumI_split]
      have e1 : sumI (fun i => f (((1 + n : Nat) : Int) - 1 - i)) 1 = f n := by
        simp only [sumI]
        rw [show ((1 + n : Nat) : Int) - 1 - ((0 : Nat) : Int) = n by omega]
        omega
      rw [e1]
      congr 1
      refine sumI_congr (fun i i0 i1 => ?_)
      congr 1
      omega
    rw [e, sumI_rev, sumI]
    omega
theorem sumI_two {f : Int → Int} : ∀ n : Nat, sumI (fun i => f (8 * (i % 2) + i / 2)) (2 * n) = sumI f n + sumI (fun i => f (8 + i)) n
  | 0 => rfl
  | n + 1 => by
    rw [show 2 * (n + 1) = 2 * n + 1 + 1 by omega, sumI, sumI, sumI_two n, sumI, sumI]
    have e1 : f (8 * (((2 * n : Nat) : Int) % 2) + ((2 * n : Nat) : Int) / 2) = f n := by congr 1; omega
    have e2 : f (8 * (((2 * n + 1 : Nat) : Int) % 2) + ((2 * n + 1 : Nat) : Int) / 2) = f (8 + n) := by congr 1; omega
    show sumI f n + sumI (fun i => f (8 + i)) n + f (8 * (((2 * n : Nat) : Int) % 2) + ((2 * n : Nat) : Int) / 2) + f (8 * (((2 * n + 1 : Nat) : Int) % 2) + ((2 * n + 1 : Nat) : Int) / 2) = _
    rw [e1, e2]
    omega
theorem sum_houses {f : Int → Int} {n : Nat} {how : Int} (n8 : n ≤ 8) (hf : ∀ h : Int, 0 ≤ h → h < 16 → (n : Int) ≤ h % 8 → f h = 0) : sumI (fun i => f (houseN n how i)) (2 * n) = sumI f 16 := by
  have e16 : sumI f 16 = sumI f n + sumI (fun i => f (8 + i)) n := by
    have e1 : sumI f 16 = sumI f 8 + sumI (fun i => f (8 + i)) 8 := sumI_split (p := 8) 8
    have e2 : sumI f 8 = sumI f n := by
      have := sumI_split (f := f) (p := n) (8 - n)
      rw [show n + (8 - n) = 8 by omega] at this
      rw [this, sumI_0 (f := fun i => f (n + i)) (fun i i0 i1 => hf _ (by omega) (by omega) (by omega)), Int.add_zero]
    have e3 : sumI (fun i => f (8 + i)) 8 = sumI (fun i => f (8 + i)) n := by
      have := sumI_split (f := fun i => f (8 + i)) (p := n) (8 - n)
      rw [show n + (8 - n) = 8 by omega] at this
      rw [this, sumI_0 (f := fun i => f (8 + (n + i))) (fun i i0 i1 => hf _ (by omega) (by omega) (by omega)), Int.add_zero]
    rw [e1, e2, e3]
  rw [e16]
  by_cases c : how = 0
  · subst c
    rw [show 2 * n = n + n by omega, sumI_split]
    have e1 : sumI (fun i => f (houseN n 0 i)) n = sumI f n := sumI_congr (fun i i0 i1 => by
      unfold houseN
      rw [if_pos rfl, if_pos i1])
    have e2 : sumI (fun i => f (houseN n 0 (n + i))) n = sumI (fun i => f (8 + i)) n := by
      rw [← sumI_rev (f := fun i => f (8 + i))]
      refine sumI_congr (fun i i0 i1 => ?_)
      show f (houseN n 0 (n + i)) = f (8 + (n - 1 - i))
      unfold houseN
      rw [if_pos rfl, if_neg (by omega)]
      congr 1
      omega
    rw [e1, e2]
  · rw [← sumI_two]
    refine sumI_congr (fun i i0 i1 => ?_)
    show f (houseN n how i) = f (8 * (i % 2) + i / 2)
    unfold houseN
    rw [if_neg c]
