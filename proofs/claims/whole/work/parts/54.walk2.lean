/-- what stays good along a walk: i houses done, load l0 at the start -/
def WkOK (l0 : Int) (i : Int) (x : Int → Int) : Prop := (∀ b : Int, 0 ≤ b → b < 96 → 0 ≤ x b ∧ x b ≤ 3) ∧ 0 ≤ x 96 ∧ x 96 ≤ l0 + 34 * i ∧ (x 137 = 0 ∨ x 137 = 1) ∧ 0 ≤ x 132 ∧ x 132 ≤ 1100 * i ∧ 0 ≤ x 134 ∧ x 134 ≤ i ∧ 0 ≤ x 135 ∧ x 135 ≤ i ∧ 0 ≤ x 136 ∧ x 136 ≤ 34 * i
theorem WkOK.step {a : Mem} {v : (Int → Int) → Int} {s how full hill men h l0 i : Int} {x : Int → Int} (hT : WTown a) (hS : WSet a) (s0 : 0 ≤ s) (s6 : s < 6) (h0 : 0 ≤ h) (h16 : h < 16) (X : WkOK l0 i x) : WkOK l0 (i + 1) (wk a v s how full hill men h x) := by
  obtain ⟨X1, X2, X3, X4, X5, X6, X7, X8, X9, XA, XB, XC⟩ := X
  have hh := hv_rng (b := 16 * s + h) (rain := a 179 2) (hT.w (by omega) (by omega)) hS ⟨hS.2.2.2.2.1, hS.2.2.2.2.2.1⟩
  have hc := sec_rng v (fct a s h hill men (carriedOf how h))
  have he : 0 ≤ extraOf how h ∧ extraOf how h ≤ 32 := by
    unfold extraOf
    split
    · split <;> omega
    · omega
  have nb : ∀ b : Int, 0 ≤ b → b < 96 → b ≠ 132 ∧ b ≠ 134 ∧ b ≠ 135 ∧ b ≠ 136 ∧ b ≠ 137 ∧ b ≠ 96 := fun b b0 b1 => by omega
  unfold wk
  split
  · split
    · split
      · refine ⟨fun b b0 b1 => ?_, ?_, ?_, ?_, ?_, ?_, ?_, ?_, ?_, ?_, ?_, ?_⟩
        · rw [pt_ne (by omega), pt_ne (by omega)]
          by_cases c : b = 16 * s + h
          · subst c; rw [pt_same]; omega
          · rw [pt_ne c, pt_ne (by omega), pt_ne (by omega)]; exact X1 b b0 b1
        · rw [pt_ne (by decide), pt_ne (by decide), pt_ne (by omega), pt_ne (by decide), pt_same]; omega
        · rw [pt_ne (by decide), pt_ne (by decide), pt_ne (by omega), pt_ne (by decide), pt_same]; omega
        · rw [pt_ne (by decide), pt_ne (by decide), pt_ne (by omega), pt_ne (by decide), pt_ne (by decide)]; exact X4
        · rw [pt_same]; omega
        · rw [pt_same]; omega
        · rw [pt_ne (by decide), pt_same]; omega
        · rw [pt_ne (by decide), pt_same]; omega
        · rw [pt_ne (by decide), pt_ne (by decide), pt_ne (by omega), pt_ne (by decide), pt_ne (by decide)]; exact X9
        · rw [pt_ne (by decide), pt_ne (by decide), pt_ne (by omega), pt_ne (by decide), pt_ne (by decide)]; omega
        · rw [pt_ne (by decide), pt_ne (by decide), pt_ne (by omega), pt_same]; omega
        · rw [pt_ne (by decide), pt_ne (by decide), pt_ne (by omega), pt_same]; omega
      · refine ⟨fun b b0 b1 => ?_, ?_, ?_, ?_, ?_, ?_, ?_, ?_, ?_, ?_, ?_, ?_⟩
        · rw [pt_ne (by omega)]; exact X1 b b0 b1
        · rw [pt_ne (by decide)]; exact X2
        · rw [pt_ne (by decide)]; omega
        · rw [pt_same]; exact Or.inr rfl
        · rw [pt_ne (by decide)]; exact X5
        · rw [pt_ne (by decide)]; omega
        · rw [pt_ne (by decide)]; exact X7
        · rw [pt_ne (by decide)]; omega
        · rw [pt_ne (by decide)]; exact X9
        · rw [pt_ne (by decide)]; omega
        · rw [pt_ne (by decide)]; exact XB
        · rw [pt_ne (by decide)]; omega
    · refine ⟨fun b b0 b1 => ?_, ?_, ?_, ?_, ?_, ?_, ?_, ?_, ?_, ?_, ?_, ?_⟩
      · rw [pt_ne (by omega), pt_ne (by omega)]
        by_cases c : b = 16 * s + h
        · subst c; rw [pt_same]; omega
        · rw [pt_ne c]; exact X1 b b0 b1
      · rw [pt_ne (by decide), pt_ne (by decide), pt_ne (by omega)]; exact X2
      · rw [pt_ne (by decide), pt_ne (by decide), pt_ne (by omega)]; omega
      · rw [pt_ne (by decide), pt_ne (by decide), pt_ne (by omega)]; exact X4
      · rw [pt_same]; omega
      · rw [pt_same]; omega
      · rw [pt_ne (by decide), pt_ne (by decide), pt_ne (by omega)]; exact X7
      · rw [pt_ne (by decide), pt_ne (by decide), pt_ne (by omega)]; omega
      · rw [pt_ne (by decide), pt_same]; omega
      · rw [pt_ne (by decide), pt_same]; omega
      · rw [pt_ne (by decide), pt_ne (by decide), pt_ne (by omega)]; exact XB
      · rw [pt_ne (by decide), pt_ne (by decide), pt_ne (by omega)]; omega
  · exact ⟨X1, X2, by omega, X4, X5, by omega, X7, by omega, X9, by omega, XB, by omega⟩
/-- the i-th house of a how in a street of n blocks -/
def houseN (n how i : Int) : Int := if how = 0 then (if i < n then i else 8 + (2 * n - 1) - i) else 8 * (i % 2) + i / 2
theorem houseN_rng {n how i : Int} (n8 : n ≤ 8) (i0 : 0 ≤ i) (i1 : i < 2 * n) : 0 ≤ houseN n how i ∧ houseN n how i < 16 := by
  unfold houseN
  split
  · split <;> omega
  · omega
/-- the first k houses of a street -/
def walkN (a : Mem) (v : (Int → Int) → Int) (s how full hill men n : Int) : Nat → (Int → Int) → Int → Int
  | 0, x => x
  | k + 1, x => wk a v s how full hill men (houseN n how k) (walkN a v s how full hill men n k x)
theorem walkN_ok {a : Mem} {v : (Int → Int) → Int} {s how full hill men n l0 : Int} {x : Int → Int} (hT : WTown a) (hS : WSet a) (s0 : 0 ≤ s) (s6 : s < 6) (n8 : n ≤ 8) (X : WkOK l0 0 x) : ∀ k : Nat, (k : Int) ≤ 2 * n → WkOK l0 k (walkN a v s how full hill men n k x)
  | 0, _ => X
  | k + 1, hk => by
    have ih := walkN_ok (v := v) (how := how) (full := full) (hill := hill) (men := men) hT hS s0 s6 n8 X k (by omega)
    have hr := houseN_rng (n := n) (how := how) (i := k) n8 (by omega) (by omega)
    have := WkOK.step (v := v) (how := how) (full := full) (hill := hill) (men := men) hT hS s0 s6 hr.1 hr.2 ih
    rw [show ((k + 1 : Nat) : Int) = (k : Int) + 1 by omega]
    exact this
/-- the row at the start -/
def x0 (r : Int → Int) : Int → Int := fun b => if 0 ≤ b ∧ b < 99 then r b else 0
theorem x0_row {r : Int → Int} {b : Int} (h0 : 0 ≤ b) (h : b < 99) : x0 r b = r b := if_pos ⟨h0, h⟩
theorem x0_0 {r : Int → Int} {b : Int} (h : 99 ≤ b) : x0 r b = 0 := if_neg (by omega)
theorem x0_ok {r : Int → Int} (h : ∀ b : Int, 0 ≤ b → b < 96 → 0 ≤ r b ∧ r b ≤ 3) (h96 : 0 ≤ r 96) : WkOK (r 96) 0 (x0 r) := by
  refine ⟨fun b b0 b1 => by rw [x0_row (by omega) (by omega)]; exact h b b0 b1, ?_, ?_, ?_, ?_, ?_, ?_, ?_, ?_, ?_, ?_, ?_⟩
  · rw [x0_row (by decide) (by decide)]; exact h96
  · rw [x0_row (by decide) (by decide)]; omega
  · exact Or.inl (x0_0 (by decide))
  all_goals rw [x0_0 (by decide)]
  all_goals omega
