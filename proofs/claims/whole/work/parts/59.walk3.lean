/-! more on the walk -/
theorem wk_skip {a : Mem} {v : (Int → Int) → Int} {s how full hill men h : Int} {x : Int → Int} (c : x (16 * s + h) ≠ 1 ∨ x 137 ≠ 0) : wk a v s how full hill men h x = x := by
  unfold wk
  exact if_neg (fun q => by rcases c with c | c; exact c q.1; exact c q.2)
theorem wk_other {a : Mem} {v : (Int → Int) → Int} {s how full hill men h b : Int} {x : Int → Int} (hb : b < 96) (ne : b ≠ 16 * s + h) : wk a v s how full hill men h x b = x b := by
  unfold wk
  split
  · split
    · split
      · rw [pt_ne (by omega), pt_ne (by omega), pt_ne ne, pt_ne (by omega), pt_ne (by omega)]
      · rw [pt_ne (by omega)]
    · rw [pt_ne (by omega), pt_ne (by omega), pt_ne ne]
  · rfl
theorem houseN_inj {n how i j : Int} (n8 : n ≤ 8) (i0 : 0 ≤ i) (i1 : i < 2 * n) (j0 : 0 ≤ j) (j1 : j < 2 * n) (e : houseN n how i = houseN n how j) : i = j := by
  unfold houseN at e
  by_cases c : how = 0
  · rw [if_pos c, if_pos c] at e
    split at e <;> split at e <;> omega
  · rw [if_neg c, if_neg c] at e
    omega
/-- houses to come are as they were -/
theorem walkN_ahead {a : Mem} {v : (Int → Int) → Int} {s how full hill men n : Int} {x : Int → Int} {j : Int} (s6 : s < 6) (n8 : n ≤ 8) (j1 : j < 2 * n) : ∀ k : Nat, (k : Int) ≤ j → walkN a v s how full hill men n k x (16 * s + houseN n how j) = x (16 * s + houseN n how j)
  | 0, _ => rfl
  | k + 1, hk => by
    have r := houseN_rng (how := how) n8 (by omega : 0 ≤ j) j1
    rw [walkN, wk_other (by omega) (fun e => by have := houseN_inj (how := how) (i := j) (j := k) n8 (by omega) j1 (by omega) (by omega) (by omega); omega)]
    exact walkN_ahead s6 n8 j1 k (by omega)
/-- once stopped, nothing changes -/
theorem walkN_stop {a : Mem} {v : (Int → Int) → Int} {s how full hill men n : Int} {x : Int → Int} {k : Nat} (h : walkN a v s how full hill men n k x 137 ≠ 0) : ∀ d : Nat, walkN a v s how full hill men n (k + d) x = walkN a v s how full hill men n k x
  | 0 => rfl
  | d + 1 => by
    rw [← Nat.add_assoc, walkN, walkN_stop h d]
    exact wk_skip (Or.inr h)
/-- how many of the first k houses are among the bits -/
def cntN (bits n how : Int) (k : Nat) : Int := sumI (fun j => b01 (tb bits (houseN n how j))) k
theorem cntN_rng {bits n how : Int} {k : Nat} : 0 ≤ cntN bits n how k ∧ cntN bits n how k ≤ k := by
  have := sumI_bound (f := fun j => b01 (tb bits (houseN n how j))) (c := 1) (n := k) (fun i _ _ => b01_rng _)
  unfold cntN
  omega
