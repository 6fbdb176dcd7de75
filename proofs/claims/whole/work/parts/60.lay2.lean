/-! the class lays out the bins of the bits -/
def takeN (a : Mem) (v : (Int → Int) → Int) (s how hill men h : Int) : Int := if hv a (16 * s + h) (a 179 2) ≤ a 179 4 then sec v (fct a s h hill men (carriedOf how h)) + extraOf how h else 3
def wouldN (a : Mem) (s bits n how : Int) (k : Nat) : Int := sumI (fun j => if tb bits (houseN n how j) = true then (if hv a (16 * s + houseN n how j) (a 179 2) ≤ a 179 4 then hv a (16 * s + houseN n how j) (a 179 2) else 0) else 0) k
def LayI (o : Nat) (a : Mem) (v : (Int → Int) → Int) (s how bits n hill men : Int) (c c' : Mem) (k : Nat) : Prop :=
  c' o 10 = cntN bits n how k ∧ c' o 9 = a 179 4 ∧ c' o 12 = wouldN a s bits n how k ∧
  (∀ j : Nat, j < k → tb bits (houseN n how j) = true → c' (o + 2) (cntN bits n how j) = houseN n how j ∧ c' (o + 3) (cntN bits n how j) = hv a (16 * s + houseN n how j) (a 179 2) ∧ c' (o + 4) (cntN bits n how j) = takeN a v s how hill men (houseN n how j)) ∧
  (∀ q, (q < o ∨ o + 4 < q) → q ≠ 8 → q ≠ 5 → c' q = c q) ∧ (∀ x : Int, x ≠ 5 → c' 5 x = c 5 x) ∧ ∀ x : Int, x ≠ 9 → x ≠ 10 → x ≠ 11 → x ≠ 12 → c' o x = c o x
theorem cntN_step {bits n how : Int} {k : Nat} : cntN bits n how (k + 1) = cntN bits n how k + b01 (tb bits (houseN n how k)) := by
  unfold cntN
  rw [sumI]
theorem cntN_mono {bits n how : Int} {j : Nat} : ∀ {k : Nat}, j < k → tb bits (houseN n how j) = true → cntN bits n how j < cntN bits n how k
  | 0, h, _ => by omega
  | k + 1, h, t => by
    rw [cntN_step]
    have r := b01_rng (tb bits (houseN n how k))
    by_cases c : j = k
    · subst c
      rw [t]
      show _ < _ + 1
      omega
    · have := cntN_mono (k := k) (by omega) t
      omega
theorem LayI.skip {o : Nat} {a : Mem} {v : (Int → Int) → Int} {s how bits n hill men : Int} {c c' : Mem} {k : Nat} (h : LayI o a v s how bits n hill men c c' k) (t : tb bits (houseN n how k) = false) : LayI o a v s how bits n hill men c c' (k + 1) := by
  obtain ⟨h1, h2, h3, h4, h5⟩ := h
  refine ⟨?_, h2, ?_, fun j hj tj => ?_, h5⟩
  · rw [cntN_step, t, h1]; show _ = _ + 0; omega
  · rw [h3]; unfold wouldN; rw [sumI, t]; simp
  · by_cases e : j = k
    · subst e; rw [t] at tj; cases tj
    · exact h4 j (by omega) tj
theorem LayI.add {o : Nat} {a : Mem} {v : (Int → Int) → Int} {s how bits n hill men : Int} {c c1 c' : Mem} {k : Nat} (h : LayI o a v s how bits n hill men c c1 k) (t : tb bits (houseN n how k) = true)
    (e2 : ∀ x : Int, c' (o + 2) x = if x = cntN bits n how k then houseN n how k else c1 (o + 2) x) (e3 : ∀ x : Int, c' (o + 3) x = if x = cntN bits n how k then hv a (16 * s + houseN n how k) (a 179 2) else c1 (o + 3) x) (e4 : ∀ x : Int, c' (o + 4) x = if x = cntN bits n how k then takeN a v s how hill men (houseN n how k) else c1 (o + 4) x)
    (e10 : c' o 10 = c1 o 10 + 1) (e12 : c' o 12 = c1 o 12 + (if hv a (16 * s + houseN n how k) (a 179 2) ≤ a 179 4 then hv a (16 * s + houseN n how k) (a 179 2) else 0)) (eo : ∀ x : Int, x ≠ 10 → x ≠ 12 → c' o x = c1 o x)
    (eq : ∀ q, (q < o ∨ o + 4 < q) → q ≠ 8 → q ≠ 5 → c' q = c1 q) (e5 : ∀ x : Int, x ≠ 5 → c' 5 x = c1 5 x) : LayI o a v s how bits n hill men c c' (k + 1) := by
  obtain ⟨h1, h2, h3, h4, h5, h6, h7⟩ := h
  refine ⟨?_, (eo 9 (by decide) (by decide)).trans h2, ?_, fun j hj tj => ?_, fun q q1 q2 q3 => (eq q q1 q2 q3).trans (h5 q q1 q2 q3), fun x hx => (e5 x hx).trans (h6 x hx), fun x x1 x2 x3 x4 => (eo x x2 x4).trans (h7 x x1 x2 x3 x4)⟩
  · rw [cntN_step, t, e10, h1]; rfl
  · rw [e12, h3]; unfold wouldN; rw [sumI, if_pos t]
  · by_cases e : j = k
    · subst e
      rw [e2, e3, e4, if_pos rfl, if_pos rfl, if_pos rfl]
      exact ⟨rfl, rfl, rfl⟩
    · have lt := cntN_mono (k := k) (by omega : j < k) tj
      rw [e2, e3, e4, if_neg (by omega), if_neg (by omega), if_neg (by omega)]
      exact h4 j (by omega) tj
