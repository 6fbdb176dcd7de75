/-! more that the walk keeps -/
theorem wk_96 {a : Mem} {v : (Int → Int) → Int} {s how full hill men h : Int} {x : Int → Int} (s6 : s < 6) (h1 : h < 16) : wk a v s how full hill men h x 96 - wk a v s how full hill men h x 136 = x 96 - x 136 := by
  unfold wk
  split
  · split
    · split
      · rw [pt_ne (show (96 : Int) ≠ 132 by decide), pt_ne (show (96 : Int) ≠ 134 by decide), pt_ne (show (96 : Int) ≠ 16 * s + h by omega), pt_ne (show (96 : Int) ≠ 136 by decide), pt_same, pt_ne (show (136 : Int) ≠ 132 by decide), pt_ne (show (136 : Int) ≠ 134 by decide), pt_ne (show (136 : Int) ≠ 16 * s + h by omega), pt_same]
        omega
      · rw [pt_ne (show (96 : Int) ≠ 137 by decide), pt_ne (show (136 : Int) ≠ 137 by decide)]
    · rw [pt_ne (show (96 : Int) ≠ 132 by decide), pt_ne (show (96 : Int) ≠ 135 by decide), pt_ne (show (96 : Int) ≠ 16 * s + h by omega), pt_ne (show (136 : Int) ≠ 132 by decide), pt_ne (show (136 : Int) ≠ 135 by decide), pt_ne (show (136 : Int) ≠ 16 * s + h by omega)]
  · rfl
theorem walkN_96 {a : Mem} {v : (Int → Int) → Int} {s how full hill men n : Int} {x : Int → Int} (s6 : s < 6) (n8 : n ≤ 8) : ∀ k : Nat, (k : Int) ≤ 2 * n → walkN a v s how full hill men n k x 96 - walkN a v s how full hill men n k x 136 = x 96 - x 136
  | 0, _ => rfl
  | k + 1, hk => by
    have r := houseN_rng (how := how) (i := k) n8 (by omega) (by omega)
    rw [walkN, wk_96 s6 r.2, walkN_96 s6 n8 k (by omega)]
theorem wk_le {a : Mem} {v : (Int → Int) → Int} {s how full hill men h L : Int} {x : Int → Int} (s6 : s < 6) (h1 : h < 16) (hf : full ≤ L) (hx : x 96 ≤ L) : wk a v s how full hill men h x 96 ≤ L := by
  unfold wk
  split
  · split
    · split
      · rw [pt_ne (show (96 : Int) ≠ 132 by decide), pt_ne (show (96 : Int) ≠ 134 by decide), pt_ne (show (96 : Int) ≠ 16 * s + h by omega), pt_ne (show (96 : Int) ≠ 136 by decide), pt_same]
        omega
      · rw [pt_ne (show (96 : Int) ≠ 137 by decide)]; exact hx
    · rw [pt_ne (show (96 : Int) ≠ 132 by decide), pt_ne (show (96 : Int) ≠ 135 by decide), pt_ne (show (96 : Int) ≠ 16 * s + h by omega)]; exact hx
  · exact hx
theorem walkN_le {a : Mem} {v : (Int → Int) → Int} {s how full hill men n L : Int} {x : Int → Int} (s6 : s < 6) (n8 : n ≤ 8) (hf : full ≤ L) (hx : x 96 ≤ L) : ∀ k : Nat, (k : Int) ≤ 2 * n → walkN a v s how full hill men n k x 96 ≤ L
  | 0, _ => hx
  | k + 1, hk => by
    have r := houseN_rng (how := how) (i := k) n8 (by omega) (by omega)
    rw [walkN]
    exact wk_le s6 r.2 hf (walkN_le s6 n8 hf hx k (by omega))
theorem wk_cnt2 {a : Mem} {v : (Int → Int) → Int} {s how full hill men h : Int} {x : Int → Int} (s0 : 0 ≤ s) (s6 : s < 6) (h0 : 0 ≤ h) (h1 : h < 16) : cnt (wk a v s how full hill men h x) 2 96 - wk a v s how full hill men h x 134 = cnt x 2 96 - x 134 := by
  by_cases g : x (16 * s + h) = 1 ∧ x 137 = 0
  · unfold cnt
    unfold wk
    rw [if_pos g]
    split
    · split
      · have e := sumI_pt (f := fun b => b01 (pt (pt (pt (pt (pt x 96 (x 96 + hv a (16 * s + h) (a 179 2))) 136 (x 136 + hv a (16 * s + h) (a 179 2))) (16 * s + h) 2) 134 (x 134 + 1)) 132 (x 132 + (sec v (fct a s h hill men (carriedOf how h)) + extraOf how h)) b == 2)) (g := fun b => b01 (x b == 2)) (i := 16 * s + h) (d := 1) (n := 96) (by omega) (by omega) (by
          show b01 (pt _ _ _ (16 * s + h) == 2) = b01 (x (16 * s + h) == 2) + 1
          rw [pt_ne (by omega), pt_ne (by omega), pt_same, g.1]
          rfl) (fun j j0 j1 ne => by
          show b01 (pt _ _ _ j == 2) = b01 (x j == 2)
          rw [pt_ne (by omega), pt_ne (by omega), pt_ne ne, pt_ne (by omega), pt_ne (by omega)])
        rw [e, pt_ne (show (134 : Int) ≠ 132 by decide), pt_same]
        omega
      · have e : sumI (fun b => b01 (pt x 137 1 b == 2)) 96 = sumI (fun b => b01 (x b == 2)) 96 := sumI_congr (fun j j0 j1 => by
          show b01 (pt _ _ _ j == 2) = b01 (x j == 2)
          rw [pt_ne (by omega)])
        rw [e, pt_ne (show (134 : Int) ≠ 137 by decide)]
    · have e := sumI_pt (f := fun b => b01 (pt (pt (pt x (16 * s + h) 3) 135 (x 135 + 1)) 132 (x 132 + 3) b == 2)) (g := fun b => b01 (x b == 2)) (i := 16 * s + h) (d := 0) (n := 96) (by omega) (by omega) (by
        show b01 (pt _ _ _ (16 * s + h) == 2) = b01 (x (16 * s + h) == 2) + 0
        rw [pt_ne (by omega), pt_ne (by omega), pt_same, g.1]
        rfl) (fun j j0 j1 ne => by
        show b01 (pt _ _ _ j == 2) = b01 (x j == 2)
        rw [pt_ne (by omega), pt_ne (by omega), pt_ne ne])
      rw [e, pt_ne (show (134 : Int) ≠ 132 by decide), pt_ne (show (134 : Int) ≠ 135 by decide), pt_ne (show (134 : Int) ≠ 16 * s + h by omega)]
      omega
  · have e : wk a v s how full hill men h x = x := if_neg g
    rw [e]
theorem walkN_cnt2 {a : Mem} {v : (Int → Int) → Int} {s how full hill men n : Int} {x : Int → Int} (s0 : 0 ≤ s) (s6 : s < 6) (n8 : n ≤ 8) : ∀ k : Nat, (k : Int) ≤ 2 * n → cnt (walkN a v s how full hill men n k x) 2 96 - walkN a v s how full hill men n k x 134 = cnt x 2 96 - x 134
  | 0, _ => rfl
  | k + 1, hk => by
    have r := houseN_rng (how := how) (i := k) n8 (by omega) (by omega)
    rw [walkN, wk_cnt2 s0 s6 r.1 r.2, walkN_cnt2 s0 s6 n8 k (by omega)]
/-- all of it, of the street done -/
theorem goes_all {a : Mem} {v : (Int → Int) → Int} {r : Int → Int} {s how full hill men : Int} (hT : WTown a) (s0 : 0 ≤ s) (s6 : s < 6) : goesP a v r s how full hill men 96 = r 96 + goesP a v r s how full hill men 136 ∧ goesP a v r s how full hill men 97 = r 97 ∧ goesP a v r s how full hill men 98 = r 98 ∧ (∀ L, full ≤ L → r 96 ≤ L → goesP a v r s how full hill men 96 ≤ L) ∧ rO (goesP a v r s how full hill men) s 16 = rO r s 16 - (goesP a v r s how full hill men 134 + goesP a v r s how full hill men 135) ∧ cnt (goesP a v r s how full hill men) 2 96 = cnt r 2 96 + goesP a v r s how full hill men 134 ∧ (∀ b : Int, 0 ≤ b → b < 96 → r b ≠ 1 → goesP a v r s how full hill men b = r b) ∧ (∀ b : Int, 0 ≤ b → b < 96 → r b = 1 → goesP a v r s how full hill men b = 1 ∨ goesP a v r s how full hill men b = 2 ∨ goesP a v r s how full hill men b = 3) ∧ (∀ b : Int, 0 ≤ b → b < 96 → (b < 16 * s ∨ 16 * s + 16 ≤ b) → goesP a v r s how full hill men b = r b) := by
  have t := hT.2.2.1 s s0 s6
  have n8 : a 172 s ≤ 8 := by omega
  have hk : (((2 * a 172 s).toNat : Nat) : Int) ≤ 2 * a 172 s := by omega
  have b99 : ∀ b : Int, 0 ≤ b → b < 99 → x0 r b = r b := fun b b0 b1 => x0_row b0 b1
  have e96 := walkN_96 (a := a) (v := v) (how := how) (full := full) (hill := hill) (men := men) (x := x0 r) s6 n8 _ hk
  have eO := walkN_cnt (a := a) (v := v) (how := how) (full := full) (hill := hill) (men := men) (x := x0 r) s6 n8 _ hk
  have e2 := walkN_cnt2 (a := a) (v := v) (how := how) (full := full) (hill := hill) (men := men) (x := x0 r) s0 s6 n8 _ hk
  have rO0 : rO (x0 r) s 16 = rO r s 16 := sumI_congr (fun j j0 j1 => by rw [b99 _ (by omega) (by omega)])
  have cn0 : cnt (x0 r) 2 96 = cnt r 2 96 := sumI_congr (fun j j0 j1 => by rw [b99 _ (by omega) (by omega)])
  rw [rO0, x0_0 (show (99 : Int) ≤ 134 by decide), x0_0 (show (99 : Int) ≤ 135 by decide)] at eO
  rw [cn0, x0_0 (show (99 : Int) ≤ 134 by decide)] at e2
  rw [b99 96 (by decide) (by decide), x0_0 (show (99 : Int) ≤ 136 by decide)] at e96
  unfold goesP
  refine ⟨by omega, ?_, ?_, fun L hf hr => walkN_le s6 n8 hf (by rw [b99 96 (by decide) (by decide)]; exact hr) _ hk, by omega, by omega, fun b b0 b1 hb => ?_, fun b b0 b1 hb => ?_, fun b b0 b1 hb => ?_⟩
  · rw [walkN_far (Or.inl rfl) s6 n8 _ hk, b99 97 (by decide) (by decide)]
  · rw [walkN_far (Or.inr rfl) s6 n8 _ hk, b99 98 (by decide) (by decide)]
  · rw [walkN_not1 b1 (by rw [b99 b b0 (by omega)]; exact hb), b99 b b0 (by omega)]
  · exact walkN_was1 b1 (by rw [b99 b b0 (by omega)]; exact hb) _
  · rw [walkN_other b1 n8 hb _ hk, b99 b b0 (by omega)]
