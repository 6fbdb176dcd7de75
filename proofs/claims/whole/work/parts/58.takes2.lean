/-! takes: what both answer -/
def goesP (a : Mem) (v : (Int → Int) → Int) (r : Int → Int) (s how full hill men : Int) : Int → Int := walkN a v s how full hill men (a 172 s) (2 * a 172 s).toNat (x0 r)
def handsP (men w : Int) : Int := divI ((w + men) - 1) men
def takesP (a : Mem) (v : (Int → Int) → Int) (r : Int → Int) (s how hill men : Int) : Int := handsP men (goesP a v (emptyRow r) s how 1000000 hill men 132)
theorem goesP_congr {a b : Mem} {v : (Int → Int) → Int} {r : Int → Int} {s how full hill men : Int} (e2 : a 172 = b 172) (e8 : a 178 = b 178) (e9 : a 179 = b 179) : goesP a v r s how full hill men = goesP b v r s how full hill men := by
  unfold goesP
  rw [e2, walkN_congr e8 e9]
theorem movesR_rng {a : Mem} {s how : Int} (hT : WTown a) (s0 : 0 ≤ s) (s6 : s < 6) : 0 ≤ movesR a s how ∧ movesR a s how ≤ 112 := by
  have t := hT.2.2.1 s s0 s6
  unfold movesR
  split
  · split
    · omega
    · split <;> omega
  · omega
theorem mt_takes {E : Nat × (Nat → Int32)} {a : Mem} {v : (Int → Int) → Int} {s how B : Int} (rs : RI s) (rw' : RI how) (hR : RuleM a v) (hT : WTown a) (hS : WSet a) (hn : StOK B a (a 180)) : K_X12_takes E [.ref 169, vi s, vi how] a (fun z a' => ((0 ≤ s ∧ s < a 169 3 ∧ 0 ≤ how ∧ how ≤ 2) ∧ z = takesP a v (a 180) s how (a 173 s) (a 179 1) + movesR a s how ∧ a' 169 1 = 2 ∧ a' 170 0 = takesP a v (a 180) s how (a 173 s) (a 179 1) ∧ a' 170 1 = movesR a s how ∧ (∀ k, k ≠ 189 → k ≠ 169 → k ≠ 170 → k ≠ 187 → k ≠ 188 → a' k = a k) ∧ ∀ j : Int, PF j → j ≠ 1 → a' 169 j = a 169 j) ∨ (¬ (0 ≤ s ∧ s < a 169 3 ∧ 0 ≤ how ∧ how ≤ 2) ∧ z = -1 ∧ a' = up2 a 169 0 0)) := by
  have n0 := hT.1
  have n6 := hT.2.1
  have := rs.1; have := rs.2; have := rw'.1; have := rw'.2
  refine en_X12_takes (sg_X12_takes_0 (by omega) rs rw' (by omega) (by omega) (fun p q => ?_) (fun p q => ⟨_, rfl, Or.inr ⟨by omega, rfl, rfl⟩⟩) (fun p => ⟨_, rfl, Or.inr ⟨by omega, rfl, rfl⟩⟩))
  have t := hT.2.2.1 s p.1 (by omega)
  have m1 : 1 ≤ a 179 1 ∧ a 179 1 ≤ 4 := ⟨hS.2.2.1, hS.2.2.2.1⟩
  generalize hM : up2 (up2 (up2 a 169 0 0) 169 30 (a 179 1)) 169 31 (a 173 s) = M
  have M1 : ∀ k, k ≠ 169 → M k = a k := fun k q => by rw [← hM, up2_k q, up2_k q, up2_k q]
  have M2 : ∀ j : Int, j ≠ 0 → j ≠ 30 → j ≠ 31 → M 169 j = a 169 j := fun j q1 q2 q3 => by rw [← hM, up2_j q3, up2_j q2, up2_j q1]
  have M31 : M 169 31 = a 173 s := by rw [← hM, up2_same]
  have M30 : M 169 30 = a 179 1 := by rw [← hM, up2_j (by decide), up2_same]
  have g := mt_takesOf (E := E) (m := M) (r := 180) (v := v) (s := s) (how := how) (by decide) (by decide) (by decide) (hR.of (M2 26 (by decide) (by decide) (by decide)) (M1 185 (by decide))) (hT.of (M2 3 (by decide) (by decide) (by decide)) (fun k k0 k1 => M1 k (by omega))) (hS.of (M1 179 (by decide))) p.1 (by omega) (by omega) (by omega) (by rw [M31]; constructor <;> omega) (by rw [M30]; omega) (fun b b0 b1 => by
    rw [M1 180 (by decide)]
    exact ⟨(hn.1 b b0 b1).1, (hn.1 b b0 b1).2.1⟩)
  have e1 : handsR M (goesR M v (emptyRow (M 180)) s how 1000000 132) = takesP a v (a 180) s how (a 173 s) (a 179 1) := by
    show divI ((goesP M v (emptyRow (M 180)) s how 1000000 (M 169 31) (M 169 30) 132 + M 169 30) - 1) (M 169 30) = _
    rw [M31, M30, M1 180 (by decide), goesP_congr (M1 172 (by decide)) (M1 178 (by decide)) (M1 179 (by decide))]
    rfl
  have e2 : movesR M s how = movesR a s how := by unfold movesR; rw [M1 172 (by decide), M1 174 (by decide)]
  rw [e1, e2] at g
  refine ca_X12_takes_39 g (fun z m3 hz => ?_)
  obtain ⟨z1, z2, z3, z4, z5⟩ := hz
  have mr := movesR_rng (how := how) hT p.1 (by omega : s < 6)
  refine sg_X12_takes_42 (by rw [z2]; exact iI_rng _) (by rw [z3]; constructor <;> omega) ⟨_, rfl, Or.inl ⟨by omega, z1, up2_same _ _ _ _, ?_, ?_, fun k q1 q2 q3 q4 q5 => ?_, fun j hj h1 => ?_⟩⟩
  · rw [up2_k (by decide), up2_j (by decide), up2_k (by decide), up2_same, z2]
  · rw [up2_k (by decide), up2_same, z3]
  · rw [up2_k q2, up2_k q3, up2_k q2, up2_k q3, up2_k q2, z4 k q1 q2 q4 q5, M1 k q2]
  · have hj : j = 1 ∨ j = 3 ∨ j = 4 ∨ j = 17 ∨ j = 26 ∨ j = 40 ∨ j = 62 := hj
    rw [up2_j h1, up2_k (by decide), up2_j h1, up2_k (by decide), up2_j h1, z5 j (by omega) (by omega) (by omega) (by omega) (by omega) (by omega), M2 j (by omega) (by omega) (by omega)]
