/-! the reference: seconds of a street, done by a how with an empty lorry that is never full -/
theorem wk_congr {a b : Mem} {v : (Int → Int) → Int} {s how full hill men h : Int} {x : Int → Int} (e8 : a 178 = b 178) (e9 : a 179 = b 179) : wk a v s how full hill men h x = wk b v s how full hill men h x := by
  unfold wk
  rw [fct_congr e8 e9]
  unfold hv
  rw [e8, e9]
theorem walkN_congr {a b : Mem} {v : (Int → Int) → Int} {s how full hill men n : Int} {x : Int → Int} (e8 : a 178 = b 178) (e9 : a 179 = b 179) : ∀ k : Nat, walkN a v s how full hill men n k x = walkN b v s how full hill men n k x
  | 0 => rfl
  | k + 1 => by rw [walkN, walkN, walkN_congr e8 e9 k, wk_congr e8 e9]
theorem x0_congr {r r' : Int → Int} (e : ∀ b : Int, 0 ≤ b → b < 99 → r b = r' b) : x0 r = x0 r' := by
  funext b
  unfold x0
  split
  · rename_i h; exact e b h.1 h.2
  · rfl
def emptyRow (r : Int → Int) : Int → Int := fun b => if b = 96 then 0 else r b
theorem mt_takesOf {E : Nat × (Nat → Int32)} {m : Mem} {v : (Int → Int) → Int} {r : Nat} {s how : Int} (hl : r < 209) (hs : SH[r]? = some (.inr (0, 99))) (ne : r ≠ 189) (hR : RuleM m v) (hT : WTown m) (hS : WSet m) (s0 : 0 ≤ s) (s6 : s < 6) (h0 : 0 ≤ how) (h2 : how ≤ 2) (rh : RI (m 169 31)) (rm : 1 ≤ m 169 30 ∧ m 169 30 ≤ 9) (hr : ∀ b : Int, 0 ≤ b → b < 96 → 0 ≤ m r b ∧ m r b ≤ 3) :
    K_X12_takesOf_ E [.ref 169, .ref r, vi s, vi how] m (fun z m' => z = handsR m (goesR m v (emptyRow (m r)) s how 1000000 132) + movesR m s how ∧ m' 169 32 = handsR m (goesR m v (emptyRow (m r)) s how 1000000 132) ∧ m' 169 33 = movesR m s how ∧ (∀ k, k ≠ 189 → k ≠ 169 → k ≠ 187 → k ≠ 188 → m' k = m k) ∧ ∀ j : Int, j ≠ 32 → j ≠ 33 → j ≠ 34 → j ≠ 35 → j ≠ 36 → j ≠ 37 → m' 169 j = m 169 j) := by
  refine en_X12_takesOf_ (sg_X12_takesOf__0 hl hs ?_)
  refine ca_X12_takesOf__5 (ct_puts hl hs (by decide) (by decide) ne) (fun m1 hm1 => sg_X12_takesOf__8 hl hs ?_)
  generalize hM : up2 m1 189 96 0 = M
  have M1 : ∀ k, k ≠ 189 → M k = m k := fun k q => by rw [← hM, up2_k q, hm1, mv_k q]
  have M9 : ∀ j : Int, 0 ≤ j → j < 99 → M 189 j = emptyRow (m r) j := fun j j0 j1 => by
    rw [← hM]
    unfold emptyRow
    by_cases c : j = 96
    · subst c; rw [up2_same, if_pos rfl]
    · rw [up2_j c, if_neg c, hm1, mv_in (by omega) (by omega)]
      congr 1
      omega
  have e169 : M 169 = m 169 := M1 169 (by decide)
  have eg : goesR M v (M 189) s how 1000000 = goesR m v (emptyRow (m r)) s how 1000000 := by
    unfold goesR
    rw [e169, M1 172 (by decide), x0_congr M9, walkN_congr (M1 178 (by decide)) (M1 179 (by decide))]
  have eh : ∀ w, handsR M w = handsR m w := fun w => by unfold handsR; rw [e169]
  have em : movesR M s how = movesR m s how := by unfold movesR; rw [M1 172 (by decide), M1 174 (by decide)]
  have g := mt_streetGoes (E := E) (m := M) (r := 189) (full := 1000000) (by decide) (by decide) (hR.of (by rw [e169]) (M1 185 (by decide))) (hT.of (by rw [e169]) (fun k k0 k1 => M1 k (by omega))) (hS.of (M1 179 (by decide))) s0 s6 h0 h2 (by decide) (by rw [e169]; exact rh) (by rw [e169]; exact rm) (fun b b0 b1 => by
    rw [M9 b b0 (by omega)]
    unfold emptyRow
    rw [if_neg (by omega)]
    exact hr b b0 b1) (by rw [M9 96 (by decide) (by decide)]; show (0 : Int) ≤ 0; decide) (by rw [M9 96 (by decide) (by decide)]; show (0 : Int) ≤ 999; decide)
  rw [eg] at g
  refine ca_X12_takesOf__26 g (fun z m3 hz => sg_X12_takesOf__29 hl hs ⟨_, rfl, ?_⟩)
  obtain ⟨z1, z2, z3, -, -, -, -, -, z4, z5⟩ := hz
  rw [eh, em] at z1
  rw [eh] at z2
  rw [em] at z3
  exact ⟨z1, z2, z3, fun k q1 q2 q3 q4 => (z4 k q1 q2 q3 q4).trans (M1 k q1), fun j q1 q2 q3 q4 q5 q6 => (z5 j q1 q2 q3 q4 q5 q6).trans (by rw [e169])⟩
