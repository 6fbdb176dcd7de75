/-! the reference: the best how -/
def MB (a m : Mem) : Prop := m 169 3 = a 169 3 ∧ m 169 26 = a 169 26 ∧ (∀ k, 171 ≤ k → k ≤ 179 → m k = a k) ∧ m 185 = a 185
theorem MB.rf {a : Mem} : MB a a := ⟨rfl, rfl, fun _ _ _ => rfl, rfl⟩
theorem MB.trans {a b d : Mem} (h : MB a b) (g : MB b d) : MB a d := ⟨g.1.trans h.1, g.2.1.trans h.2.1, fun k k0 k1 => (g.2.2.1 k k0 k1).trans (h.2.2.1 k k0 k1), g.2.2.2.trans h.2.2.2⟩
theorem MB.rule {a m : Mem} {v : (Int → Int) → Int} (b : MB a m) (h : RuleM a v) : RuleM m v := h.of b.2.1 b.2.2.2
theorem MB.town {a m : Mem} (b : MB a m) (h : WTown a) : WTown m := h.of b.1 (fun k k0 k1 => b.2.2.1 k k0 (by omega))
theorem MB.set {a m : Mem} (b : MB a m) (h : WSet a) : WSet m := h.of (b.2.2.1 179 (by omega) (by omega))
theorem HighEq.mb {a m : Mem} (h : HighEq a m) : MB a m := ⟨by rw [h 169 (by decide)], by rw [h 169 (by decide)], fun k k0 _ => h k (by omega), h 185 (by decide)⟩
/-- scratch alone -/
def SF (m m' : Mem) : Prop := (∀ k, k ≠ 189 → k ≠ 169 → k ≠ 187 → k ≠ 188 → m' k = m k) ∧ ∀ j : Int, (j < 30 ∨ 37 < j) → j ≠ 39 → m' 169 j = m 169 j
theorem SF.rf {m : Mem} : SF m m := ⟨fun _ _ _ _ _ => rfl, fun _ _ _ => rfl⟩
theorem SF.trans {a b d : Mem} (h : SF a b) (g : SF b d) : SF a d := ⟨fun k q1 q2 q3 q4 => (g.1 k q1 q2 q3 q4).trans (h.1 k q1 q2 q3 q4), fun j q1 q2 => (g.2 j q1 q2).trans (h.2 j q1 q2)⟩
theorem SF.mb {m m' : Mem} (h : SF m m') : MB m m' := ⟨h.2 3 (by omega) (by decide), h.2 26 (by omega) (by decide), fun k k0 k1 => h.1 k (by omega) (by omega) (by omega) (by omega), h.1 185 (by decide) (by decide) (by decide) (by decide)⟩
theorem SF.low {m m' : Mem} (h : SF m m') : LowEq m m' := fun k hk => h.1 k (by omega) (by omega) (by omega) (by omega)
theorem SF.peq {m m' : Mem} (h : SF m m') : PEq m' m := PEq.of (fun k hk h9 => by
    have hk : (169 ≤ k ∧ k < 181) ∨ k = 182 ∨ k = 185 ∨ k = 190 ∨ k = 201 ∨ k = 202 ∨ (205 ≤ k ∧ k < 208) := hk
    exact h.1 k (by omega) h9 (by omega) (by omega)) (fun j hj => by
    have hj : j = 1 ∨ j = 3 ∨ j = 4 ∨ j = 17 ∨ j = 26 ∨ j = 40 ∨ j = 62 := hj
    exact h.2 j (by omega) (by omega))
theorem SF.up {m m1 : Mem} {j z : Int} (h : SF m m1) (hj : 30 ≤ j ∧ j ≤ 37 ∨ j = 39) : SF m (up2 m1 169 j z) := ⟨fun k q1 q2 q3 q4 => (up2_k q2).trans (h.1 k q1 q2 q3 q4), fun i q1 q2 => (up2_j (by omega)).trans (h.2 i q1 q2)⟩
theorem emptyRow_96 {r : Int → Int} : emptyRow r 96 = 0 := if_pos rfl
theorem emptyRow_b {r : Int → Int} {b : Int} (h : b ≠ 96) : emptyRow r b = r b := if_neg h
theorem secN_row {a : Mem} {v : (Int → Int) → Int} {r r' : Int → Int} {s how hill men : Int} (e : ∀ b : Int, 0 ≤ b → b < 99 → r b = r' b) : secN a v r s how hill men = secN a v r' s how hill men := by
  unfold secN goesP
  rw [x0_congr e]
theorem emptyRow_congr {r r' : Int → Int} (e : ∀ b : Int, 0 ≤ b → b < 99 → r b = r' b) : ∀ b : Int, 0 ≤ b → b < 99 → emptyRow r b = emptyRow r' b := fun b b0 b1 => by
  unfold emptyRow
  rw [e b b0 b1]
theorem mt_takesOf2 {E : Nat × (Nat → Int32)} {m a : Mem} {v : (Int → Int) → Int} {r : Nat} {s how hill men : Int} {r0 : Int → Int} (hl : r < 209) (hs : SH[r]? = some (.inr (0, 99))) (ne : r ≠ 189) (b : MB a m) (hR : RuleM a v) (hT : WTown a) (hS : WSet a) (s0 : 0 ≤ s) (s6 : s < 6) (h0 : 0 ≤ how) (h2 : how ≤ 2) (e31 : m 169 31 = hill) (e30 : m 169 30 = men) (rh : RI hill) (rm : 1 ≤ men ∧ men ≤ 9) (er : ∀ b : Int, 0 ≤ b → b < 99 → m r b = r0 b) (hr : ∀ b : Int, 0 ≤ b → b < 96 → 0 ≤ r0 b ∧ r0 b ≤ 3) :
    K_X12_takesOf_ E [.ref 169, .ref r, vi s, vi how] m (fun z m' => z = secN a v (emptyRow r0) s how hill men ∧ m' 169 32 = handsP men (goesP a v (emptyRow r0) s how 1000000 hill men 132) ∧ m' 169 33 = movesR a s how ∧ SF m m' ∧ m' 169 31 = m 169 31 ∧ m' 169 30 = m 169 30 ∧ m' 169 39 = m 169 39) := by
  subst e31 e30
  refine (mt_takesOf hl hs ne (b.rule hR) (b.town hT) (b.set hS) s0 s6 h0 h2 rh rm (fun q q0 q1 => by rw [er q q0 (by omega)]; exact hr q q0 q1)).mono (fun o m' hz => ?_)
  obtain ⟨z, z0, z1, z2, z3, z4, z5⟩ := hz
  have e1 : handsR m (goesR m v (emptyRow (m r)) s how 1000000 132) = handsP (m 169 30) (goesP a v (emptyRow r0) s how 1000000 (m 169 31) (m 169 30) 132) := by
    show divI ((goesP m v (emptyRow (m r)) s how 1000000 (m 169 31) (m 169 30) 132 + m 169 30) - 1) (m 169 30) = _
    rw [goesP_congr (b := a) (b.2.2.1 172 (by omega) (by omega)) (b.2.2.1 178 (by omega) (by omega)) (b.2.2.1 179 (by omega) (by omega))]
    unfold goesP
    rw [x0_congr (emptyRow_congr er)]
    rfl
  have e2 : movesR m s how = movesR a s how := by unfold movesR; rw [b.2.2.1 172 (by omega) (by omega), b.2.2.1 174 (by omega) (by omega)]
  rw [e1, e2] at z1
  rw [e1] at z2
  rw [e2] at z3
  exact ⟨z, z0, z1, z2, z3, ⟨fun k q1 q2 q3 q4 => z4 k q1 q2 q3 q4, fun j q1 q2 => z5 j (by omega) (by omega) (by omega) (by omega) (by omega) (by omega)⟩, z5 31 (by decide) (by decide) (by decide) (by decide) (by decide) (by decide), z5 30 (by decide) (by decide) (by decide) (by decide) (by decide) (by decide), z5 39 (by decide) (by decide) (by decide) (by decide) (by decide) (by decide)⟩
theorem mt_bestOf {E : Nat × (Nat → Int32)} {m a : Mem} {v : (Int → Int) → Int} {r : Nat} {s hill men : Int} {r0 : Int → Int} (hl : r < 209) (hs : SH[r]? = some (.inr (0, 99))) (ne : r ≠ 189) (b : MB a m) (hR : RuleM a v) (hT : WTown a) (hS : WSet a) (s0 : 0 ≤ s) (s6 : s < 6) (e31 : m 169 31 = hill) (e30 : m 169 30 = men) (rh : RI hill) (rm : 1 ≤ men ∧ men ≤ 9) (er : ∀ b : Int, 0 ≤ b → b < 99 → m r b = r0 b) (hr : ∀ b : Int, 0 ≤ b → b < 96 → 0 ≤ r0 b ∧ r0 b ≤ 3) :
    K_X12_bestOf E [.ref 169, .ref r, vi s] m (fun z m' => z = secN a v (emptyRow r0) s (bestH (fun how => secN a v (emptyRow r0) s how hill men)) hill men ∧ m' 169 39 = bestH (fun how => secN a v (emptyRow r0) s how hill men) ∧ SF m m' ∧ m' 169 31 = m 169 31 ∧ m' 169 30 = m 169 30) := by
  obtain ⟨n1, n2, n3, n4, n5, n6, n7⟩ := rowNot hs
  have T := fun how => secN_rng (v := v) (r := emptyRow r0) (how := how) (hill := hill) hT hS s0 s6 (fun b b0 b1 => by rw [emptyRow_b (by omega)]; exact hr b b0 b1) (by rw [emptyRow_96]; omega) rm
  generalize hTf : (fun how => secN a v (emptyRow r0) s how hill men) = Tf
  have eT : ∀ how, secN a v (emptyRow r0) s how hill men = Tf how := fun how => by rw [← hTf]
  rw [eT]
  simp only [eT] at T
  let chosen : Int → Int := fun how => if how ≤ 1 then 0 else if how = 2 then (if Tf 1 < Tf 0 then 1 else 0) else bestH Tf
  refine en_X12_bestOf (sg_X12_bestOf_0 hl hs ?_)
  refine up_loop (i0 := 0) (n := 3) (fun how (x : Mem × Int) => GM E _ _ 5 [.ref 169, .ref r, vi s, vi x.2, vi how, un] [] x.1) (fun how x => (0 < how → x.1 169 39 = chosen how ∧ x.2 = Tf (chosen how)) ∧ (how = 0 → x.2 = 0) ∧ SF m x.1 ∧ x.1 169 31 = m 169 31 ∧ x.1 169 30 = m 169 30) (fun x h => ?_) (fun how x a0 a1 h k => ?_) (i := 0) (s := (m, 0)) (by omega) (by omega) ⟨by omega, fun _ => rfl, SF.rf, rfl, rfl⟩
  · obtain ⟨m1, y⟩ := x
    obtain ⟨q1, q2, q3, q4⟩ := h
    obtain ⟨q1, q5⟩ := q1 (by decide)
    exact sg_X12_bestOf_5 hl hs (by decide) (fun _ => ⟨_, rfl, q5, q1, q3, q4⟩) (by omega)
  · obtain ⟨m1, y⟩ := x
    obtain ⟨q1, q2, q3, q4, q5⟩ := h
    have kk : ∀ (m3 : Mem) (y3 : Int), ((0 < how + 1 → m3 169 39 = chosen (how + 1) ∧ y3 = Tf (chosen (how + 1))) ∧ (how + 1 = 0 → y3 = 0) ∧ SF m m3 ∧ m3 169 31 = m 169 31 ∧ m3 169 30 = m 169 30) → GM E _ _ 5 [.ref 169, .ref r, vi s, vi y3, vi (how + 1), un] [] m3 := fun m3 y3 h => k (m3, y3) h
    have q1 : 0 < how → m1 169 39 = chosen how ∧ y = Tf (chosen how) := q1
    have q2 : how = 0 → y = 0 := q2
    have ry : RI y := by
      by_cases c : how = 0
      · rw [q2 c]; decide
      · have := (q1 (by omega)).2
        have t := T (chosen how)
        rw [this]; constructor <;> omega
    refine sg_X12_bestOf_5 hl hs ⟨by omega, by omega⟩ (by omega) (fun _ => ?_)
    refine ca_X12_bestOf_16 (mt_takesOf2 (r0 := r0) hl hs ne (b.trans q3.mb) hR hT hS s0 s6 a0 (by omega) (q4.trans e31) (q5.trans e30) rh rm (fun c c0 c1 => (congrFun (q3.1 r ne n1 n2 n3) c).trans (er c c0 c1)) hr) (fun z m2 hz => ?_)
    obtain ⟨z1, -, -, z4, z5, z6, z7⟩ := hz
    rw [eT] at z1
    have t := T how
    refine sg_X12_bestOf_19 hl hs ⟨by omega, by omega⟩ (by rw [z1]; constructor <;> omega) ry (kk _ _ ⟨fun _ => ?_, fun c => by omega, (q3.trans z4).up (by omega), (up2_j (by decide)).trans (z5.trans q4), (up2_j (by decide)).trans (z6.trans q5)⟩)
    rw [up2_same, z7]
    dsimp only
    have h3 : how = 0 ∨ how = 1 ∨ how = 2 := by omega
    rcases h3 with rfl | rfl | rfl
    · rw [if_pos rfl, if_neg (fun g => g rfl)]
      exact ⟨rfl, z1⟩
    · obtain ⟨w1, w2⟩ := q1 (by decide)
      have w1 : m1 169 39 = 0 := w1
      have w2 : y = Tf 0 := w2
      rw [if_neg (show ¬ (1 : Int) = 0 by decide), if_pos (show (1 : Int) ≠ 0 by decide), w1, z1, w2]
      have ec : chosen (1 + 1) = if Tf 1 < Tf 0 then 1 else 0 := rfl
      rw [ec]
      by_cases g : Tf 1 < Tf 0
      · rw [if_neg (by omega), if_pos g]; exact ⟨rfl, by omega⟩
      · rw [if_pos (by omega), if_neg g]; exact ⟨rfl, by omega⟩
    · obtain ⟨w1, w2⟩ := q1 (by decide)
      have ec2 : chosen 2 = if Tf 1 < Tf 0 then 1 else 0 := rfl
      have ec : chosen (2 + 1) = bestH Tf := rfl
      rw [ec2] at w1 w2
      rw [if_neg (show ¬ (2 : Int) = 0 by decide), if_pos (show (2 : Int) ≠ 0 by decide), w1, z1, w2, ec]
      unfold bestH
      by_cases g : Tf 2 < Tf (if Tf 1 < Tf 0 then 1 else 0)
      · rw [if_neg (by omega), if_pos g]; exact ⟨rfl, by omega⟩
      · rw [if_pos (by omega), if_neg g]; exact ⟨rfl, by omega⟩
/-- as all is -/
def BT (a : Mem) (v : (Int → Int) → Int) (r : Int → Int) (s : Int) : Int → Int := fun how => secN a v (emptyRow r) s how (a 173 s) (a 179 1)
def bestS (a : Mem) (v : (Int → Int) → Int) (r : Int → Int) (s : Int) : Int := BT a v r s (bestH (BT a v r s))
theorem BT_rng {a : Mem} {v : (Int → Int) → Int} {r : Int → Int} {s how : Int} (hT : WTown a) (hS : WSet a) (s0 : 0 ≤ s) (s6 : s < 6) (hr : ∀ b : Int, 0 ≤ b → b < 96 → 0 ≤ r b ∧ r b ≤ 3) : 0 ≤ BT a v r s how ∧ BT a v r s how ≤ 17712 :=
  secN_rng hT hS s0 s6 (fun b b0 b1 => by rw [emptyRow_b (by omega)]; exact hr b b0 b1) (by rw [emptyRow_96]; omega) ⟨hS.2.2.1, by have := hS.2.2.2.1; omega⟩
theorem mt_bestNow {E : Nat × (Nat → Int32)} {m a : Mem} {v : (Int → Int) → Int} {s : Int} {r0 : Int → Int} (b : MB a m) (hR : RuleM a v) (hT : WTown a) (hS : WSet a) (s0 : 0 ≤ s) (s6 : s < 6) (er : ∀ b : Int, 0 ≤ b → b < 99 → m 180 b = r0 b) (hr : ∀ b : Int, 0 ≤ b → b < 96 → 0 ≤ r0 b ∧ r0 b ≤ 3) :
    K_X12_bestNow E [.ref 169, vi s] m (fun z m' => z = bestS a v r0 s ∧ m' 169 39 = bestH (BT a v r0 s) ∧ SF m m' ∧ m' 169 31 = a 173 s ∧ m' 169 30 = a 179 1) := by
  have t := hT.2.2.1 s s0 s6
  have e3 : m 173 = a 173 := b.2.2.1 173 (by omega) (by omega)
  have e9 : m 179 = a 179 := b.2.2.1 179 (by omega) (by omega)
  refine en_X12_bestNow (sg_X12_bestNow_0 ⟨s0, s6⟩ ?_)
  have f1 : SF m (up2 (up2 m 169 30 (m 179 1)) 169 31 (m 173 s)) := (SF.rf.up (by omega)).up (by omega)
  have f31 : up2 (up2 m 169 30 (m 179 1)) 169 31 (m 173 s) 169 31 = a 173 s := by rw [up2_same, e3]
  have f30 : up2 (up2 m 169 30 (m 179 1)) 169 31 (m 173 s) 169 30 = a 179 1 := by rw [up2_j (by decide), up2_same, e9]
  refine ca_X12_bestNow_11 (mt_bestOf (r := 180) (r0 := r0) (by decide) (by decide) (by decide) (b.trans f1.mb) hR hT hS s0 s6 f31 f30 ⟨by omega, by omega⟩ ⟨hS.2.2.1, by have := hS.2.2.2.1; omega⟩ (fun c c0 c1 => by rw [f1.1 180 (by decide) (by decide) (by decide) (by decide)]; exact er c c0 c1) hr) (fun z m2 hz => sg_X12_bestNow_14 ⟨_, rfl, hz.1, hz.2.1, f1.trans hz.2.2.1, hz.2.2.2.1.trans f31, hz.2.2.2.2.trans f30⟩)
