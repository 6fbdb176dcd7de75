/-- the reference's walk along a street -/
def WF1 (r : Nat) (m m1 : Mem) : Prop := (∀ k, k ≠ r → k ≠ 169 → k ≠ 187 → k ≠ 188 → m1 k = m k) ∧ ∀ j : Int, j ≠ 32 → j ≠ 34 → j ≠ 35 → j ≠ 36 → j ≠ 37 → m1 169 j = m 169 j
theorem mt_step {E : Nat × (Nat → Int32)} {m m1 : Mem} {v : (Int → Int) → Int} {r : Nat} {s side block how full n l0 : Int} {x : Int → Int} {k : Nat} (hl : r < 209) (hs : SH[r]? = some (.inr (0, 99))) (hR : RuleM m v) (hT : WTown m) (hS : WSet m) (s0 : 0 ≤ s) (s6 : s < 6) (n8 : n ≤ 8) (hk : (k : Int) < 2 * n) (X0 : WkOK l0 0 x) (l1 : l0 ≤ 9999) (rw' : RI how) (rf : RI full) (rh : RI (m 169 31)) (rm : RI (m 169 30)) (d0 : 0 ≤ side) (d1 : side ≤ 1) (b0 : 0 ≤ block) (b8 : block < 8) (eH : houseN n how k = 8 * side + block) (X : Xr m1 r (walkN m v s how full (m 169 31) (m 169 30) n k x)) (F : WF1 r m m1) :
    K_X12_binGoes E [.ref 169, .ref r, vi s, vi side, vi block, vi how, vi full] m1 (fun m2 => Xr m2 r (walkN m v s how full (m 169 31) (m 169 30) n (k + 1) x) ∧ WF1 r m m2) := by
  obtain ⟨F1, F2⟩ := F
  obtain ⟨n1, n2, n3, n4, n5, n6, n7⟩ := rowNot hs
  have e31 : m1 169 31 = m 169 31 := F2 31 (by decide) (by decide) (by decide) (by decide) (by decide)
  have e30 : m1 169 30 = m 169 30 := F2 30 (by decide) (by decide) (by decide) (by decide) (by decide)
  have ok := walkN_ok (v := v) (how := how) (full := full) (hill := m 169 31) (men := m 169 30) hT hS s0 s6 n8 X0 k (by omega)
  have hr := houseN_rng (n := n) (how := how) (i := k) n8 (by omega) (by omega)
  rw [eH] at hr
  have o1 := ok.1 (16 * s + (8 * side + block)) (by omega) (by omega)
  have o2 := ok.2.1
  have o3 := ok.2.2.1
  have o4 := ok.2.2.2.1
  have g := mt_binGoes (E := E) (a := m) (side := side) (block := block) (how := how) (full := full) hl hs X (F1 178 (fun e => n4 e.symm) (by decide) (by decide) (by decide)) (F1 179 (fun e => n5 e.symm) (by decide) (by decide) (by decide)) (hR.of (F2 26 (by decide) (by decide) (by decide) (by decide) (by decide)) (F1 185 (fun e => n6 e.symm) (by decide) (by decide) (by decide))) (hT.of (F2 3 (by decide) (by decide) (by decide) (by decide) (by decide)) (fun j j0 j1 => F1 j (fun e => n7 j j0 j1 e.symm) (by omega) (by omega) (by omega))) (hS.of (F1 179 (fun e => n5 e.symm) (by decide) (by decide) (by decide))) s0 s6 d0 d1 b0 b8 rw' rf ⟨by omega, by omega⟩ o4 o2 (by omega) (by rw [e31]; exact rh) (by rw [e30]; exact rm)
  rw [e31, e30] at g
  refine g.mono (fun o m2 hz => ?_)
  obtain ⟨z1, z2, z3, z4⟩ := hz
  refine ⟨z1, ?_, fun j q1 q2 q3 q4 => (z3 j q1 q2 q3 q4).trans (F1 j q1 q2 q3 q4), fun j q1 q2 q3 q4 q5 => (z4 j q1 q2 q3 q4 q5).trans (F2 j q1 q2 q3 q4 q5)⟩
  rw [walkN, eH]
  exact z2
def movesR (m : Mem) (s how : Int) : Int := if how ≠ 0 then (if how ≠ 1 then 0 else 5 * m 172 s + (if m 174 s = 0 then 0 else 9 * m 172 s)) else 10 * m 172 s
/-- the street's row and counts after the walk -/
def goesR (m : Mem) (v : (Int → Int) → Int) (r : Int → Int) (s how full : Int) : Int → Int := walkN m v s how full (m 169 31) (m 169 30) (m 172 s) (2 * m 172 s).toNat (x0 r)
def handsR (m : Mem) (w : Int) : Int := divI ((w + m 169 30) - 1) (m 169 30)
theorem mt_streetGoes {E : Nat × (Nat → Int32)} {m : Mem} {v : (Int → Int) → Int} {r : Nat} {s how full : Int} (hl : r < 209) (hs : SH[r]? = some (.inr (0, 99))) (hR : RuleM m v) (hT : WTown m) (hS : WSet m) (s0 : 0 ≤ s) (s6 : s < 6) (h0 : 0 ≤ how) (h2 : how ≤ 2) (rf : RI full) (rh : RI (m 169 31)) (rm : 1 ≤ m 169 30 ∧ m 169 30 ≤ 9) (hr : ∀ b : Int, 0 ≤ b → b < 96 → 0 ≤ m r b ∧ m r b ≤ 3) (r0 : 0 ≤ m r 96) (r1 : m r 96 ≤ 999) :
    K_X12_streetGoes E [.ref 169, .ref r, vi s, vi how, vi full] m (fun z m' => z = handsR m (goesR m v (m r) s how full 132) + movesR m s how ∧ m' 169 32 = handsR m (goesR m v (m r) s how full 132) ∧ m' 169 33 = movesR m s how ∧ (∀ j : Int, 0 ≤ j → j < 99 → m' r j = goesR m v (m r) s how full j) ∧ m' 169 34 = goesR m v (m r) s how full 134 ∧ m' 169 35 = goesR m v (m r) s how full 135 ∧ m' 169 36 = goesR m v (m r) s how full 136 ∧ m' 169 37 = goesR m v (m r) s how full 137 ∧ (∀ k, k ≠ r → k ≠ 169 → k ≠ 187 → k ≠ 188 → m' k = m k) ∧ ∀ j : Int, j ≠ 32 → j ≠ 33 → j ≠ 34 → j ≠ 35 → j ≠ 36 → j ≠ 37 → m' 169 j = m 169 j) := by
  obtain ⟨n1, n2, n3, n4, n5, n6, n7⟩ := rowNot hs
  have t := hT.2.2.1 s s0 s6
  have X0 := x0_ok hr r0
  have rw' : RI how := ⟨by omega, by omega⟩
  have rm' : RI (m 169 30) := ⟨by omega, by omega⟩
  refine en_X12_streetGoes (sg_X12_streetGoes_0 hl hs ⟨s0, s6⟩ ?_)
  generalize hM : up2 (up2 (up2 (up2 (up2 m 169 32 0) 169 34 0) 169 35 0) 169 36 0) 169 37 0 = M
  have M1 : ∀ k, k ≠ 169 → M k = m k := fun k q => by rw [← hM, up2_k q, up2_k q, up2_k q, up2_k q, up2_k q]
  have M2 : ∀ j : Int, j ≠ 32 → j ≠ 34 → j ≠ 35 → j ≠ 36 → j ≠ 37 → M 169 j = m 169 j := fun j q1 q2 q3 q4 q5 => by rw [← hM, up2_j q5, up2_j q4, up2_j q3, up2_j q2, up2_j q1]
  have FM : WF1 r m M := ⟨fun k q1 q2 q3 q4 => M1 k q2, M2⟩
  have XM : Xr M r (x0 (m r)) := by
    refine ⟨fun j j0 j1 => by rw [M1 r n1, x0_row j0 j1], ?_, ?_, ?_, ?_, ?_⟩
    all_goals rw [x0_0 (by decide), ← hM]
    all_goals simp [up2]
  clear hM M1 M2
  -- the end
  have fin : ∀ (P : Option Value → Mem → Prop) (m1 : Mem) (i : Int), RI i → (i < 0 ∨ how ≠ 0) → Xr m1 r (goesR m v (m r) s how full) → WF1 r m m1 → P (some (vi (handsR m (goesR m v (m r) s how full 132) + movesR m s how))) (up2 (up2 m1 169 32 (handsR m (goesR m v (m r) s how full 132))) 169 33 (movesR m s how)) → GM E (m_X12_streetGoes 5) P 83 [.ref 169, .ref r, vi s, vi how, vi full, vi (m 172 s), vi i] [] m1 := by
    intro P m1 i ri hi X F hP
    obtain ⟨X1, X2, X3, X4, X5, X6⟩ := X
    obtain ⟨F1, F2⟩ := F
    have e30 : m1 169 30 = m 169 30 := F2 30 (by decide) (by decide) (by decide) (by decide) (by decide)
    have e174 : m1 174 = m 174 := F1 174 (fun e => n7 174 (by decide) (by decide) e.symm) (by decide) (by decide) (by decide)
    have eh : divI ((m1 169 32 + m1 169 30) - 1) (m1 169 30) = handsR m (goesR m v (m r) s how full 132) := by rw [X2, e30]; rfl
    refine sg_X12_streetGoes_83 hl hs ri (fun _ => by rw [e30]; exact rm') (fun _ => by rw [e30]; omega) rw' (fun _ _ _ => ⟨s0, s6⟩) (fun _ _ _ => by rw [e174]; constructor <;> omega) (fun _ _ => by rw [e30]; exact rm') (fun _ _ => by rw [e30]; omega) (fun _ _ _ _ => ⟨s0, s6⟩) (fun _ _ _ _ => by rw [e174]; constructor <;> omega) (fun _ => ?_) (fun _ _ => ?_) (fun q1 q2 => by omega)
    · rw [eh, e174]; exact hP
    · rw [eh, e174]; exact hP
  have done : ∀ m1 : Mem, Xr m1 r (goesR m v (m r) s how full) → WF1 r m m1 → (Pi fun z m' => z = handsR m (goesR m v (m r) s how full 132) + movesR m s how ∧ m' 169 32 = handsR m (goesR m v (m r) s how full 132) ∧ m' 169 33 = movesR m s how ∧ (∀ j : Int, 0 ≤ j → j < 99 → m' r j = goesR m v (m r) s how full j) ∧ m' 169 34 = goesR m v (m r) s how full 134 ∧ m' 169 35 = goesR m v (m r) s how full 135 ∧ m' 169 36 = goesR m v (m r) s how full 136 ∧ m' 169 37 = goesR m v (m r) s how full 137 ∧ (∀ k, k ≠ r → k ≠ 169 → k ≠ 187 → k ≠ 188 → m' k = m k) ∧ ∀ j : Int, j ≠ 32 → j ≠ 33 → j ≠ 34 → j ≠ 35 → j ≠ 36 → j ≠ 37 → m' 169 j = m 169 j) (some (vi (handsR m (goesR m v (m r) s how full 132) + movesR m s how))) (up2 (up2 m1 169 32 (handsR m (goesR m v (m r) s how full 132))) 169 33 (movesR m s how)) := by
    intro m1 X F
    obtain ⟨X1, X2, X3, X4, X5, X6⟩ := X
    obtain ⟨F1, F2⟩ := F
    refine ⟨_, rfl, rfl, ?_, up2_same _ _ _ _, fun j j0 j1 => ?_, ?_, ?_, ?_, ?_, fun k q1 q2 q3 q4 => ?_, fun j q1 q2 q3 q4 q5 q6 => ?_⟩
    · rw [up2_j (by decide), up2_same]
    · rw [up2_k n1, up2_k n1]; exact X1 j j0 j1
    · rw [up2_j (by decide), up2_j (by decide)]; exact X3
    · rw [up2_j (by decide), up2_j (by decide)]; exact X4
    · rw [up2_j (by decide), up2_j (by decide)]; exact X5
    · rw [up2_j (by decide), up2_j (by decide)]; exact X6
    · rw [up2_k q2, up2_k q2]; exact F1 k q1 q2 q3 q4
    · rw [up2_j q2, up2_j q1]; exact F2 j q1 q3 q4 q5 q6
  by_cases c : how = 0
  · subst c
    refine up_loop (i0 := 0) (n := m 172 s) (fun i m1 => GM E _ _ 36 [.ref 169, .ref r, vi s, vi 0, vi full, vi (m 172 s), vi i] [] m1) (fun i m1 => Xr m1 r (walkN m v s 0 full (m 169 31) (m 169 30) (m 172 s) i.toNat (x0 (m r))) ∧ WF1 r m m1) (fun m1 h => ?_) (fun i m1 a0 a1 h k => ?_) (i := 0) (s := M) (by omega) (by omega) ⟨XM, FM⟩
    · refine sg_X12_streetGoes_36 hl hs ⟨by omega, by omega⟩ ⟨by omega, by omega⟩ (fun _ => ?_) (by omega)
      refine dn_loop (i1 := m 172 s - 1) (fun i m1 => GM E _ _ 83 [.ref 169, .ref r, vi s, vi 0, vi full, vi (m 172 s), vi i] [] m1) (fun i m1 => Xr m1 r (walkN m v s 0 full (m 169 31) (m 169 30) (m 172 s) (2 * m 172 s - 1 - i).toNat (x0 (m r))) ∧ WF1 r m m1) (fun m2 h => ?_) (fun i m2 a0 a1 h k => ?_) (i := m 172 s - 1) (s := m1) (by omega) (by omega) ?_
      · have hx : Xr m2 r (goesR m v (m r) s 0 full) := by
          have := h.1
          rw [show 2 * m 172 s - 1 - -1 = 2 * m 172 s by omega] at this
          exact this
        exact fin _ m2 (-1) ⟨by omega, by omega⟩ (Or.inl (by omega)) hx h.2 (done m2 hx h.2)
      · refine sg_X12_streetGoes_83 hl hs ⟨by omega, by omega⟩ (by omega) (by omega) rw' (by omega) (by omega) (fun _ q => absurd rfl q) (fun _ q => absurd rfl q) (fun _ q => absurd rfl q) (fun _ q => absurd rfl q) (by omega) (fun _ q => absurd rfl q) (fun _ _ => ?_)
        refine ca_X12_streetGoes_101 (mt_step (k := (2 * m 172 s - 1 - i).toNat) hl hs hR hT hS s0 s6 (by omega) (by omega) X0 (by omega) rw' rf rh rm' (by omega) (by omega) (by omega) (by omega) ?_ h.1 h.2) (fun m3 hz => sg_X12_streetGoes_104 hl hs (k _ ?_))
        · unfold houseN
          rw [if_pos rfl, if_neg (by omega)]
          omega
        · rw [show (2 * m 172 s - 1 - (i - 1)).toNat = (2 * m 172 s - 1 - i).toNat + 1 by omega]
          exact hz
      · rw [show 2 * m 172 s - 1 - (m 172 s - 1) = m 172 s by omega]
        exact h
    · refine sg_X12_streetGoes_36 hl hs ⟨by omega, by omega⟩ ⟨by omega, by omega⟩ (by omega) (fun _ => ?_)
      refine ca_X12_streetGoes_52 (mt_step (k := i.toNat) hl hs hR hT hS s0 s6 (by omega) (by omega) X0 (by omega) rw' rf rh rm' (by omega) (by omega) (by omega) (by omega) ?_ h.1 h.2) (fun m3 hz => sg_X12_streetGoes_55 hl hs rw' (fun _ => k _ ?_) (by omega))
      · unfold houseN
        rw [if_pos rfl, if_pos (by omega)]
        omega
      · rw [show (i + 1).toNat = i.toNat + 1 by omega]
        exact hz
  · refine up_loop (i0 := 0) (n := m 172 s) (fun i m1 => GM E _ _ 36 [.ref 169, .ref r, vi s, vi how, vi full, vi (m 172 s), vi i] [] m1) (fun i m1 => Xr m1 r (walkN m v s how full (m 169 31) (m 169 30) (m 172 s) (2 * i).toNat (x0 (m r))) ∧ WF1 r m m1) (fun m1 h => ?_) (fun i m1 a0 a1 h k => ?_) (i := 0) (s := M) (by omega) (by omega) (by rw [show (2 * (0 : Int)).toNat = 0 from rfl]; exact ⟨XM, FM⟩)
    · refine sg_X12_streetGoes_36 hl hs ⟨by omega, by omega⟩ ⟨by omega, by omega⟩ (fun _ => ?_) (by omega)
      exact fin _ m1 _ ⟨by omega, by omega⟩ (Or.inr c) h.1 h.2 (done m1 h.1 h.2)
    · refine sg_X12_streetGoes_36 hl hs ⟨by omega, by omega⟩ ⟨by omega, by omega⟩ (by omega) (fun _ => ?_)
      refine ca_X12_streetGoes_52 (mt_step (k := (2 * i).toNat) hl hs hR hT hS s0 s6 (by omega) (by omega) X0 (by omega) rw' rf rh rm' (by omega) (by omega) (by omega) (by omega) ?_ h.1 h.2) (fun m3 hz => sg_X12_streetGoes_55 hl hs rw' (by omega) (fun _ => ?_))
      · unfold houseN
        rw [if_neg c]
        omega
      · refine ca_X12_streetGoes_68 (mt_step (k := (2 * i).toNat + 1) hl hs hR hT hS s0 s6 (by omega) (by omega) X0 (by omega) rw' rf rh rm' (by omega) (by omega) (by omega) (by omega) ?_ hz.1 hz.2) (fun m4 hz4 => sg_X12_streetGoes_71 hl hs (k _ ?_))
        · unfold houseN
          rw [if_neg c]
          omega
        · rw [show (2 * (i + 1)).toNat = (2 * i).toNat + 1 + 1 by omega]
          exact hz4
