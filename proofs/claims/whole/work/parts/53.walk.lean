/-! the walk along a street -/
theorem RuleM.of {a b : Mem} {v : (Int → Int) → Int} (h : RuleM b v) (e26 : a 169 26 = b 169 26) (e185 : a 185 = b 185) : RuleM a v := by
  unfold RuleM
  rw [e26, e185]
  exact h
theorem WSet.of {a b : Mem} (h : WSet b) (e : a 179 = b 179) : WSet a := by unfold WSet; rw [e]; exact h
theorem WTown.of {a b : Mem} (h : WTown b) (e3 : a 169 3 = b 169 3) (e : ∀ k, 171 ≤ k → k ≤ 178 → a k = b k) : WTown a := by
  unfold WTown
  rw [e3, e 171 (by omega) (by omega), e 172 (by omega) (by omega), e 173 (by omega) (by omega), e 174 (by omega) (by omega), e 175 (by omega) (by omega), e 176 (by omega) (by omega), e 177 (by omega) (by omega), e 178 (by omega) (by omega)]
  exact h
theorem fct_congr {a b : Mem} {s h hill men carried : Int} (e8 : a 178 = b 178) (e9 : a 179 = b 179) : fct a s h hill men carried = fct b s h hill men carried := by
  unfold fct hv
  rw [e8, e9]
/-- a row with some counts behind it: 132 seconds, 134 emptied, 135 left, 136 loaded, 137 stopped -/
def pt (x : Int → Int) (j z : Int) : Int → Int := fun b => if b = j then z else x b
theorem pt_same {x : Int → Int} {j z : Int} : pt x j z j = z := if_pos rfl
theorem pt_ne {x : Int → Int} {j z b : Int} (h : b ≠ j) : pt x j z b = x b := if_neg h
def carriedOf (how h : Int) : Int := if how ≠ 2 then 0 else h % 8 + 1
def extraOf (how h : Int) : Int := if how ≠ 1 then (if how ≠ 2 then 0 else 4 * (h % 8 + 1)) else 11 * (h / 8)
/-- one house -/
def wk (a : Mem) (v : (Int → Int) → Int) (s how full hill men h : Int) (x : Int → Int) : Int → Int :=
  if x (16 * s + h) = 1 ∧ x 137 = 0 then
    (if hv a (16 * s + h) (a 179 2) ≤ a 179 4 then
      (if x 96 + hv a (16 * s + h) (a 179 2) ≤ full then
        pt (pt (pt (pt (pt x 96 (x 96 + hv a (16 * s + h) (a 179 2))) 136 (x 136 + hv a (16 * s + h) (a 179 2))) (16 * s + h) 2) 134 (x 134 + 1)) 132 (x 132 + (sec v (fct a s h hill men (carriedOf how h)) + extraOf how h))
      else pt x 137 1)
    else pt (pt (pt x (16 * s + h) 3) 135 (x 135 + 1)) 132 (x 132 + 3))
  else x
/-- the memory holds it -/
def Xr (m : Mem) (r : Nat) (x : Int → Int) : Prop := (∀ j : Int, 0 ≤ j → j < 99 → m r j = x j) ∧ m 169 32 = x 132 ∧ m 169 34 = x 134 ∧ m 169 35 = x 135 ∧ m 169 36 = x 136 ∧ m 169 37 = x 137
theorem rowNot {r : Nat} (h : SH[r]? = some (.inr (0, 99))) : r ≠ 169 ∧ r ≠ 187 ∧ r ≠ 188 ∧ r ≠ 178 ∧ r ≠ 179 ∧ r ≠ 185 ∧ (∀ k, 171 ≤ k → k ≤ 178 → r ≠ k) := by
  refine ⟨fun e => ?_, fun e => ?_, fun e => ?_, fun e => ?_, fun e => ?_, fun e => ?_, fun k k0 k1 e => ?_⟩
  · subst e; cases h
  · subst e; cases h
  · subst e; cases h
  · subst e; cases h
  · subst e; cases h
  · subst e; cases h
  · subst e
    have : r = 171 ∨ r = 172 ∨ r = 173 ∨ r = 174 ∨ r = 175 ∨ r = 176 ∨ r = 177 ∨ r = 178 := by omega
    rcases this with rfl | rfl | rfl | rfl | rfl | rfl | rfl | rfl <;> cases h
theorem mt_binGoes {E : Nat × (Nat → Int32)} {m a : Mem} {v : (Int → Int) → Int} {r : Nat} {s side block how full : Int} {x : Int → Int} (hl : r < 209) (hs : SH[r]? = some (.inr (0, 99))) (X : Xr m r x) (e178 : m 178 = a 178) (e179 : m 179 = a 179) (hR : RuleM m v) (hT : WTown m) (hS : WSet m) (s0 : 0 ≤ s) (s6 : s < 6) (d0 : 0 ≤ side) (d1 : side ≤ 1) (b0 : 0 ≤ block) (b8 : block < 8) (rw' : RI how) (rf : RI full) (rx : RI (x (16 * s + (8 * side + block)))) (st : x 137 = 0 ∨ x 137 = 1) (x0 : 0 ≤ x 96) (x1 : x 96 ≤ 100000) (rh : RI (m 169 31)) (rm : RI (m 169 30)) :
    K_X12_binGoes E [.ref 169, .ref r, vi s, vi side, vi block, vi how, vi full] m (fun m' => Xr m' r (wk a v s how full (m 169 31) (m 169 30) (8 * side + block) x) ∧ (∀ k, k ≠ r → k ≠ 169 → k ≠ 187 → k ≠ 188 → m' k = m k) ∧ ∀ j : Int, j ≠ 32 → j ≠ 34 → j ≠ 35 → j ≠ 36 → j ≠ 37 → m' 169 j = m 169 j) := by
  obtain ⟨X1, X2, X3, X4, X5, X6⟩ := X
  obtain ⟨n1, n2, n3, n4, n5, n6, n7⟩ := rowNot hs
  have eb : 16 * s + 8 * side + block = 16 * s + (8 * side + block) := by omega
  generalize hH : 8 * side + block = H at *
  have H0 : 0 ≤ H := by omega
  have H1 : H < 16 := by omega
  have er : m r (16 * s + H) = x (16 * s + H) := X1 _ (by omega) (by omega)
  have e96 : m r 96 = x 96 := X1 _ (by omega) (by omega)
  have ehv : divI (((m 178 (16 * s + H)) * (m 179 3)) * (10 + (m 179 2))) 10 = hv a (16 * s + H) (a 179 2) := by rw [e178, e179]; rfl
  have hh := hv_rng (b := 16 * s + H) (rain := m 179 2) (hT.w (by omega) (by omega)) hS ⟨hS.2.2.2.2.1, hS.2.2.2.2.2.1⟩
  have hh' : 0 ≤ hv a (16 * s + H) (a 179 2) ∧ hv a (16 * s + H) (a 179 2) ≤ 34 := by rw [← ehv]; exact hh
  have l1 := hS.2.2.2.2.2.2.2.2.1
  have l2 := hS.2.2.2.2.2.2.2.2.2.1
  have l4 : m 179 4 = a 179 4 := by rw [e179]
  have goal : GM E (m_X12_binGoes 4) (Pv (fun m' => Xr m' r (wk a v s how full (m 169 31) (m 169 30) H x) ∧ (∀ k, k ≠ r → k ≠ 169 → k ≠ 187 → k ≠ 188 → m' k = m k) ∧ ∀ j : Int, j ≠ 32 → j ≠ 34 → j ≠ 35 → j ≠ 36 → j ≠ 37 → m' 169 j = m 169 j)) 0 [.ref 169, .ref r, vi s, vi side, vi block, vi how, vi full, un, un] [] m := by
    have stay : wk a v s how full (m 169 31) (m 169 30) H x = x → (Pv (fun m' => Xr m' r (wk a v s how full (m 169 31) (m 169 30) H x) ∧ (∀ k, k ≠ r → k ≠ 169 → k ≠ 187 → k ≠ 188 → m' k = m k) ∧ ∀ j : Int, j ≠ 32 → j ≠ 34 → j ≠ 35 → j ≠ 36 → j ≠ 37 → m' 169 j = m 169 j)) none m := fun e => by
      rw [e]
      exact ⟨rfl, ⟨X1, X2, X3, X4, X5, X6⟩, fun _ _ _ _ _ => rfl, fun _ _ _ _ _ _ => rfl⟩
    have hb : block = H % 8 := by omega
    have hd : side = H / 8 := by omega
    have nb : ∀ M : Mem, ∀ j z : Int, up2 M 169 j z r = M r := fun M j z => up2_k n1
    have nr : ∀ M : Mem, ∀ j z : Int, up2 M r j z 169 = M 169 := fun M j z => up2_k (fun e => n1 e.symm)
    refine sg_X12_binGoes_0 hl hs (by omega) ?_ ?_ (by omega) ?_ ?_ rf rw' ?_ ?_ ?_ ?_ ?_
    all_goals rw [eb]
    · rw [er]; exact rx
    · intro _
      rw [X6]
      rcases st with h | h <;> rw [h] <;> constructor <;> omega
    · intro _ _
      constructor <;> omega
    · intro _ _ _
      rw [e96, ehv]
      constructor <;> omega
    · intro p
      refine stay (if_neg (fun q => p ?_))
      rw [er]; exact q.1
    · rw [er, ehv, l4, e96, X6]
      intro p p2 p3 p4
      have ew : wk a v s how full (m 169 31) (m 169 30) H x = pt (pt (pt (pt (pt x 96 (x 96 + hv a (16 * s + H) (a 179 2))) 136 (x 136 + hv a (16 * s + H) (a 179 2))) (16 * s + H) 2) 134 (x 134 + 1)) 132 (x 132 + (sec v (fct a s H (m 169 31) (m 169 30) (carriedOf how H)) + extraOf how H)) := by
        unfold wk
        rw [if_pos ⟨p, p2⟩, if_pos p3, if_pos p4]
      rw [ew]
      clear ew stay
      simp only [nr, up2_j (show (32 : Int) ≠ 36 by decide), up2_j (show (34 : Int) ≠ 36 by decide), X2, X3, X5]
      generalize hM : up2 (up2 (up2 (up2 m r 96 (x 96 + hv a (16 * s + H) (a 179 2))) 169 36 (x 136 + hv a (16 * s + H) (a 179 2))) r (16 * s + H) 2) 169 34 (x 134 + 1) = M
      have M1 : ∀ k, k ≠ r → k ≠ 169 → M k = m k := fun k q1 q2 => by rw [← hM, up2_k q2, up2_k q1, up2_k q2, up2_k q1]
      have M2 : ∀ j : Int, j ≠ 34 → j ≠ 36 → M 169 j = m 169 j := fun j q1 q2 => by rw [← hM, up2_j q1, nr, up2_j q2, nr]
      have MR : RuleM M v := hR.of (M2 26 (by decide) (by decide)) (M1 185 (fun e => n6 e.symm) (by decide))
      have MT : WTown M := hT.of (M2 3 (by decide) (by decide)) (fun k k0 k1 => M1 k (fun e => n7 k k0 k1 e.symm) (by omega))
      have M9 : M 179 = m 179 := M1 179 (fun e => n5 e.symm) (by decide)
      have M8 : M 178 = m 178 := M1 178 (fun e => n4 e.symm) (by decide)
      have ec : (if how ≠ 2 then (0 : Int) else block + 1) = carriedOf how H := by unfold carriedOf; rw [hb]
      rw [ec]
      have rcc : RI (carriedOf how H) := by
        unfold carriedOf
        split <;> constructor <;> omega
      refine ca_X12_binGoes_147 (mt_secondsOf MR MT (hS.of M9) s0 s6 d0 d1 b0 b8 (by rw [M2 31 (by decide) (by decide)]; exact rh) (by rw [M2 30 (by decide) (by decide)]; exact rm) rcc) (fun z m3 hz => ?_)
      obtain ⟨z1, z2⟩ := hz
      refine sg_X12_binGoes_150 hl hs rw' ⟨rfl, ⟨fun j j0 j1 => ?_, ?_, ?_, ?_, ?_, ?_⟩, fun k q1 q2 q3 q4 => ?_, fun j q1 q2 q3 q4 q5 => ?_⟩
      · rw [nb, z2 r n2 n3, ← hM, nb, pt_ne (by omega), pt_ne (by omega)]
        by_cases c : j = 16 * s + H
        · subst c
          rw [up2_same, pt_same]
        · rw [up2_j c, nb, pt_ne c, pt_ne (by omega)]
          by_cases c2 : j = 96
          · subst c2
            rw [up2_same, pt_same]
          · rw [up2_j c2, pt_ne c2]
            exact X1 j j0 j1
      · rw [up2_same, pt_same, z1, hH, M2 31 (by decide) (by decide), M2 30 (by decide) (by decide), fct_congr (M8.trans e178) (M9.trans e179)]
        unfold extraOf
        rw [hb, hd]
      · rw [up2_j (by decide), z2 169 (by decide) (by decide), ← hM, up2_same, pt_ne (by decide), pt_same]
      · rw [up2_j (by decide), z2 169 (by decide) (by decide), M2 35 (by decide) (by decide), X4, pt_ne (by decide), pt_ne (by decide), pt_ne (by omega), pt_ne (by decide), pt_ne (by decide)]
      · rw [up2_j (by decide), z2 169 (by decide) (by decide), ← hM, up2_j (by decide), nr, up2_same, pt_ne (by decide), pt_ne (by decide), pt_ne (by omega), pt_same]
      · rw [up2_j (by decide), z2 169 (by decide) (by decide), M2 37 (by decide) (by decide), X6, pt_ne (by decide), pt_ne (by decide), pt_ne (by omega), pt_ne (by decide), pt_ne (by decide)]
      · rw [up2_k q2, z2 k q3 q4, M1 k q1 q2]
      · rw [up2_j q1, z2 169 (by decide) (by decide), M2 j q2 q4]
    · rw [er, ehv, l4, e96, X6]
      intro p p2 p3 p4
      have ew : wk a v s how full (m 169 31) (m 169 30) H x = pt x 137 1 := by
        unfold wk
        rw [if_pos ⟨p, p2⟩, if_pos p3, if_neg p4]
      rw [ew]
      refine ⟨rfl, ⟨fun j j0 j1 => ?_, ?_, ?_, ?_, ?_, ?_⟩, fun k q1 q2 q3 q4 => up2_k q2, fun j q1 q2 q3 q4 q5 => up2_j q5⟩
      · rw [nb, pt_ne (by omega)]; exact X1 j j0 j1
      · rw [up2_j (by decide), pt_ne (by decide)]; exact X2
      · rw [up2_j (by decide), pt_ne (by decide)]; exact X3
      · rw [up2_j (by decide), pt_ne (by decide)]; exact X4
      · rw [up2_j (by decide), pt_ne (by decide)]; exact X5
      · rw [up2_same, pt_same]
    · rw [er, ehv, l4, X6]
      intro p p2 p3
      have ew : wk a v s how full (m 169 31) (m 169 30) H x = pt (pt (pt x (16 * s + H) 3) 135 (x 135 + 1)) 132 (x 132 + 3) := by
        unfold wk
        rw [if_pos ⟨p, p2⟩, if_neg p3]
      rw [ew, nr]
      refine ⟨rfl, ⟨fun j j0 j1 => ?_, ?_, ?_, ?_, ?_, ?_⟩, fun k q1 q2 q3 q4 => by rw [up2_k q2, up2_k q2, up2_k q1], fun j q1 q2 q3 q4 q5 => by rw [up2_j q1, up2_j q3, nr]⟩
      · rw [nb, nb, pt_ne (by omega), pt_ne (by omega)]
        by_cases c : j = 16 * s + H
        · subst c
          rw [up2_same, pt_same]
        · rw [up2_j c, pt_ne c]
          exact X1 j j0 j1
      · rw [up2_same, pt_same, X2]
      · rw [up2_j (by decide), up2_j (by decide), nr, pt_ne (by decide), pt_ne (by decide), pt_ne (by omega)]; exact X3
      · rw [up2_j (by decide), up2_same, pt_ne (by decide), pt_same, X4]
      · rw [up2_j (by decide), up2_j (by decide), nr, pt_ne (by decide), pt_ne (by decide), pt_ne (by omega)]; exact X5
      · rw [up2_j (by decide), up2_j (by decide), nr, pt_ne (by decide), pt_ne (by decide), pt_ne (by omega)]; exact X6
    · intro p p2
      refine stay (if_neg (fun q => p2 ?_))
      rw [X6]; exact q.2
  exact en_X12_binGoes goal
