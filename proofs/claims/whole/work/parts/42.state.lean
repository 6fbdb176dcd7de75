/-! the bins as bits of houses against the bins as numbers -/
def stv (a b d : Bool) : Int := if a then 1 else if b then 2 else if d then 3 else 0
def StRel (c : Mem) (o : Nat) (r : Int → Int) : Prop :=
  (∀ s : Int, 0 ≤ s → s < 6 → Small (c (o + 1) s) ∧ Small (c (o + 2) s) ∧ Small (c (o + 3) s) ∧ ∀ h : Int, 0 ≤ h → h < 16 → r (16 * s + h) = stv (tb (c (o + 1) s) h) (tb (c (o + 2) s) h) (tb (c (o + 3) s) h) ∧ (tb (c (o + 1) s) h && tb (c (o + 2) s) h) = false ∧ (tb (c (o + 1) s) h && tb (c (o + 3) s) h) = false ∧ (tb (c (o + 2) s) h && tb (c (o + 3) s) h) = false) ∧
  c o 3 = r 96 ∧ c o 4 = r 97 ∧ c o 5 = r 98
theorem StRel.congr {c c' : Mem} {o : Nat} {r : Int → Int} (h : StRel c o r) (h0 : c' o = c o) (h1 : c' (o + 1) = c (o + 1)) (h2 : c' (o + 2) = c (o + 2)) (h3 : c' (o + 3) = c (o + 3)) : StRel c' o r := by
  unfold StRel
  rw [h0, h1, h2, h3]
  exact h
/-- the same state in another place -/
theorem StRel.copy {c c' : Mem} {o o' : Nat} {r : Int → Int} (h : StRel c o r) (h1 : ∀ s : Int, 0 ≤ s → s < 6 → c' (o' + 1) s = c (o + 1) s ∧ c' (o' + 2) s = c (o + 2) s ∧ c' (o' + 3) s = c (o + 3) s) (h2 : c' o' 3 = c o 3 ∧ c' o' 4 = c o 4 ∧ c' o' 5 = c o 5) : StRel c' o' r := by
  obtain ⟨g1, g2⟩ := h
  unfold StRel
  rw [h2.1, h2.2.1, h2.2.2]
  refine ⟨fun s h0 h6 => ?_, g2⟩
  obtain ⟨e1, e2, e3⟩ := h1 s h0 h6
  rw [e1, e2, e3]
  exact g1 s h0 h6
theorem StRel.ext {c : Mem} {o : Nat} {r r' : Int → Int} (h : StRel c o r) (e : ∀ k : Int, 0 ≤ k → k < 99 → r' k = r k) : StRel c o r' := by
  obtain ⟨g1, g2⟩ := h
  unfold StRel
  rw [e 96 (by omega) (by omega), e 97 (by omega) (by omega), e 98 (by omega) (by omega)]
  refine ⟨fun s h0 h6 => ?_, g2⟩
  obtain ⟨a1, a2, a3, a4⟩ := g1 s h0 h6
  refine ⟨a1, a2, a3, fun h k0 k1 => ?_⟩
  rw [e _ (by omega) (by omega)]
  exact a4 h k0 k1
theorem state_apart : ∀ o ∈ stateL, ∀ p ∈ stateL, o ≠ p → ∀ i, i < 4 → ∀ j, j < 4 → o + i ≠ p + j := by decide +kernel
theorem state_low : ∀ o ∈ stateL, 22 < o ∧ o + 3 < 166 := by decide +kernel
theorem cpyR_lt {f g : Int → Int} {n j : Int} (h0 : 0 ≤ j) (h1 : j < n) : cpyR f g n j = f j := by
  unfold cpyR
  rw [if_pos ⟨h0, h1⟩]
/-- become -/
theorem ct_become {E : Nat × (Nat → Int32)} {m : Mem} {o p : Nat} (ho : o ∈ stateL) (hp : p ∈ stateL) : K_X7_become E [.ref o, .ref p] m (fun m' => (∀ k, k ≠ o → k ≠ o + 1 → k ≠ o + 2 → k ≠ o + 3 → m' k = m k) ∧ (∀ r, StRel m p r → StRel m' o r) ∧ ∀ r, StRel m p r → StRel m' p r) := by
  refine en_X7_become (sg_X7_become_0 ho hp ⟨rfl, ?_⟩)
  by_cases e : o = p
  · subst e
    refine ⟨fun k h0 h1 h2 h3 => ?_, fun r h => ?_, fun r h => ?_⟩
    · rw [up2_k h0, up2_k h0, up2_k h0, upr_k h3, upr_k h2, upr_k h1]
    · refine h.copy (fun s h0 h6 => ?_) ?_
      · simp [up2, upr, cpyR]
      · simp [up2, upr]
    · refine h.copy (fun s h0 h6 => ?_) ?_
      · simp [up2, upr, cpyR]
      · simp [up2, upr]
  · have ap := state_apart o ho p hp e
    have n00 := ap 0 (by omega) 0 (by omega)
    have n01 := ap 0 (by omega) 1 (by omega)
    have n02 := ap 0 (by omega) 2 (by omega)
    have n03 := ap 0 (by omega) 3 (by omega)
    have n10 := ap 1 (by omega) 0 (by omega)
    have n11 := ap 1 (by omega) 1 (by omega)
    have n12 := ap 1 (by omega) 2 (by omega)
    have n13 := ap 1 (by omega) 3 (by omega)
    have n20 := ap 2 (by omega) 0 (by omega)
    have n21 := ap 2 (by omega) 1 (by omega)
    have n22 := ap 2 (by omega) 2 (by omega)
    have n23 := ap 2 (by omega) 3 (by omega)
    have n30 := ap 3 (by omega) 0 (by omega)
    have n31 := ap 3 (by omega) 1 (by omega)
    have n32 := ap 3 (by omega) 2 (by omega)
    have n33 := ap 3 (by omega) 3 (by omega)
    refine ⟨fun k h0 h1 h2 h3 => ?_, fun r h => ?_, fun r h => ?_⟩
    · rw [up2_k h0, up2_k h0, up2_k h0, upr_k h3, upr_k h2, upr_k h1]
    · refine h.copy (fun s h0 h6 => ?_) ?_
      · simp only [up2, upr, cpyR]
        refine ⟨?_, ?_, ?_⟩ <;> simp [h0, h6] <;> (repeat' (first | omega | rw [if_neg (by omega)] | rfl))
      · simp only [up2, upr]
        refine ⟨?_, ?_, ?_⟩ <;> simp <;> (repeat' (first | omega | rw [if_neg (by omega)] | rfl))
    · refine h.congr ?_ ?_ ?_ ?_
      · rw [up2_k (by omega), up2_k (by omega), up2_k (by omega), upr_k (by omega), upr_k (by omega), upr_k (by omega)]
      · rw [up2_k (by omega), up2_k (by omega), up2_k (by omega), upr_k (by omega), upr_k (by omega), upr_k (by omega)]
      · rw [up2_k (by omega), up2_k (by omega), up2_k (by omega), upr_k (by omega), upr_k (by omega), upr_k (by omega)]
      · rw [up2_k (by omega), up2_k (by omega), up2_k (by omega), upr_k (by omega), upr_k (by omega), upr_k (by omega)]
/-- how many bins are in a state -/
def cnt (r : Int → Int) (q : Int) (n : Nat) : Int := sumI (fun b => b01 (r b == q)) n
theorem sumI_block {f : Int → Int} {n : Nat} : ∀ k : Nat, sumI f (n * k) = sumI (fun s => sumI (fun h => f (n * s + h)) n) k
  | 0 => rfl
  | k + 1 => by
    have h : ∀ j : Nat, sumI f (n * k + j) = sumI f (n * k) + sumI (fun h => f (n * (k : Int) + h)) j := by
      intro j
      induction j with
      | zero => simp [sumI]
      | succ j ih =>
        rw [← Nat.add_assoc, sumI, ih, sumI, Int.add_assoc]
        congr 3
    rw [Nat.mul_succ, h n, sumI_block k, sumI]
theorem stv_1 (a b d : Bool) : (stv a b d == 1) = a := by cases a <;> cases b <;> cases d <;> decide
theorem stv_2 {a b d : Bool} (h : (a && b) = false) : (stv a b d == 2) = b := by revert h; cases a <;> cases b <;> cases d <;> decide
theorem stv_3 {a b d : Bool} (h : (a && d) = false) (h2 : (b && d) = false) : (stv a b d == 3) = d := by revert h h2; cases a <;> cases b <;> cases d <;> decide
theorem cnt_block {r : Int → Int} {q : Int} : cnt r q 96 = sumI (fun s => sumI (fun h => b01 (r (16 * s + h) == q)) 16) 6 := sumI_block (f := fun b => b01 (r b == q)) (n := 16) 6
theorem StRel.cnt1 {c : Mem} {o : Nat} {r : Int → Int} (h : StRel c o r) : sumI (fun s => pop (c (o + 1) s)) 6 = cnt r 1 96 := by
  rw [cnt_block]
  refine sumI_congr (fun s h0 h6 => ?_)
  obtain ⟨-, -, -, g⟩ := h.1 s h0 h6
  refine sumI_congr (fun k k0 k1 => ?_)
  rw [(g k k0 k1).1, stv_1]
theorem StRel.cnt2 {c : Mem} {o : Nat} {r : Int → Int} (h : StRel c o r) : sumI (fun s => pop (c (o + 2) s)) 6 = cnt r 2 96 := by
  rw [cnt_block]
  refine sumI_congr (fun s h0 h6 => ?_)
  obtain ⟨-, -, -, g⟩ := h.1 s h0 h6
  refine sumI_congr (fun k k0 k1 => ?_)
  obtain ⟨g1, g2, g3, g4⟩ := g k k0 k1
  rw [g1, stv_2 g2]
theorem StRel.cnt3 {c : Mem} {o : Nat} {r : Int → Int} (h : StRel c o r) : sumI (fun s => pop (c (o + 3) s)) 6 = cnt r 3 96 := by
  rw [cnt_block]
  refine sumI_congr (fun s h0 h6 => ?_)
  obtain ⟨-, -, -, g⟩ := h.1 s h0 h6
  refine sumI_congr (fun k k0 k1 => ?_)
  obtain ⟨g1, g2, g3, g4⟩ := g k k0 k1
  rw [g1, stv_3 g3 g4]
theorem StRel.cntOf {c : Mem} {o : Nat} {r : Int → Int} (h : StRel c o r) (s : Int) (h0 : 0 ≤ s) (h6 : s < 6) : pop (c (o + 1) s) = sumI (fun k => b01 (r (16 * s + k) == 1)) 16 := by
  obtain ⟨-, -, -, g⟩ := h.1 s h0 h6
  refine sumI_congr (fun k k0 k1 => ?_)
  rw [(g k k0 k1).1, stv_1]
/-- countOf -/
theorem ct_countOf {E : Nat × (Nat → Int32)} {m : Mem} {o : Nat} {q : Int} {r : Int → Int} (ho : o ∈ stateL) (hq : q = 1 ∨ q = 2 ∨ q = 3) (hr : StRel m o r) : K_X7_countOf E [.ref o, vi q] m (fun z m' => m' = m ∧ z = cnt r q 96) := by
  have loop : ∀ (p : Nat), p < 209 → SH[p]? = some (.inr (0, 6)) → (∀ s : Int, 0 ≤ s → s < 6 → Small (m p s)) → ∀ (d : Nat) (i a : Int), 0 ≤ i → i + d = 6 → a = sumI (fun s => pop (m p s)) i.toNat → GM E (m_X7_countOf 1) (Pi fun z m' => m' = m ∧ z = sumI (fun s => pop (m p s)) 6) 34 [.ref o, vi q, .ref p, vi a, vi i] [] m := by
    intro p hp hs hsm d
    induction d with
    | zero =>
      intro i a h0 h1 h2
      refine sg_X7_countOf_34 ho hp hs (by omega) (fun c => by omega) (fun c => ⟨_, rfl, rfl, ?_⟩) (fun c => by omega)
      rw [h2, show i.toNat = 6 by omega]
    | succ d ih =>
      intro i a h0 h1 h2
      refine sg_X7_countOf_34 ho hp hs (by omega) (fun c => by omega) (fun c => by omega) (fun c => ?_)
      refine ca_X7_countOf_46 (ct_bitCount (hsm i h0 (by omega))) (fun z m2 hz => ?_)
      obtain ⟨rfl, rfl⟩ := hz
      refine sg_X7_countOf_49 ho hp hs ?_
      refine ih _ _ (by omega) (by omega) ?_
      rw [show (i + 1).toNat = i.toNat + 1 by omega, sumI, ← h2, Int.toNat_of_nonneg h0]
  have fin : ∀ (p : Nat), sumI (fun s => pop (m p s)) 6 = cnt r q 96 → CM E yX7_countOf (m_X7_countOf 1) [.ref o, vi q] m (Pi fun z m' => m' = m ∧ z = sumI (fun s => pop (m p s)) 6) → K_X7_countOf E [.ref o, vi q] m (fun z m' => m' = m ∧ z = cnt r q 96) := by
    intro p e h
    rw [e] at h
    exact h
  rcases hq with rfl | rfl | rfl
  · refine fin (o + 1) hr.cnt1 (en_X7_countOf (sg_X7_countOf_0 ho (by decide) (fun c => absurd rfl c) (fun c => absurd rfl c) (fun _ => ?_)))
    exact loop (o + 1) (ltState1 ho) (shState1 ho) (fun s h0 h6 => (hr.1 s h0 h6).1) 6 0 0 (by omega) (by omega) rfl
  · refine fin (o + 2) hr.cnt2 (en_X7_countOf (sg_X7_countOf_0 ho (by decide) (fun _ c => absurd rfl c) (fun _ _ => ?_) (fun c => absurd c (by decide))))
    exact loop (o + 2) (ltState2 ho) (shState2 ho) (fun s h0 h6 => (hr.1 s h0 h6).2.1) 6 0 0 (by omega) (by omega) rfl
  · refine fin (o + 3) hr.cnt3 (en_X7_countOf (sg_X7_countOf_0 ho (by decide) (fun _ _ => ?_) (fun _ c => absurd c (by decide)) (fun c => absurd c (by decide))))
    exact loop (o + 3) (ltState3 ho) (shState3 ho) (fun s h0 h6 => (hr.1 s h0 h6).2.2.1) 6 0 0 (by omega) (by omega) rfl
