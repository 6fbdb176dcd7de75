theorem slotMem : ∀ f : Nat, f < 15 → 33 + 4 * f ∈ stateL := by decide +kernel
theorem keptMem : ∀ f : Nat, f < 3 → 154 + 4 * f ∈ stateL := by decide +kernel
theorem m29 : 29 ∈ stateL := by decide
theorem m23 : 23 ∈ stateL := by decide
theorem CHist.sg {c a b : Mem} (h : CHist c a) (e1 : b 169 40 = a 169 40) (e2 : ∀ j : Int, 0 ≤ j → j < 99 * a 169 40 → b 190 j = a 190 j) : CHist c b := by
  obtain ⟨h1, f, h2, h3, h4, h5⟩ := h
  refine ⟨h1.trans e1.symm, f, h2, h3, h4, fun i i15 hi => ?_⟩
  rw [e1] at hi
  exact (h5 i i15 hi).ext (fun k k0 k1 => e2 _ (by omega) (by omega))
/-- dropOldest -/
theorem ct_dropOldest {E : Nat × (Nat → Int32)} {c a : Mem} (h : CHist c a) (hu : a 169 40 = 15) : K_X1_dropOldest E [.ref 27] c (fun c' => CHist c' (up2 (upr a 190 (fun j => a 190 (j + 99))) 169 40 14) ∧ ∀ k, k ≠ 27 → k ≠ 28 → c' k = c k) := by
  obtain ⟨h1, f, h2, h3, h4, h5⟩ := h
  refine en_X1_dropOldest (sg_X1_dropOldest_0 (y1 := 33 + 4 * f 0) (h4 0 (by omega)) (slotMem _ (h2 0 (by omega))) ?_)
  have hy0 := slotMem _ (h2 0 (by omega))
  refine up_loop (i0 := 1) (n := 15) (fun i s => GM E _ _ 9 [.ref 27, .ref (33 + 4 * f 0), vi i] [] s) (fun i s => s = mv c 28 1 28 0 (i - 1)) (fun s h => ?_) (fun i s a0 a1 h k => ?_) (i := 1) (s := c) (by omega) (by omega) mv_0.symm
  · refine sg_X1_dropOldest_9 (y1 := 33) hy0 (by omega) (by omega) (by omega) (by omega) (by omega) (by omega) (fun _ => ⟨rfl, ?_, ?_⟩) (by omega)
    · refine ⟨by rw [up2_same, up2_same], fun i => if i = 14 then f 0 else f (i + 1), fun i hi => ?_, fun i j hi hj e => ?_, fun i hi => ?_, fun i hi hiu => ?_⟩
      · show (if i = 14 then f 0 else f (i + 1)) < 15
        split
        · exact h2 0 (by omega)
        · exact h2 _ (by omega)
      · have e : (if i = 14 then f 0 else f (i + 1)) = (if j = 14 then f 0 else f (j + 1)) := e
        split at e <;> split at e
        · omega
        · have := h3 0 (j + 1) (by omega) (by omega) e; omega
        · have := h3 (i + 1) 0 (by omega) (by omega) e; omega
        · have := h3 (i + 1) (j + 1) (by omega) (by omega) e; omega
      · show up2 (up2 s 28 (15 - 1) ((33 + 4 * f 0 : Nat) : Int)) 27 2 14 28 i = ((33 + 4 * (if i = 14 then f 0 else f (i + 1)) : Nat) : Int)
        rw [up2_k (by decide)]
        by_cases c14 : i = 14
        · subst c14
          rw [if_pos rfl]
          exact up2_same _ _ _ _
        · rw [if_neg c14, up2_j (by omega), h, mv_in (by omega) (by omega)]
          have := h4 (i + 1) (by omega)
          rw [← this]
          congr 1
      · rw [up2_same] at hiu
        show StRel _ (33 + 4 * (if i = 14 then f 0 else f (i + 1))) _
        rw [if_neg (by omega)]
        have hf := h2 (i + 1) (by omega)
        have e : ∀ k, k ≠ 28 → k ≠ 27 → up2 (up2 s 28 (15 - 1) ((33 + 4 * f 0 : Nat) : Int)) 27 2 14 k = c k := fun k q1 q2 => by rw [up2_k q2, up2_k q1, h, mv_k q1]
        refine ((h5 (i + 1) (by omega) (by omega)).congr (e _ (by omega) (by omega)) (e _ (by omega) (by omega)) (e _ (by omega) (by omega)) (e _ (by omega) (by omega))).ext (fun k k0 k1 => ?_)
        rw [up2_k (by decide), upr_row]
        show a 190 _ = a 190 _
        congr 1
        omega
    · intro k q1 q2
      rw [up2_k q1, up2_k q2, h, mv_k q2]
  · have hy := h2 i.toNat (by omega)
    have e : s 28 i = ((33 + 4 * f i.toNat : Nat) : Int) := by
      rw [h, mv_out (by omega), ← h4 i.toNat (by omega)]
      congr 1
      omega
    refine sg_X1_dropOldest_9 (y1 := 33 + 4 * f i.toNat) hy0 (by omega) (by omega) (by omega) (fun _ => e) (fun _ => slotMem _ hy) (by omega) (by omega) (fun _ => k _ ?_)
    rw [← e]
    subst h
    rw [mv_step (Or.inr (by omega)) (by omega) (by omega) (by omega)]
    congr 1
    omega
theorem push_end {E : Nat × (Nat → Int32)} {P : Option Value → Mem → Prop} {c a b : Mem} {r : Int → Int} {y : Nat} (h : CHist c a) (h0 : 0 ≤ a 169 40) (hu : a 169 40 < 15) (hr : StRel c 29 r) (hy : c 28 (a 169 40) = ((y : Nat) : Int)) (e40 : b 169 40 = a 169 40 + 1) (e1 : ∀ i k : Int, 0 ≤ i → i < a 169 40 → 0 ≤ k → k < 99 → b 190 (99 * i + k) = a 190 (99 * i + k)) (e2 : ∀ k : Int, 0 ≤ k → k < 99 → b 190 (99 * a 169 40 + k) = r k) (hP : ∀ c', CHist c' b → (∀ k, k ≠ 27 → k ≠ 28 → (k < 33 ∨ 93 ≤ k) → c' k = c k) → P none c') : GM E (m_X1_push 3) P 45 [.ref 27] [.ref 29, .ref y] c := by
  obtain ⟨h1, f, h2, h3, h4, h5⟩ := h
  have hf := h2 (a 169 40).toNat (by omega)
  have ey : y = 33 + 4 * f (a 169 40).toNat := by
    have := h4 (a 169 40).toNat (by omega)
    rw [Int.toNat_of_nonneg h0, hy] at this
    exact Int.ofNat.inj this
  have my : y ∈ stateL := by rw [ey]; exact slotMem _ hf
  refine ca_X1_push_45 my (ct_become my m29) (fun c2 hc => ?_)
  obtain ⟨g1, g2, g3⟩ := hc
  refine sg_X1_push_48 (hP _ ?_ (fun k q1 q2 q3 => ?_))
  · refine ⟨?_, f, h2, h3, fun i hi => ?_, fun i hi hiu => ?_⟩
    · rw [up2_same, g1 27 (by omega) (by omega) (by omega) (by omega), h1, e40]
    · rw [up2_k (by decide), g1 28 (by omega) (by omega) (by omega) (by omega)]
      exact h4 i hi
    · have hfi := h2 i hi
      rw [e40] at hiu
      by_cases ci : (i : Int) = a 169 40
      · have ei : i = (a 169 40).toNat := by omega
        rw [ei, ← ey]
        refine ((g2 r hr).congr (up2_k (by omega)) (up2_k (by omega)) (up2_k (by omega)) (up2_k (by omega))).ext (fun k k0 k1 => ?_)
        rw [Int.toNat_of_nonneg h0]
        exact e2 k k0 k1
      · have nf : f i ≠ f (a 169 40).toNat := fun e => by
          have := h3 i (a 169 40).toNat hi (by omega) e
          omega
        have e : ∀ k, k ≠ 27 → k ≠ y → k ≠ y + 1 → k ≠ y + 2 → k ≠ y + 3 → up2 c2 27 2 (c2 27 2 + 1) k = c k := fun k q1 q2 q3 q4 q5 => by rw [up2_k q1, g1 k q2 q3 q4 q5]
        refine ((h5 i hi (by omega)).congr (e _ (by omega) (by omega) (by omega) (by omega) (by omega)) (e _ (by omega) (by omega) (by omega) (by omega) (by omega)) (e _ (by omega) (by omega) (by omega) (by omega) (by omega)) (e _ (by omega) (by omega) (by omega) (by omega) (by omega))).ext (fun k k0 k1 => ?_)
        exact e1 i k (by omega) (by omega) k0 k1
  · rw [up2_k q1, g1 k (by omega) (by omega) (by omega) (by omega)]
/-- b: a with the state r put by -/
def Pushed (a : Mem) (r : Int → Int) (b : Mem) : Prop := ∃ t : Int, (t = 0 ∧ a 169 40 < 15 ∨ t = 1 ∧ a 169 40 = 15) ∧ b 169 40 = a 169 40 + 1 - t ∧ (∀ i k : Int, 0 ≤ i → i < a 169 40 - t → 0 ≤ k → k < 99 → b 190 (99 * i + k) = a 190 (99 * (i + t) + k)) ∧ ∀ k : Int, 0 ≤ k → k < 99 → b 190 (99 * (a 169 40 - t) + k) = r k
/-- push -/
theorem ct_push {E : Nat × (Nat → Int32)} {c a b : Mem} {r : Int → Int} (h : CHist c a) (h0 : 0 ≤ a 169 40) (hr : StRel c 29 r) (hb : Pushed a r b) : K_X1_push E [.ref 27] c (fun c' => CHist c' b ∧ ∀ k, k ≠ 27 → k ≠ 28 → (k < 33 ∨ 93 ≤ k) → c' k = c k) := by
  obtain ⟨t, ht, hb1, hb2, hb3⟩ := hb
  have h1 := h.1
  obtain ⟨-, f, h2, h3, h4, h5⟩ := id h
  rcases ht with ⟨rfl, hu⟩ | ⟨rfl, hu⟩
  · have hf := h2 (a 169 40).toNat (by omega)
    have ey : c 28 (c 27 2) = ((33 + 4 * f (a 169 40).toNat : Nat) : Int) := by
      rw [← h4 _ (by omega), Int.toNat_of_nonneg h0, h1]
    refine en_X1_push (sg_X1_push_0 (y1 := 33 + 4 * f (a 169 40).toNat) (by omega) (fun _ _ _ => ey) (fun _ _ _ => slotMem _ hf) (by omega) (by omega) (fun _ _ _ => ?_) (by omega))
    rw [h1] at ey
    refine push_end h h0 hu hr ey (by omega) (fun i k i0 i1 k0 k1 => ?_) (fun k k0 k1 => ?_) (fun c' g1 g2 => ⟨rfl, g1, g2⟩)
    · rw [hb2 i k i0 (by omega) k0 k1, Int.add_zero]
    · rw [← hb3 k k0 k1, Int.sub_zero]
  · refine en_X1_push (sg_X1_push_0 (y1 := 33) (by omega) (by omega) (by omega) (by omega) (by omega) (by omega) (fun _ => ?_))
    refine ca_X1_push_10 (ct_dropOldest h hu) (fun c2 hc => ?_)
    obtain ⟨g1, g2⟩ := hc
    have e14 : (up2 (upr a 190 (fun j => a 190 (j + 99))) 169 40 14) 169 40 = 14 := up2_same _ _ _ _
    have e1 := g1.1
    obtain ⟨-, f', q2, q3, q4, q5⟩ := id g1
    rw [e14] at e1
    have ey : c2 28 (c2 27 2) = ((33 + 4 * f' 14 : Nat) : Int) := by
      rw [← q4 14 (by omega), e1]
      rfl
    refine sg_X1_push_13 (y1 := 33 + 4 * f' 14) (by omega) (fun _ _ => ey) (fun _ _ => slotMem _ (q2 14 (by omega))) (by omega) (by omega) (fun _ _ => ?_)
    rw [e1] at ey
    refine push_end (b := b) (r := r) g1 (by omega) (by omega) (hr.congr (g2 _ (by omega) (by omega)) (g2 _ (by omega) (by omega)) (g2 _ (by omega) (by omega)) (g2 _ (by omega) (by omega))) (by rw [e14]; exact ey) (by rw [e14]; omega) (fun i k i0 i1 k0 k1 => ?_) (fun k k0 k1 => ?_) (fun c' g3 g4 => ⟨rfl, g3, fun k q1 q2 q3 => (g4 k q1 q2 q3).trans (g2 k q1 q2)⟩)
    · rw [e14] at i1
      rw [hb2 i k i0 (by omega) k0 k1, up2_k (by decide), upr_row]
      show a 190 _ = a 190 _
      congr 1
      omega
    · rw [e14, ← hb3 k k0 k1, hu]
      rfl
/-- the reference's way of putting by -/
theorem pushed_add {a b : Mem} (h0 : 0 ≤ a 169 40) (h1 : a 169 40 ≤ 15) (r : Int → Int) (e40 : b 169 40 = a 169 40) (e190 : ∀ j : Int, 0 ≤ j → j < 99 * a 169 40 → b 190 j = a 190 j) (er : ∀ k : Int, 0 ≤ k → k < 99 → b 190 (99 * a 169 40 + k) = r k) : Pushed a r (addU b) := by
  unfold addU
  rw [e40]
  by_cases c : a 169 40 < 15
  · rw [if_pos c]
    refine ⟨0, Or.inl ⟨rfl, c⟩, by rw [up2_same]; omega, fun i k i0 i1 k0 k1 => ?_, fun k k0 k1 => ?_⟩
    · rw [up2_k (by decide), Int.add_zero]
      exact e190 _ (by omega) (by omega)
    · rw [up2_k (by decide), Int.sub_zero]
      exact er k k0 k1
  · have c15 : a 169 40 = 15 := by omega
    rw [if_neg c]
    refine ⟨1, Or.inr ⟨rfl, c15⟩, by rw [up2_same]; omega, fun i k i0 i1 k0 k1 => ?_, fun k k0 k1 => ?_⟩
    · rw [up2_k (by decide), mv_in (by omega) (by omega), e190 _ (by omega) (by omega)]
      congr 1
      omega
    · rw [up2_k (by decide), mv_in (by omega) (by omega), ← er k k0 k1]
      congr 1
      omega
/-- note -/
theorem ct_note {E : Nat × (Nat → Int32)} {c : Mem} {r : Int → Int} (hr : StRel c 23 r) : K_X1_note E [.ref 27, .ref 23] c (fun c' => StRel c' 29 r ∧ ∀ k, k ≠ 29 → k ≠ 30 → k ≠ 31 → k ≠ 32 → c' k = c k) := by
  refine en_X1_note (sg_X1_note_0 m23 ?_)
  refine ca_X1_note_5 m29 (ct_become m29 m23) (fun c2 hc => ?_)
  exact sg_X1_note_8 m23 ⟨rfl, hc.2.1 r hr, hc.1⟩
/-- remember -/
theorem ct_remember {E : Nat × (Nat → Int32)} {c a b : Mem} {r : Int → Int} {z : Int} (hz : RI z) (h : CHist c a) (h0 : 0 ≤ a 169 40) (hr : StRel c 29 r) (hb : 0 ≤ z → Pushed a r b) : K_X11_remember E [.ref 0, vi z] c (fun z' c' => z' = z ∧ (z < 0 → c' = c) ∧ (0 ≤ z → CHist c' b) ∧ ∀ k, k ≠ 27 → k ≠ 28 → (k < 33 ∨ 93 ≤ k) → c' k = c k) := by
  refine en_X11_remember (sg_X11_remember_0 hz (fun c => ⟨_, rfl, rfl, fun _ => rfl, fun _ => by omega, fun _ _ _ _ => rfl⟩) (fun c => ?_))
  refine ca_X11_remember_8 (ct_push h h0 hr (hb (by omega))) (fun c2 hc => ?_)
  exact sg_X11_remember_11 ⟨_, rfl, rfl, fun _ => by omega, fun _ => hc.1, hc.2⟩
/-- back -/
theorem ct_back {E : Nat × (Nat → Int32)} {c a : Mem} (h : CHist c a) (h0 : 0 ≤ a 169 40) (h15 : a 169 40 ≤ 15) : K_X1_back E [.ref 27, .ref 23] c (fun z c' => (a 169 40 = 0 ∧ z = 0 ∧ c' = c) ∨ (a 169 40 ≠ 0 ∧ z = 1 ∧ StRel c' 23 (fun j => a 190 (99 * (a 169 40 - 1) + j)) ∧ CHist c' (up2 a 169 40 (a 169 40 - 1)) ∧ ∀ k, k ≠ 27 → (k < 23 ∨ 27 < k) → c' k = c k)) := by
  obtain ⟨h1, f, h2, h3, h4, h5⟩ := h
  have hf := h2 (a 169 40 - 1).toNat
  have ey : ¬ c 27 2 < 1 → c 28 (c 27 2 - 1) = ((33 + 4 * f (a 169 40 - 1).toNat : Nat) : Int) := fun g => by
    rw [← h4 _ (by omega), Int.toNat_of_nonneg (by omega), h1]
  refine en_X1_back (sg_X1_back_0 (y1 := 33 + 4 * f (a 169 40 - 1).toNat) m23 (by omega) (by omega) (fun g _ => ey g) (fun _ _ => slotMem _ (hf (by omega))) (fun g => ⟨_, rfl, Or.inl ⟨by omega, rfl, rfl⟩⟩) (fun g g15 => ?_) (by omega))
  refine ca_X1_back_42 m23 (ct_become m23 (slotMem _ (hf (by omega)))) (fun c2 hc => ?_)
  obtain ⟨g1, g2, g3⟩ := hc
  have e : ∀ k, k ≠ 27 → k ≠ 23 → k ≠ 23 + 1 → k ≠ 23 + 2 → k ≠ 23 + 3 → c2 k = c k := fun k q q1 q2 q3 q4 => by rw [g1 k q1 q2 q3 q4, up2_k q]
  refine sg_X1_back_45 m23 ⟨_, rfl, Or.inr ⟨by omega, rfl, ?_, ?_, fun k q1 q2 => e k q1 (by omega) (by omega) (by omega) (by omega)⟩⟩
  · refine g2 _ (StRel.congr ?_ (up2_k (by omega)) (up2_k (by omega)) (up2_k (by omega)) (up2_k (by omega)))
    have := h5 (a 169 40 - 1).toNat (by omega) (by omega)
    rw [Int.toNat_of_nonneg (by omega)] at this
    exact this
  · refine ⟨?_, f, h2, h3, fun i hi => ?_, fun i hi hiu => ?_⟩
    · rw [g1 27 (by omega) (by omega) (by omega) (by omega), up2_same, up2_same, h1]
    · rw [e 28 (by omega) (by omega) (by omega) (by omega) (by omega)]; exact h4 i hi
    · rw [up2_same] at hiu
      have hfi := h2 i hi
      refine ((h5 i hi (by omega)).congr (e _ (by omega) (by omega) (by omega) (by omega) (by omega)) (e _ (by omega) (by omega) (by omega) (by omega) (by omega)) (e _ (by omega) (by omega) (by omega) (by omega) (by omega)) (e _ (by omega) (by omega) (by omega) (by omega) (by omega))).ext (fun k k0 k1 => ?_)
      rw [up2_k (by decide)]
/-- the class' undo -/
theorem ct_undo {E : Nat × (Nat → Int32)} {c a : Mem} (h : CHist c a) (h0 : 0 ≤ a 169 40) (h15 : a 169 40 ≤ 15) : K_X11_undo E [.ref 0] c (fun z c' => (a 169 40 = 0 ∧ z = -1 ∧ c' = c) ∨ (a 169 40 ≠ 0 ∧ z = a 169 40 - 1 ∧ StRel c' 23 (undoU a 180) ∧ CHist c' (undoU a) ∧ ∀ k, k ≠ 27 → (k < 23 ∨ 27 < k) → c' k = c k)) := by
  refine en_X11_undo (sg_X11_undo_0 (ca_X11_undo_8 (ct_back h h0 h15) (fun z c2 hz => ?_)))
  rcases hz with ⟨q0, rfl, rfl⟩ | ⟨q0, rfl, q1, q2, q3⟩
  · exact sg_X11_undo_11 (by omega) ⟨_, rfl, Or.inl ⟨q0, rfl, rfl⟩⟩
  · refine sg_X11_undo_11 (by omega) ⟨_, rfl, Or.inr ⟨q0, ?_, ?_, ?_, q3⟩⟩
    · rw [if_neg (by omega), q2.1, up2_same]
    · refine q1.ext (fun k k0 k1 => ?_)
      unfold undoU
      rw [mv_in (by omega) (by omega), up2_k (by decide)]
      congr 1
      omega
    · refine q2.sg ?_ (fun j _ _ => ?_)
      · unfold undoU; rw [mv_k (by decide)]
      · unfold undoU; rw [mv_k (by decide)]
/-- the class' keep -/
theorem ct_keep {E : Nat × (Nat → Int32)} {c a : Mem} {i : Int} (hi : RI i) (h : CKept c a) (hs : StRel c 23 (a 180)) (ht : c 9 1 = a 169 3) (ht0 : 0 ≤ a 169 3) : K_X11_keep E [.ref 0, vi i] c (fun z c' => ((0 ≤ i ∧ i ≤ 2) ∧ z = 1 ∧ CKept c' (keepU a i) ∧ ∀ k, (k < 154 ∨ 166 < k) → c' k = c k) ∨ (¬ (0 ≤ i ∧ i ≤ 2) ∧ z = 0 ∧ c' = c)) := by
  refine en_X11_keep (sg_X11_keep_0 hi (fun q => ⟨_, rfl, Or.inr ⟨by omega, rfl, rfl⟩⟩) (fun q q3 => ?_) (fun q q3 => ⟨_, rfl, Or.inr ⟨by omega, rfl, rfl⟩⟩))
  have mk := keptMem i.toNat (by omega)
  refine ca_X11_keep_25 mk (ct_become mk m23) (fun c2 hc => ?_)
  obtain ⟨g1, g2, g3⟩ := hc
  refine sg_X11_keep_28 (by omega) ⟨_, rfl, Or.inl ⟨by omega, rfl, fun n hn => ?_, fun k qk => ?_⟩⟩
  · have e207 : ∀ j : Int, 0 ≤ j → j < 99 → n ≠ i.toNat → keepU a i 207 (99 * (n : Int) + j) = a 207 (99 * n + j) := fun j j0 j1 q => by
      unfold keepU
      rw [mv_out (by omega), up2_k (by decide), up2_k (by decide)]
    have e3 : keepU a i 169 = a 169 := by unfold keepU; rw [mv_k (by decide), up2_k (by decide), up2_k (by decide)]
    have e205 : keepU a i 205 = up2 a 205 i 1 205 := by unfold keepU; rw [mv_k (by decide), up2_k (by decide)]
    have e206 : keepU a i 206 = up2 a 206 i (a 169 4) 206 := by
      unfold keepU
      rw [mv_k (by decide)]
      funext y
      unfold up2
      simp
    rw [e3, e205, e206]
    by_cases cn : n = i.toNat
    · subst cn
      rw [Int.toNat_of_nonneg (by omega), up2_same, up2_same, up2_same, g1 9 (by omega) (by omega) (by omega) (by omega), ht]
      refine Or.inr ⟨rfl, ht0, Int.le_refl _, ⟨fun _ => rfl, fun _ => rfl⟩, ?_⟩
      refine ((g2 _ hs).congr (up2_k (by omega)) (up2_k (by omega)) (up2_k (by omega)) (up2_k (by omega))).ext (fun k k0 k1 => ?_)
      unfold keepU
      rw [mv_in (by omega) (by omega), up2_k (by decide), up2_k (by decide)]
      congr 1
      omega
    · rw [up2_j (by omega), up2_j (by omega), up2_j (by omega), g1 166 (by omega) (by omega) (by omega) (by omega)]
      rcases h n hn with g | ⟨p1, p2, p3, p4, p5⟩
      · exact Or.inl g
      · refine Or.inr ⟨p1, p2, p3, p4, ?_⟩
        have e : ∀ k, k ≠ 166 → k ≠ 154 + 4 * i.toNat → k ≠ 154 + 4 * i.toNat + 1 → k ≠ 154 + 4 * i.toNat + 2 → k ≠ 154 + 4 * i.toNat + 3 → up2 c2 166 i (c2 9 1) k = c k := fun k q1 q2 q3 q4 q5 => by rw [up2_k q1, g1 k q2 q3 q4 q5]
        exact (p5.congr (e _ (by omega) (by omega) (by omega) (by omega) (by omega)) (e _ (by omega) (by omega) (by omega) (by omega) (by omega)) (e _ (by omega) (by omega) (by omega) (by omega) (by omega)) (e _ (by omega) (by omega) (by omega) (by omega) (by omega))).ext (fun k k0 k1 => e207 k k0 k1 cn)
  · rw [up2_k (by omega), g1 k (by omega) (by omega) (by omega) (by omega)]
/-- the class' again -/
theorem ct_again {E : Nat × (Nat → Int32)} {c a : Mem} {i B : Int} (hi : RI i) (h : CKept c a) (hw : WKept B a) (hh : CHist c a) (ht : c 9 1 = a 169 3) (ht0 : 0 ≤ a 169 3) (ht6 : a 169 3 ≤ 6) (h4 : c 4 0 = a 179 0) (h179 : RI (a 179 0)) : K_X11_again E [.ref 0, vi i] c (fun z c' => (againOk a i ∧ z = 1 ∧ StRel c' 23 (againU a i 180) ∧ CHist c' (againU a i) ∧ ∀ k, (k < 23 ∨ 27 < k) → c' k = c k) ∨ (¬ againOk a i ∧ z = 0 ∧ c' = c)) := by
  have key : 0 ≤ i → i ≤ 2 → (a 205 i = 0 ∧ c 166 i = -1) ∨ (a 205 i = 1 ∧ 0 ≤ c 166 i ∧ c 166 i ≤ a 169 3 ∧ (c 166 i = a 169 3 ↔ a 206 i = a 169 4) ∧ StRel c (154 + 4 * i.toNat) (fun j => a 207 (99 * i + j)) ∧ StOK B a (fun j => a 207 (99 * i + j))) := fun i0 i2 => by
    have q1 := h i.toNat (by omega)
    have q2 := hw.2.2 i i0 (by omega)
    rw [Int.toNat_of_nonneg i0] at q1
    rcases q1 with g | ⟨g1, g2, g3, g4, g5⟩
    · exact Or.inl g
    · rcases q2 with g | ⟨_, _, _, g⟩
      · omega
      · exact Or.inr ⟨g1, g2, g3, g4, g5, g⟩
  refine en_X11_again (sg_X11_again_0 hi (fun q q3 => ?_) (fun q q3 => by omega) (fun q q3 e => ?_) (fun q q3 e => by rw [h4]; exact h179) (fun q => ⟨_, rfl, Or.inr ⟨fun o => by have := o.1; omega, rfl, rfl⟩⟩) (fun q q3 => ⟨_, rfl, Or.inr ⟨fun o => by have := o.1; omega, rfl, rfl⟩⟩) (fun q q3 e => ⟨_, rfl, Or.inr ⟨fun o => ?_, rfl, rfl⟩⟩) (fun q q3 e e2 => ?_) (fun q q3 e e2 => ⟨_, rfl, Or.inr ⟨fun o => ?_, rfl, rfl⟩⟩))
  · rcases key (by omega) (by omega) with g | g <;> omega
  · rcases key (by omega) (by omega) with g | ⟨g1, g2, g3, g4, g5, g6⟩
    · omega
    · rw [g5.2.1]
      have : 0 ≤ a 207 (99 * i + 96) := g6.2.1
      have : a 207 (99 * i + 96) ≤ 999 := g6.2.2.1
      show RI (a 207 (99 * i + 96))
      exact ⟨by omega, by omega⟩
  · rcases key (by omega) (by omega) with g | ⟨g1, g2, g3, g4, g5, g6⟩
    · exact o.2.1 g.1
    · exact e (by rw [ht]; exact g4.2 o.2.2.1)
  · rcases key (by omega) (by omega) with g | ⟨g1, g2, g3, g4, g5, g6⟩
    · omega
    · refine ca_X11_again_61 m23 (ct_become m23 (keptMem i.toNat (by omega))) (fun c2 hc => ?_)
      obtain ⟨p1, p2, p3⟩ := hc
      refine sg_X11_again_64 ⟨_, rfl, Or.inl ⟨⟨by omega, by omega, g4.1 (by rw [← ht]; exact e), ?_⟩, rfl, ?_, ?_, fun k qk => ?_⟩⟩
      · have := g5.2.1
        rw [h4] at e2
        have e3 : c (154 + 4 * i.toNat) 3 = a 207 (99 * i + 96) := this
        omega
      · refine ((p2 _ g5).congr (up2_k (by omega)) (up2_k (by omega)) (up2_k (by omega)) (up2_k (by omega))).ext (fun k k0 k1 => ?_)
        unfold againU
        rw [up2_k (by decide), mv_in (by omega) (by omega)]
        congr 1
        omega
      · obtain ⟨h1, f, h2, h3, h4', h5⟩ := hh
        have z0 : againU a i 169 40 = 0 := by unfold againU; rw [up2_same]
        refine ⟨by rw [up2_same, z0], f, h2, h3, fun i hi => ?_, fun i hi hiu => ?_⟩
        · rw [up2_k (by decide), p1 28 (by omega) (by omega) (by omega) (by omega)]
          exact h4' i hi
        · rw [z0] at hiu
          omega
      · rw [up2_k (by omega), p1 k (by omega) (by omega) (by omega) (by omega)]
  · rcases key (by omega) (by omega) with g | ⟨g1, g2, g3, g4, g5, g6⟩
    · omega
    · have e3 : c (154 + 4 * i.toNat) 3 = a 207 (99 * i + 96) := g5.2.1
      have := o.2.2.2
      rw [h4] at e2
      omega
