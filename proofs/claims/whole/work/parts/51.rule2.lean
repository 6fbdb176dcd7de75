/-! the class' machine -/
theorem ct_push5 {E : Nat × (Nat → Int32)} {m : Mem} {x d : Int} (hd : m 5 5 = d) (d0 : 0 ≤ d) (d1 : d < 40) : K_X5_push E [.ref 5, vi x] m (fun m' => m' = up2 (up2 m 8 d x) 5 5 (d + 1)) := by
  refine en_X5_push (sg_X5_push_0 (by omega) (by omega) (by omega) (fun _ => ⟨rfl, ?_⟩))
  rw [hd]
theorem ct_pop5 {E : Nat × (Nat → Int32)} {m : Mem} {d : Int} (hd : m 5 5 = d) (d0 : 0 < d) (d1 : d ≤ 40) : K_X5_pop E [.ref 5] m (fun z m' => z = m 8 (d - 1) ∧ m' = up2 m 5 5 (d - 1)) := by
  refine en_X5_pop (sg_X5_pop_0 (by omega) (by omega) (by omega) (fun _ _ => ⟨_, rfl, ?_, ?_⟩) (by omega))
  · rw [hd]
  · rw [hd]
def sgn (o : Int) : Int := if o = 0 then 60 else if o = 1 then 62 else if o = 2 then 61 else if o = 3 then 43 else if o = 4 then 45 else if o = 5 then 42 else 47
theorem sgn_rng (o : Int) : 42 ≤ sgn o ∧ sgn o ≤ 62 := by
  unfold sgn
  split
  · omega
  split
  · omega
  split
  · omega
  split
  · omega
  split
  · omega
  split <;> omega
theorem ct_join {E : Nat × (Nat → Int32)} {m : Mem} {o x y : Int} (ho : 0 ≤ o ∧ o ≤ 6) (hx : RI x) (hy : RI y) : K_X5_join E [vi (sgn o), vi x, vi y] m (fun z m' => z = opv o x y ∧ m' = m) := by
  have : o = 0 ∨ o = 1 ∨ o = 2 ∨ o = 3 ∨ o = 4 ∨ o = 5 ∨ o = 6 := by omega
  have r := sgn_rng o
  refine en_X5_join (sg_X5_join_0 ⟨by omega, by omega⟩ hx hy (fun _ _ _ _ _ _ h => h) (fun p => ⟨wI (x * y), by rw [← vi_wI], ?_, rfl⟩) (fun _ p => ⟨wI (x + y), by rw [← vi_wI], ?_, rfl⟩) (fun _ _ p => ⟨wI (x - y), by rw [← vi_wI], ?_, rfl⟩) (fun _ _ _ p q => ⟨0, rfl, ?_, rfl⟩) (fun _ _ _ p q => ⟨1, rfl, ?_, rfl⟩) (fun _ _ _ _ p q => ⟨0, rfl, ?_, rfl⟩) (fun _ _ _ _ p q => ⟨1, rfl, ?_, rfl⟩) (fun _ _ _ _ _ p q => ⟨0, rfl, ?_, rfl⟩) (fun _ _ _ _ _ p q => ⟨1, rfl, ?_, rfl⟩) (fun p0 p1 p2 p3 p4 p5 => ⟨_, rfl, ?_, rfl⟩))
  · rcases this with rfl | rfl | rfl | rfl | rfl | rfl | rfl <;> first | rfl | exact absurd p (by decide)
  · rcases this with rfl | rfl | rfl | rfl | rfl | rfl | rfl <;> first | rfl | exact absurd p (by decide)
  · rcases this with rfl | rfl | rfl | rfl | rfl | rfl | rfl <;> first | rfl | exact absurd p (by decide)
  · rcases this with rfl | rfl | rfl | rfl | rfl | rfl | rfl <;> first | exact absurd p (by decide) | exact (if_pos q).symm
  · rcases this with rfl | rfl | rfl | rfl | rfl | rfl | rfl <;> first | exact absurd p (by decide) | exact (if_neg q).symm
  · rcases this with rfl | rfl | rfl | rfl | rfl | rfl | rfl <;> first | exact absurd p (by decide) | exact (if_neg q).symm
  · rcases this with rfl | rfl | rfl | rfl | rfl | rfl | rfl <;> first | exact absurd p (by decide) | exact (if_pos q).symm
  · rcases this with rfl | rfl | rfl | rfl | rfl | rfl | rfl <;> first | exact absurd p (by decide) | exact (if_pos q).symm
  · rcases this with rfl | rfl | rfl | rfl | rfl | rfl | rfl <;> first | exact absurd p (by decide) | exact (if_neg q).symm
  · rcases this with rfl | rfl | rfl | rfl | rfl | rfl | rfl <;> first | rfl | exact absurd rfl p0 | exact absurd rfl p1 | exact absurd rfl p2 | exact absurd rfl p3 | exact absurd rfl p4 | exact absurd rfl p5
/-- the class' code from i to j reckons v -/
def CSeg (code : Int → Int) (i j : Int) (v : (Int → Int) → Int) : Prop := VOK v ∧ 0 ≤ i ∧ i < j ∧ j ≤ 40 ∧ ∀ (E : Nat × (Nat → Int32)) (P : Option Value → Mem → Prop) (m : Mem) (d : Int) (r y : Nat), r < 209 → SH[r]? = some (.inr (0, 8)) → y ∈ codeL → m 5 0 = ((y : Nat) : Int) → 0 ≤ d → d + (j - i) ≤ 40 → m 5 5 = d → j ≤ m 5 1 → m 5 1 ≤ 40 → (∀ x : Int, i ≤ x → x < j → m y x = code x) → FOK (m r) →
  (∀ m' : Mem, (∀ k, k ≠ 8 → k ≠ 5 → m' k = m k) → (∀ x : Int, x ≠ 5 → m' 5 x = m 5 x) → m' 5 5 = d + 1 → (∀ x : Int, 0 ≤ x → x < d → m' 8 x = m 8 x) → m' 8 d = v (m r) → GM E (m_X5_seconds 2) P 33 [.ref 5, .ref r, vi j, un, un] [] m') → GM E (m_X5_seconds 2) P 33 [.ref 5, .ref r, vi i, un, un] [] m
theorem not5 {r n : Nat} (h : SH[r]? = some (.inr (0, n))) : r ≠ 5 := fun e => by subst e; cases h
theorem not8 {r : Nat} (h : SH[r]? = some (.inr (0, 8))) : r ≠ 8 := fun e => by subst e; cases h
theorem codeNot {y : Nat} (h : y ∈ codeL) : y ≠ 5 ∧ y ≠ 8 := by
  rcases List.mem_cons.1 h with rfl | h
  · decide
  · rcases List.mem_cons.1 h with rfl | h
    · decide
    · cases h
theorem cs_num {code : Int → Int} {i t : Int} (i0 : 0 ≤ i) (i1 : i < 40) (hc : code i = t) (ht : 0 ≤ t ∧ t < 1000) : CSeg code i (i + 1) (fun _ => t) := by
  refine ⟨⟨fun _ _ => (show RI t from ⟨by omega, by omega⟩), fun _ _ _ => rfl⟩, i0, by omega, by omega, fun E P m d r y hr hs hy h0 d0 d1 h5 n0 n1 hm hf k => ?_⟩
  have ec := (hm i (by omega) (by omega)).trans hc
  refine sg_X5_seconds_33 (y1 := y) (y2 := y) hr hs (by omega) (by omega) (fun _ => h0) (fun _ => hy) (fun _ _ => h0) (fun _ _ => hy) (by omega) (fun _ _ => by rw [ec]; omega) (fun _ _ q => by rw [ec] at q; omega) (fun _ _ q => by rw [ec] at q; omega) (fun _ _ q => by rw [ec] at q; omega) (by decide) (by omega) (by omega) (fun _ _ q => by rw [ec] at q; omega) (fun _ _ q => by rw [ec] at q; omega) (fun _ _ q => by rw [ec] at q; omega) (fun _ _ _ => ?_)
  refine ca_X5_seconds_63 (ct_push5 h5 d0 (by omega)) (fun m2 hm2 => sg_X5_seconds_66 hr hs (k _ (fun a a1 a2 => ?_) (fun x hx => ?_) ?_ (fun x x0 x1 => ?_) ?_))
  · rw [hm2, up2_k a2, up2_k a1]
  · rw [hm2, up2_j hx, up2_k (by decide)]
  · rw [hm2, up2_same]
  · rw [hm2, up2_k (by decide), up2_j (by omega)]
  · rw [hm2, up2_k (by decide), up2_same, ec]
theorem cs_fact {code : Int → Int} {i t : Int} (i0 : 0 ≤ i) (i1 : i < 40) (hc : code i = -1 - t) (ht : 0 ≤ t ∧ t < 8) : CSeg code i (i + 1) (fun f => f t) := by
  refine ⟨⟨fun f h => h t ht.1 ht.2, fun f g h => h t ht.1 ht.2⟩, i0, by omega, by omega, fun E P m d r y hr hs hy h0 d0 d1 h5 n0 n1 hm hf k => ?_⟩
  have ec := (hm i (by omega) (by omega)).trans hc
  have et : -1 - (-1 - t) = t := by omega
  refine sg_X5_seconds_33 (y1 := y) (y2 := y) hr hs (by omega) (by omega) (fun _ => h0) (fun _ => hy) (fun _ _ => h0) (fun _ _ => hy) (by omega) (fun _ _ => by rw [ec]; omega) (fun _ _ _ _ => by rw [ec]; omega) (fun _ _ _ _ => by omega) (fun _ _ _ _ _ => by rw [ec]; omega) (by decide) (by omega) (by omega) (fun _ _ _ q => by rw [ec] at q; omega) (fun _ _ _ q => by rw [ec] at q; omega) (fun _ _ _ _ => ?_) (fun _ _ q => by rw [ec] at q; omega)
  rw [ec, et, if_neg (by omega)]
  refine ca_X5_seconds_96 (ct_push5 h5 d0 (by omega)) (fun m2 hm2 => sg_X5_seconds_99 hr hs (k _ (fun a a1 a2 => ?_) (fun x hx => ?_) ?_ (fun x x0 x1 => ?_) ?_))
  · rw [hm2, up2_k a2, up2_k a1]
  · rw [hm2, up2_j hx, up2_k (by decide)]
  · rw [hm2, up2_same]
  · rw [hm2, up2_k (by decide), up2_j (by omega)]
  · rw [hm2, up2_k (by decide), up2_same]
