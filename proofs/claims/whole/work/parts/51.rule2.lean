/-! the class' machine -/
theorem ct_push5 {E : Nat × (Nat → Int32)} {m : Mem} {x d : Int} (hd : m 5 5 = d) (d0 : 0 ≤ d) (d1 : d < 40) : K_X5_push E [.ref 5, vi x] m (fun m' => m' = up2 (up2 m 8 d x) 5 5 (d + 1)) := by
  refine en_X5_push (sg_X5_push_0 (by omega) (by omega) (by omega) (fun _ => ⟨rfl, ?_⟩))
  rw [hd]
theorem ct_pop5 {E : Nat × (Nat → Int32)} {m : Mem} {d : Int} (hd : m 5 5 = d) (d0 : 0 < d) (d1 : d ≤ 40) : K_X5_pop E [.ref 5] m (fun z m' => z = m 8 (d - 1) ∧ m' = up2 m 5 5 (d - 1)) := by
  refine en_X5_pop (sg_X5_pop_0 (by omega) (by omega) (by omega) (fun _ _ => ⟨_, rfl, ?_, ?_⟩) (by omega))
  · rw [hd]
  · rw [hd]
def sgn (o : Int) : Int := if o = 0 then 60 else if o = 1 then 62 else if o = 2 then 61 else if o = 3 then 43 else if o = 4 then 45 else if o = 5 then 42 else 47
theorem sgn_rng (o : Int) : 42 ≤ sgn o ∧ sgn o ≤ 62 := by
  unfold sgn
  split
  · omega
  split
  · omega
  split
  · omega
  split
  · omega
  split
  · omega
  split <;> omega
theorem ct_join {E : Nat × (Nat → Int32)} {m : Mem} {o x y : Int} (ho : 0 ≤ o ∧ o ≤ 6) (hx : RI x) (hy : RI y) : K_X5_join E [vi (sgn o), vi x, vi y] m (fun z m' => z = opv o x y ∧ m' = m) := by
  have : o = 0 ∨ o = 1 ∨ o = 2 ∨ o = 3 ∨ o = 4 ∨ o = 5 ∨ o = 6 := by omega
  have r := sgn_rng o
  refine en_X5_join (sg_X5_join_0 ⟨by omega, by omega⟩ hx hy (fun _ _ _ _ _ _ h => h) (fun p => ⟨wI (x * y), by rw [← vi_wI], ?_, rfl⟩) (fun _ p => ⟨wI (x + y), by rw [← vi_wI], ?_, rfl⟩) (fun _ _ p => ⟨wI (x - y), by rw [← vi_wI], ?_, rfl⟩) (fun _ _ _ p q => ⟨0, rfl, ?_, rfl⟩) (fun _ _ _ p q => ⟨1, rfl, ?_, rfl⟩) (fun _ _ _ _ p q => ⟨0, rfl, ?_, rfl⟩) (fun _ _ _ _ p q => ⟨1, rfl, ?_, rfl⟩) (fun _ _ _ _ _ p q => ⟨0, rfl, ?_, rfl⟩) (fun _ _ _ _ _ p q => ⟨1, rfl, ?_, rfl⟩) (fun p0 p1 p2 p3 p4 p5 => ⟨_, rfl, ?_, rfl⟩))
  · rcases this with rfl | rfl | rfl | rfl | rfl | rfl | rfl <;> first | rfl | exact absurd p (by decide)
  · rcases this with rfl | rfl | rfl | rfl | rfl | rfl | rfl <;> first | rfl | exact absurd p (by decide)
  · rcases this with rfl | rfl | rfl | rfl | rfl | rfl | rfl <;> first | rfl | exact absurd p (by decide)
  · rcases this with rfl | rfl | rfl | rfl | rfl | rfl | rfl <;> first | exact absurd p (by decide) | exact (if_pos q).symm
  · rcases this with rfl | rfl | rfl | rfl | rfl | rfl | rfl <;> first | exact absurd p (by decide) | exact (if_neg q).symm
  · rcases this with rfl | rfl | rfl | rfl | rfl | rfl | rfl <;> first | exact absurd p (by decide) | exact (if_neg q).symm
  · rcases this with rfl | rfl | rfl | rfl | rfl | rfl | rfl <;> first | exact absurd p (by decide) | exact (if_pos q).symm
  · rcases this with rfl | rfl | rfl | rfl | rfl | rfl | rfl <;> first | exact absurd p (by decide) | exact (if_pos q).symm
  · rcases this with rfl | rfl | rfl | rfl | rfl | rfl | rfl <;> first | exact absurd p (by decide) | exact (if_neg q).symm
  · rcases this with rfl | rfl | rfl | rfl | rfl | rfl | rfl <;> first | rfl | exact absurd rfl p0 | exact absurd rfl p1 | exact absurd rfl p2 | exact absurd rfl p3 | exact absurd rfl p4 | exact absurd rfl p5
/-- the class' code from i to j reckons v -/
def CSeg (code : Int → Int) (i j : Int) (v : (Int → Int) → Int) : Prop := VOK v ∧ 0 ≤ i ∧ i < j ∧ j ≤ 40 ∧ ∀ (E : Nat × (Nat → Int32)) (P : Option Value → Mem → Prop) (m : Mem) (d : Int) (r y : Nat), r < 209 → SH[r]? = some (.inr (0, 8)) → y ∈ codeL → m 5 0 = ((y : Nat) : Int) → 0 ≤ d → d + (j - i) ≤ 40 → m 5 5 = d → j ≤ m 5 1 → m 5 1 ≤ 40 → (∀ x : Int, i ≤ x → x < j → m y x = code x) → FOK (m r) →
  (∀ m' : Mem, (∀ k, k ≠ 8 → k ≠ 5 → m' k = m k) → (∀ x : Int, x ≠ 5 → m' 5 x = m 5 x) → m' 5 5 = d + 1 → (∀ x : Int, 0 ≤ x → x < d → m' 8 x = m 8 x) → m' 8 d = v (m r) → GM E (m_X5_seconds 2) P 33 [.ref 5, .ref r, vi j, un, un] [] m') → GM E (m_X5_seconds 2) P 33 [.ref 5, .ref r, vi i, un, un] [] m
theorem not5 {r n : Nat} (h : SH[r]? = some (.inr (0, n))) : r ≠ 5 := fun e => by subst e; cases h
theorem not8 {r : Nat} (h : SH[r]? = some (.inr (0, 8))) : r ≠ 8 := fun e => by subst e; cases h
theorem codeNot {y : Nat} (h : y ∈ codeL) : y ≠ 5 ∧ y ≠ 8 := by
  rcases List.mem_cons.1 h with rfl | h
  · decide
  · rcases List.mem_cons.1 h with rfl | h
    · decide
    · cases h
theorem cs_num {code : Int → Int} {i t : Int} (i0 : 0 ≤ i) (i1 : i < 40) (hc : code i = t) (ht : 0 ≤ t ∧ t < 1000) : CSeg code i (i + 1) (fun _ => t) := by
  refine ⟨⟨fun _ _ => (show RI t from ⟨by omega, by omega⟩), fun _ _ _ => rfl⟩, i0, by omega, by omega, fun E P m d r y hr hs hy h0 d0 d1 h5 n0 n1 hm hf k => ?_⟩
  have ec := (hm i (by omega) (by omega)).trans hc
  refine sg_X5_seconds_33 (y1 := y) (y2 := y) hr hs (by omega) (by omega) (fun _ => h0) (fun _ => hy) (fun _ _ => h0) (fun _ _ => hy) (by omega) (fun _ _ => by rw [ec]; omega) (fun _ _ q => by rw [ec] at q; omega) (fun _ _ q => by rw [ec] at q; omega) (fun _ _ q => by rw [ec] at q; omega) (by decide) (by omega) (by omega) (fun _ _ q => by rw [ec] at q; omega) (fun _ _ q => by rw [ec] at q; omega) (fun _ _ q => by rw [ec] at q; omega) (fun _ _ _ => ?_)
  refine ca_X5_seconds_63 (ct_push5 h5 d0 (by omega)) (fun m2 hm2 => sg_X5_seconds_66 hr hs (k _ (fun a a1 a2 => ?_) (fun x hx => ?_) ?_ (fun x x0 x1 => ?_) ?_))
  · rw [hm2, up2_k a2, up2_k a1]
  · rw [hm2, up2_j hx, up2_k (by decide)]
  · rw [hm2, up2_same]
  · rw [hm2, up2_k (by decide), up2_j (by omega)]
  · rw [hm2, up2_k (by decide), up2_same, ec]
theorem cs_fact {code : Int → Int} {i t : Int} (i0 : 0 ≤ i) (i1 : i < 40) (hc : code i = -1 - t) (ht : 0 ≤ t ∧ t < 8) : CSeg code i (i + 1) (fun f => f t) := by
  refine ⟨⟨fun f h => h t ht.1 ht.2, fun f g h => h t ht.1 ht.2⟩, i0, by omega, by omega, fun E P m d r y hr hs hy h0 d0 d1 h5 n0 n1 hm hf k => ?_⟩
  have ec := (hm i (by omega) (by omega)).trans hc
  have et : -1 - (-1 - t) = t := by omega
  refine sg_X5_seconds_33 (y1 := y) (y2 := y) hr hs (by omega) (by omega) (fun _ => h0) (fun _ => hy) (fun _ _ => h0) (fun _ _ => hy) (by omega) (fun _ _ => by rw [ec]; omega) (fun _ _ _ _ => by rw [ec]; omega) (fun _ _ _ _ => by omega) (fun _ _ _ _ _ => by rw [ec]; omega) (by decide) (by omega) (by omega) (fun _ _ _ q => by rw [ec] at q; omega) (fun _ _ _ q => by rw [ec] at q; omega) (fun _ _ _ _ => ?_) (fun _ _ q => by rw [ec] at q; omega)
  rw [ec, et, if_neg (by omega)]
  refine ca_X5_seconds_96 (ct_push5 h5 d0 (by omega)) (fun m2 hm2 => sg_X5_seconds_99 hr hs (k _ (fun a a1 a2 => ?_) (fun x hx => ?_) ?_ (fun x x0 x1 => ?_) ?_))
  · rw [hm2, up2_k a2, up2_k a1]
  · rw [hm2, up2_j hx, up2_k (by decide)]
  · rw [hm2, up2_same]
  · rw [hm2, up2_k (by decide), up2_j (by omega)]
  · rw [hm2, up2_k (by decide), up2_same]
theorem cs_neg {code : Int → Int} {i j : Int} {v : (Int → Int) → Int} (h : CSeg code i j v) (hj : j < 40) (hc : code j = -20) : CSeg code i (j + 1) (fun f => wI (-(v f))) := by
  obtain ⟨hv, i0, ij, j80, run⟩ := h
  refine ⟨⟨fun f _ => wI_rng _, fun f g e => by show wI (-(v f)) = wI (-(v g)); rw [hv.2 f g e]⟩, i0, by omega, by omega, fun E P m d r y hr hs hy h0 d0 d1 h5 n0 n1 hm hf k => ?_⟩
  have r5 := not5 hs
  have r8 := not8 hs
  obtain ⟨y5, y8⟩ := codeNot hy
  refine run E P m d r y hr hs hy h0 d0 (by omega) h5 (by omega) n1 (fun x x0 x1 => hm x x0 (by omega)) hf (fun m1 a1 a2 a3 a4 a5 => ?_)
  have ec : m1 y j = -20 := by rw [a1 y y8 y5, hm j (by omega) (by omega), hc]
  have e51 : m1 5 1 = m 5 1 := a2 1 (by decide)
  have e50 : m1 5 0 = ((y : Nat) : Int) := (a2 0 (by decide)).trans h0
  refine sg_X5_seconds_33 (y1 := y) (y2 := y) hr hs (by omega) (by omega) (fun _ => e50) (fun _ => hy) (fun _ _ => e50) (fun _ _ => hy) (by omega) (fun _ _ => by rw [ec]; omega) (fun _ _ _ q => by rw [ec] at q; omega) (fun _ _ _ q => by rw [ec] at q; omega) (fun _ _ _ q => by rw [ec] at q; omega) (by decide) (by omega) (by omega) (fun _ _ _ _ q => by rw [ec] at q; omega) (fun _ _ _ _ _ => ?_) (fun _ _ _ q => by rw [ec] at q; omega) (fun _ _ q => by rw [ec] at q; omega)
  refine ca_X5_seconds_110 (ct_pop5 a3 (by omega) (by omega)) (fun z m2 hz => sg_X5_seconds_113 hr hs ?_)
  obtain ⟨rfl, rfl⟩ := hz
  have ed : d + 1 - 1 = d := by omega
  rw [ed, vi_wI (-(m1 8 d)), a5]
  refine ca_X5_seconds_114 (ct_push5 (d := d) (up2_same _ _ _ _) d0 (by omega)) (fun m3 hm3 => sg_X5_seconds_117 hr hs (k _ (fun a b1 b2 => ?_) (fun x hx => ?_) ?_ (fun x x0 x1 => ?_) ?_))
  · rw [hm3, up2_k b2, up2_k b1, up2_k b2, a1 a b1 b2]
  · rw [hm3, up2_j hx, up2_k (by decide), up2_j hx, a2 x hx]
  · rw [hm3, up2_same]
  · rw [hm3, up2_k (by decide), up2_j (by omega), up2_k (by decide), a4 x x0 x1]
  · rw [hm3, up2_k (by decide), up2_same]
theorem cs_op {code : Int → Int} {i j n o : Int} {v w : (Int → Int) → Int} (h : CSeg code i j v) (g : CSeg code j n w) (hn : n < 40) (ho : 0 ≤ o ∧ o ≤ 6) (hc : code n = -100 - sgn o) : CSeg code i (n + 1) (fun f => opv o (v f) (w f)) := by
  obtain ⟨hv, i0, ij, j80, run⟩ := h
  obtain ⟨hw, j0, jn, n80, run2⟩ := g
  have rs := sgn_rng o
  refine ⟨⟨fun f _ => opv_rng _ _ _, fun f g e => by show opv o (v f) (w f) = opv o (v g) (w g); rw [hv.2 f g e, hw.2 f g e]⟩, i0, by omega, by omega, fun E P m d r y hr hs hy h0 d0 d1 h5 n0 n1 hm hf k => ?_⟩
  have r5 := not5 hs
  have r8 := not8 hs
  obtain ⟨y5, y8⟩ := codeNot hy
  refine run E P m d r y hr hs hy h0 d0 (by omega) h5 (by omega) n1 (fun x x0 x1 => hm x x0 (by omega)) hf (fun m1 a1 a2 a3 a4 a5 => ?_)
  have er : m1 r = m r := a1 r r8 r5
  have ey : m1 y = m y := a1 y y8 y5
  have e51 : m1 5 1 = m 5 1 := a2 1 (by decide)
  have e50 : m1 5 0 = ((y : Nat) : Int) := (a2 0 (by decide)).trans h0
  refine run2 E P m1 (d + 1) r y hr hs hy e50 (by omega) (by omega) a3 (by omega) (by omega) (fun x x0 x1 => by rw [ey]; exact hm x (by omega) (by omega)) (by rw [er]; exact hf) (fun m2 b1 b2 b3 b4 b5 => ?_)
  have ec : m2 y n = -100 - sgn o := by rw [b1 y y8 y5, ey, hm n (by omega) (by omega), hc]
  have f51 : m2 5 1 = m 5 1 := (b2 1 (by decide)).trans e51
  have f50 : m2 5 0 = ((y : Nat) : Int) := (b2 0 (by decide)).trans e50
  refine sg_X5_seconds_33 (y1 := y) (y2 := y) hr hs (by omega) (by omega) (fun _ => f50) (fun _ => hy) (fun _ _ => f50) (fun _ _ => hy) (by omega) (fun _ _ => by rw [ec]; omega) (fun _ _ _ q => by rw [ec] at q; omega) (fun _ _ _ q => by rw [ec] at q; omega) (fun _ _ _ q => by rw [ec] at q; omega) (by decide) (by omega) (by omega) (fun _ _ _ _ _ => ?_) (fun _ _ _ _ q => by rw [ec] at q; omega) (fun _ _ _ q => by rw [ec] at q; omega) (fun _ _ q => by rw [ec] at q; omega)
  have ed1 : d + 1 + 1 - 1 = d + 1 := by omega
  have ed : d + 1 - 1 = d := by omega
  have ev : m2 8 d = v (m r) := (b4 d d0 (by omega)).trans a5
  have ew : m2 8 (d + 1) = w (m r) := by rw [b5, er]
  refine ca_X5_seconds_121 (ct_pop5 b3 (by omega) (by omega)) (fun z m3 hz => sg_X5_seconds_124 hr hs ?_)
  obtain ⟨rfl, rfl⟩ := hz
  rw [ed1, ec, show -100 - (-100 - sgn o) = sgn o by omega, ew]
  refine ca_X5_seconds_132 (ct_pop5 (d := d + 1) (up2_same _ _ _ _) (by omega) (by omega)) (fun z m3 hz => sg_X5_seconds_135 hr hs ?_)
  obtain ⟨rfl, rfl⟩ := hz
  rw [ed, up2_k (by decide), ev]
  refine ca_X5_seconds_137 (ct_join ho (hv.1 _ hf) (hw.1 _ hf)) (fun z m3 hz => ?_)
  obtain ⟨rfl, rfl⟩ := hz
  refine ca_X5_seconds_140 (ct_push5 (d := d) (up2_same _ _ _ _) d0 (by omega)) (fun m4 hm4 => sg_X5_seconds_143 hr hs (k _ (fun a c1 c2 => ?_) (fun x hx => ?_) ?_ (fun x x0 x1 => ?_) ?_))
  · rw [hm4, up2_k c2, up2_k c1, up2_k c2, up2_k c2, b1 a c1 c2, a1 a c1 c2]
  · rw [hm4, up2_j hx, up2_k (by decide), up2_j hx, up2_j hx, b2 x hx, a2 x hx]
  · rw [hm4, up2_same]
  · rw [hm4, up2_k (by decide), up2_j (by omega), up2_k (by decide), up2_k (by decide), b4 x x0 (by omega), a4 x x0 x1]
  · rw [hm4, up2_k (by decide), up2_same]
theorem ct_clamped {E : Nat × (Nat → Int32)} {m : Mem} {x : Int} (hx : RI x) : K_X5_clamped E [vi x] m (fun z m' => z = max 1 (min 999 x) ∧ m' = m) := by
  have := hx.1; have := hx.2
  exact en_X5_clamped (sg_X5_clamped_0 hx ⟨by omega, by omega⟩ ⟨_, rfl, rfl, rfl⟩)
/-- the class' seconds by the rule -/
theorem ct_seconds {E : Nat × (Nat → Int32)} {m : Mem} {r y : Nat} {code : Int → Int} {v : (Int → Int) → Int} (hr : r < 209) (hs : SH[r]? = some (.inr (0, 8))) (hy : y ∈ codeL) (h0 : m 5 0 = ((y : Nat) : Int)) (h : CSeg code 0 (m 5 1) v) (hm : ∀ x : Int, 0 ≤ x → x < m 5 1 → m y x = code x) (hf : FOK (m r)) : K_X5_seconds E [.ref 5, .ref r] m (fun z m' => z = max 1 (min 999 (v (m r))) ∧ (∀ k, k ≠ 8 → k ≠ 5 → m' k = m k) ∧ ∀ x : Int, x ≠ 5 → m' 5 x = m 5 x) := by
  obtain ⟨hv, i0, ij, j80, run⟩ := h
  have r5 := not5 hs
  obtain ⟨y5, y8⟩ := codeNot hy
  refine en_X5_seconds (n1 := 8) (sg_X5_seconds_0 hr hs (by omega) (by omega) (by omega) (by decide) (fun _ => ?_) (by omega))
  have e51 : up2 m 5 5 0 5 1 = m 5 1 := up2_j (by decide)
  refine run E _ (up2 m 5 5 0) 0 r y hr hs hy ((up2_j (by decide)).trans h0) (by omega) (by omega) (up2_same _ _ _ _) (by omega) (by omega) (fun x x0 x1 => by rw [up2_k y5]; exact hm x x0 x1) (by rw [up2_k r5]; exact hf) (fun m1 a1 a2 a3 a4 a5 => ?_)
  have f51 : m1 5 1 = m 5 1 := (a2 1 (by decide)).trans e51
  have e50 : m1 5 0 = ((y : Nat) : Int) := (a2 0 (by decide)).trans ((up2_j (by decide)).trans h0)
  refine sg_X5_seconds_33 (y1 := y) (y2 := y) hr hs (by omega) (by omega) (by omega) (by omega) (by omega) (by omega) (by omega) (by omega) (by omega) (by omega) (by omega) (by decide) (fun _ => ?_) (by omega) (by omega) (by omega) (by omega) (by omega)
  refine ca_X5_seconds_150 (ct_pop5 a3 (by omega) (by omega)) (fun z m2 hz => sg_X5_seconds_153 hr hs ?_)
  obtain ⟨rfl, rfl⟩ := hz
  rw [up2_k r5] at a5
  have e8 : m1 8 (0 + 1 - 1) = v (m r) := a5
  rw [e8]
  refine ca_X5_seconds_153 (ct_clamped (hv.1 _ hf)) (fun z m3 hz => sg_X5_seconds_156 hr hs ⟨_, rfl, hz.1, fun k k8 k5 => ?_, fun x hx => ?_⟩)
  · rw [hz.2, up2_k k5, a1 k k8 k5, up2_k k5]
  · rw [hz.2, up2_j hx, a2 x hx, up2_j hx]
theorem ct_seconds0 {E : Nat × (Nat → Int32)} {m : Mem} {r : Nat} (hr : r < 209) (hs : SH[r]? = some (.inr (0, 8))) (h : m 5 1 = 0) (hf : 0 ≤ m r 0 ∧ m r 0 ≤ 9999) : K_X5_seconds E [.ref 5, .ref r] m (fun z m' => z = max 1 (min 999 (8 + m r 0)) ∧ m' = m) := by
  refine en_X5_seconds (n1 := 8) (sg_X5_seconds_0 hr hs (by omega) (by omega) (by omega) (by decide) (by omega) (fun _ => ?_))
  rw [if_neg (by decide)]
  exact ca_X5_seconds_22 (ct_clamped ⟨by omega, by omega⟩) (fun z m3 hz => sg_X5_seconds_25 hr hs ⟨_, rfl, hz.1, hz.2⟩)
/-- the rule that the class, the reference hold: v of the facts, before it is clamped -/
def RuleC (c : Mem) (v : (Int → Int) → Int) : Prop := ∃ y : Nat, y ∈ codeL ∧ c 5 0 = ((y : Nat) : Int) ∧ c 5 2 = ((13 - y : Nat) : Int) ∧ ((c 5 1 = 0 ∧ v = fun f => 8 + f 0) ∨ ∃ p : Int → Int, CSeg p 0 (c 5 1) v ∧ ∀ x : Int, 0 ≤ x → x < c 5 1 → c y x = p x)
def RuleM (a : Mem) (v : (Int → Int) → Int) : Prop := (a 169 26 = 0 ∧ v = fun f => 8 + f 0) ∨ ∃ q : Int → Int, MSeg q 0 (a 169 26) v ∧ ∀ x : Int, 0 ≤ x → x < a 169 26 → a 185 x = q x
theorem RuleC.ext {c : Mem} {v : (Int → Int) → Int} (h : RuleC c v) (f g : Int → Int) (e : ∀ j : Int, 0 ≤ j → j < 8 → f j = g j) : v f = v g := by
  obtain ⟨y, -, -, -, ⟨-, rfl⟩ | ⟨p, h, -⟩⟩ := h
  · show 8 + f 0 = 8 + g 0
    rw [e 0 (by omega) (by omega)]
  · exact h.1.2 f g e
theorem RuleC.fr {c c' : Mem} {v : (Int → Int) → Int} (h : RuleC c v) (e : ∀ j : Int, j ≠ 5 → c' 5 j = c 5 j) (e6 : c' 6 = c 6) (e7 : c' 7 = c 7) : RuleC c' v := by
  obtain ⟨y, hy, h0, h2, h3⟩ := h
  have ey : c' y = c y := by
    rcases List.mem_cons.1 hy with rfl | h
    · exact e6
    · rcases List.mem_cons.1 h with rfl | h
      · exact e7
      · cases h
  refine ⟨y, hy, (e 0 (by decide)).trans h0, (e 2 (by decide)).trans h2, ?_⟩
  rw [e 1 (by decide), ey]
  exact h3
theorem RuleM.peq {a b : Mem} {v : (Int → Int) → Int} (h : RuleM b v) (e : PEq a b) : RuleM a v := by
  obtain ⟨⟨-, -, -, -, e26, -⟩, -, -, -, -, -, -, e185, -⟩ := e
  unfold RuleM
  rw [e26]
  rcases h with h | ⟨q, h1, h2⟩
  · exact Or.inl h
  · exact Or.inr ⟨q, h1, fun x x0 x1 => (e185 x x0 x1).trans (h2 x x0 x1)⟩
/-- seconds of a bin by the rule -/
def sec (v : (Int → Int) → Int) (f : Int → Int) : Int := max 1 (min 999 (v f))
theorem sec_rng (v : (Int → Int) → Int) (f : Int → Int) : 1 ≤ sec v f ∧ sec v f ≤ 999 := by unfold sec; omega
theorem ct_rule {E : Nat × (Nat → Int32)} {c : Mem} {r : Nat} {v : (Int → Int) → Int} (h : RuleC c v) (hr : r < 209) (hs : SH[r]? = some (.inr (0, 8))) (hf : FOK (c r)) (hf0 : 0 ≤ c r 0 ∧ c r 0 ≤ 9999) : K_X5_seconds E [.ref 5, .ref r] c (fun z c' => z = sec v (c r) ∧ (∀ k, k ≠ 8 → k ≠ 5 → c' k = c k) ∧ ∀ x : Int, x ≠ 5 → c' 5 x = c 5 x) := by
  obtain ⟨y, hy, h0, h2, ⟨h1, rfl⟩ | ⟨p, hp, hm⟩⟩ := h
  · refine (ct_seconds0 hr hs h1 hf0).mono (fun o m hz => ?_)
    obtain ⟨z, h1, h2, h3⟩ := hz
    exact ⟨z, h1, h2, fun k _ _ => by rw [h3], fun x _ => by rw [h3]⟩
  · exact ct_seconds hr hs hy h0 hp hm hf
theorem mt_rule {E : Nat × (Nat → Int32)} {a : Mem} {v : (Int → Int) → Int} (h : RuleM a v) (hf : FOK (a 188)) (hf0 : 0 ≤ a 188 0 ∧ a 188 0 ≤ 9999) : K_X12_ruled E [.ref 169] a (fun z a' => z = sec v (a 188) ∧ ∀ k, k ≠ 187 → a' k = a k) := by
  rcases h with ⟨h1, rfl⟩ | ⟨q, hq, hm⟩
  · refine (mt_ruled0 h1 hf0).mono (fun o m hz => ?_)
    obtain ⟨z, h1, h2, h3⟩ := hz
    exact ⟨z, h1, h2, fun k _ => by rw [h3]⟩
  · exact mt_ruled hq hm hf
