def TextOK (m : Mem) : Prop := 0 ≤ m 1 1 ∧ m 1 1 ≤ 80 ∧ 0 ≤ m 1 2 ∧ m 1 2 ≤ 80 ∧ 0 ≤ m 1 3 ∧ m 1 3 ≤ 80 ∧ ∀ i, 0 ≤ i → i < 80 → 0 ≤ m 2 i ∧ m 2 i < 256
/-- the sign ahead, or -1 -/
def lookM (m : Mem) : Int := if 0 ≤ m 1 2 ∧ m 1 2 < m 1 3 ∧ m 1 2 < 80 then m 2 (m 1 2) else -1
theorem lookM_rng2 {m : Mem} (h : TextOK m) : -1 ≤ lookM m ∧ lookM m < 256 := by
  obtain ⟨h1, h2, h3, h4, h5, h6, h7⟩ := h
  unfold lookM
  split
  · rename_i c
    have := h7 (m 1 2) c.1 c.2.2
    omega
  · omega
theorem lookM_rng {m : Mem} (h : TextOK m) : -2147483648 ≤ lookM m ∧ lookM m < 2147483648 := by
  have := lookM_rng2 h
  omega
theorem ic_X6_get {E : Nat × (Nat → Int32)} {m : Mem} {i z : Int} {Q : Int → Mem → Prop} (h : 0 ≤ i ∧ i < 7) (hz : m 4 i = z) (k : Q z m) : K_X6_get E [.ref 3, vi i] m Q := by
  subst hz
  exact en_X6_get (sg_X6_get_0 (by omega) (fun c => by omega) (fun _ c => by omega) (fun _ _ => ⟨_, rfl, k⟩))
theorem ic_X8_weightAt {E : Nat × (Nat → Int32)} {m : Mem} {o : Nat} {h z : Int} {Q : Int → Mem → Prop} (ho : o ∈ streetL) (hh : 0 ≤ h ∧ h < 16) (hz : m (o + 1) h = z) (k : Q z m) : K_X8_weightAt E [.ref o, vi h] m Q := by
  subst hz
  exact en_X8_weightAt (sg_X8_weightAt_0 ho (by omega) (fun c => by omega) (fun _ c => by omega) (fun _ _ => ⟨_, rfl, k⟩))
theorem ic_X7_outOf {E : Nat × (Nat → Int32)} {m : Mem} {o : Nat} {s z : Int} {Q : Int → Mem → Prop} (ho : o ∈ stateL) (hh : 0 ≤ s ∧ s < 6) (hz : m (o + 1) s = z) (k : Q z m) : K_X7_outOf E [.ref o, vi s] m Q := by
  subst hz
  exact en_X7_outOf (sg_X7_outOf_0 ho (by omega) (fun c => by omega) (fun _ c => by omega) (fun _ _ => ⟨_, rfl, k⟩))
theorem ic_X10_at {E : Nat × (Nat → Int32)} {m : Mem} {a z : Int} {Q : Value → Mem → Prop} (hz : m 9 1 = z) (hb : 0 ≤ z ∧ z ≤ 6) (ha : -2147483648 ≤ a ∧ a < 2147483648) (k1 : 0 ≤ a ∧ a < z → Q (.ref (11 + 2 * a.toNat)) m) (k2 : ¬ (0 ≤ a ∧ a < z) → Q .null m) : K_X10_at E [.ref 9, vi a] m Q := by
  subst hz
  exact en_X10_at (sg_X10_at_0 ha (fun _ => by omega) (fun c => ⟨_, rfl, k2 (by omega)⟩) (fun _ c => ⟨_, rfl, k2 (by omega)⟩) (fun _ _ c => by omega) (fun _ _ _ => ⟨_, rfl, k1 (by omega)⟩))
theorem ic_X10_hasAll {E : Nat × (Nat → Int32)} {m : Mem} {a z : Int} {Q : Int → Mem → Prop} (hz : m 9 1 = z) (k1 : bandI a (-(shlI 1 z)) = 0 → Q 1 m) (k2 : bandI a (-(shlI 1 z)) ≠ 0 → Q 0 m) : K_X10_hasAll E [.ref 9, vi a] m Q := by
  subst hz
  exact en_X10_hasAll (sg_X10_hasAll_0 (fun c => ⟨_, rfl, k2 c⟩) (fun c => ⟨_, rfl, k1 c⟩))
theorem ic_X8_isBarred {E : Nat × (Nat → Int32)} {m : Mem} {o : Nat} {a f t : Int} {Q : Int → Mem → Prop} (ho : o ∈ streetL) (hf : m o 7 = f) (ht : m o 8 = t) (hfr : -2147483648 ≤ f ∧ f < 2147483648) (htr : -2147483648 ≤ t ∧ t < 2147483648) (k1 : 0 ≤ f ∧ f ≤ divI a 60 ∧ divI a 60 ≤ t → Q 1 m) (k2 : ¬ (0 ≤ f ∧ f ≤ divI a 60 ∧ divI a 60 ≤ t) → Q 0 m) : K_X8_isBarred E [.ref o, vi a] m Q := by
  subst hf ht
  exact en_X8_isBarred (sg_X8_isBarred_0 ho hfr (fun _ _ => htr) (fun c => ⟨_, rfl, k2 (by omega)⟩) (fun _ c => ⟨_, rfl, k2 (by omega)⟩) (fun _ _ c => ⟨_, rfl, k2 (by omega)⟩) (fun _ _ _ => ⟨_, rfl, k1 (by omega)⟩))
theorem ic_X11_driving {E : Nat × (Nat → Int32)} {m : Mem} {a b : Int} {Q : Int → Mem → Prop} (h : -2147483648 ≤ a - b ∧ a - b < 2147483648) (k : Q (10 * (if 0 ≤ (a - b) then (a - b) else -(a - b))) m) : K_X11_driving E [vi a, vi b] m Q := by
  exact en_X11_driving (sg_X11_driving_0 h ⟨_, rfl, k⟩)
theorem ic_X11_clearRow {E : Nat × (Nat → Int32)} {m : Mem} {Q : Mem → Prop} (k : Q (up2 m 0 14 0)) : K_X11_clearRow E [.ref 0] m Q := by
  exact en_X11_clearRow (sg_X11_clearRow_0 ⟨rfl, k⟩)
theorem ic_X11_tellMore {E : Nat × (Nat → Int32)} {m : Mem} {a z z2 : Int} {Q : Mem → Prop} (hz : m 0 14 = z) (hb : 0 ≤ z ∧ z < 6) (h2 : z + 1 = z2) (k : Q (up2 (up2 m 168 z a) 0 14 z2)) : K_X11_tellMore E [.ref 0, vl a] m Q := by
  subst hz h2
  exact en_X11_tellMore (sg_X11_tellMore_0 (by omega) (fun _ => hb) (fun c => by omega) (fun _ => ⟨rfl, k⟩))
theorem ic_X1_clear {E : Nat × (Nat → Int32)} {m : Mem} {Q : Mem → Prop} (k : Q (up2 m 27 2 0)) : K_X1_clear E [.ref 27] m Q := by
  exact en_X1_clear (sg_X1_clear_0 ⟨rfl, k⟩)
theorem ic_X4_start {E : Nat × (Nat → Int32)} {m : Mem} {a b c : Int} {Q : Mem → Prop} (k : Q (up2 (up2 (up2 (up2 (up2 m 106 6 a) 106 7 b) 106 8 c) 106 9 0) 106 10 0)) : K_X4_start E [.ref 106, vi a, vi b, vi c] m Q := by
  exact en_X4_start (sg_X4_start_0 ⟨rfl, k⟩)
theorem ic_X4_soonestAt {E : Nat × (Nat → Int32)} {m : Mem} {h z : Int} {Q : Int → Mem → Prop} (hh : 0 ≤ h ∧ h < 6) (hz : m 110 h = z) (k : Q z m) : K_X4_soonestAt E [.ref 106, vi h] m Q := by
  subst hz
  exact en_X4_soonestAt (sg_X4_soonestAt_0 (by omega) (fun c => by omega) (fun _ c => by omega) (fun _ _ => ⟨_, rfl, k⟩))
theorem ic_X0_secondsOn {E : Nat × (Nat → Int32)} {m : Mem} {h z : Int} {Q : Int → Mem → Prop} (hh : 0 ≤ h ∧ h < 7) (hz : m 149 h = z) (k : Q z m) : K_X0_secondsOn E [.ref 147, vi h] m Q := by
  subst hz
  exact en_X0_secondsOn (sg_X0_secondsOn_0 (by omega) (fun c => by omega) (fun _ c => by omega) (fun _ _ => ⟨_, rfl, k⟩))
theorem ic_X0_foundAt {E : Nat × (Nat → Int32)} {m : Mem} {h z : Int} {Q : Int → Mem → Prop} (hh : 0 ≤ h ∧ h < 6) (hz : m 152 h = z) (k : Q z m) : K_X0_foundAt E [.ref 147, vi h] m Q := by
  subst hz
  exact en_X0_foundAt (sg_X0_foundAt_0 (by omega) (fun c => by omega) (fun _ c => by omega) (fun _ _ => ⟨_, rfl, k⟩))
theorem ic_X3_leastMoreOf {E : Nat × (Nat → Int32)} {m : Mem} {h z : Int} {Q : Int → Mem → Prop} (hh : 0 ≤ h ∧ h < 6) (hz : m 99 h = z) (k : Q z m) : K_X3_leastMoreOf E [.ref 93, vi h] m Q := by
  subst hz
  exact en_X3_leastMoreOf (sg_X3_leastMoreOf_0 (by omega) (fun c => by omega) (fun _ c => by omega) (fun _ _ => ⟨_, rfl, k⟩))
theorem ic_X2_seconds {E : Nat × (Nat → Int32)} {m : Mem} {o : Nat} {a b : Int} {Q : Int → Mem → Prop} (ho : o ∈ jobL) (h1 : m o 18 = a) (h2 : m o 11 = b) (k : Q (a + b) m) : K_X2_seconds E [.ref o] m Q := by
  subst h1 h2
  exact en_X2_seconds (sg_X2_seconds_0 ho ⟨_, rfl, k⟩)
theorem ic_X2_secondsOf {E : Nat × (Nat → Int32)} {m : Mem} {o : Nat} {h z : Int} {Q : Int → Mem → Prop} (ho : o ∈ jobL) (hh : 0 ≤ h ∧ h < 3) (hz : m (o + 5) h = z) (k : Q z m) : K_X2_secondsOf E [.ref o, vi h] m Q := by
  subst hz
  exact en_X2_secondsOf (sg_X2_secondsOf_0 ho (by omega) (fun c => by omega) (fun _ c => by omega) (fun _ _ => ⟨_, rfl, k⟩))
theorem ic_X2_think {E : Nat × (Nat → Int32)} {m : Mem} {o : Nat} {a b : Int} {Q : Mem → Prop} (ho : o ∈ jobL) (h : -2147483648 ≤ a ∧ a < 2147483648) (k : Q (up2 (up2 m o 7 (max 1 a)) o 8 b)) : K_X2_think E [.ref o, vi a, vi b] m Q := by
  exact en_X2_think (sg_X2_think_0 ho h ⟨rfl, k⟩)
theorem ic_X9_look {E : Nat × (Nat → Int32)} {m : Mem} {Q : Int → Mem → Prop} (h : TextOK m) (k : Q (lookM m) m) : K_X9_look E [.ref 1] m Q := by
  obtain ⟨h1, h2, h3, h4, h5, h6, h7⟩ := h
  refine en_X9_look (sg_X9_look_0 (by omega) (fun _ => by omega) (fun c => by omega) (fun c c2 => ⟨_, rfl, ?_⟩) (fun c c2 c3 => ⟨_, rfl, ?_⟩) (fun c c2 c3 => ⟨_, rfl, ?_⟩))
  · rwa [show lookM m = -1 from if_neg (by omega)] at k
  · rwa [show lookM m = -1 from if_neg (by omega)] at k
  · rwa [show lookM m = m 2 (m 1 2) from if_pos (by omega)] at k
theorem ic_X9_pass {E : Nat × (Nat → Int32)} {m : Mem} {z : Int} {Q : Mem → Prop} (hz : m 1 2 = z) (k : Q (up2 m 1 2 (z + 1))) : K_X9_pass E [.ref 1] m Q := by
  subst hz
  exact en_X9_pass (sg_X9_pass_0 ⟨rfl, k⟩)
theorem ic_X9_stepBack {E : Nat × (Nat → Int32)} {m : Mem} {z : Int} {Q : Mem → Prop} (hz : m 1 2 = z) (k : Q (up2 m 1 2 (z - 1))) : K_X9_stepBack E [.ref 1] m Q := by
  subst hz
  exact en_X9_stepBack (sg_X9_stepBack_0 ⟨rfl, k⟩)
theorem ic_X9_isRead {E : Nat × (Nat → Int32)} {m : Mem} {a b : Int} {Q : Int → Mem → Prop} (ha : m 1 2 = a) (hb : m 1 1 = b) (hra : -2147483648 ≤ a ∧ a < 2147483648) (hrb : -2147483648 ≤ b ∧ b < 2147483648) (k1 : b ≤ a → Q 1 m) (k2 : ¬ b ≤ a → Q 0 m) : K_X9_isRead E [.ref 1] m Q := by
  subst ha hb
  exact en_X9_isRead (sg_X9_isRead_0 hra hrb (fun c => ⟨_, rfl, k2 (by omega)⟩) (fun c => ⟨_, rfl, k1 (by omega)⟩))
theorem ic_X9_fault {E : Nat × (Nat → Int32)} {m : Mem} {z : Int} {Q : Int → Mem → Prop} (hz : m 1 2 = z) (k : Q ((-1) - z) m) : K_X9_fault E [.ref 1] m Q := by
  subst hz
  exact en_X9_fault (sg_X9_fault_0 ⟨_, rfl, k⟩)
theorem ic_X9_begin {E : Nat × (Nat → Int32)} {m : Mem} {n z : Int} {Q : Mem → Prop} (hz : m 1 1 = z) (hr : -2147483648 ≤ z ∧ z < 2147483648) (hn : -2147483648 ≤ n ∧ n < 2147483648) (k : Q (up2 (up2 m 1 2 0) 1 3 (min z n))) : K_X9_begin E [.ref 1, vi n] m Q := by
  subst hz
  exact en_X9_begin (sg_X9_begin_0 hr hn ⟨rfl, k⟩)
theorem ic_X9_clear {E : Nat × (Nat → Int32)} {m : Mem} {Q : Mem → Prop} (k : Q (up2 m 1 1 0)) : K_X9_clear E [.ref 1] m Q := by
  exact en_X9_clear (sg_X9_clear_0 ⟨rfl, k⟩)
theorem ic_X12_in {E : Nat × (Nat → Int32)} {m : Mem} {a b c : Int} {Q : Int → Mem → Prop} (ha : -9223372036854775808 ≤ a ∧ a < 9223372036854775808) (hb : -9223372036854775808 ≤ b ∧ b < 9223372036854775808) (hc : -9223372036854775808 ≤ c ∧ c < 9223372036854775808) (k1 : b ≤ a ∧ a ≤ c → Q 1 m) (k2 : ¬ (b ≤ a ∧ a ≤ c) → Q 0 m) : K_X12_in E [vl a, vl b, vl c] m Q := by
  exact en_X12_in (sg_X12_in_0 ha hb hc (fun c => ⟨_, rfl, k2 (by omega)⟩) (fun _ c => ⟨_, rfl, k2 (by omega)⟩) (fun _ _ => ⟨_, rfl, k1 (by omega)⟩))
theorem ic_X12_has {E : Nat × (Nat → Int32)} {m : Mem} {a b : Int} {Q : Int → Mem → Prop} (k1 : bandI (shrI a b) 1 = 1 → Q 1 m) (k2 : ¬ bandI (shrI a b) 1 = 1 → Q 0 m) : K_X12_has E [vi a, vi b] m Q := by
  exact en_X12_has (sg_X12_has_0 (fun c => ⟨_, rfl, k2 c⟩) (fun c => ⟨_, rfl, k1 c⟩))
theorem ic_X12_flag {E : Nat × (Nat → Int32)} {m : Mem} {a : Int} {Q : Int → Mem → Prop} (ha : -2147483648 ≤ a ∧ a < 2147483648) (k1 : ¬ a = 0 → Q 1 m) (k2 : a = 0 → Q 0 m) : K_X12_flag E [vi a] m Q := by
  exact en_X12_flag (sg_X12_flag_0 ha (fun c => ⟨_, rfl, k2 c⟩) (fun c => ⟨_, rfl, k1 c⟩))
theorem ic_X12_flagL {E : Nat × (Nat → Int32)} {m : Mem} {a : Int} {Q : Int → Mem → Prop} (ha : a = 0 ∨ a = 1) (k : Q a m) : K_X12_flag E [vi a] m Q := by
  rcases ha with rfl | rfl
  · exact ic_X12_flag (by decide) (fun h => absurd rfl h) (fun _ => k)
  · exact ic_X12_flag (by decide) (fun _ => k) (fun h => absurd h (by decide))
theorem ic_X12_all {E : Nat × (Nat → Int32)} {m : Mem} {z : Int} {Q : Int → Mem → Prop} (hz : m 169 3 = z) (k : Q (shlI 1 z - 1) m) : K_X12_all E [.ref 169] m Q := by
  subst hz
  exact en_X12_all (sg_X12_all_0 ⟨_, rfl, k⟩)
theorem ic_X12_at {E : Nat × (Nat → Int32)} {m : Mem} {a b c : Int} {Q : Int → Mem → Prop} (k : Q (((16 * a) + (8 * b)) + c) m) : K_X12_at E [vi a, vi b, vi c] m Q := by
  exact en_X12_at (sg_X12_at_0 ⟨_, rfl, k⟩)
theorem ic_X12_refuse {E : Nat × (Nat → Int32)} {m : Mem} {Q : Int → Mem → Prop} (k : Q 0 (up2 m 169 0 1)) : K_X12_refuse E [.ref 169] m Q := by
  exact en_X12_refuse (sg_X12_refuse_0 ⟨_, rfl, k⟩)
theorem ic_X12_enters {E : Nat × (Nat → Int32)} {m : Mem} {a z z2 : Int} {Q : Mem → Prop} (hz : m 169 1 = z) (hb : 0 ≤ z ∧ z < 24) (h2 : z + 1 = z2) (k : Q (up2 (up2 m 170 z a) 169 1 z2)) : K_X12_enters E [.ref 169, vl a] m Q := by
  subst hz h2
  exact en_X12_enters (sg_X12_enters_0 hb ⟨rfl, k⟩)
theorem ic_X12_begins {E : Nat × (Nat → Int32)} {m : Mem} {n z : Int} {Q : Int → Mem → Prop} (hz : m 169 17 = z) (hr : -2147483648 ≤ z ∧ z < 2147483648) (hn : -2147483648 ≤ n ∧ n < 2147483648) (k : Q z (up2 (up2 (up2 (up2 m 169 17 0) 169 18 0) 169 20 0) 169 19 (min z n))) : K_X12_begins E [.ref 169, vi n] m Q := by
  subst hz
  exact en_X12_begins (sg_X12_begins_0 hr hn ⟨_, rfl, k⟩)
theorem ic_X12_codes {E : Nat × (Nat → Int32)} {m : Mem} {a z : Int} {Q : Mem → Prop} (hz : m 169 27 = z) (hb : 0 ≤ z ∧ z < 80) (k : Q (up2 (up2 m 186 z a) 169 27 (z + 1))) : K_X12_codes E [.ref 169, vi a] m Q := by
  subst hz
  exact en_X12_codes (sg_X12_codes_0 hb ⟨rfl, k⟩)
theorem ic_X12_heavyBy {E : Nat × (Nat → Int32)} {m : Mem} {w r z : Int} {Q : Int → Mem → Prop} (hz : m 179 3 = z) (k : Q (divI ((w * z) * (10 + r)) 10) m) : K_X12_heavyBy E [.ref 169, vi w, vi r] m Q := by
  subst hz
  exact en_X12_heavyBy (sg_X12_heavyBy_0 ⟨_, rfl, k⟩)
theorem ic_X12_thinksAsIs {E : Nat × (Nat → Int32)} {m : Mem} {s a b : Int} {Q : Mem → Prop} (hs : 0 ≤ s ∧ s < 6) (h1 : m 179 1 = a) (h2 : m 173 s = b) (k : Q (up2 (up2 m 169 30 a) 169 31 b)) : K_X12_thinksAsIs E [.ref 169, vi s] m Q := by
  subst h1 h2
  exact en_X12_thinksAsIs (sg_X12_thinksAsIs_0 hs ⟨rfl, k⟩)
theorem ic_X12_drives {E : Nat × (Nat → Int32)} {m : Mem} {r : Nat} {g a b : Int} {Q : Int → Mem → Prop} (hl : r < 209) (hs : SH[r]? = some (.inr (0, 99))) (h1 : m r 97 = a) (h2 : m r 98 = b) (hr : -2147483648 ≤ a - g ∧ a - g < 2147483648) (k : Q (10 * (if 0 ≤ (a - g) then (a - g) else -(a - g))) (up2 (up2 m r 97 g) r 98 (b + (10 * (if 0 ≤ (a - g) then (a - g) else -(a - g)))))) : K_X12_drives E [.ref 169, .ref r, vi g] m Q := by
  subst h1 h2
  exact en_X12_drives (sg_X12_drives_0 hl hs hr ⟨_, rfl, k⟩)
theorem ic_X12_isShut {E : Nat × (Nat → Int32)} {m : Mem} {r : Nat} {a b x y : Int} {Q : Int → Mem → Prop} (hl : r < 209) (hs : SH[r]? = some (.inr (0, 99))) (h1 : m r 97 = a) (h2 : m r 98 = b) (h3 : m 179 5 = x) (h4 : m 179 6 = y) (hr : -2147483648 ≤ a - x ∧ a - x < 2147483648) (hy : -2147483648 ≤ y ∧ y < 2147483648) (k1 : ¬ divI (b + (10 * (if 0 ≤ (a - x) then (a - x) else -(a - x)))) 60 ≤ y → Q 1 m) (k2 : divI (b + (10 * (if 0 ≤ (a - x) then (a - x) else -(a - x)))) 60 ≤ y → Q 0 m) : K_X12_isShut E [.ref 169, .ref r] m Q := by
  subst h1 h2 h3 h4
  exact en_X12_isShut (sg_X12_isShut_0 hl hs hr hy (fun c => ⟨_, rfl, k2 c⟩) (fun c => ⟨_, rfl, k1 c⟩))
