theorem ic_X8_openFrom {E : Nat × (Nat → Int32)} {m : Mem} {o : Nat} {a f t : Int} {Q : Int → Mem → Prop} (ho : o ∈ streetL) (hf : m o 7 = f) (ht : m o 8 = t) (hfr : -2147483648 ≤ f ∧ f < 2147483648) (htr : -2147483648 ≤ t ∧ t < 2147483648) (k1 : 0 ≤ f ∧ f ≤ divI a 60 ∧ divI a 60 ≤ t → Q ((t + 1) * 60) m) (k2 : ¬ (0 ≤ f ∧ f ≤ divI a 60 ∧ divI a 60 ≤ t) → Q a m) : K_X8_openFrom E [.ref o, vi a] m Q := by
  subst hf ht
  exact en_X8_openFrom (sg_X8_openFrom_0 ho hfr htr (fun c => ⟨_, rfl, k1 c⟩) (fun c => ⟨_, rfl, k2 c⟩))
theorem ic_X6_heavy {E : Nat × (Nat → Int32)} {m : Mem} {w r z : Int} {Q : Int → Mem → Prop} (hz : m 4 3 = z) (k : Q (divI ((w * z) * (10 + r)) 10) m) : K_X6_heavy E [.ref 3, vi w, vi r] m Q := by
  subst hz
  exact en_X6_heavy (sg_X6_heavy_0 ⟨_, rfl, k⟩)
theorem ic_X11_tell {E : Nat × (Nat → Int32)} {m : Mem} {a : Int} {Q : Mem → Prop} (k : Q (up2 (up2 (up2 m 0 14 0) 168 0 a) 0 14 1)) : K_X11_tell E [.ref 0, vl a] m Q := by
  exact en_X11_tell (sg_X11_tell_0 ⟨rfl, k⟩)
theorem ic_X9_accept {E : Nat × (Nat → Int32)} {m : Mem} {a z : Int} {Q : Int → Mem → Prop} (h : TextOK m) (ha : -2147483648 ≤ a ∧ a < 2147483648) (hz : m 1 2 = z) (k1 : lookM m = a → Q 1 (up2 m 1 2 (z + 1))) (k2 : ¬ lookM m = a → Q 0 m) : K_X9_accept E [.ref 1, vi a] m Q := by
  subst hz
  exact en_X9_accept (sg_X9_accept_0 h (lookM_rng h) ha (fun c => ⟨_, rfl, k1 c⟩) (fun c => ⟨_, rfl, k2 c⟩))
theorem ic_X9_digitBelow {E : Nat × (Nat → Int32)} {m : Mem} {a z : Int} {Q : Int → Mem → Prop} (h : TextOK m) (ha : -2147483648 ≤ a ∧ a < 2147483648) (hz : m 1 2 = z) (k1 : 48 ≤ lookM m ∧ lookM m < a + 48 → Q (lookM m - 48) (up2 m 1 2 (z + 1))) (k2 : ¬ (48 ≤ lookM m ∧ lookM m < a + 48) → Q (-1) m) : K_X9_digitBelow E [.ref 1, vi a] m Q := by
  subst hz
  have hr := lookM_rng2 h
  exact en_X9_digitBelow (sg_X9_digitBelow_0 h (by omega) ha (fun c => ⟨_, rfl, k2 (by omega)⟩) (fun c c2 => ⟨_, rfl, k1 (by omega)⟩) (fun c c2 => ⟨_, rfl, k2 (by omega)⟩))
theorem ic_X12_heavy {E : Nat × (Nat → Int32)} {m : Mem} {b w z r : Int} {Q : Int → Mem → Prop} (hb : 0 ≤ b ∧ b < 96) (h1 : m 178 b = w) (h2 : m 179 3 = z) (h3 : m 179 2 = r) (k : Q (divI ((w * z) * (10 + r)) 10) m) : K_X12_heavy E [.ref 169, vi b] m Q := by
  subst h1 h2 h3
  exact en_X12_heavy (sg_X12_heavy_0 hb ⟨_, rfl, k⟩)
theorem ic_X12_isStreet {E : Nat × (Nat → Int32)} {m : Mem} {a z : Int} {Q : Int → Mem → Prop} (hz : m 169 3 = z) (ha : -2147483648 ≤ a ∧ a < 2147483648) (hr : 0 ≤ z ∧ z < 2147483648) (k1 : 0 ≤ a ∧ a < z → Q 1 m) (k2 : ¬ (0 ≤ a ∧ a < z) → Q 0 m) : K_X12_isStreet E [.ref 169, vi a] m Q := by
  subst hz
  exact en_X12_isStreet (sg_X12_isStreet_0 ha (by omega) (by omega) (by omega) (fun c => ⟨_, rfl, k1 (by omega)⟩) (fun c => ⟨_, rfl, k2 (by omega)⟩))
theorem ic_X12_isDigit {E : Nat × (Nat → Int32)} {m : Mem} {a b t : Int} {Q : Int → Mem → Prop} (h1 : m 169 18 = a) (h2 : m 169 19 = b) (hb : 0 ≤ a ∧ a < 2147483648 ∧ -2147483648 ≤ b ∧ b ≤ 80) (ht : m 182 a = t) (htr : -2147483648 ≤ t ∧ t < 2147483648) (k1 : a < b ∧ 48 ≤ t ∧ t ≤ 57 → Q 1 m) (k2 : ¬ (a < b ∧ 48 ≤ t ∧ t ≤ 57) → Q 0 m) : K_X12_isDigit E [.ref 169] m Q := by
  subst h1 h2 ht
  exact en_X12_isDigit (sg_X12_isDigit_0 (by omega) (by omega) (fun c => by omega) (fun c => htr) (fun c => by omega) (fun c => ⟨_, rfl, k2 (by omega)⟩) (fun c c2 => ⟨_, rfl, k1 (by omega)⟩) (fun c c2 => ⟨_, rfl, k2 (by omega)⟩))
theorem ic_X12_isNext {E : Nat × (Nat → Int32)} {m : Mem} {a b c t : Int} {Q : Int → Mem → Prop} (h1 : m 169 18 = a) (h2 : m 169 19 = b) (hb : 0 ≤ a ∧ a < 2147483648 ∧ -2147483648 ≤ b ∧ b ≤ 80) (hc : -2147483648 ≤ c ∧ c < 2147483648) (ht : m 182 a = t) (htr : -2147483648 ≤ t ∧ t < 2147483648) (k1 : a < b ∧ t = c → Q 1 (up2 m 169 18 (a + 1))) (k2 : ¬ (a < b ∧ t = c) → Q 0 (up2 m 169 18 (a + 0))) : K_X12_isNext E [.ref 169, vi c] m Q := by
  subst h1 h2 ht
  exact en_X12_isNext (sg_X12_isNext_0 (by omega) (by omega) (fun c => by omega) (fun c => htr) hc (fun c => ⟨_, rfl, k2 (by omega)⟩) (fun c c2 => ⟨_, rfl, k2 (by omega)⟩) (fun c c2 => ⟨_, rfl, k1 (by omega)⟩))
