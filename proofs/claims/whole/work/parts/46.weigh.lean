/-! weights -/
theorem prod_rng {w f r : Int} (hw : 0 ≤ w ∧ w ≤ 9) (hf : 1 ≤ f ∧ f ≤ 2) (hr : 0 ≤ r ∧ r ≤ 9) : 0 ≤ w * f * (10 + r) ∧ w * f * (10 + r) ≤ 342 := by
  have a : 0 ≤ w * f := Int.mul_nonneg hw.1 (by omega)
  have b : w * f ≤ 9 * 2 := Int.mul_le_mul hw.2 hf.2 (by omega) (by omega)
  refine ⟨Int.mul_nonneg a (by omega), ?_⟩
  have := Int.mul_le_mul b (show 10 + r ≤ 19 by omega) (by omega) (by omega)
  omega
/-- what a bin weighs at this rain -/
def hv (sg : Mem) (b rain : Int) : Int := divI ((sg 178 b * sg 179 3) * (10 + rain)) 10
theorem hv_rng {sg : Mem} {b rain : Int} (hw : 0 ≤ sg 178 b ∧ sg 178 b ≤ 9) (hs : WSet sg) (hr : 0 ≤ rain ∧ rain ≤ 9) : 0 ≤ hv sg b rain ∧ hv sg b rain ≤ 34 := by
  have p := prod_rng hw (f := sg 179 3) ⟨hs.2.2.2.2.2.2.1, hs.2.2.2.2.2.2.2.1⟩ hr
  unfold hv
  rw [divI_nn ⟨p.1, by omega⟩ (by omega)]
  omega
theorem WTown.w {sg : Mem} (h : WTown sg) {b : Int} (h0 : 0 ≤ b) (h1 : b < 96) : 0 ≤ sg 178 b ∧ sg 178 b ≤ 9 := by
  have := h.2.2.2 (b / 16) (b % 16) (by omega) (by omega) (by omega) (by omega)
  rw [show 16 * (b / 16) + b % 16 = b by omega] at this
  exact ⟨this.1, this.2.1⟩
/-- of the bins that stand out in a street -/
def rW (sg : Mem) (r : Int → Int) (s rain : Int) (n : Nat) : Int := sumI (fun h => if r (16 * s + h) = 1 then hv sg (16 * s + h) rain else 0) n
def rT (sg : Mem) (r : Int → Int) (s rain : Int) (n : Nat) : Int := sumI (fun h => if (if r (16 * s + h) = 1 then hv sg (16 * s + h) rain else 0) ≤ sg 179 4 then 0 else 1) n
def rO (r : Int → Int) (s : Int) (n : Nat) : Int := sumI (fun h => b01 (r (16 * s + h) == 1)) n
theorem sumI_step {f : Int → Int} {i : Int} (h : 0 ≤ i) : sumI f (i + 1).toNat = sumI f i.toNat + f i := by
  rw [show (i + 1).toNat = i.toNat + 1 by omega, sumI, Int.toNat_of_nonneg h]
theorem rW_rng {sg : Mem} {r : Int → Int} {s rain : Int} (ht : WTown sg) (hs : WSet sg) (hr : 0 ≤ rain ∧ rain ≤ 9) (s0 : 0 ≤ s) (s6 : s < 6) {n : Nat} (hn : n ≤ 16) : 0 ≤ rW sg r s rain n ∧ rW sg r s rain n ≤ 544 := by
  have := sumI_bound (f := fun h => if r (16 * s + h) = 1 then hv sg (16 * s + h) rain else 0) (c := 34) (n := n) (fun i i0 i1 => by
    have := hv_rng (b := 16 * s + i) (ht.w (by omega) (by omega)) hs hr
    show 0 ≤ (if r (16 * s + i) = 1 then hv sg (16 * s + i) rain else 0) ∧ (if r (16 * s + i) = 1 then hv sg (16 * s + i) rain else 0) ≤ 34
    split <;> omega)
  unfold rW
  omega
/-! the class -/
theorem ct_weigh {E : Nat × (Nat → Int32)} {m : Mem} {o : Nat} {bits rain : Int} (ho : o ∈ streetL) : K_X6_weigh E [.ref 3, .ref o, vi bits, vi rain] m (fun z m' => m' = m ∧ z = sumI (fun h => if tb bits h then divI ((m (o + 1) h * m 4 3) * (10 + rain)) 10 else 0) 16) := by
  refine en_X6_weigh (sg_X6_weigh_0 ho ?_)
  refine up_loop (i0 := 0) (n := 16) (fun i (a : Int) => GM E _ _ 6 [.ref 3, .ref o, vi bits, vi rain, vi a, vi i] [] m) (fun i a => a = sumI (fun h => if tb bits h then divI ((m (o + 1) h * m 4 3) * (10 + rain)) 10 else 0) i.toNat) (fun a h => ?_) (fun i a a0 a1 h k => ?_) (i := 0) (s := 0) (by omega) (by omega) rfl
  · exact sg_X6_weigh_6 ho (by omega) (by omega) (fun _ => ⟨_, rfl, rfl, h⟩) (by omega)
  · refine sg_X6_weigh_6 ho (by omega) (fun _ _ => by omega) (by omega) (fun _ => k _ ?_)
    rw [sumI_step a0, ← h]
    by_cases c : tb bits i = true
    · rw [if_neg (fun e => by rw [bit_0 a0 (by omega), c] at e; exact absurd e (by decide)), if_pos c]
    · rw [if_pos ((bit_0 a0 (by omega)).2 (by simpa using c)), if_neg c]; omega
theorem ct_tooHeavy {E : Nat × (Nat → Int32)} {m : Mem} {o : Nat} {bits rain : Int} (ho : o ∈ streetL) (h44 : RI (m 4 4)) : K_X6_tooHeavy E [.ref 3, .ref o, vi bits, vi rain] m (fun z m' => m' = m ∧ z = sumI (fun h => if tb bits h then (if divI ((m (o + 1) h * m 4 3) * (10 + rain)) 10 ≤ m 4 4 then 0 else 1) else 0) 16) := by
  refine en_X6_tooHeavy (sg_X6_tooHeavy_0 ho ?_)
  refine up_loop (i0 := 0) (n := 16) (fun i (a : Int) => GM E _ _ 6 [.ref 3, .ref o, vi bits, vi rain, vi a, vi i] [] m) (fun i a => a = sumI (fun h => if tb bits h then (if divI ((m (o + 1) h * m 4 3) * (10 + rain)) 10 ≤ m 4 4 then 0 else 1) else 0) i.toNat) (fun a h => ?_) (fun i a a0 a1 h k => ?_) (i := 0) (s := 0) (by omega) (by omega) rfl
  · exact sg_X6_tooHeavy_6 ho (by omega) (by omega) (by omega) (fun _ => ⟨_, rfl, rfl, h⟩) (by omega)
  · refine sg_X6_tooHeavy_6 ho (by omega) (fun _ _ => by omega) (fun _ _ => h44) (by omega) (fun _ => k _ ?_)
    rw [sumI_step a0, ← h]
    by_cases c : tb bits i = true
    · rw [if_neg (fun e => by rw [bit_0 a0 (by omega), c] at e; exact absurd e (by decide)), if_pos c]
      split <;> omega
    · rw [if_pos ((bit_0 a0 (by omega)).2 (by simpa using c)), if_neg c]; omega
/-- the bins of a street -/
theorem ct_bins {E : Nat × (Nat → Int32)} {m : Mem} {o : Nat} (ho : o ∈ streetL) (hw : ∀ h : Int, 0 ≤ h → h < 16 → RI (m (o + 1) h)) : K_X8_bins E [.ref o] m (fun z m' => m' = m ∧ Small z ∧ ∀ h : Int, 0 ≤ h → h < 16 → tb z h = decide (m (o + 1) h ≠ 0)) := by
  refine en_X8_bins (sg_X8_bins_0 ho ?_)
  refine up_loop (i0 := 0) (n := 16) (fun i (a : Int) => GM E _ _ 4 [.ref o, vi a, vi i] [] m) (fun i a => Small a ∧ ∀ h : Int, 0 ≤ h → h < 16 → tb a h = decide (h < i ∧ m (o + 1) h ≠ 0)) (fun a h => ?_) (fun i a a0 a1 h k => ?_) (i := 0) (s := 0) (by omega) (by omega) ⟨small_0, fun h _ _ => by rw [tb_0]; simp; omega⟩
  · refine sg_X8_bins_4 ho (by omega) (by omega) (by omega) (fun _ => ⟨_, rfl, rfl, h.1, fun j j0 j1 => ?_⟩) (by omega)
    rw [h.2 j j0 j1]
    simp [j1]
  · refine sg_X8_bins_4 ho (by omega) (by omega) (fun _ => hw i a0 a1) (by omega) (fun _ => k _ ?_)
    by_cases c : m (o + 1) i = 0
    · rw [if_pos c]
      refine ⟨h.1, fun j j0 j1 => ?_⟩
      rw [h.2 j j0 j1]
      by_cases e : j = i
      · subst e; simp [c]
      · have : (j < i) ↔ (j < i + 1) := by omega
        simp only [this]
    · rw [if_neg c]
      refine ⟨small_or h.1 (small_one a0 a1), fun j j0 j1 => ?_⟩
      rw [tb_or, h.2 j j0 j1, tb_one a0 (by omega) j0 (by omega)]
      by_cases e : j = i
      · subst e
        have : j < j + 1 := by omega
        simp [c, this]
      · have : (j < i) ↔ (j < i + 1) := by omega
        simp only [this]
        simp [e]
theorem CTown.s {c sg : Mem} (h : CTown c sg) {s : Int} (h0 : 0 ≤ s) (h1 : s < sg 169 3) (h6 : sg 169 3 ≤ 6) : c (11 + 2 * s.toNat) 2 = sg 171 s ∧ c (11 + 2 * s.toNat) 3 = sg 172 s ∧ c (11 + 2 * s.toNat) 4 = sg 173 s ∧ c (11 + 2 * s.toNat) 5 = sg 174 s ∧ c (11 + 2 * s.toNat) 6 = sg 175 s ∧ c (11 + 2 * s.toNat) 7 = sg 176 s ∧ c (11 + 2 * s.toNat) 8 = sg 177 s ∧ ∀ h : Int, 0 ≤ h → h < 16 → c (11 + 2 * s.toNat + 1) h = sg 178 (16 * s + h) := by
  have a := h.2 s.toNat (by omega)
  rw [Int.toNat_of_nonneg h0] at a
  obtain ⟨a1, a2, a3⟩ := a
  obtain ⟨b1, b2, b3, b4, b5, b6, b7⟩ := a3 h1
  exact ⟨b1, b2, b3, b4, a2, b5, b6, b7⟩
theorem streetMem : ∀ s : Nat, s < 6 → 11 + 2 * s ∈ streetL := by decide +kernel
/-- the class' weights of what stands out -/
theorem weigh_eq {c sg : Mem} {r : Int → Int} {s rain : Int} (h : CTown c sg) (hs : CSet c sg) (hr : StRel c 23 r) (s0 : 0 ≤ s) (s1 : s < sg 169 3) (h6 : sg 169 3 ≤ 6) : sumI (fun h => if tb (c 24 s) h then divI ((c (11 + 2 * s.toNat + 1) h * c 4 3) * (10 + rain)) 10 else 0) 16 = rW sg r s rain 16 := by
  obtain ⟨-, -, -, g⟩ := hr.1 s s0 (by omega)
  obtain ⟨-, -, -, -, -, -, -, w⟩ := h.s s0 s1 h6
  unfold rW
  refine sumI_congr (fun k k0 k1 => ?_)
  have e : (r (16 * s + k) = 1) = (tb (c 24 s) k = true) := by
    rw [← stv_1 (tb (c 24 s) k) (tb (c 25 s) k) (tb (c 26 s) k), (g k k0 (by omega)).1]
    simp
  show (if tb (c 24 s) k = true then _ else 0) = if r (16 * s + k) = 1 then _ else 0
  simp only [e]
  rw [w k k0 (by omega), hs 3 (by omega) (by omega)]
  rfl
theorem tooH_eq {c sg : Mem} {r : Int → Int} {s rain : Int} (h : CTown c sg) (hs : CSet c sg) (hr : StRel c 23 r) (s0 : 0 ≤ s) (s1 : s < sg 169 3) (h6 : sg 169 3 ≤ 6) (hl : 0 ≤ sg 179 4) : sumI (fun h => if tb (c 24 s) h then (if divI ((c (11 + 2 * s.toNat + 1) h * c 4 3) * (10 + rain)) 10 ≤ c 4 4 then 0 else 1) else 0) 16 = rT sg r s rain 16 := by
  obtain ⟨-, -, -, g⟩ := hr.1 s s0 (by omega)
  obtain ⟨-, -, -, -, -, -, -, w⟩ := h.s s0 s1 h6
  unfold rT
  refine sumI_congr (fun k k0 k1 => ?_)
  have e : (r (16 * s + k) = 1) = (tb (c 24 s) k = true) := by
    rw [← stv_1 (tb (c 24 s) k) (tb (c 25 s) k) (tb (c 26 s) k), (g k k0 (by omega)).1]
    simp
  show (if tb (c 24 s) k = true then _ else 0) = if (if r (16 * s + k) = 1 then _ else 0) ≤ _ then 0 else 1
  simp only [e]
  rw [w k k0 (by omega), hs 3 (by omega) (by omega), hs 4 (by omega) (by omega)]
  by_cases q : tb (c 24 s) k = true
  · rw [if_pos q, if_pos q]; rfl
  · rw [if_neg q, if_neg q, if_pos hl]
/-! the reference -/
theorem mt_outOf {E : Nat × (Nat → Int32)} {m : Mem} {r : Nat} {s : Int} (hl : r < 209) (hs : SH[r]? = some (.inr (0, 99))) (s0 : 0 ≤ s) (s6 : s < 6) (hr : ∀ b : Int, 0 ≤ b → b < 96 → RI (m r b)) : K_X12_outOf E [.ref 169, .ref r, vi s] m (fun z m' => m' = m ∧ z = rO (m r) s 16) := by
  refine en_X12_outOf (sg_X12_outOf_0 hl hs ?_)
  refine up_loop (i0 := 16 * s) (n := 16 * (s + 1)) (fun i (a : Int) => GM E _ _ 8 [.ref 169, .ref r, vi s, vi a, vi i] [] m) (fun i a => a = rO (m r) s (i - 16 * s).toNat) (fun a h => ?_) (fun i a a0 a1 h k => ?_) (i := 16 * s) (s := 0) (by omega) (by omega) (by rw [Int.sub_self]; rfl)
  · refine sg_X12_outOf_8 hl hs (by omega) (by omega) (by omega) (by omega) (fun _ => ⟨_, rfl, rfl, ?_⟩) (by omega) (by omega)
    rw [h, show 16 * (s + 1) - 16 * s = 16 by omega]; rfl
  · have e : rO (m r) s (i + 1 - 16 * s).toNat = a + b01 (m r i == 1) := by
      rw [show i + 1 - 16 * s = (i - 16 * s) + 1 by omega]
      unfold rO at h ⊢
      rw [sumI_step (by omega), ← h, show 16 * s + (i - 16 * s) = i by omega]
    refine sg_X12_outOf_8 hl hs (by omega) (by omega) (by omega) (fun _ => hr i (by omega) (by omega)) (by omega) (fun _ c => k _ ?_) (fun _ c => k _ ?_)
    · rw [e]; simp [b01, c]
    · rw [e]; simp [b01, c]
