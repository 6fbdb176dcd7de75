/-! right, care -/
theorem divL_nn {a b : Int} (ha : 0 ≤ a ∧ a < 9223372036854775808) (hb : 0 < b ∧ b < 9223372036854775808) : divL a b = a / b := by
  have hne : iL b ≠ -1 := fun e => by
    have := congrArg Int64.toInt e
    rw [iL_toInt (by omega) hb.2] at this
    have e1 : (-1 : Int64).toInt = -1 := by decide
    omega
  unfold divL
  rw [Int64.toInt_div_of_ne_right _ _ hne, iL_toInt (by omega) ha.2, iL_toInt (by omega) hb.2, Int.tdiv_eq_ediv_of_nonneg ha.1]
theorem iL_of (x : Int64) : iL x.toInt = x := Int64.ofInt_toInt x
theorem remL_nn {a b : Int} (ha : 0 ≤ a ∧ a < 9223372036854775808) (hb : 0 < b ∧ b < 9223372036854775808) : remL a b = a % b := by
  have h : iL a / iL b = iL (a / b) := by
    have := divL_nn ha hb
    unfold divL at this
    rw [← this, iL_of]
  unfold remL
  rw [h, ← iL_mul, ← iL_sub]
  have h1 : a - a / b * b = a % b := by
    have := Int.emod_add_mul_ediv a b
    rw [Int.mul_comm] at this
    omega
  rw [h1]
  have h2 := Int.emod_nonneg a (show b ≠ 0 by omega)
  have h3 := Int.emod_lt_of_pos a hb.1
  exact iL_toInt (by omega) (by omega)
/-- Euclid ends within so many steps -/
def eucS : Nat → Nat → Nat → Bool
  | 0, _, b => b == 0
  | k + 1, a, b => b == 0 || eucS k b (a % b)
theorem euc_all : ∀ p, p < 11 → ∀ n, n < 17 → eucS 99 (10 ^ n) (p ^ n) = true ∧ eucS 99 (p ^ n) (10 ^ n) = true ∧ p ^ n ≤ 10 ^ n ∧ 10 ^ n ≤ 10000000000000000 := by decide +kernel
theorem gcd_step (a b : Nat) : Nat.gcd b (a % b) = Nat.gcd a b := by
  rw [Nat.gcd_comm a b, Nat.gcd_rec b a, Nat.gcd_comm]
def pw (p n : Nat) : Int := ((p ^ n : Nat) : Int)
theorem ct_power {E : Nat × (Nat → Int32)} {c : Mem} {p n : Nat} (hp : p < 11) (hn : n < 17) : K_X11_power E [vi (p : Int), vi (n : Int)] c (fun z c' => z = pw p n ∧ c' = c) := by
  refine en_X11_power (sg_X11_power_0 ?_)
  refine up_loop (i0 := 0) (n := n) (fun i (x : Int) => GM E _ _ 5 [vi (p : Int), vi (n : Int), vl x, un, vi i] [] c) (fun i x => x = pw p i.toNat) (fun x h => ?_) (fun i x i0 i1 h k => ?_) (i := 0) (s := 1) (by omega) (by omega) (by simp [pw])
  · refine sg_X11_power_5 ⟨by omega, by omega⟩ ⟨by omega, by omega⟩ ⟨by omega, by omega⟩ (fun _ => ⟨_, rfl, ?_, rfl⟩) (by omega)
    rw [h, Int.toNat_natCast]
  · refine sg_X11_power_5 ⟨by omega, by omega⟩ ⟨by omega, by omega⟩ ⟨by omega, by omega⟩ (by omega) (fun _ => k _ ?_)
    rw [h]
    unfold pw
    rw [show (i + 1).toNat = i.toNat + 1 by omega, Nat.pow_succ, Int.natCast_mul]
theorem ct_commonDivisor {E : Nat × (Nat → Int32)} {c : Mem} {a b : Nat} (ha : a < 9223372036854775808) (hb : b < 9223372036854775808) (hs : eucS 99 a b = true) : K_X11_commonDivisor E [vl (a : Int), vl (b : Int)] c (fun z c' => z = ((Nat.gcd a b : Nat) : Int) ∧ c' = c) := by
  have key : ∀ (k : Nat) (x y : Nat) (i : Int), 0 ≤ i → i + k ≤ 99 → x < 9223372036854775808 → y < 9223372036854775808 → eucS k x y = true → Nat.gcd x y = Nat.gcd a b → GM E (m_X11_commonDivisor 0) (Pl fun z c' => z = ((Nat.gcd a b : Nat) : Int) ∧ c' = c) 9 [vl (a : Int), un, vl (b : Int), un, vl (x : Int), un, vl (y : Int), un, vi i, un, un] [] c := by
    intro k
    induction k with
    | zero =>
      intro x y i i0 ik hx hy hs hg
      have e : y = 0 := by simpa [eucS] using hs
      subst e
      refine sg_X11_commonDivisor_9 ⟨by omega, by omega⟩ (by decide) (fun _ q => q) (by omega) (fun _ _ => ⟨_, rfl, ?_, rfl⟩) (fun _ q => absurd rfl q)
      rw [← hg, Nat.gcd_zero_right]
    | succ k ih =>
      intro x y i i0 ik hx hy hs hg
      by_cases c0 : y = 0
      · subst c0
        refine sg_X11_commonDivisor_9 ⟨by omega, by omega⟩ (by decide) (fun _ q => q) (by omega) (fun _ _ => ⟨_, rfl, ?_, rfl⟩) (fun _ q => absurd rfl q)
        rw [← hg, Nat.gcd_zero_right]
      · have hs' : eucS k y (x % y) = true := by
          have : (y == 0) = false := by simpa using c0
          simpa [eucS, this] using hs
        have hm : x % y < y := Nat.mod_lt _ (by omega)
        refine sg_X11_commonDivisor_9 ⟨by omega, by omega⟩ ⟨by omega, by omega⟩ (fun _ q => q) (by omega) (fun _ q => by omega) (fun _ _ => ?_)
        rw [remL_nn ⟨by omega, by omega⟩ ⟨by omega, by omega⟩, ← Int.natCast_emod]
        exact ih y (x % y) (i + 1) (by omega) (by omega) hy (by omega) hs' (by rw [gcd_step]; exact hg)
  exact en_X11_commonDivisor (sg_X11_commonDivisor_0 (key 99 a b 0 (by omega) (by omega) ha hb hs rfl))
theorem mt_common {E : Nat × (Nat → Int32)} {m : Mem} : ∀ (k d : Nat) (a b : Nat), k ≤ d → a < 9223372036854775808 → b < 9223372036854775808 → eucS k a b = true → K_X12_common E d [vl (a : Int), vl (b : Int)] m (fun z m' => z = ((Nat.gcd a b : Nat) : Int) ∧ m' = m)
  | 0, d, a, b, _, _, _, hs => by
    have e : b = 0 := by simpa [eucS] using hs
    subst e
    exact en_X12_common (sg_X12_common_0 (by decide) (fun q => q) (fun q => absurd rfl q) (fun _ => ⟨_, rfl, by rw [Nat.gcd_zero_right], rfl⟩))
  | k + 1, d, a, b, hd, ha, hb, hs => by
    by_cases c0 : b = 0
    · subst c0
      exact en_X12_common (sg_X12_common_0 (by decide) (fun q => q) (fun q => absurd rfl q) (fun _ => ⟨_, rfl, by rw [Nat.gcd_zero_right], rfl⟩))
    · have hs' : eucS k b (a % b) = true := by
        have : (b == 0) = false := by simpa using c0
        simpa [eucS, this] using hs
      have hm : a % b < b := Nat.mod_lt _ (by omega)
      refine en_X12_common (sg_X12_common_0 ⟨by omega, by omega⟩ (fun q => q) (fun _ => ?_) (fun q => by omega))
      rw [remL_nn ⟨by omega, by omega⟩ ⟨by omega, by omega⟩, ← Int.natCast_emod]
      refine ca_X12_common_14 (d2 := d - 1) (by omega) (mt_common k (d - 1) b (a % b) (by omega) hb (by omega) hs') (fun z m2 hz => sg_X12_common_17 ⟨_, rfl, ?_, hz.2⟩)
      rw [hz.1, gcd_step]
def rightN (a : Mem) (s : Int) : Nat := (rO (a 180) s 16).toNat
theorem rO_rng {r : Int → Int} {s : Int} : 0 ≤ rO r s 16 ∧ rO r s 16 ≤ 16 := by
  have := sumI_bound (f := fun h => b01 (r (16 * s + h) == 1)) (c := 1) (n := 16) (fun i _ _ => b01_rng _)
  unfold rO
  omega
def rightG (p n : Nat) : Nat := Nat.gcd (10 ^ n) (p ^ n)
def rightL (p n : Nat) : List Int := [((p ^ n / rightG p n : Nat) : Int), ((10 ^ n / rightG p n : Nat) : Int)]
theorem rightG_pos {p n : Nat} : 0 < rightG p n := Nat.gcd_pos_of_pos_left _ (Nat.pow_pos (by decide))
theorem ct_right {E : Nat × (Nat → Int32)} {c a : Mem} {s p : Int} (rs : RI s) (rp : RI p) (h : CR0 c a) (hT : WTown a) : K_X11_right E [.ref 0, vi s, vi p] c (fun z c' => (((0 ≤ s ∧ s < a 169 3) ∧ 0 ≤ p ∧ p ≤ 10) ∧ z = 0 ∧ CQ c c' 2 (rwL (rightL p.toNat (rightN a s)))) ∨ (¬ ((0 ≤ s ∧ s < a 169 3) ∧ 0 ≤ p ∧ p ≤ 10) ∧ z = -1 ∧ c' = c)) := by
  have e := h.town.1
  have n0 := hT.1
  have n6 := hT.2.1
  refine en_X11_right (sg_X11_right_0 (by omega) rs rp (fun _ _ _ => by omega) (fun p q => ⟨_, rfl, Or.inr ⟨by omega, rfl, rfl⟩⟩) (fun g q q2 => ?_) (fun p q q2 => ⟨_, rfl, Or.inr ⟨by omega, rfl, rfl⟩⟩) (fun p => ⟨_, rfl, Or.inr ⟨by omega, rfl, rfl⟩⟩))
  refine ca_X11_right_31 (ct_bitCount (h.now.1 s g.1 (by omega)).1) (fun z c2 hz => sg_X11_right_34 ?_)
  obtain ⟨e2, ez⟩ := hz
  subst e2
  have ez : z = rO (a 180) s 16 := ez.trans (cntO h.now g.1 (by omega))
  have rr := rO_rng (r := a 180) (s := s)
  have en : z = ((rightN a s : Nat) : Int) := by unfold rightN; rw [ez]; omega
  have ep : p = ((p.toNat : Nat) : Int) := by omega
  have hn : rightN a s < 17 := by unfold rightN; omega
  have hp : p.toNat < 11 := by omega
  obtain ⟨e1, -, e3, e4⟩ := euc_all p.toNat hp (rightN a s) hn
  rw [en, ep]
  refine ca_X11_right_37 (ct_power hp hn) (fun y c3 hy => sg_X11_right_40 ?_)
  obtain ⟨rfl, rfl⟩ := hy
  refine ca_X11_right_45 (ct_power (p := 10) (by decide) hn) (fun y c4 hy => sg_X11_right_48 ?_)
  obtain ⟨rfl, rfl⟩ := hy
  refine ca_X11_right_54 (ct_commonDivisor (a := 10 ^ rightN a s) (b := p.toNat ^ rightN a s) (by omega) (by omega) e1) (fun y c5 hy => ?_)
  obtain ⟨rfl, rfl⟩ := hy
  have gp := rightG_pos (p := p.toNat) (n := rightN a s)
  have gle : rightG p.toNat (rightN a s) ≤ 10 ^ rightN a s := Nat.gcd_le_left _ (Nat.pow_pos (by decide))
  have eg : Nat.gcd (10 ^ rightN a s) (p.toNat ^ rightN a s) = rightG p.toNat (rightN a s) := rfl
  rw [eg]
  refine sg_X11_right_57 ⟨by omega, by omega⟩ (fun _ => by omega) (fun q => by omega) (fun _ => ⟨_, rfl, Or.inl ⟨by omega, rfl, ?_⟩⟩)
  have d1 : divL (pw p.toNat (rightN a s)) ((rightG p.toNat (rightN a s) : Nat) : Int) = ((p.toNat ^ rightN a s / rightG p.toNat (rightN a s) : Nat) : Int) := by
    unfold pw
    rw [divL_nn ⟨by omega, by omega⟩ ⟨by omega, by omega⟩, Int.natCast_ediv]
  have d2 : divL (pw 10 (rightN a s)) ((rightG p.toNat (rightN a s) : Nat) : Int) = ((10 ^ rightN a s / rightG p.toNat (rightN a s) : Nat) : Int) := by
    unfold pw
    rw [divL_nn ⟨by omega, by omega⟩ ⟨by omega, by omega⟩, Int.natCast_ediv]
  rw [d1, d2]
  exact CQ.two
theorem mt_bets {E : Nat × (Nat → Int32)} {m a : Mem} {s : Int} {p : Nat} (e180 : m 180 = a 180) (s0 : 0 ≤ s) (s6 : s < 6) (hp : p < 11) (hr : ∀ b : Int, 0 ≤ b → b < 96 → RI (a 180 b)) : K_X12_bets E [.ref 169, vi s, vi (p : Int)] m (fun m' => m' 169 67 = pw p (rightN a s) ∧ m' 169 68 = pw 10 (rightN a s) ∧ (∀ k, k ≠ 169 → m' k = m k) ∧ ∀ j : Int, j ≠ 67 → j ≠ 68 → m' 169 j = m 169 j) := by
  refine en_X12_bets (sg_X12_bets_0 ?_)
  have e1 : up2 (up2 m 169 67 1) 169 68 1 180 = a 180 := by rw [up2_k (by decide), up2_k (by decide), e180]
  refine ca_X12_bets_16 (mt_outOf (r := 180) (by decide) (by decide) s0 s6 (fun b b0 b1 => by rw [e1]; exact hr b b0 b1)) (fun z m2 hz => sg_X12_bets_19 ?_)
  obtain ⟨e2, ez⟩ := hz
  rw [e1] at ez
  have rr := rO_rng (r := a 180) (s := s)
  have en : z = ((rightN a s : Nat) : Int) := by unfold rightN; rw [ez]; omega
  have hn : rightN a s < 17 := by unfold rightN; omega
  have key : ∀ (d : Nat) (m3 : Mem), d ≤ rightN a s → m3 169 67 = pw p (rightN a s - d) → m3 169 68 = pw 10 (rightN a s - d) → (∀ k, k ≠ 169 → m3 k = m k) → (∀ j : Int, j ≠ 67 → j ≠ 68 → m3 169 j = m 169 j) → GM E (m_X12_bets 2) (Pv fun m' => m' 169 67 = pw p (rightN a s) ∧ m' 169 68 = pw 10 (rightN a s) ∧ (∀ k, k ≠ 169 → m' k = m k) ∧ ∀ j : Int, j ≠ 67 → j ≠ 68 → m' 169 j = m 169 j) 20 [.ref 169, vi s, vi (p : Int), vi (d : Int)] [] m3 := by
    intro d
    induction d with
    | zero =>
      intro m3 hd h1 h2 h3 h4
      exact sg_X12_bets_20 (by decide) ⟨by omega, by omega⟩ (fun _ => ⟨rfl, h1, h2, h3, h4⟩) (fun q => absurd (Int.le_refl 0) q)
    | succ d ih =>
      intro m3 hd h1 h2 h3 h4
      refine sg_X12_bets_20 ⟨by omega, by omega⟩ ⟨by omega, by omega⟩ (fun q => by omega) (fun _ => ?_)
      have es : rightN a s - d = (rightN a s - (d + 1)) + 1 := by omega
      rw [show ((d + 1 : Nat) : Int) + -1 = (d : Int) by omega]
      refine ih _ (by omega) ?_ ?_ (fun k hk => by rw [up2_k hk, up2_k hk, h3 k hk]) (fun j j1 j2 => by rw [up2_j j2, up2_j j1, h4 j j1 j2])
      · rw [up2_j (by decide), up2_same, h1]
        unfold pw
        rw [es, Nat.pow_succ, Int.natCast_mul]
      · rw [up2_same, h2]
        unfold pw
        rw [es, Nat.pow_succ, Int.natCast_mul]
        rfl
  rw [en]
  refine key (rightN a s) m2 (Nat.le_refl _) ?_ ?_ (fun k hk => by rw [e2, up2_k hk, up2_k hk]) (fun j j1 j2 => by rw [e2, up2_j j2, up2_j j1])
  · rw [e2, up2_j (by decide), up2_same, Nat.sub_self]; rfl
  · rw [e2, up2_same, Nat.sub_self]; rfl
theorem mt_right {E : Nat × (Nat → Int32)} {m a : Mem} {s p B : Int} (rs : RI s) (rp : RI p) (hm : HighEq a m) (hT : WTown a) (hn : StOK B a (a 180)) : K_X12_right E [.ref 169, vi s, vi p] m (fun z m' => (((0 ≤ s ∧ s < a 169 3) ∧ 0 ≤ p ∧ p ≤ 10) ∧ z = 0 ∧ PEq m' (rowU m 2 (rwL (rightL p.toNat (rightN a s)))) ∧ LowEq m m') ∨ (¬ ((0 ≤ s ∧ s < a 169 3) ∧ 0 ≤ p ∧ p ≤ 10) ∧ z = -1 ∧ m' = up2 m 169 0 0)) := by
  have n0 := hT.1
  have n6 := hT.2.1
  have e9 := hm 169 (by decide)
  have := rp.1; have := rp.2
  refine en_X12_right (sg_X12_right_0 (by rw [e9]; constructor <;> omega) rs rp ⟨by omega, by omega⟩ (fun g q => ?_) (fun g q => ⟨_, rfl, Or.inr ⟨fun o => q o.2, rfl, rfl⟩⟩) (fun g => ⟨_, rfl, Or.inr ⟨fun o => g (by rw [e9]; exact o.1), rfl, rfl⟩⟩))
  rw [e9] at g
  have rr := rO_rng (r := a 180) (s := s)
  have ep : p = ((p.toNat : Nat) : Int) := by omega
  have hN : rightN a s < 17 := by unfold rightN; omega
  have hp : p.toNat < 11 := by omega
  obtain ⟨-, e1, e3, e4⟩ := euc_all p.toNat hp (rightN a s) hN
  rw [ep]
  refine ca_X12_right_30 (mt_bets (a := a) (by rw [up2_k (by decide), hm 180 (by decide)]) g.1 (by omega) hp (fun b b0 b1 => hn.ri b0 b1)) (fun m2 h2 => sg_X12_right_33 ?_)
  obtain ⟨u1, u2, u3, u4⟩ := h2
  rw [u1, u2]
  refine ca_X12_right_41 (d2 := 200) (by decide) (mt_common (m := m2) 99 200 (p.toNat ^ rightN a s) (10 ^ rightN a s) (by decide) (by omega) (by omega) e1) (fun y m3 hy => ?_)
  obtain ⟨ey, e5⟩ := hy
  subst e5
  have gp := rightG_pos (p := p.toNat) (n := rightN a s)
  have gle : rightG p.toNat (rightN a s) ≤ 10 ^ rightN a s := Nat.gcd_le_left _ (Nat.pow_pos (by decide))
  have eg : y = ((rightG p.toNat (rightN a s) : Nat) : Int) := by rw [ey, Nat.gcd_comm]; rfl
  rw [eg]
  refine sg_X12_right_44 ⟨by omega, by omega⟩ (by omega) ⟨_, rfl, Or.inl ⟨by omega, rfl, ?_, fun k hk => ?_⟩⟩
  · have d1 : divL (m3 169 67) ((rightG p.toNat (rightN a s) : Nat) : Int) = ((p.toNat ^ rightN a s / rightG p.toNat (rightN a s) : Nat) : Int) := by
      rw [u1]
      unfold pw
      rw [divL_nn ⟨by omega, by omega⟩ ⟨by omega, by omega⟩, Int.natCast_ediv]
    have d2 : divL (up2 (up2 (up2 m3 169 1 0) 170 0 (divL (m3 169 67) ((rightG p.toNat (rightN a s) : Nat) : Int))) 169 1 1 169 68) ((rightG p.toNat (rightN a s) : Nat) : Int) = ((10 ^ rightN a s / rightG p.toNat (rightN a s) : Nat) : Int) := by
      rw [up2_j (by decide), up2_k (by decide), up2_j (by decide), u2]
      unfold pw
      rw [divL_nn ⟨by omega, by omega⟩ ⟨by omega, by omega⟩, Int.natCast_ediv]
    have d2' : divL (m3 169 68) ((rightG p.toNat (rightN a s) : Nat) : Int) = ((10 ^ rightN a s / rightG p.toNat (rightN a s) : Nat) : Int) := by
      rw [u2]
      unfold pw
      rw [divL_nn ⟨by omega, by omega⟩ ⟨by omega, by omega⟩, Int.natCast_ediv]
    first
      | rw [d1, d2']
      | rw [d2, d1]
    exact PEq.two (PEq.of (fun k _ h9 => by rw [u3 k h9, up2_k h9]) (fun j hj => by have := hj.not; rw [u4 j (by omega) (by omega), up2_j (by omega)]))
  · rw [up2_k (by omega), up2_k (by omega), up2_k (by omega), up2_k (by omega), up2_k (by omega), u3 k (by omega), up2_k (by omega)]
def careG (n : Nat) (v : Int) : Nat → Nat → Int
  | 0, p => p
  | d + 1, p => if pw 10 n * v ≤ pw p n * 100 then p else careG n v d (p + 1)
theorem ct_care {E : Nat × (Nat → Int32)} {c a : Mem} {s v : Int} (rs : RI s) (rv : RI v) (h : CR0 c a) (hT : WTown a) : K_X11_care E [.ref 0, vi s, vi v] c (fun z c' => (((0 ≤ s ∧ s < a 169 3) ∧ 0 ≤ v ∧ v ≤ 100) ∧ z = careG (rightN a s) v 10 0 ∧ c' = c) ∨ (¬ ((0 ≤ s ∧ s < a 169 3) ∧ 0 ≤ v ∧ v ≤ 100) ∧ z = -1 ∧ c' = c)) := by
  have e := h.town.1
  have n0 := hT.1
  have n6 := hT.2.1
  refine en_X11_care (sg_X11_care_0 (by omega) rs rv (fun _ _ _ => by omega) (fun p q => ⟨_, rfl, Or.inr ⟨by omega, rfl, rfl⟩⟩) (fun g q q2 => ?_) (fun p q q2 => ⟨_, rfl, Or.inr ⟨by omega, rfl, rfl⟩⟩) (fun p => ⟨_, rfl, Or.inr ⟨by omega, rfl, rfl⟩⟩))
  refine ca_X11_care_31 (ct_bitCount (h.now.1 s g.1 (by omega)).1) (fun z c2 hz => sg_X11_care_34 ?_)
  obtain ⟨e2, ez⟩ := hz
  subst e2
  have ez : z = rO (a 180) s 16 := ez.trans (cntO h.now g.1 (by omega))
  have rr := rO_rng (r := a 180) (s := s)
  have en : z = ((rightN a s : Nat) : Int) := by unfold rightN; rw [ez]; omega
  have hn : rightN a s < 17 := by unfold rightN; omega
  rw [en]
  have key : ∀ (d p : Nat), p + d = 10 → GM E (m_X11_care 1) (Pi fun z c' => (((0 ≤ s ∧ s < a 169 3) ∧ 0 ≤ v ∧ v ≤ 100) ∧ z = careG (rightN a s) v d p ∧ c' = c2) ∨ (¬ ((0 ≤ s ∧ s < a 169 3) ∧ 0 ≤ v ∧ v ≤ 100) ∧ z = -1 ∧ c' = c2)) 38 [.ref 0, vi s, vi v, vi ((rightN a s : Nat) : Int), vi (p : Int)] [] c2 := by
    intro d
    induction d with
    | zero =>
      intro p hp
      have : p = 10 := by omega
      subst this
      exact sg_X11_care_38 (by decide) (fun _ => ⟨_, rfl, Or.inl ⟨by omega, rfl, rfl⟩⟩) (fun q => absurd (by decide) q)
    | succ d ih =>
      intro p hp
      obtain ⟨-, -, e3, e4⟩ := euc_all p (by omega) (rightN a s) hn
      refine sg_X11_care_38 ⟨by omega, by omega⟩ (by omega) (fun _ => ?_)
      refine ca_X11_care_48 (ct_power (by omega) hn) (fun y c3 hy => sg_X11_care_51 ?_)
      obtain ⟨rfl, rfl⟩ := hy
      refine ca_X11_care_58 (ct_power (p := 10) (by decide) hn) (fun y c4 hy => ?_)
      obtain ⟨rfl, rfl⟩ := hy
      have u0 : 0 ≤ pw p (rightN a s) ∧ pw p (rightN a s) ≤ 10000000000000000 := by unfold pw; omega
      have d0 : 0 ≤ pw 10 (rightN a s) ∧ pw 10 (rightN a s) ≤ 10000000000000000 := by unfold pw; omega
      have dv : 0 ≤ pw 10 (rightN a s) * v ∧ pw 10 (rightN a s) * v ≤ 10000000000000000 * 100 := ⟨Int.mul_nonneg d0.1 (by omega), Int.mul_le_mul d0.2 (by omega) (by omega) (by omega)⟩
      refine sg_X11_care_61 rv ⟨by omega, by omega⟩ ⟨by omega, by omega⟩ (fun g2 => ?_) (fun g2 => ⟨_, rfl, Or.inl ⟨by omega, ?_, rfl⟩⟩)
      · have ec : careG (rightN a s) v (d + 1) p = careG (rightN a s) v d (p + 1) := by rw [careG, if_neg (by omega)]
        rw [ec]
        exact ih (p + 1) (by omega)
      · rw [careG, if_pos (by omega)]
  exact key 10 0 (by omega)
theorem mt_care {E : Nat × (Nat → Int32)} {m a : Mem} {s v B : Int} (rs : RI s) (rv : RI v) (hm : HighEq a m) (hT : WTown a) (hn : StOK B a (a 180)) : K_X12_care E [.ref 169, vi s, vi v] m (fun z m' => (((0 ≤ s ∧ s < a 169 3) ∧ 0 ≤ v ∧ v ≤ 100) ∧ z = careG (rightN a s) v 10 0 ∧ PEq m' m ∧ LowEq m m') ∨ (¬ ((0 ≤ s ∧ s < a 169 3) ∧ 0 ≤ v ∧ v ≤ 100) ∧ z = -1 ∧ PEq m' m ∧ LowEq m m')) := by
  have n0 := hT.1
  have n6 := hT.2.1
  have e9 := hm 169 (by decide)
  have := rv.1; have := rv.2
  refine en_X12_care (sg_X12_care_0 (by rw [e9]; constructor <;> omega) rs rv ⟨by omega, by omega⟩ (fun g q => ?_) (fun g q => ⟨_, rfl, Or.inr ⟨fun o => q o.2, rfl, PEq.field npf0, fun k hk => up2_k (by omega)⟩⟩) (fun g => ⟨_, rfl, Or.inr ⟨fun o => g (by rw [e9]; exact o.1), rfl, PEq.field npf0, fun k hk => up2_k (by omega)⟩⟩))
  rw [e9] at g
  have rr := rO_rng (r := a 180) (s := s)
  have hN : rightN a s < 17 := by unfold rightN; omega
  have key : ∀ (d p : Nat) (m2 : Mem), p + d = 10 → m2 169 67 = pw p (rightN a s) → m2 169 68 = pw 10 (rightN a s) → (∀ k, k ≠ 169 → m2 k = m k) → (∀ j : Int, j ≠ 0 → j ≠ 67 → j ≠ 68 → m2 169 j = m 169 j) → GM E (m_X12_care 3) (Pi fun z m' => (((0 ≤ s ∧ s < a 169 3) ∧ 0 ≤ v ∧ v ≤ 100) ∧ z = careG (rightN a s) v d p ∧ PEq m' m ∧ LowEq m m') ∨ (¬ ((0 ≤ s ∧ s < a 169 3) ∧ 0 ≤ v ∧ v ≤ 100) ∧ z = -1 ∧ PEq m' m ∧ LowEq m m')) 35 [.ref 169, vi s, vi v, vi (p : Int)] [] m2 := by
    intro d
    induction d with
    | zero =>
      intro p m2 hp h1 h2 h3 h4
      have : p = 10 := by omega
      subst this
      obtain ⟨-, -, e3, e4⟩ := euc_all 10 (by omega) (rightN a s) hN
      have d0 : 0 ≤ pw 10 (rightN a s) ∧ pw 10 (rightN a s) ≤ 10000000000000000 := ⟨Int.natCast_nonneg _, Int.ofNat_le.mpr e4⟩
      have dv : 0 ≤ v * pw 10 (rightN a s) ∧ v * pw 10 (rightN a s) ≤ 100 * pw 10 (rightN a s) := ⟨Int.mul_nonneg (by omega) d0.1, Int.mul_le_mul_of_nonneg_right (by omega) d0.1⟩
      refine sg_X12_care_35 rv (by rw [h1]; constructor <;> omega) (by rw [h2]; constructor <;> omega) (fun _ => ⟨_, rfl, Or.inl ⟨by omega, rfl, ?_, fun k hk => h3 k (by omega)⟩⟩) (by rw [h1, h2]; omega)
      exact PEq.of (fun k _ h9 => h3 k h9) (fun j hj => by have := hj.not; exact h4 j (by omega) (by omega) (by omega))
    | succ d ih =>
      intro p m2 hp h1 h2 h3 h4
      obtain ⟨-, -, e3, e4⟩ := euc_all p (by omega) (rightN a s) hN
      have u0 : 0 ≤ pw p (rightN a s) ∧ pw p (rightN a s) ≤ 10000000000000000 := by unfold pw; omega
      have d0 : 0 ≤ pw 10 (rightN a s) ∧ pw 10 (rightN a s) ≤ 10000000000000000 := by unfold pw; omega
      have dv : 0 ≤ v * pw 10 (rightN a s) ∧ v * pw 10 (rightN a s) ≤ 100 * pw 10 (rightN a s) := ⟨Int.mul_nonneg (by omega) d0.1, Int.mul_le_mul_of_nonneg_right (by omega) d0.1⟩
      have cm1 : v * pw 10 (rightN a s) = pw 10 (rightN a s) * v := Int.mul_comm _ _
      refine sg_X12_care_35 rv (by rw [h1]; constructor <;> omega) (by rw [h2]; constructor <;> omega) (fun g2 => ⟨_, rfl, Or.inl ⟨by omega, ?_, ?_, fun k hk => h3 k (by omega)⟩⟩) (fun g2 => ?_)
      · rw [h1, h2] at g2
        rw [careG, if_pos (by omega)]
      · exact PEq.of (fun k _ h9 => h3 k h9) (fun j hj => by have := hj.not; exact h4 j (by omega) (by omega) (by omega))
      · rw [h1, h2] at g2
        have ec : careG (rightN a s) v (d + 1) p = careG (rightN a s) v d (p + 1) := by rw [careG, if_neg (by omega)]
        rw [ec, show (p : Int) + 1 = ((p + 1 : Nat) : Int) by omega]
        refine ca_X12_care_60 (mt_bets (a := a) (by rw [h3 180 (by decide), hm 180 (by decide)]) g.1 (by omega) (by omega) (fun b b0 b1 => hn.ri b0 b1)) (fun m3 hz => sg_X12_care_63 ?_)
        obtain ⟨u1, u2, u3, u4⟩ := hz
        exact ih (p + 1) m3 (by omega) u1 u2 (fun k hk => (u3 k hk).trans (h3 k hk)) (fun j j1 j2 j3 => (u4 j j2 j3).trans (h4 j j1 j2 j3))
  refine ca_X12_care_32 (mt_bets (a := a) (p := 0) (by rw [up2_k (by decide), hm 180 (by decide)]) g.1 (by omega) (by decide) (fun b b0 b1 => hn.ri b0 b1)) (fun m2 hz => ?_)
  obtain ⟨u1, u2, u3, u4⟩ := hz
  exact key 10 0 m2 (by omega) u1 u2 (fun k hk => (u3 k hk).trans (up2_k hk)) (fun j j1 j2 j3 => (u4 j j2 j3).trans (up2_j j1))
