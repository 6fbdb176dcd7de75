/-! small sets of bits; Integer.bitCount, Arrays.fill -/
theorem bandI_nat {a b : Nat} (ha : a < 2147483648) (_hb : b < 2147483648) : bandI (a : Int) (b : Int) = ((a &&& b : Nat) : Int) := by
  unfold bandI
  have e : iI (a : Int) &&& iI (b : Int) = iI ((a &&& b : Nat) : Int) := by
    apply Int32.toBitVec_inj.1
    show BitVec.ofInt 32 (a : Int) &&& BitVec.ofInt 32 (b : Int) = BitVec.ofInt 32 ((a &&& b : Nat) : Int)
    apply BitVec.eq_of_getLsbD_eq
    intro i hi
    simp [BitVec.getLsbD_and, BitVec.ofInt_natCast, hi]
  have h := Nat.and_le_left (n := a) (m := b)
  rw [e, iI_toInt (by omega) (by omega)]
theorem ushrI_nat {a k : Nat} (ha : a < 2147483648) (hk : k < 32) : ushrI (a : Int) (k : Int) = ((a >>> k : Nat) : Int) := by
  have hs : ∀ n : Nat, n < 32 → (((iI (n : Int)).toUInt32 &&& Int32.toUInt32 31).toBitVec % 32).toNat = n := by decide +kernel
  have e : ((iI (a : Int)).toUInt32 >>> ((iI (k : Int)).toUInt32 &&& Int32.toUInt32 31)).toInt32 = iI ((a >>> k : Nat) : Int) := by
    apply Int32.toBitVec_inj.1
    show (iI (a : Int)).toUInt32.toBitVec >>> (((iI (k : Int)).toUInt32 &&& Int32.toUInt32 31).toBitVec % 32).toNat = BitVec.ofInt 32 ((a >>> k : Nat) : Int)
    rw [hs k hk]
    apply BitVec.eq_of_toNat_eq
    have h1 : (iI (a : Int)).toUInt32.toBitVec.toNat = a := by
      show (BitVec.ofInt 32 (a : Int)).toNat = a
      rw [BitVec.ofInt_natCast, BitVec.toNat_ofNat]
      omega
    have h3 : a >>> k ≤ a := by rw [Nat.shiftRight_eq_div_pow]; exact Nat.div_le_self _ _
    rw [BitVec.toNat_ushiftRight, h1, BitVec.ofInt_natCast, BitVec.toNat_ofNat, Nat.mod_eq_of_lt (by omega)]
  have h3 : a >>> k ≤ a := by rw [Nat.shiftRight_eq_div_pow]; exact Nat.div_le_self _ _
  unfold ushrI
  generalize a >>> k = q at e h3 ⊢
  rw [e, iI_toInt (by omega) (by omega)]
theorem tb_nat {n : Nat} (hn : n < 4294967296) (h : Int) : tb (n : Int) h = n.testBit h.toNat := by
  unfold tb bt
  show (BitVec.ofInt 32 (n : Int)).getLsbD h.toNat = _
  rw [BitVec.ofInt_natCast, BitVec.getLsbD_ofNat]
  by_cases c : h.toNat < 32
  · simp [c]
  · have : n < 2 ^ h.toNat := Nat.lt_of_lt_of_le hn (show (4294967296 : Nat) ≤ 2 ^ h.toNat from Nat.pow_le_pow_right (n := 2) (by omega) (Nat.le_of_not_lt c))
    simp [c, Nat.testBit_lt_two_pow this]
/-- a set of at most 16 things -/
def Small (z : Int) : Prop := 0 ≤ z ∧ z < 65536
theorem tb_of_small {z h : Int} (hz : Small z) (h1 : 16 ≤ h) : tb z h = false := by
  obtain ⟨n, rfl⟩ := Int.eq_ofNat_of_zero_le hz.1
  have := hz.2
  rw [tb_nat (by omega)]
  exact Nat.testBit_lt_two_pow (Nat.lt_of_lt_of_le (show n < 2 ^ 16 by omega) (Nat.pow_le_pow_right (n := 2) (by omega) (by omega)))
theorem small_of_tb {z : Int} (hz : -2147483648 ≤ z ∧ z < 2147483648) (h : ∀ i : Int, 16 ≤ i → i < 32 → tb z i = false) : Small z := by
  have h1 : (iI z).toBitVec.toNat < 2 ^ 16 := by
    apply Nat.lt_pow_two_of_testBit
    intro i hi
    by_cases c : i < 32
    · have := h (i : Int) (by omega) (by omega)
      unfold tb bt at this
      simpa [BitVec.getLsbD] using this
    · exact Nat.testBit_lt_two_pow (Nat.lt_of_lt_of_le (BitVec.isLt _) (Nat.pow_le_pow_right (n := 2) (by omega) (by omega)))
  have h2 : z = ((iI z).toBitVec.toNat : Int) := by
    have h3 : (iI z).toInt = z := iI_toInt hz.1 hz.2
    have h4 : (iI z).toInt = (iI z).toBitVec.toInt := rfl
    rw [BitVec.toInt_eq_toNat_of_lt (by omega)] at h4
    omega
  unfold Small
  omega
theorem small_and {a b : Int} (ha : Small a) : Small (bandI a b) := small_of_tb (iI_rng _) (fun i h1 h2 => by rw [tb_and, tb_of_small ha h1]; rfl)
theorem small_or {a b : Int} (ha : Small a) (hb : Small b) : Small (borI a b) := small_of_tb (iI_rng _) (fun i h1 h2 => by rw [tb_or, tb_of_small ha h1, tb_of_small hb h1]; rfl)
theorem small_one {k : Int} (h0 : 0 ≤ k) (h1 : k < 16) : Small (shlI 1 k) := small_of_tb (iI_rng _) (fun i h2 h3 => by rw [tb_one h0 (by omega) (by omega) h3]; simp; omega)
theorem small_0 : Small 0 := ⟨by decide, by decide⟩
theorem small_ext {a b : Int} (ha : Small a) (hb : Small b) (h : ∀ i : Int, 0 ≤ i → i < 16 → tb a i = tb b i) : a = b := by
  refine tb_ext (by unfold Small at ha; omega) (by unfold Small at hb; omega) (fun i h0 h1 => ?_)
  by_cases c : i < 16
  · exact h i h0 c
  · rw [tb_of_small ha (by omega), tb_of_small hb (by omega)]
def b01 (b : Bool) : Int := if b then 1 else 0
theorem b01_rng (b : Bool) : 0 ≤ b01 b ∧ b01 b ≤ 1 := by cases b <;> decide
/-- how many -/
def pop (z : Int) : Int := sumI (fun h => b01 (tb z h)) 16
def popN (n : Nat) : Nat → Nat
  | 0 => 0
  | k + 1 => popN n k + (if n.testBit k then 1 else 0)
theorem popN_eq {n : Nat} (hn : n < 65536) : ∀ k : Nat, sumI (fun h => b01 (tb (n : Int) h)) k = (popN n k : Int)
  | 0 => rfl
  | k + 1 => by
    rw [sumI, popN_eq hn k, popN, tb_nat (by omega)]
    simp only [Int.toNat_natCast]
    cases n.testBit k <;> simp [b01]
theorem and_split {t x m y k : Nat} (hx : x < 2 ^ t) (hm : m < 2 ^ t) : (2 ^ t * y + x) &&& (2 ^ t * k + m) = 2 ^ t * (y &&& k) + (x &&& m) := by
  apply Nat.eq_of_testBit_eq
  intro j
  have hxm : x &&& m < 2 ^ t := Nat.lt_of_le_of_lt Nat.and_le_left hx
  rw [Nat.testBit_and, Nat.testBit_two_pow_mul_add _ hx, Nat.testBit_two_pow_mul_add _ hm, Nat.testBit_two_pow_mul_add _ hxm]
  split <;> rw [Nat.testBit_and]
def f1 (a : Nat) : Nat := a - ((a >>> 1) &&& 85)
def f2 (a : Nat) : Nat := (f1 a &&& 51) + ((f1 a >>> 2) &&& 51)
theorem f_all : ∀ a, a < 256 → ((a >>> 1) &&& 85 ≤ a ∧ (a >>> 1) &&& 5592405 = (a >>> 1) &&& 85 ∧ f1 a < 256 ∧ f1 a &&& 3355443 = f1 a &&& 51 ∧ (f1 a >>> 2) &&& 3355443 = (f1 a >>> 2) &&& 51 ∧ f2 a ≤ 68 ∧ f2 a % 16 ≤ 4 ∧ (f2 a + f2 a / 16) % 16 = popN a 8 ∧ popN a 8 ≤ 8) := by decide +kernel
theorem shr_and {s a b m k : Nat} (hs : s ≤ 8) (ha : a < 256) (hm : m < 2 ^ (8 - s)) (hk : (b >>> s) &&& k = (b >>> s) &&& k) : ((256 * b + a) >>> s) &&& (256 * k + m) = 256 * ((b >>> s) &&& k) + ((a >>> s) &&& m) := by
  have e : 256 = 2 ^ (8 - s) * 2 ^ s := by rw [← Nat.pow_add, Nat.sub_add_cancel hs]
  have ha2 : a >>> s < 2 ^ (8 - s) := by
    rw [Nat.shiftRight_eq_div_pow, Nat.div_lt_iff_lt_mul (Nat.two_pow_pos s), ← e]
    exact ha
  have h1 : (256 * b + a) >>> s = 2 ^ (8 - s) * b + (a >>> s) := by
    rw [Nat.shiftRight_eq_div_pow, Nat.shiftRight_eq_div_pow]
    rw [show 256 * b + a = a + 2 ^ s * (2 ^ (8 - s) * b) by rw [e, Nat.mul_comm (2 ^ (8 - s)) (2 ^ s), Nat.mul_assoc]; omega, Nat.add_mul_div_left _ _ (Nat.two_pow_pos s)]
    omega
  have h2 : 256 * k + m = 2 ^ (8 - s) * (2 ^ s * k) + m := by rw [e, Nat.mul_assoc]
  rw [h1, h2, and_split ha2 hm]
  have h3 : b &&& 2 ^ s * k = 2 ^ s * ((b >>> s) &&& k) := by
    have h4 : b = 2 ^ s * (b >>> s) + b % 2 ^ s := by rw [Nat.shiftRight_eq_div_pow]; exact (Nat.div_add_mod b (2 ^ s)).symm
    have h5 := and_split (t := s) (x := b % 2 ^ s) (m := 0) (y := b >>> s) (k := k) (Nat.mod_lt _ (Nat.two_pow_pos s)) (Nat.two_pow_pos s)
    rw [Nat.and_zero, Nat.add_zero, Nat.add_zero, ← h4] at h5
    exact h5
  rw [h3, ← Nat.mul_assoc, ← e]
theorem popN_split (n : Nat) : popN n 16 = popN (n % 256) 8 + popN (n / 256) 8 := by
  have hb : ∀ i, i < 8 → (n % 256).testBit i = n.testBit i := fun i hi => by
    rw [show (256 : Nat) = 2 ^ 8 from rfl, Nat.testBit_mod_two_pow]
    simp [hi]
  have hc : ∀ i, (n / 256).testBit i = n.testBit (8 + i) := fun i => by
    rw [show (256 : Nat) = 2 ^ 8 from rfl, ← Nat.shiftRight_eq_div_pow, Nat.testBit_shiftRight]
  simp only [popN, hc, Nat.reduceAdd]
  rw [hb 0 (by omega), hb 1 (by omega), hb 2 (by omega), hb 3 (by omega), hb 4 (by omega), hb 5 (by omega), hb 6 (by omega), hb 7 (by omega)]
  omega
theorem ct_bitCount {E : Nat × (Nat → Int32)} {m : Mem} {a : Int} (ha : Small a) : K_J6_bitCount_0f7a4 E [vi a] m (fun z m' => m' = m ∧ z = pop a) := by
  refine en_J6_bitCount_0f7a4 (sg_J6_bitCount_0f7a4_0 ⟨_, rfl, rfl, ?_⟩)
  obtain ⟨n, rfl⟩ := Int.eq_ofNat_of_zero_le ha.1
  have hn : n < 65536 := by have := ha.2; omega
  rw [show pop (n : Int) = (popN n 16 : Int) from popN_eq hn 16, popN_split]
  have hd := Nat.div_add_mod n 256
  have ha2 : n % 256 < 256 := Nat.mod_lt _ (by omega)
  have hb2 : n / 256 < 256 := by omega
  generalize n % 256 = p at *
  generalize n / 256 = q at *
  obtain ⟨a1, a2, a3, a4, a5, a6, a7, a8, a9⟩ := f_all p ha2
  obtain ⟨b1, b2, b3, b4, b5, b6, b7, b8, b9⟩ := f_all q hb2
  have hs : ∀ a k : Nat, a >>> k ≤ a := fun a k => by rw [Nat.shiftRight_eq_div_pow]; exact Nat.div_le_self _ _
  -- first
  have u1 : ushrI (n : Int) 1 = ((n >>> 1 : Nat) : Int) := ushrI_nat (k := 1) (by omega) (by omega)
  have s1 := hs n 1
  have v1 : bandI ((n >>> 1 : Nat) : Int) 1431655765 = (((n >>> 1) &&& 1431655765 : Nat) : Int) := bandI_nat (b := 1431655765) (by omega) (by omega)
  have w1 : (n >>> 1) &&& 1431655765 = 256 * ((q >>> 1) &&& 85) + ((p >>> 1) &&& 85) := by
    rw [← hd, ← b2]
    exact shr_and (s := 1) (k := 5592405) (m := 85) (by omega) ha2 (by decide) rfl
  have x1 : (n : Int) - (((n >>> 1) &&& 1431655765 : Nat) : Int) = ((256 * f1 q + f1 p : Nat) : Int) := by
    rw [w1, ← hd]
    unfold f1
    omega
  have e2p : f2 p = (f1 p &&& 51) + ((f1 p >>> 2) &&& 51) := rfl
  have e2q : f2 q = (f1 q &&& 51) + ((f1 q >>> 2) &&& 51) := rfl
  rw [u1, v1, x1]
  generalize f1 p = p1 at *
  generalize f1 q = q1 at *
  have r1 : 256 * q1 + p1 < 65536 := by omega
  have u2 : ushrI ((256 * q1 + p1 : Nat) : Int) 2 = (((256 * q1 + p1) >>> 2 : Nat) : Int) := ushrI_nat (k := 2) (by omega) (by omega)
  have s2 := hs (256 * q1 + p1) 2
  have v2 : bandI ((256 * q1 + p1 : Nat) : Int) 858993459 = (((256 * q1 + p1) &&& 858993459 : Nat) : Int) := bandI_nat (b := 858993459) (by omega) (by omega)
  have v3 : bandI (((256 * q1 + p1) >>> 2 : Nat) : Int) 858993459 = ((((256 * q1 + p1) >>> 2) &&& 858993459 : Nat) : Int) := bandI_nat (b := 858993459) (by omega) (by omega)
  have w2 : (256 * q1 + p1) &&& 858993459 = 256 * (q1 &&& 51) + (p1 &&& 51) := by
    rw [← b4]
    exact and_split (t := 8) (k := 3355443) (m := 51) a3 (by decide)
  have w3 : ((256 * q1 + p1) >>> 2) &&& 858993459 = 256 * ((q1 >>> 2) &&& 51) + ((p1 >>> 2) &&& 51) := by
    rw [← b5]
    exact shr_and (s := 2) (k := 3355443) (m := 51) (by omega) a3 (by decide) rfl
  have x2 : (((256 * q1 + p1) &&& 858993459 : Nat) : Int) + ((((256 * q1 + p1) >>> 2) &&& 858993459 : Nat) : Int) = ((256 * f2 q + f2 p : Nat) : Int) := by
    rw [w2, w3, e2p, e2q]
    omega
  rw [u2, v2, v3, x2]
  clear x2 v2 v3 w2 w3 u2 s2 e2p e2q x1 w1 v1 u1 s1
  generalize f2 p = p2 at *
  generalize f2 q = q2 at *
  have u4 : ushrI ((256 * q2 + p2 : Nat) : Int) 4 = (((256 * q2 + p2) / 16 : Nat) : Int) := by
    rw [show ushrI ((256 * q2 + p2 : Nat) : Int) 4 = (((256 * q2 + p2) >>> 4 : Nat) : Int) from ushrI_nat (k := 4) (by omega) (by omega), Nat.shiftRight_eq_div_pow]
  have x3 : ((256 * q2 + p2 : Nat) : Int) + (((256 * q2 + p2) / 16 : Nat) : Int) = ((256 * (q2 + q2 / 16) + (p2 + p2 / 16 + 16 * (q2 % 16)) : Nat) : Int) := by omega
  have v4 : bandI ((256 * (q2 + q2 / 16) + (p2 + p2 / 16 + 16 * (q2 % 16)) : Nat) : Int) 252645135 = (((256 * (q2 + q2 / 16) + (p2 + p2 / 16 + 16 * (q2 % 16))) &&& 252645135 : Nat) : Int) := bandI_nat (b := 252645135) (by omega) (by omega)
  have w4 : (256 * (q2 + q2 / 16) + (p2 + p2 / 16 + 16 * (q2 % 16))) &&& 252645135 = 256 * popN q 8 + popN p 8 := by
    have h1 := and_split (t := 8) (x := p2 + p2 / 16 + 16 * (q2 % 16)) (m := 15) (y := q2 + q2 / 16) (k := 986895) (by omega) (by decide)
    have h2 : (p2 + p2 / 16 + 16 * (q2 % 16)) &&& 15 = (p2 + p2 / 16 + 16 * (q2 % 16)) % 16 := Nat.and_two_pow_sub_one_eq_mod _ 4
    have h3 : ∀ v, v < 256 → v &&& 986895 = v % 16 := by decide +kernel
    rw [h2, h3 _ (by omega)] at h1
    rw [← a8, ← b8]
    refine h1.trans ?_
    omega
  rw [u4, x3, v4, w4]
  generalize popN p 8 = P at *
  generalize popN q 8 = Q at *
  have u5 : ushrI ((256 * Q + P : Nat) : Int) 8 = (((256 * Q + P) / 256 : Nat) : Int) := by
    rw [show ushrI ((256 * Q + P : Nat) : Int) 8 = (((256 * Q + P) >>> 8 : Nat) : Int) from ushrI_nat (k := 8) (by omega) (by omega), Nat.shiftRight_eq_div_pow]
  have x4 : ((256 * Q + P : Nat) : Int) + (((256 * Q + P) / 256 : Nat) : Int) = ((256 * Q + P + Q : Nat) : Int) := by omega
  rw [u5, x4]
  have u6 : ushrI ((256 * Q + P + Q : Nat) : Int) 16 = (((256 * Q + P + Q) / 65536 : Nat) : Int) := by
    rw [show ushrI ((256 * Q + P + Q : Nat) : Int) 16 = (((256 * Q + P + Q) >>> 16 : Nat) : Int) from ushrI_nat (k := 16) (by omega) (by omega), Nat.shiftRight_eq_div_pow]
  have x5 : ((256 * Q + P + Q : Nat) : Int) + (((256 * Q + P + Q) / 65536 : Nat) : Int) = ((256 * Q + P + Q : Nat) : Int) := by omega
  rw [u6, x5]
  have v6 : bandI ((256 * Q + P + Q : Nat) : Int) 63 = (((256 * Q + P + Q) &&& 63 : Nat) : Int) := bandI_nat (b := 63) (by omega) (by omega)
  have w6 : (256 * Q + P + Q) &&& 63 = (256 * Q + P + Q) % 64 := Nat.and_two_pow_sub_one_eq_mod _ 6
  rw [v6, w6]
  omega
theorem pop_rng (z : Int) : 0 ≤ pop z ∧ pop z ≤ 16 := by
  have := sumI_bound (f := fun h => b01 (tb z h)) (c := 1) (n := 16) (fun i _ _ => b01_rng _)
  unfold pop
  omega
/-- Arrays.fill -/
theorem ct_fill {E : Nat × (Nat → Int32)} {m : Mem} {r n : Nat} {a : Int} (hl : r < 209) (hs : SH[r]? = some (.inr (0, n))) (hn : n < 2147483648) : K_J7_fill_53178 E [.ref r, vi a] m (fun m' => ∀ k j, m' k j = if k = r ∧ 0 ≤ j ∧ j < n then a else m k j) := by
  refine en_J7_fill_53178 (n0 := n) (sg_J7_fill_53178_0 hl hs ?_)
  have loop : ∀ (d : Nat) (i : Int) (m1 : Mem), 0 ≤ i → i + d = n → (∀ k j, m1 k j = if k = r ∧ 0 ≤ j ∧ j < i then a else m k j) → GM E (m_J7_fill_53178 0) (Pv fun m' => ∀ k j, m' k j = if k = r ∧ 0 ≤ j ∧ j < n then a else m k j) 5 [.ref r, vi a, vi i, vi (n : Int)] [] m1 := by
    intro d
    induction d with
    | zero =>
      intro i m1 h0 h1 h2
      have e : i = n := by omega
      refine sg_J7_fill_53178_5 hl hs (by omega) (by omega) (fun c => by omega) hn (fun c => ⟨rfl, by rw [← e]; exact h2⟩) (fun c => by omega)
    | succ d ih =>
      intro i m1 h0 h1 h2
      refine sg_J7_fill_53178_5 hl hs (by omega) (by omega) (fun c => by omega) hn (fun c => by omega) (fun c => ih _ _ (by omega) (by omega) (fun k j => ?_))
      unfold up2
      rw [h2]
      by_cases e : k = r ∧ j = i
      · rw [if_pos e, if_pos (by omega)]
      · rw [if_neg e]
        by_cases c1 : k = r ∧ 0 ≤ j ∧ j < i
        · rw [if_pos c1, if_pos (by omega)]
        · rw [if_neg c1, if_neg (by omega)]
  exact loop n 0 m (by omega) (by omega) (fun k j => by rw [if_neg (by omega)])
