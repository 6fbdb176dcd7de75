/-! numbers: what bandI, shrI, divI .. say. The first rows stand in the kit's BITS.to-paste. -/
def bt (x : Int32) (i : Nat) : Bool := x.toBitVec.getLsbD i
theorem b_ext {x y : Int32} (h : ∀ i, i < 32 → bt x i = bt y i) : x = y := Int32.toBitVec_inj.mp (BitVec.eq_of_getLsbD_eq (fun i hi => h i hi))
theorem b_or (x y : Int32) (i : Nat) : bt (x ||| y) i = (bt x i || bt y i) := by unfold bt; rw [Int32.toBitVec_or, BitVec.getLsbD_or]
theorem b_and (x y : Int32) (i : Nat) : bt (x &&& y) i = (bt x i && bt y i) := by unfold bt; rw [Int32.toBitVec_and, BitVec.getLsbD_and]
theorem b_xor (x y : Int32) (i : Nat) : bt (x ^^^ y) i = (bt x i ^^ bt y i) := by unfold bt; rw [Int32.toBitVec_xor, BitVec.getLsbD_xor]
theorem s_l : ∀ n, n < 32 → ((nI n &&& 31).toBitVec.smod 32).toNat = n := by decide +kernel
theorem b_shl (n : Nat) (hn : n < 32) (x : Int32) {i : Nat} (hi : i < 32) : bt (x <<< (nI n &&& 31)) i = (decide (n ≤ i) && bt x (i - n)) := by
  unfold bt
  rw [Int32.toBitVec_shiftLeft]
  show (x.toBitVec <<< ((nI n &&& 31).toBitVec.smod 32).toNat).getLsbD i = _
  rw [s_l n hn, BitVec.getLsbD_shiftLeft]
  rcases Nat.lt_or_ge i n with h | h
  · simp [h, Nat.not_le.mpr h]
  · simp [hi, h, Nat.not_lt.mpr h]
theorem b_sshr (n : Nat) (hn : n < 32) (x : Int32) {i : Nat} (hi : i < 32) : bt (x >>> (nI n &&& 31)) i = if n + i < 32 then bt x (n + i) else bt x 31 := by
  unfold bt
  rw [Int32.toBitVec_shiftRight]
  show (x.toBitVec.sshiftRight ((nI n &&& 31).toBitVec.smod 32).toNat).getLsbD i = _
  rw [s_l n hn, BitVec.getLsbD_sshiftRight, BitVec.msb_eq_getLsbD_last]
  simp [hi]
theorem iI_nat (n : Nat) : iI (n : Int) = nI n := rfl
theorem iI_nonneg {z : Int} (h : 0 ≤ z) : iI z = nI z.toNat := by
  rw [← iI_nat, Int.toNat_of_nonneg h]
/-- the bit h of a number -/
def tb (z h : Int) : Bool := bt (iI z) h.toNat
theorem tb_and (a b h : Int) : tb (bandI a b) h = (tb a h && tb b h) := by unfold tb bandI; rw [iI_of, b_and]
theorem tb_or (a b h : Int) : tb (borI a b) h = (tb a h || tb b h) := by unfold tb borI; rw [iI_of, b_or]
theorem tb_xor (a b h : Int) : tb (bxorI a b) h = (tb a h ^^ tb b h) := by unfold tb bxorI; rw [iI_of, b_xor]
theorem bt_m1 : ∀ i, i < 32 → bt (iI (-1)) i = true := by decide
theorem tb_m1 {h : Int} (h1 : h < 32) : tb (-1) h = true := bt_m1 _ (by omega)
theorem bt_0 (i : Nat) : bt (iI 0) i = false := by unfold bt; simp [iI]
theorem tb_0 (h : Int) : tb 0 h = false := bt_0 _
theorem bt_1 : ∀ i, i < 32 → bt (iI 1) i = decide (i = 0) := by decide
theorem tb_one {k h : Int} (h0 : 0 ≤ k) (h1 : k < 32) (h2 : 0 ≤ h) (h3 : h < 32) : tb (shlI 1 k) h = decide (h = k) := by
  unfold tb shlI
  rw [iI_of, iI_nonneg h0, b_shl _ (by omega) _ (by omega)]
  by_cases e : h = k
  · subst e
    simp [bt_1]
  · by_cases c : k.toNat ≤ h.toNat
    · rw [bt_1 _ (by omega)]
      simp only [c, decide_true, Bool.true_and, e, decide_false, decide_eq_false_iff_not]
      omega
    · simp [c, e]
theorem and1 (x : Int32) : x &&& iI 1 = if bt x 0 then iI 1 else iI 0 := by
  apply b_ext
  intro i hi
  rw [b_and, bt_1 i hi]
  by_cases e : i = 0
  · subst e
    cases h : bt x 0 <;> simp [bt_0, bt_1]
  · cases h : bt x 0 <;> simp [e, bt_0, bt_1 i hi]
theorem bit_val (a h : Int) (h0 : 0 ≤ h) (h1 : h < 32) : bandI (shrI a h) 1 = if tb a h then 1 else 0 := by
  unfold bandI shrI tb
  have e : bt (iI a >>> (nI h.toNat &&& 31)) 0 = bt (iI a) h.toNat := by rw [b_sshr _ (by omega) _ (by omega), if_pos (by omega), Nat.add_zero]
  rw [iI_of, and1, iI_nonneg h0, e]
  split <;> decide
theorem bit_0 {a h : Int} (h0 : 0 ≤ h) (h1 : h < 32) : bandI (shrI a h) 1 = 0 ↔ tb a h = false := by
  rw [bit_val a h h0 h1]
  cases tb a h <;> simp
theorem bit_1 {a h : Int} (h0 : 0 ≤ h) (h1 : h < 32) : bandI (shrI a h) 1 = 1 ↔ tb a h = true := by
  rw [bit_val a h h0 h1]
  cases tb a h <;> simp
theorem tb_ext {a b : Int} (ha : -2147483648 ≤ a ∧ a < 2147483648) (hb : -2147483648 ≤ b ∧ b < 2147483648) (h : ∀ i : Int, 0 ≤ i → i < 32 → tb a i = tb b i) : a = b := by
  have : iI a = iI b := b_ext (fun i hi => by
    have := h (i : Int) (by omega) (by omega)
    unfold tb at this
    simpa using this)
  exact (iI_eq ha hb).mp this
/-- a bit of a number is asked by masking -/
theorem bandI_bit {a k : Int} (h0 : 0 ≤ k) (h1 : k < 32) : bandI a (shlI 1 k) = 0 ↔ tb a k = false := by
  constructor
  · intro h
    have h2 := tb_and a (shlI 1 k) k
    rw [h, tb_0, tb_one h0 h1 h0 h1] at h2
    simpa using h2.symm
  · intro h
    refine tb_ext (iI_rng _) (by decide) (fun i hi0 hi1 => ?_)
    rw [tb_and, tb_one h0 h1 hi0 hi1, tb_0]
    by_cases e : i = k
    · subst e; simp [h]
    · simp [e]
theorem bandI_bit' {a k : Int} (h0 : 0 ≤ k) (h1 : k < 32) : bandI a (shlI 1 k) ≠ 0 ↔ tb a k = true := by
  rw [ne_eq, bandI_bit h0 h1]
  simp
theorem bandI_rng (a b : Int) : -2147483648 ≤ bandI a b ∧ bandI a b < 2147483648 := iI_rng _
theorem borI_rng (a b : Int) : -2147483648 ≤ borI a b ∧ borI a b < 2147483648 := iI_rng _
theorem bxorI_rng (a b : Int) : -2147483648 ≤ bxorI a b ∧ bxorI a b < 2147483648 := iI_rng _
/-! division -/
theorem divI_t {a b : Int} (ha : -2147483648 ≤ a ∧ a < 2147483648) (hb : -2147483648 ≤ b ∧ b < 2147483648) (h : b ≠ -1) : divI a b = a.tdiv b := by
  unfold divI
  rw [Int32.toInt_div_of_ne_right _ _ (fun e => h ((iI_eq hb (by decide)).mp e)), iI_toInt ha.1 ha.2, iI_toInt hb.1 hb.2]
theorem divI_nn {a b : Int} (ha : 0 ≤ a ∧ a < 2147483648) (hb : 0 < b ∧ b < 2147483648) : divI a b = a / b := by
  rw [divI_t (by omega) (by omega) (by omega), Int.tdiv_eq_ediv_of_nonneg ha.1]
theorem remI_nn {a b : Int} (ha : 0 ≤ a ∧ a < 2147483648) (hb : 0 < b ∧ b < 2147483648) : remI a b = a % b := by
  have h : iI a / iI b = iI (a / b) := by
    have := divI_nn ha hb
    unfold divI at this
    rw [← this, iI_of]
  unfold remI
  rw [h, ← iI_mul, ← iI_sub]
  have h1 : a - a / b * b = a % b := by
    have := Int.emod_add_mul_ediv a b
    rw [Int.mul_comm] at this
    omega
  rw [h1]
  have h2 := Int.emod_nonneg a (show b ≠ 0 by omega)
  have h3 := Int.emod_lt_of_pos a hb.1
  exact iI_toInt (by omega) (by omega)
/-! sums and counts -/
def sumI (f : Int → Int) : Nat → Int
  | 0 => 0
  | n + 1 => sumI f n + f n
theorem sumI_congr {f g : Int → Int} : ∀ {n : Nat}, (∀ i : Int, 0 ≤ i → i < n → f i = g i) → sumI f n = sumI g n
  | 0, _ => rfl
  | n + 1, h => by rw [sumI, sumI, sumI_congr (fun i h0 h1 => h i h0 (by omega)), h n (by omega) (by omega)]
theorem sumI_bound {f : Int → Int} {c : Int} : ∀ {n : Nat}, (∀ i : Int, 0 ≤ i → i < n → 0 ≤ f i ∧ f i ≤ c) → 0 ≤ sumI f n ∧ sumI f n ≤ n * c
  | 0, _ => ⟨Int.le_refl _, by simp [sumI]⟩
  | n + 1, h => by
    have h1 := sumI_bound (n := n) (fun i h0 h1 => h i h0 (by omega))
    have h2 := h n (by omega) (by omega)
    rw [sumI, show ((n + 1 : Nat) : Int) * c = n * c + c by rw [Int.natCast_add, Int.add_mul]; simp]
    omega
theorem sumI_0 {f : Int → Int} {n : Nat} (h : ∀ i : Int, 0 ≤ i → i < n → f i = 0) : sumI f n = 0 := by
  induction n with
  | zero => rfl
  | succ n ih => rw [sumI, ih (fun i h0 h1 => h i h0 (by omega)), h n (by omega) (by omega)]; rfl
theorem sumI_add {f g : Int → Int} : ∀ {n : Nat}, sumI (fun i => f i + g i) n = sumI f n + sumI g n
  | 0 => rfl
  | n + 1 => by rw [sumI, sumI, sumI, sumI_add]; omega
