/-! sets of streets; weighed -/
theorem lt_of_tb {z : Int} {n : Nat} (hz : RI z) (hn : n < 31) (h : ∀ i : Int, (n : Int) ≤ i → i < 32 → tb z i = false) : 0 ≤ z ∧ z < ((2 ^ n : Nat) : Int) := by
  have h1 : (iI z).toBitVec.toNat < 2 ^ n := by
    apply Nat.lt_pow_two_of_testBit
    intro i hi
    by_cases c : i < 32
    · have := h (i : Int) (by omega) (by omega)
      unfold tb bt at this
      simpa [BitVec.getLsbD] using this
    · exact Nat.testBit_lt_two_pow (Nat.lt_of_lt_of_le (BitVec.isLt _) (Nat.pow_le_pow_right (n := 2) (by omega) (by omega)))
  have h0 : 2 ^ n ≤ 2 ^ 30 := Nat.pow_le_pow_right (by omega) (by omega)
  have h2 : z = ((iI z).toBitVec.toNat : Int) := by
    have h3 : (iI z).toInt = z := iI_toInt hz.1 hz.2
    have h4 : (iI z).toInt = (iI z).toBitVec.toInt := rfl
    rw [BitVec.toInt_eq_toNat_of_lt (by omega)] at h4
    omega
  omega
theorem tb_of_lt {z : Int} {n : Nat} (hn : n < 31) (h0 : 0 ≤ z) (h1 : z < ((2 ^ n : Nat) : Int)) {i : Int} (hi : (n : Int) ≤ i) : tb z i = false := by
  obtain ⟨k, rfl⟩ := Int.eq_ofNat_of_zero_le h0
  have h2 : 2 ^ n ≤ 2 ^ 30 := Nat.pow_le_pow_right (by omega) (by omega)
  rw [tb_nat (by omega)]
  exact Nat.testBit_lt_two_pow (Nat.lt_of_lt_of_le (by omega : k < 2 ^ n) (Nat.pow_le_pow_right (by omega) (by omega)))
theorem shl_pow : ∀ n : Nat, n ≤ 6 → shlI 1 (n : Int) = ((2 ^ n : Nat) : Int) := by decide +kernel
theorem bt_negp : ∀ n : Nat, n ≤ 6 → ∀ i, i < 32 → bt (iI (-(shlI 1 (n : Int)))) i = decide (n ≤ i) := by decide +kernel
theorem shlN {n : Int} (h0 : 0 ≤ n) (h6 : n ≤ 6) : shlI 1 n = ((2 ^ n.toNat : Nat) : Int) := by
  have := shl_pow n.toNat (by omega)
  rw [Int.toNat_of_nonneg h0] at this
  exact this
theorem pow6 {k : Nat} (h : k ≤ 6) : 1 ≤ 2 ^ k ∧ 2 ^ k ≤ 64 := ⟨Nat.one_le_two_pow, by
  have := Nat.pow_le_pow_right (n := 2) (by omega) h
  omega⟩
/-- a set of the first n streets -/
def setOf (n t : Int) : Prop := 0 ≤ t ∧ t ≤ shlI 1 n - 1
theorem hasAll_iff {n t : Int} (h0 : 0 ≤ n) (h6 : n ≤ 6) (ht : RI t) : bandI t (-(shlI 1 n)) = 0 ↔ setOf n t := by
  have en := bt_negp n.toNat (by omega)
  rw [Int.toNat_of_nonneg h0] at en
  have p6 := pow6 (k := n.toNat) (by omega)
  have e := shlN h0 h6
  constructor
  · intro h
    have := lt_of_tb (z := t) (n := n.toNat) ht (by omega) (fun i i0 i1 => by
      have h2 := tb_and t (-(shlI 1 n)) i
      rw [h, tb_0] at h2
      have h3 : tb (-(shlI 1 n)) i = true := by
        unfold tb
        rw [en i.toNat (by omega)]
        simp
        omega
      rw [h3, Bool.and_true] at h2
      exact h2.symm)
    unfold setOf
    omega
  · intro h
    unfold setOf at h
    refine tb_ext (iI_rng _) (by decide) (fun i i0 i1 => ?_)
    rw [tb_and, tb_0]
    by_cases c : i < n
    · have h3 : tb (-(shlI 1 n)) i = false := by
        unfold tb
        rw [en i.toNat (by omega)]
        simp
        omega
      rw [h3, Bool.and_false]
    · rw [tb_of_lt (n := n.toNat) (by omega) h.1 (by omega) (by omega)]
      rfl
theorem setOf_tb {n t : Int} (h0 : 0 ≤ n) (h6 : n ≤ 6) (h : setOf n t) {i : Int} (hi : n ≤ i) : tb t i = false := by
  have e := shlN h0 h6
  unfold setOf at h
  exact tb_of_lt (n := n.toNat) (by omega) h.1 (by omega) (by omega)
theorem setOf_64 {n t : Int} (h0 : 0 ≤ n) (h6 : n ≤ 6) (h : setOf n t) : 0 ≤ t ∧ t < 64 := by
  have e := shlN h0 h6
  have p6 := pow6 (k := n.toNat) (by omega)
  unfold setOf at h
  omega
def weighedP (a : Mem) (t x : Int) : Prop := setOf (a 169 3) t ∧ (0 ≤ x ∧ x ≤ 9999) ∧ a 169 62 ≠ 10
def weighedU (a : Mem) (t x : Int) : Mem := up2 (up2 (up2 a 201 (a 169 62) t) 202 (a 169 62) x) 169 62 (a 169 62 + 1)
theorem ct_weighed {E : Nat × (Nat → Int32)} {c a : Mem} {t x : Int} (rt : RI t) (rx : RI x) (h : CR0 c a) (hT : WTown a) (hL : WLoads a) : K_X11_weighed E [.ref 0, vi t, vi x] c (fun z c' => (weighedP a t x ∧ z = a 169 62 + 1 ∧ c' = up2 (up2 (up2 c 94 (a 169 62) t) 95 (a 169 62) x) 93 4 (a 169 62 + 1)) ∨ (¬ weighedP a t x ∧ z = -1 ∧ c' = c)) := by
  have n0 := hT.1
  have n6 := hT.2.1
  have e91 := h.town.1
  have e93 := h.loads.1
  have l0 := hL.1
  have l1 := hL.2.1
  have hi := hasAll_iff n0 n6 rt
  refine en_X11_weighed (sg_X11_weighed_0 rx (fun p q => ⟨_, rfl, Or.inr ⟨fun o => by have := o.2.1; omega, rfl, rfl⟩⟩) (fun p q q2 => ?_) (fun p q q2 => ⟨_, rfl, Or.inr ⟨fun o => q2 o.2.1.2, rfl, rfl⟩⟩) (fun p => ⟨_, rfl, Or.inr ⟨fun o => p (by rw [e91]; exact hi.2 o.1), rfl, rfl⟩⟩))
  rw [e91] at p
  have ad : K_X3_add E [.ref 93, vi t, vi x] c (fun z c' => (a 169 62 < 10 ∧ z = 1 ∧ c' = up2 (up2 (up2 c 94 (a 169 62) t) 95 (a 169 62) x) 93 4 (a 169 62 + 1)) ∨ (¬ a 169 62 < 10 ∧ z = 0 ∧ c' = c)) := by
    refine en_X3_add (sg_X3_add_0 (by rw [e93]; constructor <;> omega) (by rw [e93]; omega) (fun g g2 => ⟨_, rfl, Or.inl ⟨by rw [e93] at g2; exact g2, rfl, by rw [e93]⟩⟩) (fun g g2 => ⟨_, rfl, Or.inr ⟨by rw [e93] at g2; exact g2, rfl, rfl⟩⟩))
  refine ca_X11_weighed_30 ad (fun z c2 hz => ?_)
  rcases hz with ⟨g, e, e2⟩ | ⟨g, e, e2⟩
  · refine sg_X11_weighed_33 (by rw [e]; decide) ⟨_, rfl, Or.inl ⟨⟨hi.1 p, by omega, by omega⟩, ?_, e2⟩⟩
    rw [e, if_neg (by decide), e2, up2_same]
  · refine sg_X11_weighed_33 (by rw [e]; decide) ⟨_, rfl, Or.inr ⟨fun o => by have := o.2.2; omega, ?_, e2⟩⟩
    rw [e, if_pos rfl]
theorem mt_weighed {E : Nat × (Nat → Int32)} {m a : Mem} {t x : Int} (rt : RI t) (rx : RI x) (hm : HighEq a m) (hT : WTown a) (hL : WLoads a) : K_X12_weighed E [.ref 169, vi t, vi x] m (fun z m' => (weighedP a t x ∧ z = a 169 62 + 1 ∧ PEq m' (weighedU m t x) ∧ LowEq m m') ∨ (¬ weighedP a t x ∧ z = -1 ∧ PEq m' m ∧ LowEq m m')) := by
  have n0 := hT.1
  have n6 := hT.2.1
  have e9 := hm 169 (by decide)
  have l0 := hL.1
  have l1 := hL.2.1
  have e := shlN n0 n6
  have p6 := pow6 (k := (a 169 3).toNat) (by omega)
  have := rt.1; have := rt.2; have := rx.1; have := rx.2
  refine en_X12_weighed (sg_X12_weighed_0 rt (by rw [e9]; constructor <;> omega) ⟨by omega, by omega⟩ (by rw [e9]; constructor <;> omega) rx ⟨by omega, by omega⟩ (fun _ _ => by rw [e9]; constructor <;> omega) (fun _ _ g => by rw [e9] at g ⊢; omega) (fun p q g => ⟨_, rfl, Or.inl ⟨⟨by rw [e9] at p; exact p, q, by rw [e9] at g; exact g⟩, by rw [e9], ?_, fun k hk => by rw [up2_k (by omega), up2_k (by omega), up2_k (by omega), up2_k (by omega)]⟩⟩) (fun p q g => ⟨_, rfl, Or.inr ⟨fun o => o.2.2 (by rw [e9] at g; exact g), rfl, PEq.field npf0, fun k hk => up2_k (by omega)⟩⟩) (fun p q => ⟨_, rfl, Or.inr ⟨fun o => q o.2.1, rfl, PEq.field npf0, fun k hk => up2_k (by omega)⟩⟩) (fun p => ⟨_, rfl, Or.inr ⟨fun o => p (by rw [e9]; exact o.1), rfl, PEq.field npf0, fun k hk => up2_k (by omega)⟩⟩))
  unfold weighedU
  refine PEq.of (fun k hk h9 => ?_) (fun j hj => ?_)
  · rw [up2_k h9, up2_k h9]
    by_cases c2 : k = 202
    · subst c2
      funext j
      unfold up2
      simp
    · rw [up2_k c2, up2_k c2]
      by_cases c1 : k = 201
      · subst c1
        funext j
        unfold up2
        simp
      · rw [up2_k c1, up2_k c1, up2_k h9]
  · by_cases c : j = 62
    · subst c; rw [up2_same, up2_same]
    · rw [up2_j c, up2_k (by decide), up2_k (by decide), up2_j hj.not.1, up2_j c, up2_k (by decide), up2_k (by decide)]
/-! the class' pairs -/
def hvy (a : Mem) (s : Int) : Int := if s < a 169 3 then sumI (fun h => hv a (16 * s + h) (a 179 2)) 16 else 0
def hvT (a : Mem) (t : Int) : Int := sumI (fun s => if tb t s = true then hvy a s else 0) 6
def exL (a : Mem) (k : Int) : Int := a 202 k - hvT a (a 201 k)
def loN (a : Mem) (s : Int) : Nat → Int
  | 0 => 1
  | k + 1 => if tb (a 201 k) s = true then max (loN a s k) (exL a k) else loN a s k
def hiN (a : Mem) (s : Int) : Nat → Int
  | 0 => 99
  | k + 1 => if tb (a 201 k) s = true then min (hiN a s k) (exL a k) else hiN a s k
def okN (a : Mem) (s : Int) (n : Nat) : Prop := ∀ k : Nat, k < n → tb (a 201 k) s = false → exL a k = 0
def explL (a : Mem) (s d : Int) (n : Nat) : Prop := ∀ k : Nat, k < n → exL a k = if tb (a 201 k) s = true then d else 0
theorem expl_iff {a : Mem} {s d : Int} (d1 : 1 ≤ d) (d99 : d ≤ 99) : ∀ n : Nat, explL a s d n ↔ okN a s n ∧ loN a s n ≤ d ∧ d ≤ hiN a s n
  | 0 => ⟨fun _ => ⟨fun k hk => by omega, d1, d99⟩, fun _ k hk => by omega⟩
  | n + 1 => by
    have ih := expl_iff (a := a) (s := s) d1 d99 n
    have e1 : explL a s d (n + 1) ↔ explL a s d n ∧ exL a n = if tb (a 201 n) s = true then d else 0 := by
      constructor
      · intro h; exact ⟨fun k hk => h k (by omega), h n (by omega)⟩
      · intro h k hk
        by_cases c : k = n
        · subst c; exact h.2
        · exact h.1 k (by omega)
    have e2 : okN a s (n + 1) ↔ okN a s n ∧ (tb (a 201 n) s = false → exL a n = 0) := by
      constructor
      · intro h; exact ⟨fun k hk => h k (by omega), h n (by omega)⟩
      · intro h k hk
        by_cases c : k = n
        · subst c; exact h.2
        · exact h.1 k (by omega)
    rw [e1, e2, ih, loN, hiN]
    rcases t : tb (a 201 n) s with _ | _
    · simp only [Bool.false_eq_true, if_false, forall_const]
      constructor
      · rintro ⟨⟨x1, x2, x3⟩, x4⟩; exact ⟨⟨x1, x4⟩, x2, x3⟩
      · rintro ⟨⟨x1, x4⟩, x2, x3⟩; exact ⟨⟨x1, x2, x3⟩, x4⟩
    · simp only [if_true, Bool.true_eq_false, false_implies, and_true]
      constructor
      · rintro ⟨⟨x1, x2, x3⟩, x4⟩; exact ⟨x1, by omega, by omega⟩
      · rintro ⟨x1, x2, x3⟩; exact ⟨⟨x1, by omega, by omega⟩, by omega⟩
theorem hvy_rng {a : Mem} {s : Int} (hT : WTown a) (hS : WSet a) (s0 : 0 ≤ s) : 0 ≤ hvy a s ∧ hvy a s ≤ 544 := by
  have n6 := hT.2.1
  unfold hvy
  split
  · have := sumI_bound (f := fun h => hv a (16 * s + h) (a 179 2)) (c := 34) (n := 16) (fun i i0 i1 => hv_rng (hT.w (by omega) (by omega)) hS ⟨hS.2.2.2.2.1, hS.2.2.2.2.2.1⟩)
    omega
  · omega
theorem hvT_rng {a : Mem} {t : Int} (hT : WTown a) (hS : WSet a) : 0 ≤ hvT a t ∧ hvT a t ≤ 3264 := by
  have := sumI_bound (f := fun s => if tb t s = true then hvy a s else 0) (c := 544) (n := 6) (fun i i0 i1 => by
    have := hvy_rng (s := i) hT hS i0
    show 0 ≤ (if tb t i = true then hvy a i else 0) ∧ (if tb t i = true then hvy a i else 0) ≤ 544
    split <;> omega)
  unfold hvT
  omega
theorem exL_rng {a : Mem} {k : Int} (hT : WTown a) (hS : WSet a) (hL : WLoads a) (k0 : 0 ≤ k) (k1 : k < a 169 62) : -3264 ≤ exL a k ∧ exL a k ≤ 9999 := by
  have g := hL.2.2 k k0 k1
  have h := hvT_rng (t := a 201 k) hT hS
  unfold exL
  omega
theorem loN_rng {a : Mem} {s : Int} (hT : WTown a) (hS : WSet a) (hL : WLoads a) : ∀ n : Nat, (n : Int) ≤ a 169 62 → 1 ≤ loN a s n ∧ loN a s n ≤ 9999
  | 0, _ => by show 1 ≤ (1 : Int) ∧ (1 : Int) ≤ 9999; omega
  | n + 1, h => by
    have ih := loN_rng (s := s) hT hS hL n (by omega)
    have e := exL_rng (k := n) hT hS hL (by omega) (by omega)
    rw [loN]
    split <;> omega
theorem hiN_rng {a : Mem} {s : Int} (hT : WTown a) (hS : WSet a) (hL : WLoads a) : ∀ n : Nat, (n : Int) ≤ a 169 62 → -3264 ≤ hiN a s n ∧ hiN a s n ≤ 99
  | 0, _ => by show -3264 ≤ (99 : Int) ∧ (99 : Int) ≤ 99; omega
  | n + 1, h => by
    have ih := hiN_rng (s := s) hT hS hL n (by omega)
    have e := exL_rng (k := n) hT hS hL (by omega) (by omega)
    rw [hiN]
    split <;> omega
