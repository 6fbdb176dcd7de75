/-! rubble, whose, next: the reference -/
def RB (a m : Mem) : Prop := m 169 3 = a 169 3 ∧ m 169 62 = a 169 62 ∧ (∀ k, 171 ≤ k → k ≤ 179 → m k = a k) ∧ m 201 = a 201 ∧ m 202 = a 202
theorem mt_heavyOf {E : Nat × (Nat → Int32)} {m a : Mem} {t : Int} (b : RB a m) (hT : WTown a) : K_X12_heavyOf E [.ref 169, vi t] m (fun z m' => z = hvT a t ∧ m' = m) := by
  have n0 := hT.1
  have n6 := hT.2.1
  have e3 := b.1
  have e8 : m 178 = a 178 := b.2.2.1 178 (by omega) (by omega)
  have e9 : m 179 = a 179 := b.2.2.1 179 (by omega) (by omega)
  have et : hvT a t = sumI (fun s => if tb t s = true then hvy a s else 0) (a 169 3).toNat := by
    unfold hvT
    have := sumI_split (f := fun s => if tb t s = true then hvy a s else 0) (p := (a 169 3).toNat) (6 - (a 169 3).toNat)
    rw [show (a 169 3).toNat + (6 - (a 169 3).toNat) = 6 by omega] at this
    rw [this, sumI_0 (f := fun i => if tb t (((a 169 3).toNat : Nat) + i) = true then hvy a (((a 169 3).toNat : Nat) + i) else 0) (fun i i0 i1 => by
      show (if tb t (((a 169 3).toNat : Nat) + i) = true then hvy a (((a 169 3).toNat : Nat) + i) else 0) = 0
      unfold hvy
      rw [if_neg (show ¬ (((a 169 3).toNat : Nat) : Int) + i < a 169 3 by omega)]
      split <;> rfl), Int.add_zero]
  refine en_X12_heavyOf (sg_X12_heavyOf_0 ?_)
  refine up_loop (i0 := 0) (n := a 169 3) (fun s (x : Int) => GM E _ _ 4 [.ref 169, vi t, vi x, vi s, un] [] m) (fun s x => x = sumI (fun s => if tb t s = true then hvy a s else 0) s.toNat) (fun x hx => ?_) (fun s x s0 s1 hx k => ?_) (i := 0) (s := 0) (by omega) (by omega) rfl
  · exact sg_X12_heavyOf_4 ⟨by omega, by omega⟩ (by rw [e3]; constructor <;> omega) (fun _ => ⟨_, rfl, by rw [hx, et], rfl⟩) (by rw [e3]; omega)
  · refine sg_X12_heavyOf_4 ⟨by omega, by omega⟩ (by rw [e3]; constructor <;> omega) (by rw [e3]; omega) (fun _ => ?_)
    refine up_loop (i0 := 16 * s) (n := 16 * (s + 1)) (fun i (y : Int) => GM E _ _ 18 [.ref 169, vi t, vi y, vi s, vi i] [] m) (fun i y => y = x + (if tb t s = true then sumI (fun h => hv a (16 * s + h) (a 179 2)) (i - 16 * s).toNat else 0)) (fun y hy => ?_) (fun i y i0 i1 hy k2 => ?_) (i := 16 * s) (s := x) (by omega) (by omega) ?_
    · refine sg_X12_heavyOf_18 ⟨by omega, by omega⟩ ⟨by omega, by omega⟩ (by omega) (fun _ => k _ ?_) (by omega) (by omega)
      rw [sumI_step s0, ← hx, hy, show (16 * (s + 1) - 16 * s).toNat = 16 by omega]
      unfold hvy
      rw [if_pos s1]
    · have ex : sumI (fun h => hv a (16 * s + h) (a 179 2)) (i + 1 - 16 * s).toNat = sumI (fun h => hv a (16 * s + h) (a 179 2)) (i - 16 * s).toNat + hv a i (a 179 2) := by
        rw [show i + 1 - 16 * s = (i - 16 * s) + 1 by omega, sumI_step (by omega), show 16 * s + (i - 16 * s) = i by omega]
      refine sg_X12_heavyOf_18 ⟨by omega, by omega⟩ ⟨by omega, by omega⟩ (fun _ _ => by omega) (by omega) (fun _ g => k2 _ ?_) (fun _ g => k2 _ ?_)
      · have tt := (bit_1 s0 (by omega)).1 g
        rw [hy, if_pos tt, if_pos tt, ex, e8, e9, Int.add_assoc]
        rfl
      · have tt : ¬ tb t s = true := fun o => g ((bit_1 s0 (by omega)).2 o)
        rw [hy, if_neg tt, if_neg tt]
        omega
    · rw [Int.sub_self]
      show x = x + if tb t s = true then 0 else 0
      split <;> omega
def moreL (a : Mem) (s d k : Int) : Int := if s < 0 then 0 else if tb (a 201 k) s = true then d else 0
def explB (a : Mem) (s d : Int) : Nat → Bool
  | 0 => true
  | n + 1 => explB a s d n && exL a n == moreL a s d n
theorem explB_false {a : Mem} {s d : Int} {k : Nat} (h : explB a s d k = false) : ∀ j : Nat, explB a s d (k + j) = false
  | 0 => h
  | j + 1 => by
    rw [← Nat.add_assoc, explB, explB_false h j]
    rfl
theorem explB_iff {a : Mem} {s d : Int} (s0 : 0 ≤ s) : ∀ n : Nat, explB a s d n = true ↔ explL a s d n
  | 0 => ⟨fun _ k hk => by omega, fun _ => rfl⟩
  | n + 1 => by
    rw [explB, Bool.and_eq_true, explB_iff s0 n, beq_iff_eq]
    have e : moreL a s d n = if tb (a 201 n) s = true then d else 0 := if_neg (by omega)
    rw [e]
    constructor
    · rintro ⟨h1, h2⟩ k hk
      by_cases c : k = n
      · subst c; exact h2
      · exact h1 k (by omega)
    · intro h
      exact ⟨fun k hk => h k (by omega), h n (by omega)⟩
theorem explB_all {a : Mem} : ∀ n : Nat, explB a (-1) 0 n = allB a n
  | 0 => rfl
  | n + 1 => by
    rw [explB, allB, explB_all n]
    rfl
theorem mt_explains {E : Nat × (Nat → Int32)} {m a : Mem} {s d : Int} (b : RB a m) (hT : WTown a) (hS : WSet a) (wl : WLoads a) (s0 : -1 ≤ s) (s6 : s < 6) (d0 : 0 ≤ d) (d1 : d ≤ 99) : K_X12_explains E [.ref 169, vi s, vi d] m (fun z m' => z = (if explB a s d (wL a) = true then 1 else 0) ∧ m' = m) := by
  have l0 := wl.1
  have l1 := wl.2.1
  have e62 := b.2.1
  have e201 := b.2.2.2.1
  have e202 := b.2.2.2.2
  refine en_X12_explains (sg_X12_explains_0 ?_)
  have key : ∀ (j k : Nat), (k : Int) + j = a 169 62 → explB a s d k = true → GM E (m_X12_explains 3) (Pi fun z m' => z = (if explB a s d (wL a) = true then 1 else 0) ∧ m' = m) 5 [.ref 169, vi s, vi d, vi 1, vi (k : Int), un] [] m := by
    intro j
    induction j with
    | zero =>
      intro k hk hb
      have ek : k = wL a := by unfold wL; omega
      refine sg_X12_explains_5 ⟨by omega, by omega⟩ (by rw [e62]; constructor <;> omega) (fun _ => Or.inr rfl) (by decide) (by omega) ⟨by omega, by omega⟩ (by rw [e62]; omega) (by rw [e62]; omega) (fun _ => ⟨_, rfl, by rw [← ek, if_pos hb], rfl⟩) (by omega) (by rw [e62]; omega) (by rw [e62]; omega) (by rw [e62]; omega)
    | succ j ih =>
      intro k hk hb
      have hvr := hvT_rng (t := a 201 k) hT hS
      have wr := wl.2.2 k (by omega) (by omega)
      have next : ∀ more : Int, more = moreL a s d k → GM E (m_X12_explains 3) (Pi fun z m' => z = (if explB a s d (wL a) = true then 1 else 0) ∧ m' = m) 51 [.ref 169, vi s, vi d, vi 1, vi (k : Int), vi more] [vi (m 201 k), .ref 169] m := by
        intro more em
        have mr : 0 ≤ more ∧ more ≤ 99 := by
          rw [em]
          unfold moreL
          split
          · omega
          · split <;> omega
        rw [e201]
        refine ca_X12_explains_51 (mt_heavyOf b hT) (fun z m2 hz => ?_)
        obtain ⟨ez, e2⟩ := hz
        subst e2
        have ez' : z = a 202 k - exL a k := by rw [ez]; unfold exL; omega
        refine sg_X12_explains_54 ⟨by omega, by omega⟩ (by rw [ez]; constructor <;> omega) (by rw [e202]; constructor <;> omega) (fun g => ?_) (fun g => ?_)
        all_goals rw [e202] at g
        · have hf : explB a s d (k + 1) = false := by
            rw [explB, hb, ← em]
            have : (exL a k == more) = false := by
              rw [beq_eq_false_iff_ne]
              omega
            rw [this]
            rfl
          have hL : ¬ explB a s d (wL a) = true := by
            have := explB_false hf (wL a - (k + 1))
            rw [show k + 1 + (wL a - (k + 1)) = wL a by unfold wL; omega] at this
            rw [this]
            decide
          refine sg_X12_explains_5 ⟨by omega, by omega⟩ (by rw [e62]; constructor <;> omega) (fun _ => Or.inl rfl) (by decide) (fun _ _ => Or.inl rfl) ⟨by omega, by omega⟩ (fun _ q => absurd rfl q) (fun _ q => absurd rfl q) (fun _ => ⟨_, rfl, by rw [if_neg hL], rfl⟩) (fun _ _ => ⟨_, rfl, by rw [if_neg hL], rfl⟩) (fun _ q => absurd rfl q) (fun _ q => absurd rfl q) (fun _ q => absurd rfl q)
        · rw [show (k : Int) + 1 = ((k + 1 : Nat) : Int) by omega]
          refine ih (k + 1) (by omega) ?_
          rw [explB, hb, ← em]
          have : (exL a k == more) = true := by
            rw [beq_iff_eq]
            omega
          rw [this]
          rfl
      refine sg_X12_explains_5 ⟨by omega, by omega⟩ (by rw [e62]; constructor <;> omega) (fun _ => Or.inr rfl) (by decide) (fun _ q => absurd q (by decide)) ⟨by omega, by omega⟩ (fun _ _ _ => by omega) (fun _ _ _ => by omega) (by rw [e62]; omega) (fun _ q => absurd q (by decide)) (fun _ _ g => next 0 ?_) (fun _ _ g g2 => next d ?_) (fun _ _ g g2 => next 0 ?_)
      · unfold moreL; rw [if_pos g]
      · unfold moreL
        rw [e201] at g2
        rw [if_neg g, if_pos ((bit_1 (by omega) (by omega)).1 g2)]
      · unfold moreL
        rw [e201] at g2
        rw [if_neg g, if_neg (fun o => g2 ((bit_1 (by omega) (by omega)).2 o))]
  exact key (a 169 62).toNat 0 (by omega) rfl
def WaysFr (m m' : Mem) : Prop := ∀ k, k ≠ 203 → k ≠ 204 → m' k = m k
theorem mt_laysWays {E : Nat × (Nat → Int32)} {m a : Mem} (b : RB a m) (hT : WTown a) (hS : WSet a) (wl : WLoads a) : K_X12_laysWays E [.ref 169] m (fun m' => (∀ s : Int, 0 ≤ s → s < a 169 3 → m' 203 s = waysL a s ∧ (0 < waysL a s → m' 204 s = loN a s (wL a))) ∧ WaysFr m m') := by
  have n0 := hT.1
  have n6 := hT.2.1
  have l0 := wl.1
  have l1 := wl.2.1
  refine en_X12_laysWays (sg_X12_laysWays_0 ?_)
  have rb : ∀ m2 : Mem, WaysFr m m2 → RB a m2 := fun m2 f => ⟨by rw [f 169 (by decide) (by decide)]; exact b.1, by rw [f 169 (by decide) (by decide)]; exact b.2.1, fun k k0 k1 => by rw [f k (by omega) (by omega)]; exact b.2.2.1 k k0 k1, by rw [f 201 (by decide) (by decide)]; exact b.2.2.2.1, by rw [f 202 (by decide) (by decide)]; exact b.2.2.2.2⟩
  refine up_loop (i0 := 0) (n := a 169 3) (fun s m2 => GM E _ _ 2 [.ref 169, vi s, un] [] m2) (fun s m2 => (∀ t : Int, 0 ≤ t → t < s → m2 203 t = waysL a t ∧ (0 < waysL a t → m2 204 t = loN a t (wL a))) ∧ WaysFr m m2) (fun m2 h => ?_) (fun s m2 s0 s1 h k => ?_) (i := 0) (s := m) (by omega) (by omega) ⟨fun t t0 t1 => by omega, fun _ _ _ => rfl⟩
  · obtain ⟨h1, f⟩ := h
    have e3 := (rb m2 f).1
    exact sg_X12_laysWays_2 ⟨by omega, by omega⟩ (by rw [e3]; constructor <;> omega) (by rw [e3]; omega) (fun _ => ⟨rfl, h1, f⟩) (by rw [e3]; omega)
  · obtain ⟨h1, f⟩ := h
    have e3 := (rb m2 f).1
    have r1 := loN_rng (s := s) hT hS wl (wL a) (by unfold wL; omega)
    have r2 := hiN_rng (s := s) hT hS wl (wL a) (by unfold wL; omega)
    refine sg_X12_laysWays_2 ⟨by omega, by omega⟩ (by rw [e3]; constructor <;> omega) (fun _ => by omega) (by rw [e3]; omega) (fun _ => ?_)
    refine up_loop (i0 := 1) (n := 100) (fun d m3 => GM E _ _ 26 [.ref 169, vi s, vi d] [] m3) (fun d m3 => m3 203 s = (if okB a s (wL a) = true then max 0 (min (d - 1) (hiN a s (wL a)) - loN a s (wL a) + 1) else 0) ∧ m3 204 s = (if okB a s (wL a) = true ∧ loN a s (wL a) ≤ d - 1 ∧ loN a s (wL a) ≤ hiN a s (wL a) then loN a s (wL a) else -1) ∧ (∀ t : Int, t ≠ s → m3 203 t = m2 203 t ∧ m3 204 t = m2 204 t) ∧ WaysFr m m3) (fun m3 h => ?_) (fun d m3 d0 d1 h k3 => ?_) (i := 1) (by omega) (by omega) ⟨?_, ?_, fun t ht => ?_, fun k k1 k2 => ?_⟩
    · obtain ⟨q1, q2, q3, q4⟩ := h
      refine sg_X12_laysWays_26 (by decide) (fun _ => k _ ⟨fun t t0 t1 => ?_, q4⟩) (by omega)
      by_cases ct : t = s
      · subst ct
        rw [q1, q2]
        unfold waysL
        by_cases ok : okB a t (wL a) = true
        · rw [if_pos ok]
          by_cases le : loN a t (wL a) ≤ hiN a t (wL a)
          · rw [if_pos ⟨ok, le⟩]
            refine ⟨by omega, fun _ => ?_⟩
            rw [if_pos ⟨ok, by omega, le⟩]
          · rw [if_neg (fun o => le o.2)]
            exact ⟨by omega, fun q => by omega⟩
        · rw [if_neg ok, if_neg (fun o => ok o.1)]
          exact ⟨rfl, fun q => by omega⟩
      · rw [(q3 t ct).1, (q3 t ct).2]
        exact h1 t t0 (by omega)
    · obtain ⟨q1, q2, q3, q4⟩ := h
      have ei : explB a s d (wL a) = true ↔ okB a s (wL a) = true ∧ loN a s (wL a) ≤ d ∧ d ≤ hiN a s (wL a) := by
        rw [explB_iff s0, expl_iff d0 (by omega), okB_iff]
      refine sg_X12_laysWays_26 ⟨by omega, by omega⟩ (by omega) (fun _ => ?_)
      refine ca_X12_laysWays_35 (mt_explains (rb m3 q4) hT hS wl (by omega) (by omega) (by omega) (by omega)) (fun z m4 hz => ?_)
      obtain ⟨ez, e4⟩ := hz
      subst e4
      have r204 : RI (m4 204 s) := by rw [q2]; split <;> constructor <;> omega
      refine sg_X12_laysWays_38 (by rw [ez]; split <;> decide) (fun _ => by omega) (fun _ => r204) (fun g => k3 _ ?_) (fun g => k3 _ ?_)
      · rw [ez] at g
        have ne : ¬ explB a s d (wL a) = true := fun o => by rw [if_pos o] at g; exact absurd g (by decide)
        rw [ei] at ne
        refine ⟨?_, ?_, q3, q4⟩
        · rw [q1]
          by_cases ok : okB a s (wL a) = true
          · rw [if_pos ok, if_pos ok]
            have : ¬ (loN a s (wL a) ≤ d ∧ d ≤ hiN a s (wL a)) := fun o => ne ⟨ok, o⟩
            omega
          · rw [if_neg ok, if_neg ok]
        · rw [q2]
          by_cases ok : okB a s (wL a) = true
          · have : ¬ (loN a s (wL a) ≤ d ∧ d ≤ hiN a s (wL a)) := fun o => ne ⟨ok, o⟩
            by_cases g3 : loN a s (wL a) ≤ d - 1 ∧ loN a s (wL a) ≤ hiN a s (wL a)
            · rw [if_pos ⟨ok, g3⟩, if_pos ⟨ok, by omega, g3.2⟩]
            · rw [if_neg (fun o => g3 o.2), if_neg (fun o => g3 (by omega))]
          · rw [if_neg (fun o => ok o.1), if_neg (fun o => ok o.1)]
      · rw [ez] at g
        have he : explB a s d (wL a) = true := by
          rcases x : explB a s d (wL a) with _ | _
          · rw [x] at g; exact absurd rfl g
          · rfl
        obtain ⟨ok, o1, o2⟩ := ei.1 he
        refine ⟨?_, ?_, fun t ht => ?_, fun k k1 k2 => ?_⟩
        · rw [up2_same, q1, if_pos ok, if_pos ok]; omega
        · have eR : (if okB a s (wL a) = true ∧ loN a s (wL a) ≤ d + 1 - 1 ∧ loN a s (wL a) ≤ hiN a s (wL a) then loN a s (wL a) else -1) = loN a s (wL a) := if_pos ⟨ok, by omega, by omega⟩
          rw [up2_k (by decide), up2_same, eR]
          by_cases g3 : loN a s (wL a) ≤ d - 1
          · have e : m4 204 s = loN a s (wL a) := by rw [q2]; exact if_pos ⟨ok, g3, by omega⟩
            rw [e, if_pos (by omega)]
          · have e : m4 204 s = -1 := by rw [q2]; exact if_neg (fun o => g3 o.2.1)
            rw [e, if_neg (by decide)]; omega
        · rw [up2_j ht, up2_k (by decide), up2_k (by decide), up2_j ht]; exact q3 t ht
        · rw [up2_k k1, up2_k k2]; exact q4 k k1 k2
    · rw [up2_k (by decide), up2_same]
      split
      · omega
      · rfl
    · rw [up2_same, if_neg (by omega)]
    · rw [up2_k (by decide), up2_j ht, up2_j ht, up2_k (by decide)]
      exact ⟨rfl, rfl⟩
    · rw [up2_k k2, up2_k k1]; exact f k k1 k2
theorem HighEq.rb {a m : Mem} (h : HighEq a m) : RB a m := ⟨by rw [h 169 (by decide)], by rw [h 169 (by decide)], fun k k0 _ => h k (by omega), h 201 (by decide), h 202 (by decide)⟩
theorem rb0 {a m : Mem} (h : RB a m) {j z : Int} (h3 : j ≠ 3) (h62 : j ≠ 62) : RB a (up2 m 169 j z) := ⟨by rw [up2_j (fun e => h3 e.symm)]; exact h.1, by rw [up2_j (fun e => h62 e.symm)]; exact h.2.1, fun k k0 k1 => by rw [up2_k (by omega)]; exact h.2.2.1 k k0 k1, by rw [up2_k (by decide)]; exact h.2.2.2.1, by rw [up2_k (by decide)]; exact h.2.2.2.2⟩
theorem sum_pairs {a : Mem} {s : Int} (s0 : 0 ≤ s) (s1 : s < a 169 3) : sumI (pairsL a) (s + 1).toNat = sumI (pairsL a) s.toNat + (2 * a 172 s) * waysL a s := by
  rw [sumI_step s0]
  congr 1
  unfold pairsL
  rw [if_pos s1]
theorem sum_pairs_rng {a : Mem} (hT : WTown a) (hS : WSet a) (wl : WLoads a) : ∀ n : Nat, 0 ≤ sumI (pairsL a) n ∧ sumI (pairsL a) n ≤ n * 1584 := fun n => sumI_bound (fun i i0 _ => ⟨(pairsL_rng hT hS wl i0).1, (pairsL_rng hT hS wl i0).2.1⟩)
theorem mt_rubble {E : Nat × (Nat → Int32)} {m a : Mem} (hm : HighEq a m) (hT : WTown a) (hS : WSet a) (wl : WLoads a) : K_X12_rubble E [.ref 169] m (fun z m' => z = sumI (pairsL a) (a 169 3).toNat ∧ PEq m' (rowU m (rubN a) (rubL a)) ∧ LowEq m m') := by
  have n0 := hT.1
  have n6 := hT.2.1
  have e9 := hm 169 (by decide)
  refine en_X12_rubble (sg_X12_rubble_0 (ca_X12_rubble_6 (mt_laysWays (rb0 hm.rb (by decide) (by decide)) hT hS wl) (fun m2 h2 => sg_X12_rubble_9 ?_)))
  obtain ⟨hw, f⟩ := h2
  have f : ∀ k, k ≠ 203 → k ≠ 204 → m2 k = up2 m 169 0 0 k := f
  have e3 : m2 169 3 = a 169 3 := by rw [f 169 (by decide) (by decide), up2_j (by decide), e9]
  have e72 : m2 172 = a 172 := by rw [f 172 (by decide) (by decide), up2_k (by decide), hm 172 (by decide)]
  -- rows 169 (but 1) and 170 alone change
  have key : ∀ (d : Nat) (s : Int) (m3 : Mem), 0 ≤ s → s + d = a 169 3 → (∀ k, k ≠ 169 → k ≠ 170 → m3 k = m2 k) → (∀ j : Int, j ≠ 1 → m3 169 j = m2 169 j) → ((sumI (pairsL a) s.toNat = 0 ∧ m3 169 1 = 0 ∧ rubF a d s = rubS a) ∨ (sumI (pairsL a) s.toNat ≠ 0 ∧ m3 169 1 = rubN a ∧ rubN a ≤ 4 ∧ ∀ j : Int, 0 ≤ j → j < rubN a → m3 170 j = rubL a j)) → GM E (m_X12_rubble 5) (Pi fun z m' => z = sumI (pairsL a) (a 169 3).toNat ∧ PEq m' (rowU m (rubN a) (rubL a)) ∧ LowEq m m') 18 [.ref 169, vi (sumI (pairsL a) s.toNat), vi s] [] m3 := by
    intro d
    induction d with
    | zero =>
      intro s m3 s0 sd q1 q2 q3
      have e3' : m3 169 3 = a 169 3 := by rw [q2 3 (by decide), e3]
      have sr := sum_pairs_rng hT hS wl s.toNat
      refine sg_X12_rubble_18 ⟨by omega, by omega⟩ (by rw [e3']; constructor <;> omega) ⟨by omega, by omega⟩ (by rw [e3']; omega) (by rw [e3']; omega) (by rw [e3']; omega) (by rw [e3']; omega) (by rw [e3']; omega) (by rw [e3']; omega) (by rw [e3']; omega) (by rw [e3']; omega) (fun _ => ⟨_, rfl, by rw [show s = a 169 3 by omega], ?_, fun k hk => ?_⟩) (by rw [e3']; omega) (by rw [e3']; omega) (by rw [e3']; omega)
      · have g1 : m3 169 1 = rubN a ∧ ∀ j : Int, 0 ≤ j → j < rubN a → m3 170 j = rubL a j := by
          rcases q3 with ⟨-, x2, x3⟩ | ⟨-, x2, -, x3⟩
          · have : rubS a < 0 := by rw [← x3, rubF]; decide
            have en : rubN a = 0 := if_pos this
            exact ⟨x2.trans en.symm, fun j j0 j1 => by omega⟩
          · exact ⟨x2, x3⟩
        refine PEq.row (fun k hk h9 h0 => ?_) (fun j hj h1 => ?_) g1.1 g1.2
        · have := hk.not
          rw [q1 k h9 h0, f k (by omega) (by omega), up2_k h9]
        · have := hj.not
          rw [q2 j h1, f 169 (by decide) (by decide), up2_j (by omega)]
      · rw [q1 k (by omega) (by omega), f k (by omega) (by omega), up2_k (by omega)]
    | succ d ih =>
      intro s m3 s0 sd q1 q2 q3
      have e3' : m3 169 3 = a 169 3 := by rw [q2 3 (by decide), e3]
      have sr := sum_pairs_rng hT hS wl s.toNat
      have ew := hw s s0 (by omega)
      have e203 : m3 203 s = waysL a s := by rw [q1 203 (by decide) (by decide)]; exact ew.1
      have e204 : 0 < waysL a s → m3 204 s = loN a s (wL a) := fun g => by rw [q1 204 (by decide) (by decide)]; exact ew.2 g
      have e72' : m3 172 s = a 172 s := by rw [q1 172 (by decide) (by decide), e72]
      have wr := waysL_rng (s := s) hT hS wl
      have pr := pairsL_rng (s := s) hT hS wl s0
      have pe : pairsL a s = (2 * a 172 s) * waysL a s := by unfold pairsL; rw [if_pos (by omega)]
      have r1 := loN_rng (s := s) hT hS wl (wL a) (by unfold wL; have := wl.1; omega)
      have es := sum_pairs (a := a) s0 (by omega)
      have u1 : sumI (pairsL a) s.toNat = 0 → m3 169 1 = 0 := fun g => by
        rcases q3 with ⟨-, x2, -⟩ | ⟨x1, -⟩
        · exact x2
        · exact absurd g x1
      refine sg_X12_rubble_18 ⟨by omega, by omega⟩ (by rw [e3']; constructor <;> omega) ⟨by omega, by omega⟩ (fun _ _ => by omega) (fun _ _ => by omega) (fun _ _ => by rw [e203]; constructor <;> omega) (fun _ g _ => by rw [u1 g]; omega) (fun _ g _ => by rw [u1 g]; omega) (fun _ g _ => by rw [u1 g]; omega) (fun _ g g2 => by rw [e203] at g2; rw [e204 (by omega)]; constructor <;> omega) (fun _ g _ => by rw [u1 g]; omega) (by rw [e3']; omega) (fun _ g => ?_) (fun _ g g2 => ?_) (fun _ g g2 => ?_)
      · rw [e203, e72', ← es]
        refine ih (s + 1) m3 (by omega) (by omega) q1 q2 (Or.inr ?_)
        rcases q3 with ⟨x1, -⟩ | ⟨-, x2⟩
        · exact absurd x1 g
        · exact ⟨by omega, x2⟩
      · rw [e203] at g2
        rw [e203, e72', ← es]
        have w0 : ¬ 0 < waysL a s := by omega
        have p0 : pairsL a s = 0 := by
          have : ¬ 0 < pairsL a s := fun o => w0 ((pr.2.2 (by omega)).1 o)
          omega
        refine ih (s + 1) m3 (by omega) (by omega) q1 q2 (Or.inl ?_)
        rcases q3 with ⟨x1, x2, x3⟩ | ⟨x1, -⟩
        · exact ⟨by omega, x2, by rw [← x3, rubF, if_neg w0]⟩
        · exact absurd g x1
      · rw [e203] at g2
        have w0 : 0 < waysL a s := by omega
        have p0 := (pr.2.2 (by omega)).2 w0
        have eS : rubS a = s := by
          rcases q3 with ⟨-, -, x3⟩ | ⟨x1, -⟩
          · rw [← x3, rubF, if_pos w0]
          · exact absurd g x1
        have eN : rubN a = 4 := by unfold rubN; rw [eS, if_neg (by omega)]
        have eL : rubL a = rwL [s, 0, 0, loN a s (wL a)] := by unfold rubL; rw [eS, if_neg (by omega)]
        rw [e203, e72', ← es, u1 g, e204 w0]
        rw [show (0 : Int) + 1 = 1 from rfl, show (1 : Int) + 1 = 2 from rfl, show (2 : Int) + 1 = 3 from rfl, show (3 : Int) + 1 = 4 from rfl]
        refine ih (s + 1) _ (by omega) (by omega) (fun k k1 k2 => by rw [up2_k k1, up2_k k2, up2_k k1, up2_k k2, up2_k k1, up2_k k2, up2_k k1, up2_k k2, q1 k k1 k2]) (fun j hj => by rw [up2_j hj, up2_k (by decide), up2_j hj, up2_k (by decide), up2_j hj, up2_k (by decide), up2_j hj, up2_k (by decide), q2 j hj]) (Or.inr ⟨by omega, by rw [eN, up2_same], by omega, fun j j0 j1 => ?_⟩)
        rw [eN] at j1
        rw [eL]
        have : j = 0 ∨ j = 1 ∨ j = 2 ∨ j = 3 := by omega
        rcases this with rfl | rfl | rfl | rfl
        · rw [up2_k (by decide), up2_j (by decide), up2_k (by decide), up2_j (by decide), up2_k (by decide), up2_j (by decide), up2_k (by decide), up2_same]; rfl
        · rw [up2_k (by decide), up2_j (by decide), up2_k (by decide), up2_j (by decide), up2_k (by decide), up2_same]; rfl
        · rw [up2_k (by decide), up2_j (by decide), up2_k (by decide), up2_same]; rfl
        · rw [up2_k (by decide), up2_same]; rfl
  exact key (a 169 3).toNat 0 (up2 m2 169 1 0) (by omega) (by omega) (fun k k1 _ => up2_k k1) (fun j hj => up2_j hj) (Or.inl ⟨rfl, up2_same _ _ _ _, rfl⟩)
