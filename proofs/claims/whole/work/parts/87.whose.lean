/-! whose, next: the reference -/
theorem borI_0 {x : Int} (h : RI x) : borI x 0 = x := by
  refine tb_ext (borI_rng _ _) h (fun i i0 i1 => ?_)
  rw [tb_or, tb_0, Bool.or_false]
theorem mt_whose {E : Nat × (Nat → Int32)} {m a : Mem} (hm : HighEq a m) (hT : WTown a) (hS : WSet a) (wl : WLoads a) : K_X12_whose E [.ref 169] m (fun z m' => z = whoB a (a 169 3).toNat ∧ PEq m' (rowU m 1 (rwL [if allB a (wL a) = true then 1 else 0])) ∧ LowEq m m') := by
  have n0 := hT.1
  have n6 := hT.2.1
  have e9 := hm 169 (by decide)
  refine en_X12_whose (sg_X12_whose_0 (ca_X12_whose_6 (mt_laysWays (rb0 hm.rb (by decide) (by decide)) hT hS wl) (fun m2 h2 => sg_X12_whose_9 ?_)))
  obtain ⟨hw, f⟩ := h2
  have f : ∀ k, k ≠ 203 → k ≠ 204 → m2 k = up2 m 169 0 0 k := f
  have e3 : m2 169 3 = a 169 3 := by rw [f 169 (by decide) (by decide), up2_j (by decide), e9]
  have b2 : RB a m2 := ⟨e3, by rw [f 169 (by decide) (by decide), up2_j (by decide), e9], fun k k0 k1 => by rw [f k (by omega) (by omega), up2_k (by omega), hm k (by omega)], by rw [f 201 (by decide) (by decide), up2_k (by decide), hm 201 (by decide)], by rw [f 202 (by decide) (by decide), up2_k (by decide), hm 202 (by decide)]⟩
  refine up_loop (i0 := 0) (n := a 169 3) (fun s (x : Int) => GM E _ _ 13 [.ref 169, vi x, vi s] [] m2) (fun s x => x = whoB a s.toNat) (fun x hx => ?_) (fun s x s0 s1 hx k => ?_) (i := 0) (s := 0) (by omega) (by omega) rfl
  · refine sg_X12_whose_13 ⟨by omega, by omega⟩ (by rw [e3]; constructor <;> omega) (by rw [e3]; omega) (by rw [e3]; omega) (fun _ => ?_) (by rw [e3]; omega)
    refine ca_X12_whose_55 (mt_explains (rb0 b2 (by decide) (by decide)) hT hS wl (by decide) (by decide) (by decide) (by decide)) (fun z m3 hz => ?_)
    obtain ⟨ez, e3'⟩ := hz
    rw [explB_all] at ez
    have e1 : m3 169 1 = 0 := by rw [e3', up2_same]
    have fin : ∀ y : Int, y = (if allB a (wL a) = true then 1 else 0) → (Pi fun z m' => z = whoB a (a 169 3).toNat ∧ PEq m' (rowU m 1 (rwL [if allB a (wL a) = true then 1 else 0])) ∧ LowEq m m') (some (vi x)) (up2 (up2 m3 170 (m3 169 1) y) 169 1 (m3 169 1 + 1)) := by
      intro y hy
      rw [e1, e3', hy]
      refine ⟨_, rfl, hx, PEq.one (PEq.of (fun k hk h9 => ?_) (fun j hj => ?_)), fun k hk => ?_⟩
      · have := hk.not
        rw [f k (by omega) (by omega), up2_k h9]
      · have := hj.not
        rw [f 169 (by decide) (by decide), up2_j (by omega)]
      · rw [up2_k (by omega), up2_k (by omega), up2_k (by omega), f k (by omega) (by omega), up2_k (by omega)]
    refine sg_X12_whose_58 (by rw [ez]; split <;> decide) (fun _ => by rw [e1]; omega) (fun _ => by rw [e1]; omega) (fun g => fin 1 ?_) (fun g => fin 0 ?_)
    all_goals rw [ez] at g
    · by_cases c : allB a (wL a) = true
      · rw [if_pos c]
      · rw [if_neg c] at g; exact absurd rfl g
    · by_cases c : allB a (wL a) = true
      · rw [if_pos c] at g; exact absurd g (by decide)
      · rw [if_neg c]
  · have e203 := (hw s s0 s1).1
    have wr := waysL_rng (s := s) hT hS wl
    refine sg_X12_whose_13 ⟨by omega, by omega⟩ (by rw [e3]; constructor <;> omega) (fun _ => by omega) (fun _ => by rw [e203]; constructor <;> omega) (by rw [e3]; omega) (fun _ => k _ ?_)
    rw [show (s + 1).toNat = s.toNat + 1 by omega, whoB, Int.toNat_of_nonneg s0, e203, hx]
    by_cases g : 0 < waysL a s
    · rw [if_pos g, if_neg (by omega)]
    · rw [if_neg g, if_pos (by omega), borI_0 (whoB_rng _)]
theorem inS_n {a : Mem} {t : Int} (n0 : 0 ≤ a 169 3) (n6 : a 169 3 ≤ 6) : inS a t = sumI (fun s => if tb t s = true then pairsL a s else 0) (a 169 3).toNat := by
  unfold inS
  have := sumI_split (f := fun s => if tb t s = true then pairsL a s else 0) (p := (a 169 3).toNat) (6 - (a 169 3).toNat)
  rw [show (a 169 3).toNat + (6 - (a 169 3).toNat) = 6 by omega] at this
  rw [this, sumI_0 (f := fun i => if tb t (((a 169 3).toNat : Nat) + i) = true then pairsL a (((a 169 3).toNat : Nat) + i) else 0) (fun i i0 i1 => by
    show (if tb t (((a 169 3).toNat : Nat) + i) = true then pairsL a (((a 169 3).toNat : Nat) + i) else 0) = 0
    unfold pairsL
    rw [if_neg (show ¬ (((a 169 3).toNat : Nat) : Int) + i < a 169 3 by omega)]
    split <;> rfl), Int.add_zero]
theorem mt_next {E : Nat × (Nat → Int32)} {m a : Mem} (hm : HighEq a m) (hT : WTown a) (hS : WSet a) (wl : WLoads a) : K_X12_next E [.ref 169] m (fun z m' => (rubA a ≠ 0 ∧ z = (nextR a).2 ∧ PEq m' (rowU m 1 (rwL [(nextR a).1])) ∧ LowEq m m') ∨ (¬ rubA a ≠ 0 ∧ z = -2 ∧ PEq m' m ∧ LowEq m m')) := by
  have n0 := hT.1
  have n6 := hT.2.1
  have e9 := hm 169 (by decide)
  have ra := rubA_rng hT hS wl
  have es := shlN n0 n6
  have p6 := pow6 (k := (a 169 3).toNat) (by omega)
  refine en_X12_next (sg_X12_next_0 (ca_X12_next_6 (mt_laysWays (rb0 hm.rb (by decide) (by decide)) hT hS wl) (fun m2 h2 => sg_X12_next_9 ?_)))
  obtain ⟨hw, f⟩ := h2
  have f : ∀ k, k ≠ 203 → k ≠ 204 → m2 k = up2 m 169 0 0 k := f
  have e3 : m2 169 3 = a 169 3 := by rw [f 169 (by decide) (by decide), up2_j (by decide), e9]
  have e72 : m2 172 = a 172 := by rw [f 172 (by decide) (by decide), up2_k (by decide), hm 172 (by decide)]
  have pm : PEq m2 m := PEq.of (fun k hk h9 => by have := hk.not; rw [f k (by omega) (by omega), up2_k h9]) (fun j hj => by have := hj.not; rw [f 169 (by decide) (by decide), up2_j (by omega)])
  have lm : LowEq m m2 := fun k hk => by rw [f k (by omega) (by omega), up2_k (by omega)]
  refine up_loop (i0 := 0) (n := a 169 3) (fun s (x : Int) => GM E _ _ 13 [.ref 169, vi x, vi s, un, un, un, un] [] m2) (fun s x => x = sumI (pairsL a) s.toNat) (fun x hx => ?_) (fun s x s0 s1 hx k => ?_) (i := 0) (s := 0) (by omega) (by omega) rfl
  · have hx : x = rubA a := hx
    subst hx
    refine sg_X12_next_13 ⟨by omega, by omega⟩ (by rw [e3]; constructor <;> omega) ⟨by omega, by omega⟩ (by rw [e3]; omega) (fun _ g => ?_) (fun _ g => ⟨_, rfl, Or.inr ⟨fun o => o g, rfl, pm, lm⟩⟩) (by rw [e3]; omega)
    refine up_loop (i0 := 1) (n := shlI 1 (a 169 3)) (fun i (x : Int × Int) => GM E _ _ 59 [.ref 169, vi (rubA a), vi x.2, vi x.1, vi i, un, un] [] m2) (fun i x => x = nextG a (rubA a) (i - 1).toNat) (fun x hx => ?_) (fun i x i0 i1 hx k => ?_) (i := 1) (s := (rubA a, 0)) (by omega) (by omega) rfl
    · have nr := nextG_rng hT hS wl ra.1 ra.2 (shlI 1 (a 169 3) - 1).toNat
      rw [← hx] at nr
      refine sg_X12_next_59 ⟨by omega, by omega⟩ (by rw [e3]; constructor <;> omega) ⟨by omega, by omega⟩ (fun _ => ⟨_, rfl, Or.inl ⟨g, ?_, ?_, fun k hk => by rw [up2_k (by omega), up2_k (by omega), up2_k (by omega), lm k hk]⟩⟩) (by rw [e3]; omega)
      · rw [hx]; rfl
      · rw [hx]; exact PEq.one pm
    · have nr := nextG_rng hT hS wl ra.1 ra.2 (i - 1).toNat
      rw [← hx] at nr
      have r := inS_rng (t := i) hT hS wl
      refine sg_X12_next_59 ⟨by omega, by omega⟩ (by rw [e3]; constructor <;> omega) ⟨by omega, by omega⟩ (by rw [e3]; omega) (fun _ => ?_)
      have kk : ∀ x1 x2 : Int, (x1, x2) = nextG a (rubA a) (i + 1 - 1).toNat → GM E _ _ 59 [.ref 169, vi (rubA a), vi x2, vi x1, vi (i + 1), un, un] [] m2 := fun x1 x2 hx => k (x1, x2) hx
      refine up_loop (i0 := 0) (n := a 169 3) (fun s (y : Int) => GM E _ _ 74 [.ref 169, vi (rubA a), vi x.2, vi x.1, vi i, vi y, vi s] [] m2) (fun s y => y = sumI (fun s => if tb i s = true then pairsL a s else 0) s.toNat) (fun y hy => ?_) (fun s y s0 s1 hy k3 => ?_) (i := 0) (s := 0) (by omega) (by omega) rfl
      · have hy : y = inS a i := by rw [inS_n n0 n6]; exact hy
        subst hy
        refine sg_X12_next_74 ⟨by omega, by omega⟩ (by rw [e3]; constructor <;> omega) ⟨by omega, by omega⟩ (fun _ => ⟨by omega, by omega⟩) (fun _ => ⟨by omega, by omega⟩) ⟨by omega, by omega⟩ (by rw [e3]; omega) (fun _ => kk _ _ ?_) (by rw [e3]; omega) (by rw [e3]; omega)
        rw [show (i + 1 - 1).toNat = (i - 1).toNat + 1 by omega, nextG, ← hx, show (((i - 1).toNat : Nat) : Int) + 1 = i by omega]
        by_cases c : x.1 ≤ max (inS a i) (rubA a - inS a i)
        · rw [if_pos c, if_pos c]
          show (min x.1 (max (inS a i) (rubA a - inS a i)), x.2) = (x.1, x.2)
          rw [show min x.1 (max (inS a i) (rubA a - inS a i)) = x.1 by omega]
        · rw [if_neg c, if_neg c, show min x.1 (max (inS a i) (rubA a - inS a i)) = max (inS a i) (rubA a - inS a i) by omega]
      · have e203 := (hw s s0 s1).1
        have yr : 0 ≤ y ∧ y ≤ 9504 := by
          have := sumI_bound (f := fun s => if tb i s = true then pairsL a s else 0) (c := 1584) (n := s.toNat) (fun j j0 j1 => by
            have := pairsL_rng (s := j) hT hS wl j0
            show 0 ≤ (if tb i j = true then pairsL a j else 0) ∧ (if tb i j = true then pairsL a j else 0) ≤ 1584
            split <;> omega)
          rw [hy]
          omega
        have pe : pairsL a s = (2 * a 172 s) * waysL a s := by unfold pairsL; rw [if_pos s1]
        refine sg_X12_next_74 ⟨by omega, by omega⟩ (by rw [e3]; constructor <;> omega) ⟨by omega, by omega⟩ (by rw [e3]; omega) (by rw [e3]; omega) ⟨by omega, by omega⟩ (fun _ _ => by omega) (by rw [e3]; omega) (fun _ g => k3 _ ?_) (fun _ g => k3 _ ?_)
        · have tt := (bit_1 s0 (by omega)).1 g
          rw [sumI_step s0, ← hy, if_pos tt, pe, e72, e203]
        · have tt : ¬ tb i s = true := fun o => g ((bit_1 s0 (by omega)).2 o)
          rw [sumI_step s0, ← hy, if_neg tt]
  · have e203 := (hw s s0 s1).1
    have sr := sum_pairs_rng hT hS wl s.toNat
    refine sg_X12_next_13 ⟨by omega, by omega⟩ (by rw [e3]; constructor <;> omega) (by rw [hx]; constructor <;> omega) (fun _ => by omega) (by rw [e3]; omega) (by rw [e3]; omega) (fun _ => k _ ?_)
    rw [sum_pairs s0 s1, ← hx, e72, e203]
