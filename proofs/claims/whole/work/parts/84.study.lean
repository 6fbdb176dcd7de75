/-! rubble: what is told, and the class' study -/
def okB (a : Mem) (s : Int) : Nat → Bool
  | 0 => true
  | n + 1 => okB a s n && (tb (a 201 n) s || exL a n == 0)
theorem okB_iff {a : Mem} {s : Int} : ∀ n : Nat, okB a s n = true ↔ okN a s n
  | 0 => ⟨fun _ k hk => by omega, fun _ => rfl⟩
  | n + 1 => by
    rw [okB, Bool.and_eq_true, okB_iff n, Bool.or_eq_true, beq_iff_eq]
    constructor
    · rintro ⟨h1, h2⟩ k hk ht
      by_cases c : k = n
      · subst c
        rcases h2 with h2 | h2
        · rw [ht] at h2; cases h2
        · exact h2
      · exact h1 k (by omega) ht
    · intro h
      refine ⟨fun k hk => h k (by omega), ?_⟩
      rcases t : tb (a 201 n) s with _ | _
      · exact Or.inr (h n (by omega) t)
      · exact Or.inl rfl
def allB (a : Mem) : Nat → Bool
  | 0 => true
  | n + 1 => allB a n && exL a n == 0
def wL (a : Mem) : Nat := (a 169 62).toNat
def waysL (a : Mem) (s : Int) : Int := if okB a s (wL a) = true ∧ loN a s (wL a) ≤ hiN a s (wL a) then hiN a s (wL a) - loN a s (wL a) + 1 else 0
def pairsL (a : Mem) (s : Int) : Int := if s < a 169 3 then (2 * a 172 s) * waysL a s else 0
theorem waysL_rng {a : Mem} {s : Int} (hT : WTown a) (hS : WSet a) (hL : WLoads a) : 0 ≤ waysL a s ∧ waysL a s ≤ 99 := by
  have l0 := hL.1
  have h1 := loN_rng (s := s) hT hS hL (wL a) (by unfold wL; omega)
  have h2 := hiN_rng (s := s) hT hS hL (wL a) (by unfold wL; omega)
  unfold waysL
  split <;> omega
theorem pairsL_rng {a : Mem} {s : Int} (hT : WTown a) (hS : WSet a) (hL : WLoads a) (s0 : 0 ≤ s) : 0 ≤ pairsL a s ∧ pairsL a s ≤ 1584 ∧ (s < a 169 3 → (0 < pairsL a s ↔ 0 < waysL a s)) := by
  have w := waysL_rng (s := s) hT hS hL
  have n6 := hT.2.1
  unfold pairsL
  split
  · rename_i c
    have t := hT.2.2.1 s s0 (by omega)
    have h1 : 1 ≤ a 172 s := t.2.2.2.2.2.2.2.2.2.2.1 c
    have h2 : 0 ≤ (2 * a 172 s) * waysL a s := Int.mul_nonneg (by omega) w.1
    have h3 : (2 * a 172 s) * waysL a s ≤ 16 * 99 := Int.mul_le_mul (by omega) w.2 w.1 (by omega)
    refine ⟨h2, by omega, fun _ => ⟨fun g => ?_, fun g => Int.mul_pos (by omega) g⟩⟩
    rcases Int.lt_trichotomy 0 (waysL a s) with g2 | g2 | g2
    · exact g2
    · rw [← g2, Int.mul_zero] at g; omega
    · omega
  · exact ⟨by omega, by omega, fun g => by contradiction⟩
def inS (a : Mem) (t : Int) : Int := sumI (fun s => if tb t s = true then pairsL a s else 0) 6
theorem inS_rng {a : Mem} {t : Int} (hT : WTown a) (hS : WSet a) (hL : WLoads a) : 0 ≤ inS a t ∧ inS a t ≤ 9504 := by
  have := sumI_bound (f := fun s => if tb t s = true then pairsL a s else 0) (c := 1584) (n := 6) (fun i i0 i1 => by
    have := pairsL_rng (s := i) hT hS hL i0
    show 0 ≤ (if tb t i = true then pairsL a i else 0) ∧ (if tb t i = true then pairsL a i else 0) ≤ 1584
    split <;> omega)
  unfold inS
  omega
theorem ct_findPairs {E : Nat × (Nat → Int32)} {c a : Mem} {s : Int} (hC : CTown c a) (hL : CLoads c a) (hT : WTown a) (hS : WSet a) (wl : WLoads a) (s0 : 0 ≤ s) (s6 : s < 6) (he : ∀ k : Int, 0 ≤ k → k < a 169 62 → c 97 k = exL a k) : K_X3_findPairs E [.ref 93, vi s] c (fun z c' => z = pairsL a s ∧ (0 < pairsL a s → c' 99 s = loN a s (wL a)) ∧ (∀ k, k ≠ 99 → c' k = c k) ∧ ∀ j : Int, j ≠ s → c' 99 j = c 99 j) := by
  have e91 := hC.1
  have n0 := hT.1
  have n6 := hT.2.1
  have e93 := hL.1
  have l0 := wl.1
  have l1 := wl.2.1
  have key : ∀ (d k : Nat), (k : Int) + d = a 169 62 → okB a s k = true → GM E (m_X3_findPairs 1) (Pi fun z c' => z = pairsL a s ∧ (0 < pairsL a s → c' 99 s = loN a s (wL a)) ∧ (∀ k, k ≠ 99 → c' k = c k) ∧ ∀ j : Int, j ≠ s → c' 99 j = c 99 j) 8 [.ref 93, vi s, vi (loN a s k), vi (hiN a s k), vi (k : Int)] [] c := by
    intro d
    induction d with
    | zero =>
      intro k hk hok
      have ek : k = wL a := by unfold wL; omega
      have r1 := loN_rng (s := s) hT hS wl k (by omega)
      have r2 := hiN_rng (s := s) hT hS wl k (by omega)
      have zero : ¬ (s < a 169 3 ∧ loN a s k ≤ hiN a s k) → pairsL a s = 0 := fun g => by
        unfold pairsL waysL
        rw [← ek]
        split
        · rw [if_neg (fun o => g ⟨by assumption, o.2⟩), Int.mul_zero]
        · rfl
      have no : pairsL a s = 0 → (Pi fun z c' => z = pairsL a s ∧ (0 < pairsL a s → c' 99 s = loN a s (wL a)) ∧ (∀ k, k ≠ 99 → c' k = c k) ∧ ∀ j : Int, j ≠ s → c' 99 j = c 99 j) (some (vi 0)) c := fun g => ⟨_, rfl, g.symm, fun q => by omega, fun _ _ => rfl, fun _ _ => rfl⟩
      refine sg_X3_findPairs_8 ⟨by omega, by omega⟩ (by rw [e93]; constructor <;> omega) (fun _ => by omega) ⟨by omega, by omega⟩ ⟨by omega, by omega⟩ ⟨by omega, by omega⟩ (fun _ _ _ _ => ⟨s0, s6⟩) (by rw [e93]; omega) (by rw [e93]; omega) (by rw [e93]; omega) (by rw [e93]; omega) (by rw [e93]; omega) (fun _ p q => no (zero (by omega))) (fun _ p q _ => ⟨_, rfl, ?_, fun _ => by rw [up2_same, ek], fun k hk => up2_k hk, fun j hj => up2_j hj⟩) (fun _ _ _ q => by omega) (fun _ p => no (zero (by omega))) (by rw [e93]; omega) (by rw [e93]; omega) (by rw [e93]; omega) (by rw [e93]; omega) (by rw [e93]; omega) (by rw [e93]; omega) (by rw [e93]; omega)
      have ss := streetR1 (streetMem s.toNat (by omega))
      rw [up2_k (by omega), (hC.s p.1 (by omega) n6).2.1]
      unfold pairsL waysL
      rw [if_pos (by omega), ← ek, if_pos ⟨hok, by omega⟩]
    | succ d ih =>
      intro k hk hok
      have r1 := loN_rng (s := s) hT hS wl k (by omega)
      have r2 := hiN_rng (s := s) hT hS wl k (by omega)
      have ex := he k (by omega) (by omega)
      have er := exL_rng (k := k) hT hS wl (by omega) (by omega)
      have e94 := (hL.2 k (by omega) (by omega)).1
      refine sg_X3_findPairs_8 ⟨by omega, by omega⟩ (by rw [e93]; constructor <;> omega) (by rw [e93]; omega) ⟨by omega, by omega⟩ ⟨by omega, by omega⟩ ⟨by omega, by omega⟩ (by rw [e93]; omega) (by omega) (by omega) (fun _ _ => ⟨by omega, by omega⟩) (fun _ _ _ => by rw [ex]; constructor <;> omega) (fun _ _ _ => by rw [ex]; constructor <;> omega) (by rw [e93]; omega) (by rw [e93]; omega) (by rw [e93]; omega) (by rw [e93]; omega) (by omega) (by omega) (by omega) (by omega) (fun _ _ b g => ?_) (fun _ _ b g => ⟨_, rfl, ?_, ?_, fun _ _ => rfl, fun _ _ => rfl⟩) (fun _ _ b => ?_)
      · rw [e94] at b
        rw [ex] at g
        have t := (bit_0 s0 (by omega)).1 b
        have el : loN a s (k + 1) = loN a s k := by rw [loN, t]; rfl
        have eh : hiN a s (k + 1) = hiN a s k := by rw [hiN, t]; rfl
        have := ih (k + 1) (by omega) (by rw [okB, hok, g]; simp)
        rw [el, eh] at this
        exact this
      · rw [e94] at b
        rw [ex] at g
        have t := (bit_0 s0 (by omega)).1 b
        have nok : ¬ okB a s (wL a) = true := fun o => g ((okB_iff _).1 o k (by unfold wL; omega) t)
        have w0 : waysL a s = 0 := if_neg (fun o => nok o.1)
        unfold pairsL
        rw [w0, Int.mul_zero]
        split <;> rfl
      · intro q
        rw [e94] at b
        rw [ex] at g
        have t := (bit_0 s0 (by omega)).1 b
        have nok : ¬ okB a s (wL a) = true := fun o => g ((okB_iff _).1 o k (by unfold wL; omega) t)
        have w0 : waysL a s = 0 := if_neg (fun o => nok o.1)
        unfold pairsL at q
        rw [w0, Int.mul_zero] at q
        split at q <;> omega
      · rw [e94] at b
        have t : tb (a 201 k) s = true := by
          rcases h : tb (a 201 k) s with _ | _
          · exact absurd ((bit_0 s0 (by omega)).2 h) b
          · rfl
        rw [ex]
        have el : loN a s (k + 1) = max (loN a s k) (exL a k) := by rw [loN, t]; rfl
        have eh : hiN a s (k + 1) = min (hiN a s k) (exL a k) := by rw [hiN, t]; rfl
        have := ih (k + 1) (by omega) (by rw [okB, hok, t]; rfl)
        rw [el, eh] at this
        exact this
  exact en_X3_findPairs (sg_X3_findPairs_0 (key (a 169 62).toNat 0 (by omega) rfl))
theorem ct_heavyOf {E : Nat × (Nat → Int32)} {c a : Mem} {t : Int} (h96 : ∀ s : Int, 0 ≤ s → s < 6 → c 96 s = hvy a s) : K_X3_heavyOf E [.ref 93, vi t] c (fun z c' => z = hvT a t ∧ c' = c) := by
  refine en_X3_heavyOf (sg_X3_heavyOf_0 ?_)
  refine up_loop (i0 := 0) (n := 6) (fun i (x : Int) => GM E _ _ 4 [.ref 93, vi t, vi x, vi i] [] c) (fun i x => x = sumI (fun s => if tb t s = true then hvy a s else 0) i.toNat) (fun x h => ?_) (fun i x i0 i1 h k => ?_) (i := 0) (s := 0) (by omega) (by omega) rfl
  · exact sg_X3_heavyOf_4 (by decide) (by omega) (fun _ => ⟨_, rfl, h, rfl⟩) (by omega)
  · refine sg_X3_heavyOf_4 ⟨by omega, by omega⟩ (fun _ _ => ⟨i0, i1⟩) (by omega) (fun _ => k _ ?_)
    rw [sumI_step i0, ← h, h96 i i0 i1]
    by_cases b : tb t i = true
    · rw [if_neg (fun e => by rw [bit_0 i0 (by omega), b] at e; exact absurd e (by decide)), if_pos b]
    · rw [if_pos ((bit_0 i0 (by omega)).2 (by simpa using b)), if_neg b]; omega
theorem ct_pairsIn {E : Nat × (Nat → Int32)} {c a : Mem} {t : Int} (h98 : ∀ s : Int, 0 ≤ s → s < 6 → c 98 s = pairsL a s) : K_X3_pairsIn E [.ref 93, vi t] c (fun z c' => z = inS a t ∧ c' = c) := by
  refine en_X3_pairsIn (sg_X3_pairsIn_0 ?_)
  refine up_loop (i0 := 0) (n := 6) (fun i (x : Int) => GM E _ _ 4 [.ref 93, vi t, vi x, vi i] [] c) (fun i x => x = sumI (fun s => if tb t s = true then pairsL a s else 0) i.toNat) (fun x h => ?_) (fun i x i0 i1 h k => ?_) (i := 0) (s := 0) (by omega) (by omega) rfl
  · exact sg_X3_pairsIn_4 (by decide) (by omega) (fun _ => ⟨_, rfl, h, rfl⟩) (by omega)
  · refine sg_X3_pairsIn_4 ⟨by omega, by omega⟩ (fun _ _ => ⟨i0, i1⟩) (by omega) (fun _ => k _ ?_)
    rw [sumI_step i0, ← h, h98 i i0 i1]
    by_cases b : tb t i = true
    · rw [if_neg (fun e => by rw [bit_0 i0 (by omega), b] at e; exact absurd e (by decide)), if_pos b]
    · rw [if_pos ((bit_0 i0 (by omega)).2 (by simpa using b)), if_neg b]; omega
def StudyFr (c c' : Mem) : Prop := (∀ k, (k < 96 ∨ 99 < k) → k ≠ 93 → c' k = c k) ∧ ∀ j : Int, j ≠ 9 → c' 93 j = c 93 j
theorem ct_study {E : Nat × (Nat → Int32)} {c a : Mem} (hC : CTown c a) (hCS : CSet c a) (hL : CLoads c a) (hT : WTown a) (hS : WSet a) (wl : WLoads a) : K_X3_study E [.ref 93] c (fun c' => (∀ s : Int, 0 ≤ s → s < 6 → c' 98 s = pairsL a s ∧ (0 < pairsL a s → c' 99 s = loN a s (wL a))) ∧ c' 93 9 = (if allB a (wL a) = true then 1 else 0) ∧ StudyFr c c') := by
  have e91 := hC.1
  have n0 := hT.1
  have n6 := hT.2.1
  have e93 := hL.1
  have l0 := wl.1
  have l1 := wl.2.1
  refine en_X3_study (sg_X3_study_0 ?_)
  refine up_loop (i0 := 0) (n := 6) (fun i c1 => GM E _ _ 2 [.ref 93, vi i, un] [] c1) (fun i c1 => (∀ s : Int, 0 ≤ s → s < i → c1 96 s = hvy a s) ∧ ∀ k, k ≠ 96 → c1 k = c k) (fun c1 h => ?_) (fun i c1 i0 i1 h k => ?_) (i := 0) (s := c) (by omega) (by omega) ⟨fun s s0 s1 => by omega, fun _ _ => rfl⟩
  · obtain ⟨h96, f1⟩ := h
    have e1 : c1 9 1 = a 169 3 := by rw [f1 9 (by decide)]; exact e91
    refine sg_X3_study_2 (by decide) (fun q => absurd (by decide) q) (fun q => absurd (by decide) q) (fun _ => ?_) (fun q => absurd (by decide) q) (fun q => absurd (by decide) q)
    refine up_loop (i0 := 0) (n := a 169 62) (fun i c2 => GM E _ _ 67 [.ref 93, vi i, un] [] c2) (fun i c2 => (∀ k : Int, 0 ≤ k → k < i → c2 97 k = exL a k) ∧ c2 93 9 = (if allB a i.toNat = true then 1 else 0) ∧ (∀ k, k ≠ 93 → k ≠ 97 → c2 k = c1 k) ∧ ∀ j : Int, j ≠ 9 → c2 93 j = c1 93 j) (fun c2 h => ?_) (fun i c2 i0 i1 h k => ?_) (i := 0) (by omega) (by omega) ⟨fun k k0 k1 => by omega, up2_same _ _ _ _, fun k k1 _ => up2_k k1, fun j hj => up2_j hj⟩
    · obtain ⟨h97, h9, f2, f3⟩ := h
      have e4 : c2 93 4 = a 169 62 := by rw [f3 4 (by decide), f1 93 (by decide)]; exact e93
      have go : ∀ (d : Nat) (s : Int) (c3 : Mem), 0 ≤ s → s + d = 6 → (∀ t : Int, 0 ≤ t → t < s → c3 98 t = pairsL a t ∧ (0 < pairsL a t → c3 99 t = loN a t (wL a))) → (∀ k, k ≠ 98 → k ≠ 99 → c3 k = c2 k) → GM E (m_X3_study 3) (Pv fun c' => (∀ s : Int, 0 ≤ s → s < 6 → c' 98 s = pairsL a s ∧ (0 < pairsL a s → c' 99 s = loN a s (wL a))) ∧ c' 93 9 = (if allB a (wL a) = true then 1 else 0) ∧ StudyFr c c') 137 [.ref 93, vi s, un] [] c3 := by
        intro d
        induction d with
        | zero =>
          intro s c3 s0 sd q1 q2
          refine sg_X3_study_137 ⟨by omega, by omega⟩ (fun _ => ⟨rfl, fun t t0 t6 => q1 t t0 (by omega), by rw [q2 93 (by decide) (by decide)]; exact h9, fun k k1 k2 => ?_, fun j hj => ?_⟩) (by omega)
          · rw [q2 k (by omega) (by omega), f2 k k2 (by omega), f1 k (by omega)]
          · rw [q2 93 (by decide) (by decide), f3 j hj, f1 93 (by decide)]
        | succ d ih =>
          intro s c3 s0 sd q1 q2
          refine sg_X3_study_137 ⟨by omega, by omega⟩ (by omega) (fun _ => ?_)
          have e : ∀ k, k ≠ 93 → (k < 96 ∨ 99 < k) → c3 k = c k := fun k k1 k2 => by rw [q2 k (by omega) (by omega), f2 k k1 (by omega), f1 k (by omega)]
          refine ca_X3_study_153 (ct_findPairs (hC.fr (e 9 (by decide) (by decide)) (fun s hs => ⟨e _ (by omega) (by omega), e _ (by omega) (by omega)⟩)) (hL.fr (by rw [q2 93 (by decide) (by decide), f3 4 (by decide), f1 93 (by decide)]) (e 94 (by decide) (by decide)) (e 95 (by decide) (by decide))) hT hS wl s0 (by omega) (fun k k0 k1 => by rw [q2 97 (by decide) (by decide)]; exact h97 k k0 k1)) (fun z c4 hz => sg_X3_study_156 ⟨s0, by omega⟩ ?_)
          obtain ⟨z1, z2, z3, z4⟩ := hz
          refine ih (s + 1) _ (by omega) (by omega) (fun t t0 t1 => ?_) (fun k k1 k2 => by rw [up2_k k1, z3 k k2, q2 k k1 k2])
          by_cases ct : t = s
          · subst ct
            rw [up2_same, up2_k (by decide)]
            exact ⟨z1, z2⟩
          · rw [up2_j ct, up2_k (by decide), z3 98 (by decide), z4 t ct]
            exact q1 t t0 (by omega)
      have fin := go 6 0 c2 (by omega) (by omega) (fun t t0 t1 => by omega) (fun _ _ _ => rfl)
      exact sg_X3_study_67 ⟨by omega, by omega⟩ (by rw [e4]; constructor <;> omega) (by rw [e4]; omega) (fun _ => fin) (by rw [e4]; omega) (by rw [e4]; omega)
    · obtain ⟨h97, h9, f2, f3⟩ := h
      have e4 : c2 93 4 = a 169 62 := by rw [f3 4 (by decide), f1 93 (by decide)]; exact e93
      obtain ⟨e94, e95⟩ := hL.2 i i0 i1
      have e94' : c2 94 i = a 201 i := by rw [f2 94 (by decide) (by decide), f1 94 (by decide)]; exact e94
      have e95' : c2 95 i = a 202 i := by rw [f2 95 (by decide) (by decide), f1 95 (by decide)]; exact e95
      have ei : ((i.toNat : Nat) : Int) = i := Int.toNat_of_nonneg i0
      have er := exL_rng (k := i) hT hS wl i0 i1
      refine sg_X3_study_67 ⟨by omega, by omega⟩ (by rw [e4]; constructor <;> omega) (fun _ _ => ⟨i0, by omega⟩) (by rw [e4]; omega) (by omega) (fun _ _ => ?_)
      rw [e94', e95']
      refine ca_X3_study_99 (ct_heavyOf (a := a) (fun s s0 s6 => by rw [f2 96 (by decide) (by decide)]; exact h96 s s0 s6)) (fun z c3 hz => ?_)
      obtain ⟨ez, e3⟩ := hz
      subst e3
      have ex : a 202 i - z = exL a i := by rw [ez]; rfl
      have es : allB a (i + 1).toNat = (allB a i.toNat && exL a i == 0) := by rw [show (i + 1).toNat = i.toNat + 1 by omega, allB, ei]
      have u97 : ∀ x : Int, up2 c3 97 i (a 202 i - z) 97 i = exL a i := fun _ => (up2_same _ _ _ _).trans ex
      refine sg_X3_study_102 ⟨i0, by omega⟩ (by rw [h9]; split <;> decide) (fun _ => ⟨i0, by omega⟩) (fun _ => by rw [u97 0]; constructor <;> omega) (fun g => k _ ?_) (fun g g2 => k _ ?_) (fun g g2 => k _ ?_)
      all_goals refine ⟨fun k k0 k1 => ?_, ?_, fun k k1 k2 => by rw [up2_k k1, up2_k k2, f2 k k1 k2], fun j hj => by rw [up2_j hj, up2_k (by decide), f3 j hj]⟩
      all_goals try rw [up2_same, es]
      · rw [up2_k (by decide)]
        by_cases ck : k = i
        · subst ck; exact (up2_same _ _ _ _).trans ex
        · rw [up2_j ck]; exact h97 k k0 (by omega)
      · rw [h9] at g
        have : allB a i.toNat = false := by
          rcases x : allB a i.toNat with _ | _
          · rfl
          · rw [x] at g; exact absurd g (by decide)
        rw [this]; rfl
      · rw [up2_k (by decide)]
        by_cases ck : k = i
        · subst ck; exact (up2_same _ _ _ _).trans ex
        · rw [up2_j ck]; exact h97 k k0 (by omega)
      · rw [u97 0] at g2
        have : (exL a i == 0) = false := by simpa using g2
        rw [this, Bool.and_false]; rfl
      · rw [up2_k (by decide)]
        by_cases ck : k = i
        · subst ck; exact (up2_same _ _ _ _).trans ex
        · rw [up2_j ck]; exact h97 k k0 (by omega)
      · rw [u97 0] at g2
        have h9' : allB a i.toNat = true := by
          rcases x : allB a i.toNat with _ | _
          · rw [h9, x] at g; exact absurd rfl g
          · rfl
        rw [h9', g2]; rfl
  · obtain ⟨h96, f1⟩ := h
    have e1 : c1 9 1 = a 169 3 := by rw [f1 9 (by decide)]; exact e91
    have hC1 : CTown c1 a := hC.fr (f1 9 (by decide)) (fun s hs => ⟨f1 _ (by omega), f1 _ (by omega)⟩)
    have hS1 : CSet c1 a := hCS.fr (f1 4 (by decide))
    refine sg_X3_study_2 ⟨by omega, by omega⟩ (by rw [e1]; omega) (fun _ _ => ⟨i0, i1⟩) (by omega) (fun _ p => ?_) (fun _ p => k _ ⟨fun s s0 s1 => ?_, fun k hk => by rw [up2_k hk, f1 k hk]⟩)
    · have m := streetMem i.toNat (by omega)
      have wt := (hC1.s p.1 (by omega) n6).2.2.2.2.2.2.2
      refine ca_X3_study_39 m (ct_bins m (fun h h0 h1 => by
        have := hT.w (b := 16 * i + h) (by omega) (by omega)
        rw [wt h h0 h1]; constructor <;> omega)) (fun z c3 hz => sg_X3_study_42 m ?_)
      obtain ⟨e3, z2, z3⟩ := hz
      subst e3
      refine ca_X3_study_50 (ct_weigh m) (fun y c4 hy => sg_X3_study_53 m ⟨i0, i1⟩ (k _ ⟨fun s s0 s1 => ?_, fun k hk => by rw [up2_k hk, hy.1, f1 k hk]⟩))
      by_cases cs : s = i
      · subst cs
        rw [up2_same, hy.2]
        unfold hvy
        rw [if_pos (by omega)]
        refine sumI_congr (fun h h0 h1 => ?_)
        show (if tb z h = true then divI ((c3 (11 + 2 * s.toNat + 1) h * c3 4 3) * (10 + c3 4 2)) 10 else 0) = hv a (16 * s + h) (a 179 2)
        rw [wt h h0 (by omega), hS1 3 (by decide) (by decide), hS1 2 (by decide) (by decide), z3 h h0 (by omega), wt h h0 (by omega)]
        by_cases cw : a 178 (16 * s + h) = 0
        · rw [if_neg (by simp [cw])]
          unfold hv
          rw [cw, Int.zero_mul, Int.zero_mul]
          decide
        · rw [if_pos (by simp [cw])]
          rfl
      · rw [up2_j cs, hy.1]; exact h96 s s0 (by omega)
    · by_cases cs : s = i
      · subst cs
        rw [up2_same]
        unfold hvy
        rw [if_neg (by omega)]
      · rw [up2_j cs]; exact h96 s s0 (by omega)
