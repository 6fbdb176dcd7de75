/-! rubble, whose, next: the class -/
theorem CQ.study {c m c' : Mem} {n : Int} {f : Int → Int} (j : StudyFr c m) (q : CQ m c' n f) : CQ c c' n f := by
  obtain ⟨q1, q2, q3, q4, q5, q6, q7, q8⟩ := q
  refine ⟨q1, q2, fun k hk h8 => (q3 k hk h8).trans (j.1 k (by have := hk.ne; omega) (by have := hk.ne; omega)), q4.trans (j.2 4 (by decide)), fun x hx => (q5 x hx).trans (by rw [j.1 5 (by omega) (by omega)]), q6.trans (j.1 6 (by omega) (by omega)), q7.trans (j.1 7 (by omega) (by omega)), fun k hk => (q8 k hk).trans (j.1 k (by omega) (by omega))⟩
theorem CQ.studyS {c m a : Mem} (h : CR0 c a) (j : StudyFr c m) : CQ c m (a 169 1) (a 170) := by
  refine CQ.study j ⟨?_, fun x x0 x1 => ?_, fun _ _ _ => rfl, rfl, fun _ _ => rfl, rfl, rfl, fun _ _ => rfl⟩
  · rw [j.1 0 (by omega) (by omega)]; exact h.row.1
  · rw [j.1 168 (by omega) (by omega)]; exact h.row.2 x x0 x1
theorem CQ.zero {c : Mem} {f : Int → Int} : CQ c (up2 c 0 14 0) 0 f := CQ.of2 (fun k h0 h8 => up2_k h0) (up2_same _ _ _ _) (fun j j0 j1 => by omega)
theorem CQ.four {c : Mem} {x y z w : Int} : CQ c (up2 (up2 (up2 (up2 (up2 (up2 (up2 (up2 (up2 c 0 14 0) 168 0 x) 0 14 1) 168 1 y) 0 14 2) 168 2 z) 0 14 3) 168 3 w) 0 14 4) 4 (rwL [x, y, z, w]) := by
  refine CQ.of2 (fun k h0 h8 => by rw [up2_k h0, up2_k h8, up2_k h0, up2_k h8, up2_k h0, up2_k h8, up2_k h0, up2_k h8, up2_k h0]) (up2_same _ _ _ _) (fun j j0 j1 => ?_)
  have : j = 0 ∨ j = 1 ∨ j = 2 ∨ j = 3 := by omega
  rcases this with rfl | rfl | rfl | rfl
  · rw [up2_k (by decide), up2_j (by decide), up2_k (by decide), up2_j (by decide), up2_k (by decide), up2_j (by decide), up2_k (by decide), up2_same]; rfl
  · rw [up2_k (by decide), up2_j (by decide), up2_k (by decide), up2_j (by decide), up2_k (by decide), up2_same]; rfl
  · rw [up2_k (by decide), up2_j (by decide), up2_k (by decide), up2_same]; rfl
  · rw [up2_k (by decide), up2_same]; rfl
theorem CQ.then {c c1 c2 : Mem} {n n2 : Int} {f f2 : Int → Int} (h : CQ c c1 n f) (g : CQ c1 c2 n2 f2) : CQ c c2 n2 f2 := by
  obtain ⟨q1, q2, q3, q4, q5, q6, q7, q8⟩ := h
  obtain ⟨p1, p2, p3, p4, p5, p6, p7, p8⟩ := g
  exact ⟨p1, p2, fun k hk h8 => (p3 k hk h8).trans (q3 k hk h8), p4.trans q4, fun x hx => (p5 x hx).trans (q5 x hx), p6.trans q6, p7.trans q7, fun k hk => (p8 k hk).trans (q8 k hk)⟩
theorem bt_alln : ∀ n : Nat, n ≤ 6 → ∀ i, i < 32 → bt (iI (shlI 1 (n : Int) - 1)) i = decide (i < n) := by decide +kernel
theorem tb_alln {n i : Int} (h0 : 0 ≤ n) (h6 : n ≤ 6) (i0 : 0 ≤ i) (i1 : i < 32) : tb (shlI 1 n - 1) i = decide (i < n) := by
  have en := bt_alln n.toNat (by omega) i.toNat (by omega)
  rw [Int.toNat_of_nonneg h0] at en
  unfold tb
  rw [en]
  simp
  omega
theorem inS_all {a : Mem} (n0 : 0 ≤ a 169 3) (n6 : a 169 3 ≤ 6) : inS a (shlI 1 (a 169 3) - 1) = sumI (pairsL a) (a 169 3).toNat := by
  unfold inS
  have e : sumI (fun s => if tb (shlI 1 (a 169 3) - 1) s = true then pairsL a s else 0) 6 = sumI (pairsL a) 6 := sumI_congr (fun i i0 i1 => by
    show (if tb (shlI 1 (a 169 3) - 1) i = true then pairsL a i else 0) = pairsL a i
    rw [tb_alln n0 n6 i0 (by omega)]
    by_cases c : i < a 169 3
    · simp [c]
    · simp only [c, decide_false, Bool.false_eq_true, if_false]
      unfold pairsL
      rw [if_neg c])
  rw [e]
  have := sumI_split (f := pairsL a) (p := (a 169 3).toNat) (6 - (a 169 3).toNat)
  rw [show (a 169 3).toNat + (6 - (a 169 3).toNat) = 6 by omega] at this
  rw [this, sumI_0 (f := fun i => pairsL a (((a 169 3).toNat : Nat) + i)) (fun i i0 i1 => by
    show pairsL a _ = 0
    unfold pairsL
    rw [if_neg (by omega)]), Int.add_zero]
theorem inS_one {a : Mem} {s : Int} (s0 : 0 ≤ s) (s6 : s < 6) : inS a (shlI 1 s) = pairsL a s := by
  unfold inS
  rw [sumI_pt (f := fun j => if tb (shlI 1 s) j = true then pairsL a j else 0) (g := fun _ => 0) (i := s) (d := pairsL a s) (n := 6) s0 (by omega) (by
    show (if tb (shlI 1 s) s = true then pairsL a s else 0) = 0 + pairsL a s
    rw [tb_one s0 (by omega) s0 (by omega)]
    simp) (fun j j0 j1 ne => by
    show (if tb (shlI 1 s) j = true then pairsL a j else 0) = 0
    rw [tb_one s0 (by omega) j0 (by omega)]
    simp [ne])]
  rw [sumI_0 (f := fun _ => 0) (fun _ _ _ => rfl)]
  omega
def rubF (a : Mem) : Nat → Int → Int
  | 0, _ => -1
  | d + 1, s => if 0 < waysL a s then s else rubF a d (s + 1)
def rubS (a : Mem) : Int := rubF a (a 169 3).toNat 0
theorem rubF_rng {a : Mem} : ∀ (d : Nat) (s : Int), 0 ≤ s → -1 ≤ rubF a d s ∧ rubF a d s < s + d
  | 0, s, _ => by rw [rubF]; omega
  | d + 1, s, h => by
    rw [rubF]
    have := rubF_rng (a := a) d (s + 1) (by omega)
    split <;> omega
def rubN (a : Mem) : Int := if rubS a < 0 then 0 else 4
def rubL (a : Mem) : Int → Int := if rubS a < 0 then rwL [] else rwL [rubS a, 0, 0, loN a (rubS a) (wL a)]
theorem ct_rubble {E : Nat × (Nat → Int32)} {c a : Mem} (h : CR0 c a) (hT : WTown a) (hS : WSet a) (wl : WLoads a) : K_X11_rubble E [.ref 0] c (fun z c' => z = sumI (pairsL a) (a 169 3).toNat ∧ CQ c c' (rubN a) (rubL a)) := by
  have n0 := hT.1
  have n6 := hT.2.1
  have l0 := wl.1
  refine en_X11_rubble (sg_X11_rubble_0 (ca_X11_rubble_4 (ct_study h.town h.set h.loads hT hS wl) (fun c2 hc => sg_X11_rubble_7 ?_)))
  obtain ⟨h98, h9, f⟩ := hc
  have e91 : c2 9 1 = a 169 3 := by rw [f.1 9 (by omega) (by omega)]; exact h.town.1
  have fin : ∀ (s : Int) (c3 : Mem), (∀ k, k ≠ 0 → k ≠ 168 → c3 k = c2 k) → CQ c2 c3 (rubN a) (rubL a) → GM E (m_X11_rubble 4) (Pi fun z c' => z = sumI (pairsL a) (a 169 3).toNat ∧ CQ c c' (rubN a) (rubL a)) 90 [.ref 0, vi s] [vi (shlI 1 (a 169 3) - 1), .ref 93] c3 := by
    intro s c3 e q
    refine ca_X11_rubble_90 (ct_pairsIn (a := a) (fun s s0 s6 => by rw [e 98 (by decide) (by decide)]; exact (h98 s s0 s6).1)) (fun z c4 hz => sg_X11_rubble_93 ⟨_, rfl, ?_, ?_⟩)
    · rw [hz.1, inS_all n0 n6]
    · rw [hz.2]; exact CQ.study f q
  have key : ∀ (d : Nat) (s : Int), 0 ≤ s → s + d = a 169 3 → rubF a d s = rubS a → GM E (m_X11_rubble 4) (Pi fun z c' => z = sumI (pairsL a) (a 169 3).toNat ∧ CQ c c' (rubN a) (rubL a)) 13 [.ref 0, vi s] [] (up2 c2 0 14 0) := by
    intro d
    induction d with
    | zero =>
      intro s s0 sd hr
      have e : up2 c2 0 14 0 9 1 = a 169 3 := by rw [up2_k (by decide)]; exact e91
      refine sg_X11_rubble_13 ⟨by omega, by omega⟩ (by rw [e]; constructor <;> omega) (fun _ => ?_) (by rw [e]; omega)
      rw [e]
      refine fin s _ (fun k k1 _ => up2_k k1) ?_
      have : rubS a < 0 := by rw [← hr, rubF]; decide
      unfold rubN rubL
      rw [if_pos this, if_pos this]
      exact CQ.zero
    | succ d ih =>
      intro s s0 sd hr
      have e : up2 c2 0 14 0 9 1 = a 169 3 := by rw [up2_k (by decide)]; exact e91
      have pr := pairsL_rng (s := s) hT hS wl s0
      refine sg_X11_rubble_13 ⟨by omega, by omega⟩ (by rw [e]; constructor <;> omega) (by rw [e]; omega) (fun _ => ?_)
      refine ca_X11_rubble_31 (ct_pairsIn (a := a) (fun s s0 s6 => by rw [up2_k (by decide)]; exact (h98 s s0 s6).1)) (fun z c4 hz => ?_)
      obtain ⟨ez, e4⟩ := hz
      subst e4
      rw [inS_one s0 (by omega)] at ez
      have r1 := loN_rng (s := s) hT hS wl (wL a) (by unfold wL; omega)
      have e99 : 0 < pairsL a s → up2 c2 0 14 0 99 s = loN a s (wL a) := fun g => by rw [up2_k (by decide)]; exact (h98 s s0 (by omega)).2 g
      refine sg_X11_rubble_34 (by rw [ez]; constructor <;> omega) ⟨by omega, by omega⟩ (fun _ => ⟨s0, by omega⟩) (fun g => by rw [e99 (by omega)]; constructor <;> omega) (fun g => ?_) (fun g => ?_)
      · refine ih (s + 1) (by omega) (by omega) ?_
        rw [← hr, rubF, if_neg (fun o => by have := (pr.2.2 (by omega)).2 o; omega)]
      · have g1 : 0 < pairsL a s := by omega
        have es : rubS a = s := by rw [← hr, rubF, if_pos ((pr.2.2 (by omega)).1 g1)]
        rw [e99 g1, e]
        refine fin s _ (fun k h0 h8 => by rw [up2_k h0, up2_k h8, up2_k h0, up2_k h8, up2_k h0, up2_k h8, up2_k h0, up2_k h8, up2_k h0, up2_k h0]) ?_
        unfold rubN rubL
        rw [es, if_neg (by omega), if_neg (by omega)]
        exact (CQ.zero (f := rwL [])).then CQ.four
  exact key (a 169 3).toNat 0 (by omega) (by omega) rfl
def whoB (a : Mem) : Nat → Int
  | 0 => 0
  | n + 1 => if 0 < waysL a n then borI (whoB a n) (shlI 1 n) else whoB a n
theorem whoB_rng {a : Mem} : ∀ n : Nat, RI (whoB a n)
  | 0 => by show RI 0; decide
  | n + 1 => by
    rw [whoB]
    split
    · exact borI_rng _ _
    · exact whoB_rng n
theorem ct_whose {E : Nat × (Nat → Int32)} {c a : Mem} (h : CR0 c a) (hT : WTown a) (hS : WSet a) (wl : WLoads a) : K_X11_whose E [.ref 0] c (fun z c' => z = whoB a (a 169 3).toNat ∧ CQ c c' 1 (rwL [if allB a (wL a) = true then 1 else 0])) := by
  have n0 := hT.1
  have n6 := hT.2.1
  refine en_X11_whose (sg_X11_whose_0 (ca_X11_whose_4 (ct_study h.town h.set h.loads hT hS wl) (fun c2 hc => sg_X11_whose_7 ?_)))
  obtain ⟨h98, h9, f⟩ := hc
  have e91 : c2 9 1 = a 169 3 := by rw [f.1 9 (by omega) (by omega)]; exact h.town.1
  refine up_loop (i0 := 0) (n := a 169 3) (fun s (x : Int) => GM E _ _ 11 [.ref 0, vi x, vi s] [] c2) (fun s x => x = whoB a s.toNat) (fun x hx => ?_) (fun s x s0 s1 hx k => ?_) (i := 0) (s := 0) (by omega) (by omega) rfl
  · refine sg_X11_whose_11 ⟨by omega, by omega⟩ (by rw [e91]; constructor <;> omega) (fun _ => by rw [h9]; split <;> decide) (fun _ g => ⟨_, rfl, hx, ?_⟩) (fun _ g => ⟨_, rfl, hx, ?_⟩) (by rw [e91]; omega)
    all_goals rw [h9] at g
    · have : ¬ allB a (wL a) = true := fun o => by rw [if_pos o] at g; exact absurd g (by decide)
      rw [if_neg this]
      exact CQ.study f CQ.one
    · have : allB a (wL a) = true := by
        rcases x : allB a (wL a) with _ | _
        · rw [x] at g; exact absurd rfl g
        · rfl
      rw [if_pos this]
      exact CQ.study f CQ.one
  · refine sg_X11_whose_11 ⟨by omega, by omega⟩ (by rw [e91]; constructor <;> omega) (by rw [e91]; omega) (by rw [e91]; omega) (by rw [e91]; omega) (fun _ => ?_)
    have pr := pairsL_rng (s := s) hT hS wl s0
    refine ca_X11_whose_29 (ct_pairsIn (a := a) (fun s s0 s6 => (h98 s s0 s6).1)) (fun z c4 hz => ?_)
    obtain ⟨ez, e4⟩ := hz
    subst e4
    rw [inS_one s0 (by omega)] at ez
    refine sg_X11_whose_32 (by rw [ez]; constructor <;> omega) (k _ ?_)
    rw [show (s + 1).toNat = s.toNat + 1 by omega, whoB, Int.toNat_of_nonneg s0, hx, ez]
    by_cases g : 0 < waysL a s
    · have := (pr.2.2 (by omega)).2 g
      rw [if_pos g, if_neg (by omega)]
    · have : ¬ 0 < pairsL a s := fun o => g ((pr.2.2 (by omega)).1 o)
      rw [if_neg g, if_pos (by omega)]
def nextG (a : Mem) (all : Int) : Nat → Int × Int
  | 0 => (all, 0)
  | k + 1 => if (nextG a all k).1 ≤ max (inS a (k + 1)) (all - inS a (k + 1)) then nextG a all k else (max (inS a (k + 1)) (all - inS a (k + 1)), k + 1)
theorem nextG_rng {a : Mem} {all : Int} (hT : WTown a) (hS : WSet a) (wl : WLoads a) (h0 : 0 ≤ all) (h1 : all ≤ 9504) : ∀ k : Nat, -9504 ≤ (nextG a all k).1 ∧ (nextG a all k).1 ≤ 9504 ∧ 0 ≤ (nextG a all k).2 ∧ (nextG a all k).2 ≤ k
  | 0 => by
    show -9504 ≤ all ∧ all ≤ 9504 ∧ 0 ≤ (0 : Int) ∧ (0 : Int) ≤ ((0 : Nat) : Int)
    omega
  | k + 1 => by
    have ih := nextG_rng hT hS wl h0 h1 k
    have r := inS_rng (t := (k : Int) + 1) hT hS wl
    rw [nextG]
    split
    · omega
    · show -9504 ≤ max (inS a (k + 1)) (all - inS a (k + 1)) ∧ max (inS a (k + 1)) (all - inS a (k + 1)) ≤ 9504 ∧ 0 ≤ (k : Int) + 1 ∧ (k : Int) + 1 ≤ ((k + 1 : Nat) : Int)
      omega
def rubA (a : Mem) : Int := sumI (pairsL a) (a 169 3).toNat
def nextR (a : Mem) : Int × Int := nextG a (rubA a) (shlI 1 (a 169 3) - 1).toNat
theorem rubA_rng {a : Mem} (hT : WTown a) (hS : WSet a) (wl : WLoads a) : 0 ≤ rubA a ∧ rubA a ≤ 9504 := by
  have n0 := hT.1
  have n6 := hT.2.1
  have := inS_rng (t := shlI 1 (a 169 3) - 1) hT hS wl
  rw [inS_all n0 n6] at this
  exact this
theorem ct_next {E : Nat × (Nat → Int32)} {c a : Mem} (h : CR0 c a) (hT : WTown a) (hS : WSet a) (wl : WLoads a) : K_X11_next E [.ref 0] c (fun z c' => (rubA a ≠ 0 ∧ z = (nextR a).2 ∧ CQ c c' 1 (rwL [(nextR a).1])) ∨ (¬ rubA a ≠ 0 ∧ z = -2 ∧ CQ c c' (a 169 1) (a 170))) := by
  have n0 := hT.1
  have n6 := hT.2.1
  have ra := rubA_rng hT hS wl
  have e2 := shlN n0 n6
  have p6 := pow6 (k := (a 169 3).toNat) (by omega)
  refine en_X11_next (sg_X11_next_0 (ca_X11_next_4 (ct_study h.town h.set h.loads hT hS wl) (fun c2 hc => sg_X11_next_7 ?_)))
  obtain ⟨h98, h9, f⟩ := hc
  have e91 : c2 9 1 = a 169 3 := by rw [f.1 9 (by omega) (by omega)]; exact h.town.1
  rw [e91]
  refine ca_X11_next_22 (ct_pairsIn (a := a) (fun s s0 s6 => (h98 s s0 s6).1)) (fun z c3 hz => ?_)
  obtain ⟨ez, e3⟩ := hz
  subst e3
  rw [inS_all n0 n6] at ez
  have ez : z = rubA a := ez
  subst ez
  refine sg_X11_next_25 ⟨by omega, by omega⟩ (fun g => ?_) (fun g => ⟨_, rfl, Or.inr ⟨fun o => o g, rfl, CQ.studyS h f⟩⟩)
  refine up_loop (i0 := 1) (n := shlI 1 (a 169 3)) (fun i (x : Int × Int) => GM E _ _ 40 [.ref 0, vi (rubA a), vi x.1, vi x.2, vi i, un, un] [] c3) (fun i x => x = nextG a (rubA a) (i - 1).toNat) (fun x hx => ?_) (fun i x i0 i1 hx k => ?_) (i := 1) (s := (rubA a, 0)) (by omega) (by omega) rfl
  · have nr := nextG_rng hT hS wl ra.1 ra.2 (shlI 1 (a 169 3) - 1).toNat
    rw [← hx] at nr
    refine sg_X11_next_40 ⟨by omega, by omega⟩ ⟨by omega, by omega⟩ (fun _ => ⟨_, rfl, Or.inl ⟨g, ?_, ?_⟩⟩) (by rw [e91]; omega)
    · rw [hx]; rfl
    · rw [hx]
      exact CQ.study f CQ.one
  · have nr := nextG_rng hT hS wl ra.1 ra.2 (i - 1).toNat
    rw [← hx] at nr
    have r := inS_rng (t := i) hT hS wl
    refine sg_X11_next_40 ⟨by omega, by omega⟩ ⟨by omega, by omega⟩ (by rw [e91]; omega) (fun _ => ?_)
    refine ca_X11_next_60 (ct_pairsIn (a := a) (fun s s0 s6 => (h98 s s0 s6).1)) (fun z c4 hz => ?_)
    obtain ⟨ez, e4⟩ := hz
    subst e4
    subst ez
    have kk : ∀ x1 x2 : Int, (x1, x2) = nextG a (rubA a) (i + 1 - 1).toNat → GM E _ _ 40 [.ref 0, vi (rubA a), vi x1, vi x2, vi (i + 1), un, un] [] c4 := fun x1 x2 hx => k (x1, x2) hx
    refine sg_X11_next_63 ⟨by omega, by omega⟩ ⟨by omega, by omega⟩ ⟨by omega, by omega⟩ ⟨by omega, by omega⟩ (kk _ _ ?_)
    rw [show (i + 1 - 1).toNat = (i - 1).toNat + 1 by omega, nextG, ← hx, show (((i - 1).toNat : Nat) : Int) + 1 = i by omega]
    by_cases c : x.1 ≤ max (inS a i) (rubA a - inS a i)
    · rw [if_pos c, if_pos c, if_pos c]
    · rw [if_neg c, if_neg c, if_neg c]
