/-! seconds of streets and days -/
def secS (a : Mem) (v : (Int → Int) → Int) (s : Int) : Int := if s < a 169 3 then bestS a v (a 180) s else 0
def dayS (a : Mem) (v : (Int → Int) → Int) (d : Int) (n : Nat) : Int := sumI (fun s => if a 175 s = d then bestS a v (a 180) s else 0) n
theorem bestS_rng {a : Mem} {v : (Int → Int) → Int} {s B : Int} (hT : WTown a) (hS : WSet a) (hn : StOK B a (a 180)) (s0 : 0 ≤ s) (s6 : s < 6) : 0 ≤ bestS a v (a 180) s ∧ bestS a v (a 180) s ≤ 17712 := BT_rng hT hS s0 s6 hn.r3
theorem dayS_rng {a : Mem} {v : (Int → Int) → Int} {d B : Int} (hT : WTown a) (hS : WSet a) (hn : StOK B a (a 180)) {n : Nat} (h : n ≤ 6) : 0 ≤ dayS a v d n ∧ dayS a v d n ≤ 106272 := by
  have := sumI_bound (f := fun s => if a 175 s = d then bestS a v (a 180) s else 0) (c := 17712) (n := n) (fun i i0 i1 => by
    have := bestS_rng (v := v) (s := i) hT hS hn i0 (by omega)
    show 0 ≤ (if a 175 i = d then bestS a v (a 180) i else 0) ∧ (if a 175 i = d then bestS a v (a 180) i else 0) ≤ 17712
    split <;> omega)
  unfold dayS
  omega
/-- what the class holds of days -/
def DaysOK (a : Mem) (v : (Int → Int) → Int) (n : Int) (c : Mem) : Prop := (∀ s : Int, 0 ≤ s → s < 6 → c 148 s = if s < n then bestS a v (a 180) s else 0) ∧ ∀ d : Int, 0 ≤ d → d < 7 → c 149 d = dayS a v d n.toNat
def DayFr (c c' : Mem) : Prop := (∀ q, (q < 100 ∨ 105 < q) → q ≠ 148 → q ≠ 149 → q ≠ 8 → q ≠ 5 → c' q = c q) ∧ ∀ x : Int, x ≠ 5 → c' 5 x = c 5 x
theorem ct_measureDays {E : Nat × (Nat → Int32)} {c a : Mem} {v : (Int → Int) → Int} {B : Int} (h : CR0 c a) (hR : RuleC c v) (hT : WTown a) (hS : WSet a) (hn : StOK B a (a 180)) : K_X11_measureDays E [.ref 0] c (fun c' => DaysOK a v (a 169 3) c' ∧ DayFr c c') := by
  have n0 := hT.1
  have n6 := hT.2.1
  have m1 := hS.2.2.1
  have m4 := hS.2.2.2.1
  refine en_X11_measureDays (sg_X11_measureDays_0 ?_)
  have clr : K_X0_clear E [.ref 147] c (fun c' => DaysOK a v 0 c' ∧ DayFr c c') := by
    refine en_X0_clear (sg_X0_clear_0 (ca_X0_clear_5 (ct_fill (n := 6) (by decide) (by decide) (by decide)) (fun c1 h1 => sg_X0_clear_8 (ca_X0_clear_13 (ct_fill (n := 7) (by decide) (by decide) (by decide)) (fun c2 h2 => sg_X0_clear_16 ⟨rfl, ⟨fun s s0 s6 => ?_, fun d d0 d7 => ?_⟩, fun q q0 q1 q2 q3 q4 => ?_, fun x hx => ?_⟩)))))
    · rw [h2, if_neg (by omega), h1, if_pos (by omega), if_neg (by omega)]
    · rw [h2, if_pos (by omega)]; rfl
    · funext j
      rw [h2, if_neg (by omega), h1, if_neg (by omega)]
    · rw [h2, if_neg (by omega), h1, if_neg (by omega)]
  refine ca_X11_measureDays_4 clr (fun c1 h1 => sg_X11_measureDays_7 ?_)
  have key : ∀ (d : Nat) (s : Int) (c2 : Mem), 0 ≤ s → s + d = a 169 3 → DaysOK a v s c2 → DayFr c c2 → GM E (m_X11_measureDays 6) (Pv fun c' => DaysOK a v (a 169 3) c' ∧ DayFr c c') 9 [.ref 0, vi s, un] [] c2 := by
    intro d
    induction d with
    | zero =>
      intro s c2 s0 sd q1 q2
      have e : c2 9 1 = a 169 3 := by rw [q2.1 9 (by omega) (by omega) (by omega) (by omega) (by omega)]; exact h.town.1
      refine sg_X11_measureDays_9 ⟨by omega, by omega⟩ (by rw [e]; constructor <;> omega) (by omega) (by omega) (by omega) (fun _ => ⟨rfl, ?_, q2⟩) (by omega) (by omega)
      rw [← show s = a 169 3 by omega]
      exact q1
    | succ d ih =>
      intro s c2 s0 sd q1 q2
      have q : ∀ k, k < 100 → k ≠ 8 → k ≠ 5 → c2 k = c k := fun k k1 k2 k3 => q2.1 k (by omega) (by omega) (by omega) k2 k3
      have e : c2 9 1 = a 169 3 := by rw [q 9 (by omega) (by omega) (by omega)]; exact h.town.1
      have hC2 : CTown c2 a := h.town.fr (q 9 (by omega) (by omega) (by omega)) (fun s hs => ⟨q _ (by omega) (by omega) (by omega), q _ (by omega) (by omega) (by omega)⟩)
      have hS2 : CSet c2 a := h.set.fr (q 4 (by omega) (by omega) (by omega))
      have hN2 : StRel c2 23 (a 180) := h.now.congr (q _ (by omega) (by omega) (by omega)) (q _ (by omega) (by omega) (by omega)) (q _ (by omega) (by omega) (by omega)) (q _ (by omega) (by omega) (by omega))
      have hR2 : RuleC c2 v := hR.fr (fun x hx => q2.2 x hx) (q 6 (by omega) (by omega) (by omega)) (q 7 (by omega) (by omega) (by omega))
      have e41 := hS2 1 (by decide) (by decide)
      have s1 : s < a 169 3 := by omega
      have es := hC2.s s0 s1 n6
      have m := streetMem s.toNat (by omega)
      have sr := streetR1 m
      have t := hT.2.2.1 s s0 (by omega)
      refine sg_X11_measureDays_9 ⟨by omega, by omega⟩ (by rw [e]; constructor <;> omega) (fun _ => by omega) (fun _ _ => by rw [e41]; constructor <;> omega) (fun _ _ => by omega) (by omega) (fun _ p => ?_) (fun _ p => by omega)
      refine ca_X11_measureDays_74 m100 (ct_think (hill := a 173 s) (men := a 179 1) hC2 hS2 hR2 hT hS s0 s1 (by omega) es.2.2.1 ⟨by omega, by omega⟩ ⟨by omega, by omega⟩ hn.r3 (fun k k0 k1 => hN2.out1 s0 (by omega) k0 k1)) (fun z c3 hz => ?_)
      obtain ⟨z1, z2, z3, z4, z5⟩ := hz
      have br := bestH_rng (BT a v (a 180) s)
      have z1 : z = bestH (BT a v (a 180) s) := z1
      refine sg_X11_measureDays_77 m (by rw [z1]; exact br) ?_
      have eb : c3 105 z = bestS a v (a 180) s := by rw [z1]; exact z3 _ br.1 br.2
      rw [eb]
      have hC3 := z5.town (by decide) hC2
      have es3 := hC3.s s0 s1 n6
      have num : c3 (11 + 2 * s.toNat) 0 = s := by
        have := (hC3.2 s.toNat (by omega)).1
        rw [Int.toNat_of_nonneg s0] at this
        exact this
      have d6 := es3.2.2.2.2.1
      have put : K_X0_put E [.ref 147, .ref (11 + 2 * s.toNat), vi (bestS a v (a 180) s)] c3 (fun c' => c' = up2 (up2 c3 148 s (bestS a v (a 180) s)) 149 (a 175 s) (c3 149 (a 175 s) + bestS a v (a 180) s)) := by
        have eu : up2 c3 148 (c3 (11 + 2 * s.toNat) 0) (bestS a v (a 180) s) (11 + 2 * s.toNat) 6 = a 175 s := by rw [up2_k (by omega)]; exact d6
        refine en_X0_put (sg_X0_put_0 m (by rw [num]; constructor <;> omega) (fun _ => by rw [d6]; constructor <;> omega) (fun _ _ _ => by rw [num]; omega) (fun _ _ _ => by rw [eu]; omega) (by rw [num]; omega) (by rw [d6]; omega) (by rw [d6]; omega) (fun _ _ _ => ⟨rfl, ?_⟩))
        rw [eu, num]
      refine ca_X11_measureDays_80 put (fun c4 h4 => sg_X11_measureDays_83 m ?_)
      subst h4
      have a49 : ∀ d : Int, c3 149 d = c2 149 d := fun d => by rw [z5.1 149 (by omega) (by omega) (by omega)]
      refine ih (s + 1) _ (by omega) (by omega) ⟨fun x x0 x6 => ?_, fun d d0 d7 => ?_⟩ ⟨fun q' k1 k2 k3 k4 k5 => ?_, fun x hx => ?_⟩
      · rw [up2_k (by decide)]
        by_cases cx : x = s
        · subst cx; rw [up2_same, if_pos (by omega)]
        · rw [up2_j cx, z5.1 148 (by omega) (by omega) (by omega), q1.1 x x0 x6]
          by_cases c3' : x < s
          · rw [if_pos c3', if_pos (by omega)]
          · rw [if_neg c3', if_neg (by omega)]
      · have step : dayS a v d (s + 1).toNat = dayS a v d s.toNat + if a 175 s = d then bestS a v (a 180) s else 0 := by
          unfold dayS
          rw [sumI_step s0]
        rw [step]
        by_cases cd : d = a 175 s
        · subst cd
          rw [up2_same, a49, q1.2 _ d0 d7, if_pos rfl]
        · rw [up2_j cd, up2_k (by decide), a49, q1.2 d d0 d7, if_neg (fun o => cd o.symm)]; omega
      · rw [up2_k k3, up2_k k2, z5.1 q' (by omega) k4 k5]; exact q2.1 q' k1 k2 k3 k4 k5
      · rw [up2_k (by decide), up2_k (by decide), z5.2 x hx]; exact q2.2 x hx
  exact key (a 169 3).toNat 0 c1 (by omega) (by omega) h1.1 h1.2
theorem mt_laysDays {E : Nat × (Nat → Int32)} {m a : Mem} {v : (Int → Int) → Int} {B : Int} (b : MB a m) (e180 : m 180 = a 180) (hR : RuleM a v) (hT : WTown a) (hS : WSet a) (hn : StOK B a (a 180)) : K_X12_laysDays E [.ref 169] m (fun m' => (∀ d : Int, 0 ≤ d → d < 7 → m' 197 d = dayS a v d (a 169 3).toNat) ∧ (∀ k, k ≠ 197 → k ≠ 189 → k ≠ 169 → k ≠ 187 → k ≠ 188 → m' k = m k) ∧ ∀ j : Int, (j < 30 ∨ 37 < j) → j ≠ 39 → m' 169 j = m 169 j) := by
  have n0 := hT.1
  have n6 := hT.2.1
  refine en_X12_laysDays (sg_X12_laysDays_0 ?_)
  refine up_loop (i0 := 0) (n := 7) (fun d m2 => GM E _ _ 2 [.ref 169, vi d] [] m2) (fun d m2 => (∀ x : Int, 0 ≤ x → x < d → m2 197 x = 0) ∧ ∀ k, k ≠ 197 → m2 k = m k) (fun m2 h => ?_) (fun d m2 d0 d1 h k => ?_) (i := 0) (s := m) (by omega) (by omega) ⟨fun x x0 x1 => by omega, fun _ _ => rfl⟩
  · obtain ⟨h1, f1⟩ := h
    refine sg_X12_laysDays_2 (by decide) (by omega) (fun _ => ?_) (by omega)
    refine up_loop (i0 := 0) (n := a 169 3) (fun s m3 => GM E _ _ 23 [.ref 169, vi s] [] m3) (fun s m3 => (∀ d : Int, 0 ≤ d → d < 7 → m3 197 d = dayS a v d s.toNat) ∧ (∀ k, k ≠ 197 → k ≠ 189 → k ≠ 169 → k ≠ 187 → k ≠ 188 → m3 k = m k) ∧ ∀ j : Int, (j < 30 ∨ 37 < j) → j ≠ 39 → m3 169 j = m 169 j) (fun m3 h => ?_) (fun s m3 s0 s1 h k => ?_) (i := 0) (s := m2) (by omega) (by omega) ⟨fun d d0 d7 => by rw [h1 d d0 d7]; rfl, fun k k1 _ _ _ _ => f1 k k1, fun j _ _ => by rw [f1 169 (by decide)]⟩
    · obtain ⟨q1, q2, q3⟩ := h
      have e3 : m3 169 3 = a 169 3 := by rw [q3 3 (by omega) (by decide)]; exact b.1
      exact sg_X12_laysDays_23 ⟨by omega, by omega⟩ (by rw [e3]; constructor <;> omega) (by rw [e3]; omega) (by rw [e3]; omega) (fun _ => ⟨rfl, q1, q2, q3⟩) (by rw [e3]; omega)
    · obtain ⟨q1, q2, q3⟩ := h
      have e3 : m3 169 3 = a 169 3 := by rw [q3 3 (by omega) (by decide)]; exact b.1
      have t := hT.2.2.1 s s0 (by omega)
      have b3 : MB a m3 := b.trans ⟨q3 3 (by omega) (by decide), q3 26 (by omega) (by decide), fun k k0 k1 => q2 k (by omega) (by omega) (by omega) (by omega) (by omega), q2 185 (by decide) (by decide) (by decide) (by decide) (by decide)⟩
      have e75 : m3 175 = a 175 := b3.2.2.1 175 (by omega) (by omega)
      refine sg_X12_laysDays_23 ⟨by omega, by omega⟩ (by rw [e3]; constructor <;> omega) (fun _ => by omega) (fun _ => by rw [e75]; omega) (by rw [e3]; omega) (fun _ => ?_)
      rw [e75, q1 _ (by omega) (by omega)]
      refine ca_X12_laysDays_45 (mt_bestNow (r0 := a 180) b3 hR hT hS s0 (by omega) (fun c _ _ => by rw [q2 180 (by decide) (by decide) (by decide) (by decide) (by decide), e180]) hn.r3) (fun z m4 hz => sg_X12_laysDays_48 (by omega) (k _ ⟨fun d d0 d7 => ?_, fun k k1 k2 k3 k4 k5 => ?_, fun j j1 j2 => ?_⟩))
      · have step : dayS a v d (s + 1).toNat = dayS a v d s.toNat + if a 175 s = d then bestS a v (a 180) s else 0 := by
          unfold dayS
          rw [sumI_step s0]
        rw [step]
        by_cases cd : d = a 175 s
        · subst cd; rw [up2_same, if_pos rfl, hz.1]
        · rw [up2_j cd, hz.2.2.1.1 197 (by decide) (by decide) (by decide) (by decide), q1 d d0 d7, if_neg (fun o => cd o.symm)]; omega
      · rw [up2_k k1, hz.2.2.1.1 k k2 k3 k4 k5, q2 k k1 k2 k3 k4 k5]
      · rw [up2_k (by decide), hz.2.2.1.2 j j1 j2, q3 j j1 j2]
  · obtain ⟨h1, f1⟩ := h
    refine sg_X12_laysDays_2 ⟨by omega, by omega⟩ (fun _ => ⟨d0, d1⟩) (by omega) (fun _ => k _ ⟨fun x x0 x1 => ?_, fun k hk => by rw [up2_k hk, f1 k hk]⟩)
    by_cases c : x = d
    · subst c; exact up2_same _ _ _ _
    · rw [up2_j c]; exact h1 x x0 (by omega)
/-! busiest -/
def busyG (D : Int → Int) : Nat → Int
  | 0 => 0
  | k + 1 => if D (k + 1) ≤ D (busyG D k) then busyG D k else k + 1
def idleG (D : Int → Int) : Nat → Int
  | 0 => 0
  | k + 1 => if D (idleG D k) ≤ D (k + 1) then idleG D k else k + 1
theorem busyG_rng {D : Int → Int} : ∀ k : Nat, 0 ≤ busyG D k ∧ busyG D k ≤ k
  | 0 => by show 0 ≤ (0 : Int) ∧ (0 : Int) ≤ ((0 : Nat) : Int); omega
  | k + 1 => by
    have := busyG_rng (D := D) k
    rw [busyG]
    split <;> omega
theorem idleG_rng {D : Int → Int} : ∀ k : Nat, 0 ≤ idleG D k ∧ idleG D k ≤ k
  | 0 => by show 0 ≤ (0 : Int) ∧ (0 : Int) ≤ ((0 : Nat) : Int); omega
  | k + 1 => by
    have := idleG_rng (D := D) k
    rw [idleG]
    split <;> omega
def dayF (a : Mem) (v : (Int → Int) → Int) : Int → Int := fun d => dayS a v d (a 169 3).toNat
theorem CQ.days {c m c' : Mem} {n : Int} {f : Int → Int} (j : DayFr c m) (q : CQ m c' n f) : CQ c c' n f := by
  obtain ⟨q1, q2, q3, q4, q5, q6, q7, q8⟩ := q
  exact ⟨q1, q2, fun k hk h8 => (q3 k hk h8).trans (j.1 k (by have := hk.ne; omega) (by have := hk.ne; omega) (by have := hk.ne; omega) (by have := hk.ne; omega) (by have := hk.ne; omega)), q4.trans (by rw [j.1 93 (by omega) (by omega) (by omega) (by omega) (by omega)]), fun x hx => (q5 x hx).trans (j.2 x hx), q6.trans (j.1 6 (by omega) (by omega) (by omega) (by omega) (by omega)), q7.trans (j.1 7 (by omega) (by omega) (by omega) (by omega) (by omega)), fun k hk => (q8 k hk).trans (j.1 k (by omega) (by omega) (by omega) (by omega) (by omega))⟩
theorem CQ.daysS {c m a : Mem} (h : CR0 c a) (j : DayFr c m) : CQ c m (a 169 1) (a 170) := by
  refine CQ.days j ⟨?_, fun x x0 x1 => ?_, fun _ _ _ => rfl, rfl, fun _ _ => rfl, rfl, rfl, fun _ _ => rfl⟩
  · rw [j.1 0 (by omega) (by omega) (by omega) (by omega) (by omega)]; exact h.row.1
  · rw [j.1 168 (by omega) (by omega) (by omega) (by omega) (by omega)]; exact h.row.2 x x0 x1
theorem ct_busiest {E : Nat × (Nat → Int32)} {c a : Mem} {v : (Int → Int) → Int} {B : Int} (h : CR0 c a) (hR : RuleC c v) (hT : WTown a) (hS : WSet a) (hn : StOK B a (a 180)) : K_X11_busiest E [.ref 0] c (fun z c' => z = busyG (dayF a v) 6 ∧ CQ c c' 2 (rwL [dayF a v (busyG (dayF a v) 6), dayF a v (idleG (dayF a v) 6)])) := by
  have n0 := hT.1
  have n6 := hT.2.1
  refine en_X11_busiest (sg_X11_busiest_0 (ca_X11_busiest_1 (ct_measureDays h hR hT hS hn) (fun c2 h2 => sg_X11_busiest_4 ?_)))
  obtain ⟨hd, f⟩ := h2
  have D : ∀ d : Int, 0 ≤ d → d < 7 → c2 149 d = dayF a v d := fun d d0 d7 => hd.2 d d0 d7
  have R : ∀ d : Int, RI (dayF a v d) := fun d => by
    have := dayS_rng (v := v) (d := d) hT hS hn (n := (a 169 3).toNat) (by omega)
    unfold dayF
    constructor <;> omega
  have key : ∀ (k j : Nat), j + k = 6 → GM E (m_X11_busiest 7) (Pi fun z c' => z = busyG (dayF a v) 6 ∧ CQ c c' 2 (rwL [dayF a v (busyG (dayF a v) 6), dayF a v (idleG (dayF a v) 6)])) 10 [.ref 0, vi (busyG (dayF a v) j), vi (idleG (dayF a v) j), vi ((j : Int) + 1)] [] c2 := by
    intro k
    induction k with
    | zero =>
      intro j hj
      have e : j = 6 := by omega
      subst e
      have br := busyG_rng (D := dayF a v) 6
      have ir := idleG_rng (D := dayF a v) 6
      have b7 : 0 ≤ busyG (dayF a v) 6 ∧ busyG (dayF a v) 6 < 7 := by omega
      have i7 : 0 ≤ idleG (dayF a v) 6 ∧ idleG (dayF a v) 6 < 7 := by omega
      refine sg_X11_busiest_10 (by decide) (fun _ => b7) (fun _ => by rw [D _ b7.1 b7.2]; exact R _) (fun _ => i7) (fun _ => by rw [D _ i7.1 i7.2]; exact R _) (fun q => absurd (by decide) q) (fun q => absurd (by decide) q) (fun q => absurd (by decide) q) (fun q => absurd (by decide) q) (fun q => absurd (by decide) q) (fun q => absurd (by decide) q) (fun _ => ⟨_, rfl, rfl, ?_⟩) (fun q => absurd (by decide) q)
      rw [D _ b7.1 b7.2, D _ i7.1 i7.2]
      exact CQ.days f CQ.two
    | succ k ih =>
      intro j hj
      have br := busyG_rng (D := dayF a v) j
      have ir := idleG_rng (D := dayF a v) j
      have b7 : 0 ≤ busyG (dayF a v) j ∧ busyG (dayF a v) j < 7 := by omega
      have i7 : 0 ≤ idleG (dayF a v) j ∧ idleG (dayF a v) j < 7 := by omega
      have j7 : 0 ≤ (j : Int) + 1 ∧ (j : Int) + 1 < 7 := by omega
      refine sg_X11_busiest_10 ⟨by omega, by omega⟩ (by omega) (by omega) (by omega) (by omega) (fun _ => j7) (fun _ => b7) (fun _ => by rw [D _ j7.1 j7.2]; exact R _) (fun _ => by rw [D _ b7.1 b7.2]; exact R _) (fun _ => i7) (fun _ => by rw [D _ i7.1 i7.2]; exact R _) (by omega) (fun _ => ?_)
      rw [D _ j7.1 j7.2, D _ b7.1 b7.2, D _ i7.1 i7.2]
      have := ih (j + 1) (by omega)
      rw [busyG, idleG] at this
      exact this
  exact key 6 0 (by omega)
theorem mt_busiest {E : Nat × (Nat → Int32)} {m a : Mem} {v : (Int → Int) → Int} {B : Int} (hm : HighEq a m) (hR : RuleM a v) (hT : WTown a) (hS : WSet a) (hn : StOK B a (a 180)) : K_X12_busiest E [.ref 169] m (fun z m' => z = busyG (dayF a v) 6 ∧ PEq m' (rowU m 2 (rwL [dayF a v (busyG (dayF a v) 6), dayF a v (idleG (dayF a v) 6)])) ∧ LowEq m m') := by
  have n0 := hT.1
  have n6 := hT.2.1
  have k0 : ∀ k, k ≠ 169 → up2 m 169 0 0 k = m k := fun k h => up2_k h
  have b0 : MB a (up2 m 169 0 0) := hm.mb.trans ⟨up2_j (by decide), up2_j (by decide), fun k _ _ => k0 k (by omega), k0 185 (by decide)⟩
  refine en_X12_busiest (sg_X12_busiest_0 (ca_X12_busiest_6 (mt_laysDays b0 (by rw [k0 180 (by decide), hm 180 (by decide)]) hR hT hS hn) (fun m2 h2 => sg_X12_busiest_9 ?_)))
  obtain ⟨hd, f1, f2⟩ := h2
  have D : ∀ d : Int, 0 ≤ d → d < 7 → m2 197 d = dayF a v d := fun d d0 d7 => hd d d0 d7
  have R : ∀ d : Int, RI (dayF a v d) := fun d => by
    have := dayS_rng (v := v) (d := d) hT hS hn (n := (a 169 3).toNat) (by omega)
    unfold dayF
    constructor <;> omega
  have pm : PEq m2 m := PEq.of (fun k hk h9 => by have := hk.not; rw [f1 k (by omega) (by omega) h9 (by omega) (by omega), k0 k h9]) (fun j hj => by have := hj.not; rw [f2 j (by omega) (by omega), up2_j (by omega)])
  have lm : LowEq m m2 := fun k hk => by rw [f1 k (by omega) (by omega) (by omega) (by omega) (by omega), k0 k (by omega)]
  have key : ∀ (k j : Nat), j + k = 6 → GM E (m_X12_busiest 10) (Pi fun z m' => z = busyG (dayF a v) 6 ∧ PEq m' (rowU m 2 (rwL [dayF a v (busyG (dayF a v) 6), dayF a v (idleG (dayF a v) 6)])) ∧ LowEq m m') 20 [.ref 169, vi (busyG (dayF a v) j), vi (dayF a v (idleG (dayF a v) j)), vi ((j : Int) + 1)] [] m2 := by
    intro k
    induction k with
    | zero =>
      intro j hj
      have e : j = 6 := by omega
      subst e
      have br := busyG_rng (D := dayF a v) 6
      have b7 : 0 ≤ busyG (dayF a v) 6 ∧ busyG (dayF a v) 6 < 7 := by omega
      refine sg_X12_busiest_20 (by decide) (fun _ => b7) (fun _ => by rw [D _ b7.1 b7.2]; exact R _) (R _) (fun q => absurd (by decide) q) (fun q => absurd (by decide) q) (fun q => absurd (by decide) q) (fun q => absurd (by decide) q) (fun _ => ⟨_, rfl, rfl, ?_, fun k hk => by rw [up2_k (by omega), up2_k (by omega), up2_k (by omega), up2_k (by omega), up2_k (by omega), lm k hk]⟩) (fun q => absurd (by decide) q)
      rw [D _ b7.1 b7.2]
      exact PEq.two pm
    | succ k ih =>
      intro j hj
      have br := busyG_rng (D := dayF a v) j
      have b7 : 0 ≤ busyG (dayF a v) j ∧ busyG (dayF a v) j < 7 := by omega
      have j7 : 0 ≤ (j : Int) + 1 ∧ (j : Int) + 1 < 7 := by omega
      refine sg_X12_busiest_20 ⟨by omega, by omega⟩ (by omega) (by omega) (R _) (fun _ => j7) (fun _ => b7) (fun _ => by rw [D _ j7.1 j7.2]; exact R _) (fun _ => by rw [D _ b7.1 b7.2]; exact R _) (by omega) (fun _ => ?_)
      rw [D _ j7.1 j7.2, D _ b7.1 b7.2]
      have := ih (j + 1) (by omega)
      have ei : dayF a v (idleG (dayF a v) (j + 1)) = min (dayF a v (idleG (dayF a v) j)) (dayF a v ((j : Int) + 1)) := by
        rw [idleG]
        split
        · omega
        · omega
      rw [busyG, ei] at this
      exact this
  have h0 := key 6 0 (by omega)
  have e0 : dayF a v (idleG (dayF a v) 0) = m2 197 0 := (D 0 (by decide) (by decide)).symm
  rw [e0] at h0
  exact h0
