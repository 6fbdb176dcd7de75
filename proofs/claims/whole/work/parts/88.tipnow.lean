/-! tipnow -/
def wouldS (a : Mem) (r : Int → Int) (s : Int) : Int := sumI (fun h => if r (16 * s + h) = 1 then (if hv a (16 * s + h) (a 179 2) ≤ a 179 4 then hv a (16 * s + h) (a 179 2) else 0) else 0) 16
theorem out_in {B : Int} {a : Mem} {r : Int → Int} {s h : Int} (hT : WTown a) (hn : StOK B a r) (s0 : 0 ≤ s) (s6 : s < 6) (h0 : 0 ≤ h) (h1 : h < 16) (e : r (16 * s + h) = 1) : h % 8 < a 172 s := by
  have hw := (hT.2.2.2 s h s0 s6 h0 h1).2.2
  have hnn := (hn.1 (16 * s + h) (by omega) (by omega)).2.2 (by omega)
  by_cases c : h % 8 < a 172 s
  · exact c
  · exact absurd (hw (by omega)) hnn
theorem would_eq {B : Int} {a : Mem} {r : Int → Int} {s how bits : Int} (hT : WTown a) (hn : StOK B a r) (s0 : 0 ≤ s) (s6 : s < 6) (hb : ∀ h : Int, 0 ≤ h → h < 16 → (r (16 * s + h) = 1 ↔ tb bits h = true)) : wouldN a s bits (a 172 s) how (2 * a 172 s).toNat = wouldS a r s := by
  have t := hT.2.2.1 s s0 s6
  have eN : (2 * a 172 s).toNat = 2 * (a 172 s).toNat := by omega
  have eC : (((a 172 s).toNat : Nat) : Int) = a 172 s := Int.toNat_of_nonneg (by omega)
  have := sum_houses (f := fun h => if tb bits h = true then (if hv a (16 * s + h) (a 179 2) ≤ a 179 4 then hv a (16 * s + h) (a 179 2) else 0) else 0) (n := (a 172 s).toNat) (how := how) (by omega) (fun h h0 h1 h2 => by
    show (if tb bits h = true then _ else (0 : Int)) = 0
    rw [if_neg]
    intro o
    have := out_in hT hn s0 s6 h0 h1 ((hb h h0 h1).2 o)
    omega)
  rw [eC] at this
  unfold wouldN wouldS
  rw [eN, this]
  refine sumI_congr (fun h h0 h1 => ?_)
  show (if tb bits h = true then _ else (0 : Int)) = if r (16 * s + h) = 1 then _ else 0
  by_cases c : r (16 * s + h) = 1
  · rw [if_pos c, if_pos ((hb h h0 (by omega)).1 c)]
  · rw [if_neg c, if_neg (fun o => c ((hb h h0 (by omega)).2 o))]
theorem wouldS_rng {a : Mem} {r : Int → Int} {s : Int} (hT : WTown a) (hS : WSet a) (s0 : 0 ≤ s) (s6 : s < 6) {n : Nat} (hn : n ≤ 16) : 0 ≤ sumI (fun h => if r (16 * s + h) = 1 then (if hv a (16 * s + h) (a 179 2) ≤ a 179 4 then hv a (16 * s + h) (a 179 2) else 0) else 0) n ∧ sumI (fun h => if r (16 * s + h) = 1 then (if hv a (16 * s + h) (a 179 2) ≤ a 179 4 then hv a (16 * s + h) (a 179 2) else 0) else 0) n ≤ 544 := by
  have := sumI_bound (f := fun h => if r (16 * s + h) = 1 then (if hv a (16 * s + h) (a 179 2) ≤ a 179 4 then hv a (16 * s + h) (a 179 2) else 0) else 0) (c := 34) (n := n) (fun i i0 i1 => by
    have := hv_rng (b := 16 * s + i) (rain := a 179 2) (hT.w (by omega) (by omega)) hS ⟨hS.2.2.2.2.1, hS.2.2.2.2.2.1⟩
    show 0 ≤ (if r (16 * s + i) = 1 then (if hv a (16 * s + i) (a 179 2) ≤ a 179 4 then hv a (16 * s + i) (a 179 2) else 0) else 0) ∧ (if r (16 * s + i) = 1 then (if hv a (16 * s + i) (a 179 2) ≤ a 179 4 then hv a (16 * s + i) (a 179 2) else 0) else 0) ≤ 34
    split
    · split <;> omega
    · omega)
  omega
theorem mt_wouldLoad {E : Nat × (Nat → Int32)} {m a : Mem} {r : Nat} {s B : Int} {r0 : Int → Int} (hl : r < 209) (hs : SH[r]? = some (.inr (0, 99))) (b : MB a m) (hT : WTown a) (hS : WSet a) (hn : StOK B a r0) (er : ∀ b : Int, 0 ≤ b → b < 99 → m r b = r0 b) (s0 : 0 ≤ s) (s6 : s < 6) : K_X12_wouldLoad E [.ref 169, .ref r, vi s] m (fun z m' => z = wouldS a r0 s ∧ m' = m) := by
  have e8 : m 178 = a 178 := b.2.2.1 178 (by omega) (by omega)
  have e9 : m 179 = a 179 := b.2.2.1 179 (by omega) (by omega)
  have l1 := hS.2.2.2.2.2.2.2.2.1
  have l2 := hS.2.2.2.2.2.2.2.2.2.1
  refine en_X12_wouldLoad (sg_X12_wouldLoad_0 hl hs ?_)
  refine up_loop (i0 := 16 * s) (n := 16 * (s + 1)) (fun i (x : Int) => GM E _ _ 8 [.ref 169, .ref r, vi s, vi x, vi i] [] m) (fun i x => x = sumI (fun h => if r0 (16 * s + h) = 1 then (if hv a (16 * s + h) (a 179 2) ≤ a 179 4 then hv a (16 * s + h) (a 179 2) else 0) else 0) (i - 16 * s).toNat) (fun x h => ?_) (fun i x i0 i1 h k => ?_) (i := 16 * s) (s := 0) (by omega) (by omega) (by rw [Int.sub_self]; rfl)
  · refine sg_X12_wouldLoad_8 hl hs ⟨by omega, by omega⟩ ⟨by omega, by omega⟩ (by omega) (by omega) (by omega) (by omega) (fun _ => ⟨_, rfl, ?_, rfl⟩) (by omega)
    rw [h, show 16 * (s + 1) - 16 * s = 16 by omega]
    rfl
  · have ei := er i (by omega) (by omega)
    refine sg_X12_wouldLoad_8 hl hs ⟨by omega, by omega⟩ ⟨by omega, by omega⟩ (fun _ => by omega) (fun _ => by rw [ei]; exact hn.ri (by omega) (by omega)) (fun _ _ => by omega) (fun _ _ => by rw [e9]; constructor <;> omega) (by omega) (fun _ => k _ ?_)
    rw [show i + 1 - 16 * s = (i - 16 * s) + 1 by omega, sumI_step (by omega), ← h, show 16 * s + (i - 16 * s) = i by omega, ei, e8, e9, ite_ne1]
    congr 1
    by_cases c : r0 i = 1
    · rw [if_pos c, if_pos c]
      show (if a 179 4 < hv a i (a 179 2) then (0 : Int) else hv a i (a 179 2)) = _
      by_cases g : hv a i (a 179 2) ≤ a 179 4
      · rw [if_pos g, if_neg (by omega)]
      · rw [if_neg g, if_pos (by omega)]
    · rw [if_neg c, if_neg c]
def tnF (a : Mem) (v : (Int → Int) → Int) (s : Int) : Int := ((dist (a 180 97) (a 179 5) + 300) + dist (a 171 s) (a 179 5)) + ((bestS a v (a 180) s + dist (a 171 s) (a 179 5)) + 300)
def tnA (a : Mem) (v : (Int → Int) → Int) (s : Int) : Int := dist (a 180 97) (a 171 s) + ((bestS a v (a 180) s + dist (a 171 s) (a 179 5)) + 300)
def tnZ (a : Mem) (v : (Int → Int) → Int) (s : Int) : Int := if a 179 0 < a 180 96 + wouldS a (a 180) s then 2 else if a 180 96 ≠ 0 ∧ tnF a v s < tnA a v s then 1 else 0
def tnL (a : Mem) (v : (Int → Int) → Int) (s : Int) : Int → Int := rwL [tnF a v s, if a 179 0 < a 180 96 + wouldS a (a 180) s then -1 else tnA a v s]
theorem dist_comm {x y : Int} : dist x y = dist y x := by
  unfold dist
  split <;> split <;> omega
theorem dist_eq (x y : Int) : 10 * (if 0 ≤ x - y then x - y else -(x - y)) = dist x y := rfl
theorem tn_rng {a : Mem} {v : (Int → Int) → Int} {s B : Int} (hT : WTown a) (hS : WSet a) (hn : StOK B a (a 180)) (s0 : 0 ≤ s) (s6 : s < 6) : 0 ≤ tnF a v s ∧ tnF a v s ≤ 30000 ∧ 0 ≤ tnA a v s ∧ tnA a v s ≤ 30000 ∧ 0 ≤ bestS a v (a 180) s ∧ bestS a v (a 180) s ≤ 17712 := by
  have t := hT.2.2.1 s s0 s6
  have hS' := hS
  obtain ⟨-, -, -, -, -, -, -, -, -, -, w5, w5', -, -⟩ := hS'
  have b := BT_rng (v := v) (how := bestH (BT a v (a 180) s)) hT hS s0 s6 hn.r3
  have d1 := dist_rng hn.2.2.2.1 hn.2.2.2.2.1 w5 w5'
  have d2 := dist_rng t.1 t.2.1 w5 w5'
  have d3 := dist_rng hn.2.2.2.1 hn.2.2.2.2.1 t.1 t.2.1
  unfold tnF tnA bestS
  omega
theorem ct_tipnow {E : Nat × (Nat → Int32)} {c a : Mem} {v : (Int → Int) → Int} {s B : Int} (rs : RI s) (h : CR0 c a) (hR : RuleC c v) (hT : WTown a) (hS : WSet a) (hn : StOK B a (a 180)) : K_X11_tipnow E [.ref 0, vi s] c (fun z c' => (((0 ≤ s ∧ s < a 169 3) ∧ wouldS a (a 180) s ≤ a 179 0) ∧ z = tnZ a v s ∧ CQ c c' 2 (tnL a v s)) ∨ (¬ ((0 ≤ s ∧ s < a 169 3) ∧ wouldS a (a 180) s ≤ a 179 0) ∧ z = (if 0 ≤ s ∧ s < a 169 3 then -2 else -1) ∧ CQ c c' (a 169 1) (a 170))) := by
  have e := h.town.1
  have n0 := hT.1
  have n6 := hT.2.1
  have e41 := h.set 1 (by decide) (by decide)
  have e45 := h.set 5 (by decide) (by decide)
  have e40 := h.set 0 (by decide) (by decide)
  have m1 := hS.2.2.1
  have m4 := hS.2.2.2.1
  have f0 := hS.1
  have f1 := hS.2.1
  have hS' := hS
  obtain ⟨-, -, -, -, -, -, -, -, -, -, w5, w5', -, -⟩ := hS'
  refine en_X11_tipnow (sg_X11_tipnow_0 (by omega) rs (fun p => ?_) (fun p => ⟨_, rfl, Or.inr ⟨fun o => p (by omega), by rw [if_neg (by omega)], CQ.stay h⟩⟩))
  have m := streetMem s.toNat (by omega)
  have s1 : s < a 169 3 := by omega
  have s6 : s < 6 := by omega
  have t := hT.2.2.1 s p.1 s6
  have es := h.town.s p.1 s1 n6
  rw [e41, e45, es.2.2.1]
  refine ca_X11_tipnow_38 (ct_quickest h.town h.set h.now hR hT hS p.1 s1 ⟨by omega, by omega⟩ ⟨by omega, by omega⟩ hn.r3) (fun z c2 hz => ?_)
  obtain ⟨z1, z2, z3, z4⟩ := hz
  have z1 : z = bestS a v (a 180) s := z1
  have hN2 : StRel c2 23 (a 180) := h.now.congr (z4.1 _ (by decide) (by decide) (by decide)) (z4.1 _ (by decide) (by decide) (by decide)) (z4.1 _ (by decide) (by decide) (by decide)) (z4.1 _ (by decide) (by decide) (by decide))
  have e2 := ((z4.town (by decide) h.town).s p.1 s1 n6).1
  have e12 : c2 100 12 = wouldS a (a 180) s := by
    rw [z3.2.2.2.2.2.1]
    exact would_eq hT hn p.1 s6 (fun k k0 k1 => h.now.out1 p.1 s6 k0 k1)
  have e402 : c2 4 0 = a 179 0 := by rw [z4.1 4 (by decide) (by decide) (by decide)]; exact e40
  have wr : 0 ≤ wouldS a (a 180) s ∧ wouldS a (a 180) s ≤ 544 := wouldS_rng hT hS p.1 s6 (Nat.le_refl _)
  have tr := tn_rng (v := v) hT hS hn p.1 s6
  have r96 := hn.2.1
  have r96' := hn.2.2.1
  have r97 := hn.2.2.2.1
  have r97' := hn.2.2.2.2.1
  have eF : ((10 * (if 0 ≤ c2 23 4 - a 179 5 then c2 23 4 - a 179 5 else -(c2 23 4 - a 179 5)) + 300) + 10 * (if 0 ≤ a 179 5 - c2 (11 + 2 * s.toNat) 2 then a 179 5 - c2 (11 + 2 * s.toNat) 2 else -(a 179 5 - c2 (11 + 2 * s.toNat) 2))) + ((z + 10 * (if 0 ≤ c2 (11 + 2 * s.toNat) 2 - a 179 5 then c2 (11 + 2 * s.toNat) 2 - a 179 5 else -(c2 (11 + 2 * s.toNat) 2 - a 179 5))) + 300) = tnF a v s := by
    rw [dist_eq, dist_eq, dist_eq, e2, hN2.2.2.1, z1, dist_comm (x := a 179 5)]
    rfl
  have eA : 10 * (if 0 ≤ c2 23 4 - c2 (11 + 2 * s.toNat) 2 then c2 23 4 - c2 (11 + 2 * s.toNat) 2 else -(c2 23 4 - c2 (11 + 2 * s.toNat) 2)) + ((z + 10 * (if 0 ≤ c2 (11 + 2 * s.toNat) 2 - a 179 5 then c2 (11 + 2 * s.toNat) 2 - a 179 5 else -(c2 (11 + 2 * s.toNat) 2 - a 179 5))) + 300) = tnA a v s := by
    rw [dist_eq, dist_eq, e2, hN2.2.2.1, z1]
    rfl
  have ok : ∀ (x y : Int) (c' : Mem), wouldS a (a 180) s ≤ a 179 0 → x = tnZ a v s → y = (if a 179 0 < a 180 96 + wouldS a (a 180) s then -1 else tnA a v s) → c' = up2 (up2 (up2 (up2 (up2 c2 0 14 0) 168 0 (tnF a v s)) 0 14 1) 168 1 y) 0 14 2 → (Pi fun z c' => (((0 ≤ s ∧ s < a 169 3) ∧ wouldS a (a 180) s ≤ a 179 0) ∧ z = tnZ a v s ∧ CQ c c' 2 (tnL a v s)) ∨ (¬ ((0 ≤ s ∧ s < a 169 3) ∧ wouldS a (a 180) s ≤ a 179 0) ∧ z = (if 0 ≤ s ∧ s < a 169 3 then -2 else -1) ∧ CQ c c' (a 169 1) (a 170))) (some (vi x)) c' := by
    intro x y c' hw hx hy hc
    subst hc hy
    exact ⟨_, rfl, Or.inl ⟨⟨⟨p.1, s1⟩, hw⟩, hx, CQ.job (by decide) z4 CQ.two⟩⟩
  refine sg_X11_tipnow_41 m (by rw [e2]; constructor <;> omega) (by rw [hN2.2.2.1]; constructor <;> omega) (by rw [e2]; constructor <;> omega) (by rw [e2, hN2.2.2.1]; constructor <;> omega) (by rw [e12]; constructor <;> omega) (by rw [e402]; constructor <;> omega) (fun _ => by rw [eF]; constructor <;> omega) (fun _ => by rw [hN2.2.1, e12]; constructor <;> omega) (fun _ _ => by rw [eA]; constructor <;> omega) (fun _ _ => by rw [hN2.2.1]; constructor <;> omega) (fun g1 g2 g3 => ?_) (fun g1 g2 g3 g4 => ?_) (fun g1 g2 g3 g4 => ?_) (fun g1 g2 => ?_) (fun g1 => ?_)
  all_goals rw [e12, e402] at g1
  · rw [hN2.2.1, e12, e402] at g2
    rw [hN2.2.1] at g3
    refine ok _ _ _ g1 ?_ rfl ?_
    · unfold tnZ; rw [if_neg (by omega), if_neg (fun o => o.1 g3)]
    · rw [eF, eA, if_neg (by omega)]
  · rw [hN2.2.1, e12, e402] at g2
    rw [eF, eA] at g4
    refine ok _ _ _ g1 ?_ rfl ?_
    · unfold tnZ; rw [if_neg (by omega), if_neg (fun o => by have := o.2; omega)]
    · rw [eF, eA, if_neg (by omega)]
  · rw [hN2.2.1, e12, e402] at g2
    rw [hN2.2.1] at g3
    rw [eF, eA] at g4
    refine ok _ _ _ g1 ?_ rfl ?_
    · unfold tnZ; rw [if_neg (by omega), if_pos ⟨g3, by omega⟩]
    · rw [eF, eA, if_neg (by omega)]
  · rw [hN2.2.1, e12, e402] at g2
    refine ok _ _ _ g1 ?_ rfl ?_
    · unfold tnZ; rw [if_pos (by omega)]
    · rw [eF, if_pos (by omega)]
  · exact ⟨_, rfl, Or.inr ⟨fun o => g1 o.2, by rw [if_pos ⟨p.1, s1⟩], CQ.jobS (by decide) h z4⟩⟩
theorem mt_tipnow {E : Nat × (Nat → Int32)} {m a : Mem} {v : (Int → Int) → Int} {s B : Int} (rs : RI s) (hm : HighEq a m) (hR : RuleM a v) (hT : WTown a) (hS : WSet a) (hn : StOK B a (a 180)) : K_X12_tipnow E [.ref 169, vi s] m (fun z m' => (((0 ≤ s ∧ s < a 169 3) ∧ wouldS a (a 180) s ≤ a 179 0) ∧ z = tnZ a v s ∧ PEq m' (rowU m 2 (tnL a v s)) ∧ LowEq m m') ∨ (¬ ((0 ≤ s ∧ s < a 169 3) ∧ wouldS a (a 180) s ≤ a 179 0) ∧ z = (if 0 ≤ s ∧ s < a 169 3 then -2 else -1) ∧ PEq m' m ∧ LowEq m m')) := by
  have n0 := hT.1
  have n6 := hT.2.1
  have e9 := hm 169 (by decide)
  have f0 := hS.1
  have f1 := hS.2.1
  have hS' := hS
  obtain ⟨-, -, -, -, -, -, -, -, -, -, w5, w5', -, -⟩ := hS'
  refine en_X12_tipnow (sg_X12_tipnow_0 (by rw [e9]; constructor <;> omega) rs (fun p => ?_) (fun p => ⟨_, rfl, Or.inr ⟨fun o => p (by rw [e9]; exact o.1), by rw [if_neg (by rw [e9] at p; exact p)], PEq.field npf0, fun k hk => up2_k (by omega)⟩⟩))
  rw [e9] at p
  have s6 : s < 6 := by omega
  have t := hT.2.2.1 s p.1 s6
  have k0 : ∀ k, k ≠ 169 → up2 m 169 0 0 k = m k := fun k h => up2_k h
  have b0 : MB a (up2 m 169 0 0) := hm.mb.trans ⟨up2_j (by decide), up2_j (by decide), fun k _ _ => k0 k (by omega), k0 185 (by decide)⟩
  have e180 : up2 m 169 0 0 180 = a 180 := by rw [k0 180 (by decide), hm 180 (by decide)]
  have wr : 0 ≤ wouldS a (a 180) s ∧ wouldS a (a 180) s ≤ 544 := wouldS_rng hT hS p.1 s6 (Nat.le_refl _)
  have tr := tn_rng (v := v) hT hS hn p.1 s6
  have r96 := hn.2.1
  have r96' := hn.2.2.1
  have r97 := hn.2.2.2.1
  have r97' := hn.2.2.2.2.1
  refine ca_X12_tipnow_21 (mt_wouldLoad (r := 180) (r0 := a 180) (by decide) (by decide) b0 hT hS hn (fun c _ _ => by rw [e180]) p.1 s6) (fun z m2 hz => ?_)
  obtain ⟨ez, e2⟩ := hz
  subst e2
  subst ez
  have e790 : up2 m 169 0 0 179 = a 179 := by rw [k0 179 (by decide), hm 179 (by decide)]
  refine sg_X12_tipnow_24 ⟨by omega, by omega⟩ (by rw [e790]; constructor <;> omega) (fun g => ?_) (fun g => ⟨_, rfl, Or.inr ⟨fun o => g (by rw [e790]; exact o.2), by rw [if_pos p], PEq.field npf0, fun k hk => up2_k (by omega)⟩⟩)
  rw [e790] at g
  refine ca_X12_tipnow_40 (mt_bestNow (r0 := a 180) b0 hR hT hS p.1 s6 (fun c _ _ => by rw [e180]) hn.r3) (fun z m3 hz => ?_)
  obtain ⟨z1, z2, z3, -, -⟩ := hz
  have q : ∀ k, k ≠ 189 → k ≠ 169 → k ≠ 187 → k ≠ 188 → 169 ≤ k → m3 k = a k := fun k h1 h2 h3 h4 h5 => by rw [z3.1 k h1 h2 h3 h4, k0 k h2, hm k h5]
  have q71 := q 171 (by decide) (by decide) (by decide) (by decide) (by decide)
  have q79 := q 179 (by decide) (by decide) (by decide) (by decide) (by decide)
  have q80 := q 180 (by decide) (by decide) (by decide) (by decide) (by decide)
  have eF : ((((10 * (if 0 ≤ m3 180 97 - m3 179 5 then m3 180 97 - m3 179 5 else -(m3 180 97 - m3 179 5)) + 300) + 10 * (if 0 ≤ m3 171 s - m3 179 5 then m3 171 s - m3 179 5 else -(m3 171 s - m3 179 5))) + z) + 10 * (if 0 ≤ m3 171 s - m3 179 5 then m3 171 s - m3 179 5 else -(m3 171 s - m3 179 5))) + 300 = tnF a v s := by
    rw [dist_eq, dist_eq, q71, q79, q80, z1]
    unfold tnF
    omega
  have eA : ((10 * (if 0 ≤ m3 180 97 - m3 171 s then m3 180 97 - m3 171 s else -(m3 180 97 - m3 171 s)) + z) + 10 * (if 0 ≤ m3 171 s - m3 179 5 then m3 171 s - m3 179 5 else -(m3 171 s - m3 179 5))) + 300 = tnA a v s := by
    rw [dist_eq, dist_eq, q71, q79, q80, z1]
    unfold tnA
    omega
  have pm : PEq m3 m := z3.peq.trans (PEq.field npf0)
  have lm : LowEq m m3 := fun k hk => by rw [z3.low k hk, k0 k (by omega)]
  have ok : ∀ (x y : Int) (m' : Mem), x = tnZ a v s → y = (if a 179 0 < a 180 96 + wouldS a (a 180) s then -1 else tnA a v s) → m' = up2 (up2 (up2 (up2 (up2 m3 169 1 0) 170 0 (tnF a v s)) 169 1 1) 170 1 y) 169 1 2 → (Pi fun z m' => (((0 ≤ s ∧ s < a 169 3) ∧ wouldS a (a 180) s ≤ a 179 0) ∧ z = tnZ a v s ∧ PEq m' (rowU m 2 (tnL a v s)) ∧ LowEq m m') ∨ (¬ ((0 ≤ s ∧ s < a 169 3) ∧ wouldS a (a 180) s ≤ a 179 0) ∧ z = (if 0 ≤ s ∧ s < a 169 3 then -2 else -1) ∧ PEq m' m ∧ LowEq m m')) (some (vi x)) m' := by
    intro x y m' hx hy hc
    subst hc hy
    exact ⟨_, rfl, Or.inl ⟨⟨p, g⟩, hx, PEq.two pm, fun k hk => by rw [up2_k (by omega), up2_k (by omega), up2_k (by omega), up2_k (by omega), up2_k (by omega), lm k hk]⟩⟩
  refine sg_X12_tipnow_43 ⟨p.1, s6⟩ (by rw [q71, q79]; constructor <;> omega) (by rw [q80, q79]; constructor <;> omega) (by rw [q80, q71]; constructor <;> omega) (by rw [q80]; constructor <;> omega) (by rw [q79]; constructor <;> omega) (fun _ => by rw [eF]; constructor <;> omega) (fun _ => by rw [eF]; constructor <;> omega) (fun _ => by rw [eA]; constructor <;> omega) (fun _ _ => by rw [q80]; constructor <;> omega) (fun g1 => ?_) (fun g1 g2 => ?_) (fun g1 g2 g3 => ?_) (fun g1 g2 g3 => ?_)
  all_goals rw [q79, q80] at g1
  · refine ok _ _ _ ?_ rfl ?_
    · unfold tnZ; rw [if_pos g1]
    · rw [eF, if_pos g1]
  · rw [eF, eA] at g2
    refine ok _ _ _ ?_ rfl ?_
    · unfold tnZ; rw [if_neg g1, if_neg (fun o => by have := o.2; omega)]
    · rw [eF, eA, if_neg g1]
  · rw [q80] at g3
    refine ok _ _ _ ?_ rfl ?_
    · unfold tnZ; rw [if_neg g1, if_neg (fun o => o.1 (by omega))]
    · rw [eF, eA, if_neg g1]
  · rw [eF, eA] at g2
    rw [q80] at g3
    refine ok _ _ _ ?_ rfl ?_
    · unfold tnZ; rw [if_neg g1, if_pos ⟨by omega, by omega⟩]
    · rw [eF, eA, if_neg g1]
