/-! acts: the lorry drives, tips, waits -/
def dist (x y : Int) : Int := 10 * (if 0 ≤ x - y then x - y else -(x - y))
theorem dist_rng {x y : Int} (x0 : 0 ≤ x) (x1 : x ≤ 99) (y0 : 0 ≤ y) (y1 : y ≤ 99) : 0 ≤ dist x y ∧ dist x y ≤ 990 := by
  unfold dist
  split <;> omega
def lorry (r : Int → Int) (l p w : Int) : Int → Int := pt (pt (pt r 96 l) 97 p) 98 w
theorem lorry_b {r : Int → Int} {l p w b : Int} (h : b < 96) : lorry r l p w b = r b := by
  unfold lorry
  rw [pt_ne (by omega), pt_ne (by omega), pt_ne (by omega)]
theorem lorry_l {r : Int → Int} {l p w : Int} : lorry r l p w 96 = l := by
  unfold lorry
  rw [pt_ne (by decide), pt_ne (by decide), pt_same]
theorem lorry_p {r : Int → Int} {l p w : Int} : lorry r l p w 97 = p := by
  unfold lorry
  rw [pt_ne (by decide), pt_same]
theorem lorry_w {r : Int → Int} {l p w : Int} : lorry r l p w 98 = w := by
  unfold lorry
  rw [pt_same]
theorem st_lorry {c c' : Mem} {o : Nat} {r : Int → Int} {l p w : Int} (h : StRel c o r) (h1 : c' (o + 1) = c (o + 1)) (h2 : c' (o + 2) = c (o + 2)) (h3 : c' (o + 3) = c (o + 3)) (el : c' o 3 = l) (ep : c' o 4 = p) (ew : c' o 5 = w) : StRel c' o (lorry r l p w) := by
  refine ⟨fun s s0 s6 => ?_, el.trans lorry_l.symm, ep.trans lorry_p.symm, ew.trans lorry_w.symm⟩
  rw [h1, h2, h3]
  obtain ⟨a1, a2, a3, a4⟩ := h.1 s s0 s6
  exact ⟨a1, a2, a3, fun k k0 k1 => by rw [lorry_b (by omega)]; exact a4 k k0 k1⟩
theorem ok_lorry {B B2 : Int} {a : Mem} {r : Int → Int} {l p w : Int} (h : StOK B a r) (l0 : 0 ≤ l) (l1 : l ≤ 999) (p0 : 0 ≤ p) (p1 : p ≤ 99) (w0 : 0 ≤ w) (w1 : w ≤ B2) : StOK B2 a (lorry r l p w) := by
  refine ⟨fun b b0 b1 => ?_, ?_, ?_, ?_, ?_, ?_, ?_⟩
  · rw [lorry_b b1]; exact h.1 b b0 b1
  · rw [lorry_l]; exact l0
  · rw [lorry_l]; exact l1
  · rw [lorry_p]; exact p0
  · rw [lorry_p]; exact p1
  · rw [lorry_w]; exact w0
  · rw [lorry_w]; exact w1
/-- going to a street -/
def driveR (a : Mem) (r : Int → Int) (s : Int) : Int → Int := lorry r (r 96) (a 171 s) (r 98 + dist (r 97) (a 171 s))
def tipD (a : Mem) (r : Int → Int) : Int := dist (r 97) (a 179 5)
def tipOk (a : Mem) (r : Int → Int) : Prop := divI (r 98 + tipD a r) 60 ≤ a 179 6
def tipR (a : Mem) (r : Int → Int) : Int → Int := lorry r 0 (a 179 5) (r 98 + (tipD a r + 300))
def pauseR (r : Int → Int) (n : Int) : Int → Int := lorry r (r 96) (r 97) (r 98 + n)
theorem ct_goTo {E : Nat × (Nat → Int32)} {c a : Mem} {r : Int → Int} {s B : Int} (rs : RI s) (hC : CTown c a) (hN : StRel c 23 r) (hT : WTown a) (hn : StOK B a r) : K_X11_goTo E [.ref 0, vi s] c (fun z c' => ((0 ≤ s ∧ s < a 169 3) ∧ z = dist (r 97) (a 171 s) ∧ StRel c' 23 (driveR a r s) ∧ ∀ k, k ≠ 23 → c' k = c k) ∨ (¬ (0 ≤ s ∧ s < a 169 3) ∧ z = -1 ∧ c' = c)) := by
  have e := hC.1
  have n0 := hT.1
  have n6 := hT.2.1
  have e4 := hN.2.2.1
  have r97 := hn.2.2.2.1
  have r97' := hn.2.2.2.2.1
  refine en_X11_goTo (sg_X11_goTo_0 (by omega) rs (fun p => ?_) (fun p => ⟨_, rfl, Or.inl ⟨by omega, ?_, ?_, fun k hk => by rw [up2_k hk, up2_k hk]⟩⟩) (fun p => ⟨_, rfl, Or.inr ⟨by omega, rfl, rfl⟩⟩))
  all_goals have e2 := (hC.s p.1 (by omega) n6).1
  all_goals have t := hT.2.2.1 s p.1 (by omega)
  · rw [e4, e2]; constructor <;> omega
  · rw [e4, e2]; rfl
  · refine st_lorry hN (by rw [up2_k (by decide), up2_k (by decide)]) (by rw [up2_k (by decide), up2_k (by decide)]) (by rw [up2_k (by decide), up2_k (by decide)]) ?_ ?_ ?_
    · rw [up2_j (by decide), up2_j (by decide)]; exact hN.2.1
    · rw [up2_j (by decide), up2_same, e2]
    · rw [up2_same, e4, e2, hN.2.2.2]; rfl
theorem ct_goTip {E : Nat × (Nat → Int32)} {c a : Mem} {r : Int → Int} {B : Int} (hCS : CSet c a) (hN : StRel c 23 r) (hS : WSet a) (hn : StOK B a r) : K_X11_goTip E [.ref 0] c (fun z c' => (tipOk a r ∧ z = tipD a r + 300 ∧ StRel c' 23 (tipR a r) ∧ ∀ k, k ≠ 23 → c' k = c k) ∨ (¬ tipOk a r ∧ z = -2 ∧ c' = c)) := by
  have e4 := hN.2.2.1
  have e5 := hN.2.2.2
  have r97 := hn.2.2.2.1
  have r97' := hn.2.2.2.2.1
  have e45 := hCS 5 (by decide) (by decide)
  have e46 := hCS 6 (by decide) (by decide)
  obtain ⟨-, -, -, -, -, -, -, -, -, -, w5, w5', w6, w6'⟩ := hS
  have ed : 10 * (if 0 ≤ c 23 4 - c 4 5 then c 23 4 - c 4 5 else -(c 23 4 - c 4 5)) = tipD a r := by rw [e4, e45]; rfl
  refine en_X11_goTip (sg_X11_goTip_0 (by rw [e4, e45]; constructor <;> omega) (by rw [e46]; constructor <;> omega) (fun p => ⟨_, rfl, Or.inl ?_⟩) (fun p => ⟨_, rfl, Or.inr ?_⟩))
  all_goals rw [ed, e5, e46] at p
  · rw [ed]
    refine ⟨p, rfl, ?_, fun k hk => by rw [up2_k hk, up2_k hk, up2_k hk]⟩
    refine st_lorry hN (by rw [up2_k (by decide), up2_k (by decide), up2_k (by decide)]) (by rw [up2_k (by decide), up2_k (by decide), up2_k (by decide)]) (by rw [up2_k (by decide), up2_k (by decide), up2_k (by decide)]) ?_ ?_ ?_
    · rw [up2_same]
    · rw [up2_j (by decide), up2_same, e45]
    · rw [up2_j (by decide), up2_j (by decide), up2_same, e5]
  · exact ⟨p, rfl, rfl⟩
theorem ct_waitFor {E : Nat × (Nat → Int32)} {c : Mem} {r : Int → Int} {n : Int} (rn : RI n) (hN : StRel c 23 r) : K_X11_waitFor E [.ref 0, vi n] c (fun z c' => ((0 ≤ n ∧ n ≤ 9999) ∧ z = r 98 + n ∧ StRel c' 23 (pauseR r n) ∧ ∀ k, k ≠ 23 → c' k = c k) ∨ (¬ (0 ≤ n ∧ n ≤ 9999) ∧ z = -1 ∧ c' = c)) := by
  refine en_X11_waitFor (sg_X11_waitFor_0 rn (fun p => ⟨_, rfl, Or.inr ⟨by omega, rfl, rfl⟩⟩) (fun p q => ⟨_, rfl, Or.inl ⟨by omega, by rw [hN.2.2.2], ?_, fun k hk => up2_k hk⟩⟩) (fun p q => ⟨_, rfl, Or.inr ⟨by omega, rfl, rfl⟩⟩))
  exact st_lorry hN (up2_k (by decide)) (up2_k (by decide)) (up2_k (by decide)) (by rw [up2_j (by decide)]; exact hN.2.1) (by rw [up2_j (by decide)]; exact hN.2.2.1) (by rw [up2_same, hN.2.2.2])
/-! the reference, on any row -/
theorem mt_drives {E : Nat × (Nat → Int32)} {m : Mem} {r : Nat} {g : Int} (hl : r < 209) (hs : SH[r]? = some (.inr (0, 99))) (h1 : 0 ≤ m r 97 ∧ m r 97 ≤ 99) (h2 : 0 ≤ g ∧ g ≤ 99) : K_X12_drives E [.ref 169, .ref r, vi g] m (fun z m' => z = dist (m r 97) g ∧ m' = up2 (up2 m r 97 g) r 98 (m r 98 + dist (m r 97) g)) :=
  en_X12_drives (sg_X12_drives_0 hl hs ⟨by omega, by omega⟩ ⟨_, rfl, rfl, rfl⟩)
theorem lorry_row {m : Mem} {r : Nat} {p w : Int} {f : Int → Int} (e : ∀ b : Int, m r b = f b) (b : Int) : up2 (up2 m r 97 p) r 98 w r b = lorry f (f 96) p w b := by
  by_cases c : b = 98
  · subst c; rw [up2_same, lorry_w]
  · rw [up2_j c]
    by_cases c2 : b = 97
    · subst c2; rw [up2_same, lorry_p]
    · rw [up2_j c2, e]
      unfold lorry
      rw [pt_ne c, pt_ne c2]
      by_cases c3 : b = 96
      · subst c3; rw [pt_same]
      · rw [pt_ne c3]
theorem mt_tips {E : Nat × (Nat → Int32)} {m a : Mem} {r : Nat} (hl : r < 209) (hs : SH[r]? = some (.inr (0, 99))) (e9 : m 179 = a 179) (hS : WSet a) (h1 : 0 ≤ m r 97 ∧ m r 97 ≤ 99) : K_X12_tips E [.ref 169, .ref r] m (fun z m' => (tipOk a (m r) ∧ z = tipD a (m r) + 300 ∧ (∀ b : Int, m' r b = tipR a (m r) b) ∧ m' 169 42 = m r 96 ∧ (∀ k, k ≠ r → k ≠ 169 → m' k = m k) ∧ ∀ j : Int, j ≠ 42 → m' 169 j = m 169 j) ∨ (¬ tipOk a (m r) ∧ z = -2 ∧ m' = m)) := by
  obtain ⟨n1, n2, n3, n4, n5, n6, n7⟩ := rowNot hs
  obtain ⟨-, -, -, -, -, -, -, -, -, -, w5, w5', w6, w6'⟩ := hS
  have ed : 10 * (if 0 ≤ m r 97 - m 179 5 then m r 97 - m 179 5 else -(m r 97 - m 179 5)) = tipD a (m r) := by rw [e9]; rfl
  refine en_X12_tips (sg_X12_tips_0 hl hs (by rw [e9]; constructor <;> omega) (by rw [e9]; constructor <;> omega) (fun p => ⟨_, rfl, Or.inr ?_⟩) (fun p => ⟨_, rfl, Or.inl ?_⟩))
  all_goals rw [ed, e9] at p
  · exact ⟨p, rfl, rfl⟩
  · rw [ed, e9]
    refine ⟨p, rfl, fun b => ?_, ?_, fun k h1 h2 => by rw [up2_k h1, up2_k h2, up2_k h1, up2_k h1, up2_k h1], fun j hj => ?_⟩
    · unfold tipR lorry
      by_cases c : b = 96
      · subst c; rw [up2_same, pt_ne (by decide), pt_ne (by decide), pt_same]
      · rw [up2_j c, up2_k n1]
        by_cases c2 : b = 98
        · subst c2; rw [up2_same, pt_same]; omega
        · rw [up2_j c2, up2_j c2, pt_ne c2]
          by_cases c3 : b = 97
          · subst c3; rw [up2_same, pt_same]
          · rw [up2_j c3, pt_ne c3, pt_ne c]
    · rw [up2_k (fun e => n1 e.symm), up2_same]
    · rw [up2_k (fun e => n1 e.symm), up2_j hj, up2_k (fun e => n1 e.symm), up2_k (fun e => n1 e.symm), up2_k (fun e => n1 e.symm)]
/-! what an act makes of all that is told -/
def pushU (a : Mem) : Mem := addU (mv a 180 0 190 (99 * a 169 40) 99)
def actU (a : Mem) (r : Int → Int) (n : Int) (f : Int → Int) : Mem := rowU (upr (pushU a) 180 r) n f
theorem addU_k {m : Mem} {k : Nat} (h : k ≠ 169) (h2 : k ≠ 190) : addU m k = m k := by
  unfold addU
  split
  · exact up2_k h
  · rw [up2_k h, mv_k h2]
theorem addU_f {m : Mem} {j : Int} (h : j ≠ 40) : addU m 169 j = m 169 j := by
  unfold addU
  split
  · exact up2_j h
  · rw [up2_j h, mv_k (by decide)]
theorem pushU_k {a : Mem} {k : Nat} (h : k ≠ 169) (h2 : k ≠ 190) : pushU a k = a k := by
  unfold pushU
  rw [addU_k h h2, mv_k h2]
theorem pushU_f {a : Mem} {j : Int} (h : j ≠ 40) : pushU a 169 j = a 169 j := by
  unfold pushU
  rw [addU_f h, mv_k (by decide)]
theorem pushU_pushed {a : Mem} (h0 : 0 ≤ a 169 40) (h1 : a 169 40 ≤ 15) : Pushed a (a 180) (pushU a) := by
  refine pushed_add h0 h1 (a 180) (by rw [mv_k (by decide)]) (fun j j0 j1 => mv_out (by omega)) (fun k k0 k1 => ?_)
  rw [mv_in (by omega) (by omega)]
  congr 1
  omega
theorem actU_k {a : Mem} {r : Int → Int} {n : Int} {f : Int → Int} {k : Nat} (h : k ≠ 169) (h1 : k ≠ 170) (h2 : k ≠ 180) (h3 : k ≠ 190) : actU a r n f k = a k := by
  unfold actU
  rw [rowU_k h h1, upr_k h2, pushU_k h h3]
theorem actU_f {a : Mem} {r : Int → Int} {n : Int} {f : Int → Int} {j : Int} (h : j ≠ 1) (h2 : j ≠ 40) : actU a r n f 169 j = a 169 j := by
  unfold actU
  rw [rowU_f h, upr_k (by decide), pushU_f h2]
theorem actU_180 {a : Mem} {r : Int → Int} {n : Int} {f : Int → Int} : actU a r n f 180 = r := by
  unfold actU
  rw [rowU_k (by decide) (by decide)]
  funext j
  exact upr_same _ _ _ _
theorem actU_190 {a : Mem} {r : Int → Int} {n : Int} {f : Int → Int} : actU a r n f 190 = pushU a 190 := by
  unfold actU
  rw [rowU_k (by decide) (by decide), upr_k (by decide)]
theorem actU_40 {a : Mem} {r : Int → Int} {n : Int} {f : Int → Int} : actU a r n f 169 40 = pushU a 169 40 := by
  unfold actU
  rw [rowU_f (by decide), upr_k (by decide)]
theorem actU_1 {a : Mem} {r : Int → Int} {n : Int} {f : Int → Int} : actU a r n f 169 1 = n := rowU_1
theorem actU_r {a : Mem} {r : Int → Int} {n : Int} {f : Int → Int} {j : Int} : actU a r n f 170 j = f j := rowU_r
theorem CR0.act {c c' a : Mem} {r : Int → Int} {n : Int} {f : Int → Int} (h : CR0 c a) (hN : StRel c' 23 r) (hH : CHist c' (pushU a)) (h14 : c' 0 14 = n) (hf : ∀ j : Int, 0 ≤ j → j < n → c' 168 j = f j) (e : ∀ k, Told k → k ≠ 168 → (k < 23 ∨ 93 ≤ k) → c' k = c k) (e93 : c' 93 4 = c 93 4) : CR0 c' (actU a r n f) := by
  have e : ∀ k, ((k ≠ 0 ∧ k < 5) ∨ (9 ≤ k ∧ k < 29) ∨ (33 ≤ k ∧ k < 93) ∨ k = 94 ∨ k = 95 ∨ (154 ≤ k ∧ k < 167) ∨ k = 168) → k ≠ 168 → (k < 23 ∨ 93 ≤ k) → c' k = c k := e
  have q : ∀ k, k ≠ 169 → k ≠ 170 → k ≠ 180 → k ≠ 190 → actU a r n f k = a k := fun k h h1 h2 h3 => actU_k h h1 h2 h3
  have q9 : ∀ j : Int, j ≠ 1 → j ≠ 40 → actU a r n f 169 j = a 169 j := fun j h h2 => actU_f h h2
  refine ⟨?_, ?_, ?_, ?_, ?_, ?_, ?_, ?_⟩
  · have g := h.town.fr (e 9 (by omega) (by omega) (by omega)) (fun s hs => ⟨e _ (by omega) (by omega) (by omega), e _ (by omega) (by omega) (by omega)⟩)
    unfold CTown
    rw [q9 3 (by decide) (by decide), q 171 (by decide) (by decide) (by decide) (by decide), q 172 (by decide) (by decide) (by decide) (by decide), q 173 (by decide) (by decide) (by decide) (by decide), q 174 (by decide) (by decide) (by decide) (by decide), q 175 (by decide) (by decide) (by decide) (by decide), q 176 (by decide) (by decide) (by decide) (by decide), q 177 (by decide) (by decide) (by decide) (by decide), q 178 (by decide) (by decide) (by decide) (by decide)]
    exact g
  · have g := h.set.fr (e 4 (by omega) (by omega) (by omega))
    unfold CSet
    rw [q 179 (by decide) (by decide) (by decide) (by decide)]
    exact g
  · have g := h.text.fr (e 1 (by omega) (by omega) (by omega)) (e 2 (by omega) (by omega) (by omega))
    unfold CText
    rw [q9 17 (by decide) (by decide), q 182 (by decide) (by decide) (by decide) (by decide)]
    exact g
  · rw [actU_180]; exact hN
  · exact hH.sg actU_40 (fun j _ _ => by rw [actU_190])
  · have g := h.loads.fr e93 (e 94 (by omega) (by omega) (by omega)) (e 95 (by omega) (by omega) (by omega))
    unfold CLoads
    rw [q9 62 (by decide) (by decide), q 201 (by decide) (by decide) (by decide) (by decide), q 202 (by decide) (by decide) (by decide) (by decide)]
    exact g
  · have g := h.kept.fr (e 166 (by omega) (by omega) (by omega)) (fun k _ _ => e k (by omega) (by omega) (by omega))
    unfold CKept
    rw [q9 3 (by decide) (by decide), q9 4 (by decide) (by decide), q 205 (by decide) (by decide) (by decide) (by decide), q 206 (by decide) (by decide) (by decide) (by decide), q 207 (by decide) (by decide) (by decide) (by decide)]
    exact g
  · unfold CRow
    rw [actU_1]
    exact ⟨h14, fun j j0 j1 => by rw [actU_r]; exact hf j j0 j1⟩
theorem pushU_hist {B : Int} {a : Mem} (h : WHist B a) (hn : StOK B a (a 180)) : WHist B (pushU a) := by
  obtain ⟨t, ht, p1, p2, p3⟩ := pushU_pushed h.1 h.2.1
  have so : ∀ r r' : Int → Int, StOK B a r → (∀ k : Int, 0 ≤ k → k < 99 → r' k = r k) → StOK B (pushU a) r' := fun r r' g e => g.congr e (fun b _ _ => by rw [pushU_k (by decide) (by decide)])
  have h0 := h.1
  have h1 := h.2.1
  refine ⟨by omega, by omega, fun i i0 i1 => ?_⟩
  by_cases c : i < a 169 40 - t
  · exact so _ _ (h.2.2 (i + t) (by omega) (by omega)) (fun k k0 k1 => p2 i k i0 c k0 k1)
  · have ei : i = a 169 40 - t := by omega
    refine so _ _ hn (fun k k0 k1 => ?_)
    rw [ei]
    exact p3 k k0 k1
theorem W0.act {B B2 : Int} {a : Mem} {r : Int → Int} {n : Int} {f : Int → Int} (h : W0 B a) (hB : B ≤ B2) (hr : StOK B2 a r) (n0 : 0 ≤ n) (n6 : n ≤ 6) (hf : ∀ j : Int, 0 ≤ j → j < n → -9223372036854775808 ≤ f j ∧ f j < 9223372036854775808) : W0 B2 (actU a r n f) := by
  have q : ∀ k, k ≠ 169 → k ≠ 170 → k ≠ 180 → k ≠ 190 → actU a r n f k = a k := fun k h h1 h2 h3 => actU_k h h1 h2 h3
  have q9 : ∀ j : Int, j ≠ 1 → j ≠ 40 → actU a r n f 169 j = a 169 j := fun j h h2 => actU_f h h2
  have h := h.mono hB
  have so : ∀ r' : Int → Int, StOK B2 a r' → StOK B2 (actU a r n f) r' := fun r' h => h.congr (fun _ _ _ => rfl) (fun b _ _ => by rw [actU_k (by decide) (by decide) (by decide) (by decide)])
  refine ⟨?_, ?_, ?_, ?_, ?_, ?_, ?_, ?_⟩
  · exact h.town.of (q9 3 (by decide) (by decide)) (fun k k0 k1 => q k (by omega) (by omega) (by omega) (by omega))
  · exact h.set.of (q 179 (by decide) (by decide) (by decide) (by decide))
  · unfold WText; rw [q9 17 (by decide) (by decide), q 182 (by decide) (by decide) (by decide) (by decide)]; exact h.text
  · rw [actU_180]; exact so _ hr
  · have g := pushU_hist h.hist h.now
    unfold WHist
    rw [actU_40, actU_190]
    exact ⟨g.1, g.2.1, fun i i0 i1 => (g.2.2 i i0 i1).congr (fun _ _ _ => rfl) (fun b _ _ => by rw [actU_k (by decide) (by decide) (by decide) (by decide), pushU_k (by decide) (by decide)])⟩
  · unfold WLoads; rw [q9 62 (by decide) (by decide), q9 3 (by decide) (by decide), q 201 (by decide) (by decide) (by decide) (by decide), q 202 (by decide) (by decide) (by decide) (by decide)]; exact h.loads
  · unfold WKept; rw [q9 4 (by decide) (by decide), q 205 (by decide) (by decide) (by decide) (by decide), q 206 (by decide) (by decide) (by decide) (by decide), q 207 (by decide) (by decide) (by decide) (by decide)]
    refine ⟨h.kept.1, h.kept.2.1, fun i i0 i1 => ?_⟩
    rcases h.kept.2.2 i i0 i1 with g | ⟨g1, g2, g3, g4⟩
    · exact Or.inl g
    · exact Or.inr ⟨g1, g2, g3, so _ g4⟩
  · unfold WRow; rw [actU_1]; exact ⟨n0, n6, fun j j0 j1 => by rw [actU_r]; exact hf j j0 j1⟩
theorem HighEq.rf {a : Mem} : HighEq a a := fun _ _ => rfl
theorem HighEq.trans {a b d : Mem} (h : HighEq a b) (g : HighEq b d) : HighEq a d := fun k hk => (g k hk).trans (h k hk)
theorem hi_mv {a m : Mem} {x y : Nat} {s d n : Int} (h : HighEq a m) (hx : 169 ≤ x) : HighEq (mv a x s y d n) (mv m x s y d n) := fun k hk => by
  by_cases c : k = y
  · subst c
    funext j
    unfold mv
    rw [upr_same, upr_same, h x hx, h k hk]
  · rw [mv_k c, mv_k c]; exact h k hk
theorem hi_up {a m : Mem} {x : Nat} {j z : Int} (h : HighEq a m) : HighEq (up2 a x j z) (up2 m x j z) := fun k hk => by
  funext i
  unfold up2
  rw [h k hk]
theorem hi_upr {a m : Mem} {x : Nat} {f : Int → Int} (h : HighEq a m) : HighEq (upr a x f) (upr m x f) := fun k hk => by
  funext i
  unfold upr
  rw [h k hk]
theorem hi_addU {a m : Mem} (h : HighEq a m) : HighEq (addU a) (addU m) := by
  unfold addU
  rw [h 169 (by decide)]
  split
  · exact hi_up h
  · exact hi_up (hi_mv h (by decide))
theorem hi_pushU {a m : Mem} (h : HighEq a m) : HighEq (pushU a) (pushU m) := by
  unfold pushU
  rw [h 169 (by decide)]
  exact hi_addU (hi_mv h (by decide))
theorem hi_actU {a m : Mem} {r : Int → Int} {n : Int} {f : Int → Int} (h : HighEq a m) : HighEq (actU a r n f) (actU m r n f) := by
  unfold actU rowU
  exact hi_upr (hi_up (hi_upr (hi_pushU h)))
def RF (c c' : Mem) : Prop := (∀ x : Int, x ≠ 5 → c' 5 x = c 5 x) ∧ c' 6 = c 6 ∧ c' 7 = c 7
theorem Rel.act {v : (Int → Int) → Int} {B B2 : Int} {m m1 m2 : Mem} {r : Int → Int} {n : Int} {f : Int → Int} (h : Rel v B m) (hB : B ≤ B2) (q : CR0 m1 (actU m r n f)) (rf : RF m m1) (hi : HighEq m m1) (p : PEq m2 (actU m1 r n f)) (l : LowEq m1 m2) (hr : StOK B2 m r) (n0 : 0 ≤ n) (n6 : n ≤ 6) (hf : ∀ j : Int, 0 ≤ j → j < n → -9223372036854775808 ≤ f j ∧ f j < 9223372036854775808) : Rel v B2 m2 := by
  obtain ⟨h1, h2, h3, h4⟩ := h
  have p2 : PEq m2 (actU m r n f) := p.trans (hi_actU hi).peq
  have w := h4.act hB hr n0 n6 hf
  refine ⟨(q.peq p2 w.town).lo l, (h2.fr rf.1 rf.2.1 rf.2.2).lo l, ?_, w.peq p2⟩
  have : RuleM (actU m r n f) v := h3.of (actU_f (by decide) (by decide)) (actU_k (by decide) (by decide) (by decide) (by decide))
  exact this.peq p2
