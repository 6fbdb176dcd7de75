/-! orders: one street of a way -/
def SameS (s : Int) (x y : Int → Int) : Prop := (∀ h : Int, 0 ≤ h → h < 16 → x (16 * s + h) = y (16 * s + h)) ∧ x 96 = y 96 ∧ ∀ j : Int, 99 ≤ j → x j = y j
theorem pt_eq {x y : Int → Int} {j z w b : Int} (e : z = w) (h : x b = y b) : pt x j z b = pt y j w b := by
  subst e
  by_cases c : b = j
  · subst c; rw [pt_same, pt_same]
  · rw [pt_ne c, pt_ne c, h]
theorem sameS_pt {s : Int} {x y : Int → Int} (h : SameS s x y) {j z w : Int} (e : z = w) : SameS s (pt x j z) (pt y j w) := ⟨fun k k0 k1 => pt_eq e (h.1 k k0 k1), pt_eq e h.2.1, fun k hk => pt_eq e (h.2.2 k hk)⟩
theorem wk_same {a : Mem} {v : (Int → Int) → Int} {s how full hill men h : Int} {x y : Int → Int} (h0 : 0 ≤ h) (h1 : h < 16) (g : SameS s x y) : SameS s (wk a v s how full hill men h x) (wk a v s how full hill men h y) := by
  have e1 := g.1 h h0 h1
  have e2 := g.2.1
  have e3 := g.2.2 137 (by decide)
  have e4 := g.2.2 136 (by decide)
  have e5 := g.2.2 135 (by decide)
  have e6 := g.2.2 134 (by decide)
  have e7 := g.2.2 132 (by decide)
  unfold wk
  rw [e1, e3, e2]
  split
  · split
    · split
      · exact sameS_pt (sameS_pt (sameS_pt (sameS_pt (sameS_pt g rfl) (by rw [e4])) rfl) (by rw [e6])) (by rw [e7])
      · exact sameS_pt g rfl
    · exact sameS_pt (sameS_pt (sameS_pt g rfl) (by rw [e5])) (by rw [e7])
  · exact g
theorem walkN_same {a : Mem} {v : (Int → Int) → Int} {s how full hill men n : Int} {x y : Int → Int} (n8 : n ≤ 8) (g : SameS s x y) : ∀ k : Nat, (k : Int) ≤ 2 * n → SameS s (walkN a v s how full hill men n k x) (walkN a v s how full hill men n k y)
  | 0, _ => g
  | k + 1, hk => by
    have r := houseN_rng (how := how) (i := k) n8 (by omega) (by omega)
    rw [walkN, walkN]
    exact wk_same r.1 r.2 (walkN_same n8 g k (by omega))
theorem goes_same {a : Mem} {v : (Int → Int) → Int} {r r' : Int → Int} {s how full hill men : Int} (hT : WTown a) (s0 : 0 ≤ s) (s6 : s < 6) (h : ∀ h : Int, 0 ≤ h → h < 16 → r (16 * s + h) = r' (16 * s + h)) (h96 : r 96 = r' 96) : SameS s (goesP a v r s how full hill men) (goesP a v r' s how full hill men) := by
  have t := hT.2.2.1 s s0 s6
  refine walkN_same (by omega) ⟨fun k k0 k1 => ?_, ?_, fun j hj => ?_⟩ _ (by omega)
  · rw [x0_row (by omega) (by omega), x0_row (by omega) (by omega), h k k0 k1]
  · rw [x0_row (by decide) (by decide), x0_row (by decide) (by decide), h96]
  · rw [x0_0 hj, x0_0 hj]
theorem BT_same {a : Mem} {v : (Int → Int) → Int} {r r' : Int → Int} {s : Int} (hT : WTown a) (s0 : 0 ≤ s) (s6 : s < 6) (h : ∀ h : Int, 0 ≤ h → h < 16 → r (16 * s + h) = r' (16 * s + h)) : BT a v r s = BT a v r' s := by
  funext how
  unfold BT secN
  rw [(goes_same (r := emptyRow r) (r' := emptyRow r') hT s0 s6 (fun k k0 k1 => by rw [emptyRow_b (by omega), emptyRow_b (by omega)]; exact h k k0 k1) (by rw [emptyRow_96, emptyRow_96])).2.2 132 (by decide)]
theorem wouldS_same {a : Mem} {r r' : Int → Int} {s : Int} (h : ∀ h : Int, 0 ≤ h → h < 16 → r (16 * s + h) = r' (16 * s + h)) : wouldS a r s = wouldS a r' s := by
  unfold wouldS
  refine sumI_congr (fun k k0 k1 => ?_)
  show (if r (16 * s + k) = 1 then _ else (0 : Int)) = if r' (16 * s + k) = 1 then _ else 0
  rw [h k k0 (by omega)]
theorem rO_same {r r' : Int → Int} {s : Int} (h : ∀ h : Int, 0 ≤ h → h < 16 → r (16 * s + h) = r' (16 * s + h)) : rO r s 16 = rO r' s 16 := by
  unfold rO
  refine sumI_congr (fun k k0 k1 => ?_)
  show b01 (r (16 * s + k) == 1) = b01 (r' (16 * s + k) == 1)
  rw [h k k0 (by omega)]
theorem cnt_eq {B : Int} {a : Mem} {r : Int → Int} {s how bits : Int} (hT : WTown a) (hn : StOK B a r) (s0 : 0 ≤ s) (s6 : s < 6) (hb : ∀ h : Int, 0 ≤ h → h < 16 → (r (16 * s + h) = 1 ↔ tb bits h = true)) : cntN bits (a 172 s) how (2 * a 172 s).toNat = rO r s 16 := by
  have t := hT.2.2.1 s s0 s6
  have eN : (2 * a 172 s).toNat = 2 * (a 172 s).toNat := by omega
  have eC : (((a 172 s).toNat : Nat) : Int) = a 172 s := Int.toNat_of_nonneg (by omega)
  have := sum_houses (f := fun h => b01 (tb bits h)) (n := (a 172 s).toNat) (how := how) (by omega) (fun h h0 h1 h2 => by
    show b01 (tb bits h) = 0
    cases c : tb bits h
    · rfl
    · have := out_in hT hn s0 s6 h0 h1 ((hb h h0 h1).2 c)
      omega)
  rw [eC] at this
  unfold cntN rO
  rw [eN, this]
  refine sumI_congr (fun h h0 h1 => ?_)
  show b01 (tb bits h) = b01 (r (16 * s + h) == 1)
  have e := hb h h0 (by omega)
  cases c : tb bits h
  · have : ¬ r (16 * s + h) = 1 := fun o => by rw [e.1 o] at c; cases c
    rw [beq_eq_false_iff_ne.2 this]
  · rw [beq_iff_eq.2 (e.2 c)]
/-- load, place, now -/
abbrev Tr := Int × Int × Int
def oHow (a : Mem) (v : (Int → Int) → Int) (r : Int → Int) (s : Int) : Int := bestH (BT a v r s)
def oX (a : Mem) (v : (Int → Int) → Int) (r : Int → Int) (s l : Int) : Int → Int := goX a v (lorry r l 0 0) s (oHow a v r s)
def oThere (a : Mem) (t : Tr) : Int := t.2.2 + dist t.2.1 (a 179 5)
abbrev oOpen (a : Mem) (t : Tr) : Prop := divI (oThere a t) 60 ≤ a 179 6
def oTip (a : Mem) (t : Tr) : Tr := (0, a 179 5, oThere a t + 300)
abbrev oNeeds (a : Mem) (r : Int → Int) (s : Int) (t : Tr) : Prop := t.1 ≠ 0 ∧ ¬ t.1 + wouldS a r s ≤ a 179 0
def oCome (a : Mem) (s : Int) (t : Tr) : Int := t.2.2 + dist t.2.1 (a 171 s)
def oWait (a : Mem) (s w : Int) : Int := if 0 ≤ a 176 s ∧ a 176 s ≤ divI w 60 ∧ divI w 60 ≤ a 177 s then 60 * (a 177 s + 1) else w
def oGo (a : Mem) (v : (Int → Int) → Int) (r : Int → Int) (s : Int) (t : Tr) : Tr := (oX a v r s t.1 96, a 171 s, oWait a s (oCome a s t) + (handsP (a 179 1) (oX a v r s t.1 132) + movesR a s (oHow a v r s)))
def oSt (a : Mem) (r : Int → Int) (s : Int) (t : Tr) : Option Tr := if oNeeds a r s t then (if oOpen a t then some (oTip a t) else none) else some t
def oVisit (a : Mem) (v : (Int → Int) → Int) (r : Int → Int) (s : Int) (t : Tr) : Option Tr := (oSt a r s t).map (oGo a v r s)
def oTipped (a : Mem) (r : Int → Int) (s : Int) (t : Tr) : Int := if oNeeds a r s t then 1 else 0
def oStay (a : Mem) (v : (Int → Int) → Int) (r : Int → Int) (s : Int) (t : Tr) : Int := rO (oX a v r s (if oNeeds a r s t then 0 else t.1)) s 16
def trOK (W : Int) (t : Tr) : Prop := 0 ≤ t.1 ∧ t.1 ≤ 999 ∧ 0 ≤ t.2.1 ∧ t.2.1 ≤ 99 ∧ 0 ≤ t.2.2 ∧ t.2.2 ≤ W
theorem wouldS_b {a : Mem} {r : Int → Int} {s : Int} (hT : WTown a) (hS : WSet a) (s0 : 0 ≤ s) (s6 : s < 6) : 0 ≤ wouldS a r s ∧ wouldS a r s ≤ 544 := wouldS_rng (r := r) hT hS s0 s6 (n := 16) (by decide)
theorem oX_rng {B : Int} {a : Mem} {v : (Int → Int) → Int} {r : Int → Int} {s l : Int} (hT : WTown a) (hS : WSet a) (hn : StOK B a r) (s0 : 0 ≤ s) (s6 : s < 6) (l0 : 0 ≤ l) (l1 : l ≤ 999) : 0 ≤ oX a v r s l 96 ∧ oX a v r s l 96 ≤ 999 ∧ 0 ≤ handsP (a 179 1) (oX a v r s l 132) ∧ handsP (a 179 1) (oX a v r s l 132) ≤ 17600 ∧ oX a v r s l 96 = l + oX a v r s l 136 ∧ rO (oX a v r s l) s 16 = rO r s 16 - (oX a v r s l 134 + oX a v r s l 135) := by
  have X := goes_rng (v := v) (r := lorry r l 0 0) (how := oHow a v r s) (full := a 179 0) (hill := a 173 s) (men := a 179 1) hT hS s0 s6 (fun b b0 b1 => by rw [lorry_b b1]; exact hn.r3 b b0 b1) (by rw [lorry_l]; exact l0)
  have G := goes_all (v := v) (r := lorry r l 0 0) (how := oHow a v r s) (full := a 179 0) (hill := a 173 s) (men := a 179 1) hT s0 s6
  have h1 := hands_rng (men := a 179 1) (w := oX a v r s l 132) ⟨hS.2.2.1, by have := hS.2.2.2.1; omega⟩ X.2.2.2.2.1 (by have := X.2.2.2.2.2.1; unfold oX goX; omega)
  obtain ⟨g1, -, -, g4, g5, -⟩ := G
  have w := hS.2.1
  have g4 := g4 999 w (by rw [lorry_l]; exact l1)
  rw [lorry_l] at g1
  have rr : rO (lorry r l 0 0) s 16 = rO r s 16 := rO_same (fun k k0 k1 => lorry_b (by omega))
  rw [rr] at g5
  exact ⟨X.2.1, g4, h1.1, h1.2, g1, g5⟩
theorem oGo_ok {B W : Int} {a : Mem} {v : (Int → Int) → Int} {r : Int → Int} {s : Int} {t : Tr} (hT : WTown a) (hS : WSet a) (hn : StOK B a r) (s0 : 0 ≤ s) (s6 : s < 6) (h : trOK W t) : trOK (W + 79000) (oGo a v r s t) := by
  obtain ⟨h1, h2, h3, h4, h5, h6⟩ := h
  have X := oX_rng (v := v) hT hS hn s0 s6 h1 h2
  have ts := hT.2.2.1 s s0 s6
  have tb := ts.2.2.2.2.2.2.2.2.2.1
  unfold barOK at tb
  have d := dist_rng h3 h4 ts.1 ts.2.1
  have mv := movesR_rng (how := oHow a v r s) hT s0 s6
  have w : 0 ≤ oWait a s (oCome a s t) ∧ oWait a s (oCome a s t) ≤ W + 60990 := by
    unfold oWait oCome
    split <;> omega
  refine ⟨X.1, X.2.1, ts.1, ts.2.1, ?_, ?_⟩
  · show 0 ≤ oWait a s (oCome a s t) + (handsP (a 179 1) (oX a v r s t.1 132) + movesR a s (oHow a v r s)); omega
  · show oWait a s (oCome a s t) + (handsP (a 179 1) (oX a v r s t.1 132) + movesR a s (oHow a v r s)) ≤ W + 79000; omega
theorem oTip_ok {W : Int} {a : Mem} {t : Tr} (hS : WSet a) (h : trOK W t) : trOK (W + 1290) (oTip a t) ∧ 0 ≤ oThere a t ∧ oThere a t ≤ W + 990 := by
  obtain ⟨h1, h2, h3, h4, h5, h6⟩ := h
  obtain ⟨-, -, -, -, -, -, -, -, -, -, w5, w5', -⟩ := hS
  have d := dist_rng h3 h4 w5 w5'
  have e : 0 ≤ oThere a t ∧ oThere a t ≤ W + 990 := by unfold oThere; omega
  refine ⟨⟨Int.le_refl _, (by decide : (0 : Int) ≤ 999), w5, w5', ?_, ?_⟩, e⟩
  · show 0 ≤ oThere a t + 300; omega
  · show oThere a t + 300 ≤ W + 1290; omega
theorem oVisit_ok {B W : Int} {a : Mem} {v : (Int → Int) → Int} {r : Int → Int} {s : Int} {t t' : Tr} (hT : WTown a) (hS : WSet a) (hn : StOK B a r) (s0 : 0 ≤ s) (s6 : s < 6) (h : trOK W t) (e : oVisit a v r s t = some t') : trOK (W + 80290) t' := by
  unfold oVisit oSt at e
  split at e
  · split at e
    · cases e
      have := oGo_ok (v := v) hT hS hn s0 s6 (oTip_ok hS h).1
      rw [show W + 80290 = W + 1290 + 79000 by omega]
      exact this
    · cases e
  · cases e
    obtain ⟨g1, g2, g3, g4, g5, g6⟩ := oGo_ok (v := v) hT hS hn s0 s6 h
    exact ⟨g1, g2, g3, g4, g5, by omega⟩
