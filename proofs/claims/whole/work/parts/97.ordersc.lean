/-! orders: the class' side, one way -/
theorem jobM : ∀ s : Nat, s < 6 → 111 + 6 * s ∈ jobL := by decide +kernel
def OP (a : Mem) (v : (Int → Int) → Int) (r : Int → Int) (bits : Int → Int) (n : Int) (c : Mem) : Prop := ∀ s : Int, 0 ≤ s → s < n → Laid (111 + 6 * s.toNat) a v s (oHow a v r s) (bits s) (a 173 s) (a 179 1) c
def OFr (c c' : Mem) : Prop := (∀ q, (q < 106 ∨ 146 < q) → q ≠ 8 → q ≠ 5 → c' q = c q) ∧ ∀ x : Int, x ≠ 5 → c' 5 x = c 5 x
theorem OFr.rf {c : Mem} : OFr c c := ⟨fun _ _ _ _ => rfl, fun _ _ => rfl⟩
theorem OFr.trans {c c1 c2 : Mem} (h : OFr c c1) (g : OFr c1 c2) : OFr c c2 := ⟨fun q q1 q2 q3 => (g.1 q q1 q2 q3).trans (h.1 q q1 q2 q3), fun x hx => (g.2 x hx).trans (h.2 x hx)⟩
theorem OFr.town {c c' a : Mem} (h : OFr c c') (hC : CTown c a) : CTown c' a := hC.fr (h.1 9 (by omega) (by omega) (by omega)) (fun s _ => ⟨h.1 _ (by omega) (by omega) (by omega), h.1 _ (by omega) (by omega) (by omega)⟩)
theorem OFr.set {c c' a : Mem} (h : OFr c c') (hC : CSet c a) : CSet c' a := hC.fr (h.1 4 (by omega) (by omega) (by omega))
theorem OFr.rule {c c' : Mem} {v : (Int → Int) → Int} (h : OFr c c') (hR : RuleC c v) : RuleC c' v := hR.fr (fun x hx => h.2 x hx) (h.1 6 (by omega) (by omega) (by omega)) (h.1 7 (by omega) (by omega) (by omega))
theorem ct_prepare {E : Nat × (Nat → Int32)} {c a : Mem} {v : (Int → Int) → Int} {r : Int → Int} {B : Int} (hC : CTown c a) (hCS : CSet c a) (hN : StRel c 23 r) (hR : RuleC c v) (hT : WTown a) (hS : WSet a) (hn : StOK B a r) : K_X4_prepare E [.ref 106, .ref 24] c (fun c' => OP a v r (c 24) (a 169 3) c' ∧ OFr c c' ∧ ∀ q, q < 111 → q ≠ 8 → q ≠ 5 → c' q = c q) := by
  have n0 := hT.1
  have n6 := hT.2.1
  have m1 := hS.2.2.1
  have m4 := hS.2.2.2.1
  refine en_X4_prepare (sg_X4_prepare_0 (by decide) sh_24 ?_)
  refine up_loop (i0 := 0) (n := a 169 3) (fun s c2 => GM E _ _ 2 [.ref 106, .ref 24, vi s, un, un] [] c2) (fun s c2 => OP a v r (c 24) s c2 ∧ OFr c c2 ∧ ∀ q, q < 111 → q ≠ 8 → q ≠ 5 → c2 q = c q) (fun c2 h => ?_) (fun s c2 s0 s1 h k => ?_) (i := 0) (s := c) (by omega) (by omega) ⟨fun s s0 s1 => by omega, OFr.rf, fun _ _ _ _ => rfl⟩
  · have e : c2 9 1 = a 169 3 := (h.2.1.town hC).1
    exact sg_X4_prepare_2 (by decide) sh_24 ⟨by omega, by omega⟩ (by rw [e]; constructor <;> omega) (by rw [e]; omega) (by rw [e]; omega) (by rw [e]; omega) (fun _ => ⟨rfl, h⟩) (by rw [e]; omega) (by rw [e]; omega) (by rw [e]; omega) (by rw [e]; omega)
  · obtain ⟨hO, hF, hL⟩ := h
    have hC2 := hF.town hC
    have hCS2 := hF.set hCS
    have e : c2 9 1 = a 169 3 := hC2.1
    have e41 : c2 4 1 = a 179 1 := hCS2 1 (by decide) (by decide)
    have t := hT.2.2.1 s s0 (by omega)
    have ts := hC2.s s0 s1 n6
    have ns : s.toNat < 6 := by omega
    refine sg_X4_prepare_2 (by decide) sh_24 ⟨by omega, by omega⟩ (by rw [e]; constructor <;> omega) (fun _ _ _ => by rw [e]; omega) (fun _ _ _ _ => by omega) (fun _ _ _ _ => by rw [e41]; constructor <;> omega) (by rw [e]; omega) (by rw [e]; omega) (by omega) (fun _ _ _ _ => ?_) (by rw [e]; omega)
    rw [e41, ts.2.2.1, show max 1 (a 179 1) = a 179 1 by omega]
    generalize ho : 111 + 6 * s.toNat = o
    have jm : o ∈ jobL := by rw [← ho]; exact jobM _ ns
    have jr := jobR jm
    have sm := streetMem _ ns
    have sr := streetR1 sm
    have F3 : JobFr o c2 (up2 (up2 c2 o 7 (a 179 1)) o 8 (a 173 s)) := (JobFr.rf.up jr.1).up jr.1
    have e24 : up2 (up2 c2 o 7 (a 179 1)) o 8 (a 173 s) 24 s = c 24 s := by rw [up2_k (by omega), up2_k (by omega), hL 24 (by decide) (by decide) (by decide)]
    rw [e24]
    have hb : ∀ h : Int, 0 ≤ h → h < 16 → (r (16 * s + h) = 1 ↔ tb (c 24 s) h = true) := fun h h0 h1 => hN.out1 s0 (by omega) h0 h1
    refine ca_X4_prepare_75 jm (ct_chooseHow (r := emptyRow r) jm (F3.town jr.1 hC2) (F3.set jr.1 hCS2) (F3.rule jr.1 (hF.rule hR)) hT hS s0 s1 (up2_same _ _ _ _) (by rw [up2_j (by decide), up2_same]) ⟨by omega, by omega⟩ ⟨m1, by omega⟩ (er3 hn.r3) (er1 (by omega) hb) emptyRow_96) (fun z c4 hz => ?_)
    obtain ⟨z1, -, -, z4, z5⟩ := hz
    have zr := bestH_rng (BT a v r s)
    have ez : z = oHow a v r s := z1
    have F4 := F3.trans z5
    refine sg_X4_prepare_78 (by decide) sh_24 sm jm ⟨s0, by omega⟩ ?_
    have e24' : c4 24 s = c 24 s := by rw [F4.1 24 (by omega) (by decide) (by decide), hL 24 (by decide) (by decide) (by decide)]
    rw [e24']
    refine ca_X4_prepare_81 jm (ct_lay2 (hill := a 173 s) (men := a 179 1) jm (F4.town jr.1 hC2) (F4.set jr.1 hCS2) (F4.rule jr.1 (hF.rule hR)) hT hS s0 s1 (by rw [ez]; exact zr.1) (by rw [ez]; unfold oHow; omega) z4.2.1 z4.1 ⟨by omega, by omega⟩ ⟨by omega, by omega⟩) (fun c5 h5 => sg_X4_prepare_84 (by decide) sh_24 sm jm (k _ ⟨fun u u0 u1 => ?_, ?_, ?_⟩))
    · obtain ⟨l5, f5, -⟩ := h5
      by_cases cu : u = s
      · subst cu
        rw [ho, ← ez]
        exact l5
      · have L := hO u u0 (by omega)
        have F5 := F4.trans f5
        have hu : u.toNat < s.toNat := by omega
        exact L.fr (fun x _ _ => by rw [F5.1 _ (by omega) (by omega) (by omega)]) (fun q q0 q1 => F5.1 q (by omega) (by omega) (by omega))
    · have F5 := F4.trans h5.2.1
      exact hF.trans ⟨fun q q1 q2 q3 => F5.1 q (by omega) q2 q3, F5.2⟩
    · have F5 := F4.trans h5.2.1
      intro q q1 q2 q3
      rw [F5.1 q (by omega) q2 q3, hL q q1 q2 q3]
def TrC (c : Mem) (t : Tr) : Prop := c 106 6 = t.1 ∧ c 106 7 = t.2.1 ∧ c 106 8 = t.2.2
theorem ct_oTip {E : Nat × (Nat → Int32)} {c a : Mem} {t : Tr} {W : Int} (hCS : CSet c a) (hS : WSet a) (ht : trOK W t) (h : TrC c t) : K_X4_goTip E [.ref 106] c (fun z c' => (oOpen a t ∧ z = 1 ∧ TrC c' (oTip a t) ∧ c' 106 9 = c 106 9 + 1 ∧ (∀ j : Int, j < 6 ∨ 9 < j → c' 106 j = c 106 j) ∧ ∀ q, q ≠ 106 → c' q = c q) ∨ (¬ oOpen a t ∧ z = 0 ∧ c' = c)) := by
  obtain ⟨h6, h7, h8⟩ := h
  have e5 := hCS 5 (by decide) (by decide)
  have e6 := hCS 6 (by decide) (by decide)
  obtain ⟨-, -, -, -, -, -, -, -, -, -, w5, w5', w6, w6'⟩ := hS
  obtain ⟨t1, t2, t3, t4, t5, t6⟩ := ht
  have ed : 10 * (if 0 ≤ c 106 7 - c 4 5 then c 106 7 - c 4 5 else -(c 106 7 - c 4 5)) = dist t.2.1 (a 179 5) := by rw [h7, e5]; rfl
  refine en_X4_goTip (sg_X4_goTip_0 (by rw [h7, e5]; constructor <;> omega) (by rw [e6]; constructor <;> omega) (fun g => ⟨_, rfl, Or.inl ⟨?_, rfl, ⟨?_, ?_, ?_⟩, ?_, fun j hj => ?_, fun q hq => ?_⟩⟩) (fun g => ⟨_, rfl, Or.inr ⟨?_, rfl, rfl⟩⟩))
  · rw [ed, h8, e6] at g; exact g
  · rw [up2_j (by decide), up2_same]; rfl
  · rw [up2_j (by decide), up2_j (by decide), up2_same, e5]; rfl
  · rw [up2_j (by decide), up2_j (by decide), up2_j (by decide), up2_same, ed, h8]; rfl
  · rw [up2_same]
  · rw [up2_j (by omega), up2_j (by omega), up2_j (by omega), up2_j (by omega)]
  · rw [up2_k hq, up2_k hq, up2_k hq, up2_k hq]
  · rw [ed, h8, e6] at g; exact g
def OV (c c' : Mem) : Prop := (∀ j : Int, j < 6 ∨ 10 < j → c' 106 j = c 106 j) ∧ ∀ q, q < 106 ∨ (106 < q ∧ q < 111) ∨ 146 < q → c' q = c q
theorem OV.rf {c : Mem} : OV c c := ⟨fun _ _ => rfl, fun _ _ => rfl⟩
theorem OV.trans {c c1 c2 : Mem} (h : OV c c1) (g : OV c1 c2) : OV c c2 := ⟨fun j hj => (g.1 j hj).trans (h.1 j hj), fun q hq => (g.2 q hq).trans (h.2 q hq)⟩
theorem OV.ofr {c c1 : Mem} (h : OV c c1) : OFr c c1 := ⟨fun q q1 _ _ => h.2 q (by omega), fun x _ => by rw [h.2 5 (by omega)]⟩
theorem ct_visit {E : Nat × (Nat → Int32)} {c a : Mem} {v : (Int → Int) → Int} {r : Int → Int} {bits : Int → Int} {s B W : Int} {t : Tr} (rs : RI s) (hC : CTown c a) (hCS : CSet c a) (hT : WTown a) (hS : WSet a) (hn : StOK B a r) (hb : ∀ s h : Int, 0 ≤ s → s < a 169 3 → 0 ≤ h → h < 16 → (r (16 * s + h) = 1 ↔ tb (bits s) h = true)) (hO : OP a v r bits (a 169 3) c) (ht : trOK W t) (hW : W ≤ 2000000000) (h : TrC c t) : K_X4_visit E [.ref 106, vi s] c (fun z c' => ((0 ≤ s ∧ s < a 169 3) ∧ ∃ t', oVisit a v r s t = some t' ∧ z = 1 ∧ TrC c' t' ∧ c' 106 9 = c 106 9 + oTipped a r s t ∧ c' 106 10 = c 106 10 + oStay a v r s t ∧ OV c c' ∧ OP a v r bits (a 169 3) c') ∨ (¬ ((0 ≤ s ∧ s < a 169 3) ∧ ∃ t', oVisit a v r s t = some t') ∧ z = 0 ∧ c' = c)) := by
  have n0 := hT.1
  have n6 := hT.2.1
  have e := hC.1
  by_cases ok : 0 ≤ s ∧ s < a 169 3
  case neg =>
    exact en_X4_visit (sg_X4_visit_0 (by rw [e]; omega) rs (fun g => absurd (by rw [e] at g; exact g) ok) (fun g => absurd (by rw [e] at g; exact g) ok) (fun g => absurd (by rw [e] at g; exact g) ok) (fun g => absurd (by rw [e] at g; exact g) ok) (fun g => absurd (by rw [e] at g; exact g) ok) (fun g => absurd (by rw [e] at g; exact g) ok) (fun g => absurd (by rw [e] at g; exact g) ok) (fun g => absurd (by rw [e] at g; exact g) ok) (fun g => absurd (by rw [e] at g; exact g) ok) (fun g => absurd (by rw [e] at g; exact g) ok) (fun g => absurd (by rw [e] at g; exact g) ok) (fun g => absurd (by rw [e] at g; exact g) ok) (fun g => absurd (by rw [e] at g; exact g) ok) (fun g => absurd (by rw [e] at g; exact g) ok) (fun g => absurd (by rw [e] at g; exact g) ok) (fun g => absurd (by rw [e] at g; exact g) ok) (fun _ => ⟨_, rfl, Or.inr ⟨fun o => ok o.1, rfl, rfl⟩⟩))
  obtain ⟨s0, s1⟩ := ok
  have ns : s.toNat < 6 := by omega
  have sm := streetMem _ ns
  have sr := streetR1 sm
  have jm := jobM _ ns
  have jr := jobR jm
  have tw := hT.2.2.1 s s0 (by omega)
  have tbar := tw.2.2.2.2.2.2.2.2.2.1
  unfold barOK at tbar
  obtain ⟨t1, t2, t3, t4, t5, t6⟩ := ht
  obtain ⟨h6, h7, h8⟩ := h
  have L := hO s s0 s1
  have ew : c (111 + 6 * s.toNat) 12 = wouldS a r s := by rw [L.2.2.2.2.2.1]; exact would_eq hT hn s0 (by omega) (fun h h0 h1 => hb s h s0 s1 h0 h1)
  have wr := wouldS_b (r := r) hT hS s0 (by omega : s < 6)
  have e40 : c 4 0 = a 179 0 := hCS 0 (by decide) (by decide)
  have f0 := hS.1
  have f1 := hS.2.1
  have m1 := hS.2.2.1
  have m4 := hS.2.2.2.1
  have S := hC.s s0 s1 n6
  -- from the street's begin on
  have fin : ∀ (c3 : Mem) (l w tips : Int), 0 ≤ l → l ≤ 999 → (∀ q, q ≠ 106 → c3 q = c q) → (∀ j : Int, j < 6 ∨ 10 < j → c3 106 j = c 106 j) → c3 106 6 = l → c3 106 7 = a 171 s → c3 106 8 = w → c3 106 9 = tips → c3 106 10 = c 106 10 → (∀ c4 : Mem, TrC c4 (oX a v r s l 96, a 171 s, w + (handsP (a 179 1) (oX a v r s l 132) + movesR a s (oHow a v r s))) → c4 106 9 = tips → c4 106 10 = c 106 10 + rO (oX a v r s l) s 16 → OV c c4 → OP a v r bits (a 169 3) c4 → (Pi fun z c' => ((0 ≤ s ∧ s < a 169 3) ∧ ∃ t', oVisit a v r s t = some t' ∧ z = 1 ∧ TrC c' t' ∧ c' 106 9 = c 106 9 + oTipped a r s t ∧ c' 106 10 = c 106 10 + oStay a v r s t ∧ OV c c' ∧ OP a v r bits (a 169 3) c') ∨ (¬ ((0 ≤ s ∧ s < a 169 3) ∧ ∃ t', oVisit a v r s t = some t') ∧ z = 0 ∧ c' = c)) (some (vi 1)) c4) → GM E (m_X4_visit 3) (Pi fun z c' => ((0 ≤ s ∧ s < a 169 3) ∧ ∃ t', oVisit a v r s t = some t' ∧ z = 1 ∧ TrC c' t' ∧ c' 106 9 = c 106 9 + oTipped a r s t ∧ c' 106 10 = c 106 10 + oStay a v r s t ∧ OV c c' ∧ OP a v r bits (a 169 3) c') ∨ (¬ ((0 ≤ s ∧ s < a 169 3) ∧ ∃ t', oVisit a v r s t = some t') ∧ z = 0 ∧ c' = c)) 112 [.ref 106, vi s, .ref (11 + 2 * s.toNat), .ref (111 + 6 * s.toNat)] [vi (a 179 0), vi l, .ref (111 + 6 * s.toNat)] c3 := by
    intro c3 l w tips l0 l1 q1 q2 q6 q7 q8 q9 q10 P
    have L3 : Laid (111 + 6 * s.toNat) a v s (oHow a v r s) (bits s) (a 173 s) (a 179 1) c3 := L.fr (fun x _ _ => by rw [q1 _ (by omega)]) (fun q q0 q' => q1 q (by omega))
    refine ca_X4_visit_112 jm (ct_go (r := lorry r l 0 0) jm L3 hT hS s0 (by omega) ⟨m1, by omega⟩ ⟨by omega, by omega⟩ (fun b b0 b1 => by rw [lorry_b b1]; exact hn.r3 b b0 b1) (fun h h0 h1 => by rw [lorry_b (by omega)]; exact hb s h s0 s1 h0 h1) lorry_l l0 (by omega)) (fun c4 h4 => sg_X4_visit_115 sm jm ?_)
    obtain ⟨-, -, -, -, -, g16, g17, g18, gq, gj⟩ := h4
    have X := oX_rng (v := v) hT hS hn s0 (by omega : s < 6) l0 l1
    have k4 : ∀ j : Int, c4 106 j = c3 106 j := fun j => by rw [gq 106 (by omega)]
    have g16 : c4 (111 + 6 * s.toNat) 16 = oX a v r s l 136 := g16
    have g18 : c4 (111 + 6 * s.toNat) 18 = handsP (a 179 1) (oX a v r s l 132) := g18
    have g17 : c4 (111 + 6 * s.toNat) 17 = c3 (111 + 6 * s.toNat) 10 - (oX a v r s l 134 + oX a v r s l 135) := g17
    have g10 : c3 (111 + 6 * s.toNat) 10 = rO r s 16 := by rw [L3.2.2.2.1]; exact cnt_eq hT hn s0 (by omega) (fun h h0 h1 => hb s h s0 s1 h0 h1)
    have g11 : c4 (111 + 6 * s.toNat) 11 = movesR a s (oHow a v r s) := by rw [gj 11 (by omega)]; exact L3.2.2.2.2.1
    have ko : ∀ (k : Nat) (j z : Int) (M : Mem), k ≠ 106 → up2 M 106 j z k = M k := fun k j z M h => up2_k h
    refine P _ ⟨?_, ?_, ?_⟩ ?_ ?_ ⟨fun j hj => ?_, fun q hq => ?_⟩ (fun u u0 u1 => ?_)
    · rw [up2_j (by decide), up2_j (by decide), up2_same, k4, q6, g16]
      exact X.2.2.2.2.1.symm
    · rw [up2_j (by decide), up2_j (by decide), up2_j (by decide), k4, q7]
    · rw [up2_j (by decide), up2_same, k4, q8, ko _ _ _ _ (by omega), g18, g11]
    · rw [up2_j (by decide), up2_j (by decide), up2_j (by decide), k4, q9]
    · rw [up2_same, k4, q10, ko _ _ _ _ (by omega), ko _ _ _ _ (by omega), g17, g10, X.2.2.2.2.2]
    · rw [up2_j (by omega), up2_j (by omega), up2_j (by omega), k4, q2 j hj]
    · rw [ko _ _ _ _ (by omega), ko _ _ _ _ (by omega), ko _ _ _ _ (by omega), gq q (by omega), q1 q (by omega)]
    · refine (hO u u0 u1).fr (fun x x0 x1 => ?_) (fun q q0 q' => ?_)
      · rw [ko _ _ _ _ (by omega), ko _ _ _ _ (by omega), ko _ _ _ _ (by omega)]
        by_cases cu : u = s
        · subst cu; rw [gj x (by omega), q1 _ (by omega)]
        · rw [gq _ (by omega), q1 _ (by omega)]
      · rw [ko _ _ _ _ (by omega), ko _ _ _ _ (by omega), ko _ _ _ _ (by omega), gq q (by omega), q1 _ (by omega)]
  have D : ∀ x : Int, 10 * (if 0 ≤ x - c (11 + 2 * s.toNat) 2 then x - c (11 + 2 * s.toNat) 2 else -(x - c (11 + 2 * s.toNat) 2)) = dist x (a 171 s) := fun x => by rw [S.1]; rfl
  have rm : ∀ x : Int, 0 ≤ x → x ≤ 99 → RI (x - c (11 + 2 * s.toNat) 2) := fun x x0 x1 => by rw [S.1]; constructor <;> omega
  have rb1 : RI (c (11 + 2 * s.toNat) 7) := by rw [S.2.2.2.2.2.1]; constructor <;> omega
  have rb2 : RI (c (11 + 2 * s.toNat) 8) := by rw [S.2.2.2.2.2.2.1]; constructor <;> omega
  have no : ¬ oNeeds a r s t → oVisit a v r s t = some (oGo a v r s t) := fun g => by unfold oVisit oSt; rw [if_neg g]; rfl
  have goA : ¬ oNeeds a r s t → ∀ (w : Int), w = oWait a s (oCome a s t) → GM E (m_X4_visit 3) (Pi fun z c' => ((0 ≤ s ∧ s < a 169 3) ∧ ∃ t', oVisit a v r s t = some t' ∧ z = 1 ∧ TrC c' t' ∧ c' 106 9 = c 106 9 + oTipped a r s t ∧ c' 106 10 = c 106 10 + oStay a v r s t ∧ OV c c' ∧ OP a v r bits (a 169 3) c') ∨ (¬ ((0 ≤ s ∧ s < a 169 3) ∧ ∃ t', oVisit a v r s t = some t') ∧ z = 0 ∧ c' = c)) 112 [.ref 106, vi s, .ref (11 + 2 * s.toNat), .ref (111 + 6 * s.toNat)] [vi (c 4 0), vi (c 106 6), .ref (111 + 6 * s.toNat)] (up2 (up2 c 106 8 w) 106 7 ((up2 c 106 8 w) (11 + 2 * s.toNat) 2)) := fun g w ew' => by
    rw [e40, h6]
    refine fin _ t.1 w (c 106 9) t1 t2 (fun q hq => by rw [up2_k hq, up2_k hq]) (fun j hj => by rw [up2_j (by omega), up2_j (by omega)]) (by rw [up2_j (by decide), up2_j (by decide), h6]) (by rw [up2_same, up2_k (by omega), S.1]) (by rw [up2_j (by decide), up2_same]) (by rw [up2_j (by decide), up2_j (by decide)]) (by rw [up2_j (by decide), up2_j (by decide)]) (fun c4 y1 y2 y3 y4 y5 => ⟨_, rfl, Or.inl ⟨⟨s0, s1⟩, _, no g, rfl, ?_, ?_, ?_, y4, y5⟩⟩)
    · unfold oGo; rw [← ew']; exact y1
    · unfold oTipped; rw [if_neg g, y2]; omega
    · unfold oStay; rw [if_neg g]; exact y3
  have wB : oWait a s (oCome a s t) = if 0 ≤ a 176 s ∧ a 176 s ≤ divI (oCome a s t) 60 ∧ divI (oCome a s t) 60 ≤ a 177 s then 60 * (a 177 s + 1) else oCome a s t := rfl
  have cB : c 106 8 + 10 * (if 0 ≤ c 106 7 - c (11 + 2 * s.toNat) 2 then c 106 7 - c (11 + 2 * s.toNat) 2 else -(c 106 7 - c (11 + 2 * s.toNat) 2)) = oCome a s t := by rw [D, h8, h7]; rfl
  have nA : c 106 6 = 0 → ¬ oNeeds a r s t := fun g o => o.1 (by rw [← h6]; exact g)
  have nB : c 106 6 + c (111 + 6 * s.toNat) 12 ≤ c 4 0 → ¬ oNeeds a r s t := fun g o => o.2 (by rw [h6, ew, e40] at g; exact g)
  have yes : ∀ g : 0 ≤ c (11 + 2 * s.toNat) 7 ∧ c (11 + 2 * s.toNat) 7 ≤ divI (oCome a s t) 60 ∧ divI (oCome a s t) 60 ≤ c (11 + 2 * s.toNat) 8, (c (11 + 2 * s.toNat) 8 + 1) * 60 = oWait a s (oCome a s t) := fun g => by
    rw [S.2.2.2.2.2.1, S.2.2.2.2.2.2.1] at g
    rw [wB, if_pos g, S.2.2.2.2.2.2.1]; omega
  have nay : ∀ g : ¬ (0 ≤ c (11 + 2 * s.toNat) 7 ∧ c (11 + 2 * s.toNat) 7 ≤ divI (oCome a s t) 60 ∧ divI (oCome a s t) 60 ≤ c (11 + 2 * s.toNat) 8), oCome a s t = oWait a s (oCome a s t) := fun g => by
    rw [S.2.2.2.2.2.1, S.2.2.2.2.2.2.1] at g
    rw [wB, if_neg g]
  refine en_X4_visit (sg_X4_visit_0 (by rw [e]; omega) rs (fun _ _ => ⟨s0, by omega⟩) (fun _ _ => by rw [h6]; constructor <;> omega) (fun _ _ _ => by rw [h7]; exact rm _ t3 t4) (fun _ _ _ => rb1) (fun _ _ _ => rb2) (fun _ _ _ => by rw [h6, ew]; constructor <;> omega) (fun _ _ _ => by rw [e40]; constructor <;> omega) (fun _ _ _ _ => by rw [h7]; exact rm _ t3 t4) (fun _ _ _ _ => rb1) (fun _ _ _ _ => rb2) (fun _ _ g b => goA (nA g) _ (yes (by rw [cB] at b; exact b))) (fun _ _ g b => by rw [cB] at b ⊢; exact goA (nA g) _ (nay b)) (fun _ _ _ g b => goA (nB g) _ (yes (by rw [cB] at b; exact b))) (fun _ _ _ g b => by rw [cB] at b ⊢; exact goA (nB g) _ (nay b)) (fun _ _ g1 g2 => ?_) (fun _ g => absurd (by omega) g) (fun g => absurd (by rw [e]; exact ⟨s0, s1⟩) g))
  have need : oNeeds a r s t := ⟨fun o => g1 (by rw [h6]; exact o), by rw [h6, ew, e40] at g2; exact g2⟩
  refine ca_X4_visit_59 (ct_oTip hCS hS ⟨t1, t2, t3, t4, t5, t6⟩ ⟨h6, h7, h8⟩) (fun z c2 hz => ?_)
  rcases hz with ⟨o, ez, ⟨p6, p7, p8⟩, p9, pj, pq⟩ | ⟨o, ez, rfl⟩
  · have T2 : oTip a t = (0, a 179 5, oThere a t + 300) := rfl
    have S2 : c2 (11 + 2 * s.toNat) = c (11 + 2 * s.toNat) := pq _ (by omega)
    have vis : oVisit a v r s t = some (oGo a v r s (oTip a t)) := by unfold oVisit oSt; rw [if_pos need, if_pos o]; rfl
    have cB2 : c2 106 8 + 10 * (if 0 ≤ c2 106 7 - c2 (11 + 2 * s.toNat) 2 then c2 106 7 - c2 (11 + 2 * s.toNat) 2 else -(c2 106 7 - c2 (11 + 2 * s.toNat) 2)) = oCome a s (oTip a t) := by rw [S2, D, p8, p7]; rfl
    have tk := (oTip_ok (W := W) hS ⟨t1, t2, t3, t4, t5, t6⟩).1
    have wB2 : oWait a s (oCome a s (oTip a t)) = if 0 ≤ a 176 s ∧ a 176 s ≤ divI (oCome a s (oTip a t)) 60 ∧ divI (oCome a s (oTip a t)) 60 ≤ a 177 s then 60 * (a 177 s + 1) else oCome a s (oTip a t) := rfl
    have goB : ∀ (w : Int), w = oWait a s (oCome a s (oTip a t)) → GM E (m_X4_visit 3) (Pi fun z c' => ((0 ≤ s ∧ s < a 169 3) ∧ ∃ t', oVisit a v r s t = some t' ∧ z = 1 ∧ TrC c' t' ∧ c' 106 9 = c 106 9 + oTipped a r s t ∧ c' 106 10 = c 106 10 + oStay a v r s t ∧ OV c c' ∧ OP a v r bits (a 169 3) c') ∨ (¬ ((0 ≤ s ∧ s < a 169 3) ∧ ∃ t', oVisit a v r s t = some t') ∧ z = 0 ∧ c' = c)) 112 [.ref 106, vi s, .ref (11 + 2 * s.toNat), .ref (111 + 6 * s.toNat)] [vi (c2 4 0), vi (c2 106 6), .ref (111 + 6 * s.toNat)] (up2 (up2 c2 106 8 w) 106 7 ((up2 c2 106 8 w) (11 + 2 * s.toNat) 2)) := fun w ew' => by
      rw [pq 4 (by decide), e40, p6]
      refine fin _ 0 w (c 106 9 + 1) (Int.le_refl _) (by decide) (fun q hq => by rw [up2_k hq, up2_k hq, pq q hq]) (fun j hj => by rw [up2_j (by omega), up2_j (by omega), pj j (by omega)]) (by rw [up2_j (by decide), up2_j (by decide), p6]; rfl) (by rw [up2_same, up2_k (by omega), S2, S.1]) (by rw [up2_j (by decide), up2_same]) (by rw [up2_j (by decide), up2_j (by decide), p9]) (by rw [up2_j (by decide), up2_j (by decide), pj 10 (by omega)]) (fun c4 y1 y2 y3 y4 y5 => ⟨_, rfl, Or.inl ⟨⟨s0, s1⟩, _, vis, rfl, ?_, ?_, ?_, y4, y5⟩⟩)
      · unfold oGo; rw [← ew']; exact y1
      · unfold oTipped; rw [if_pos need, y2]
      · unfold oStay; rw [if_pos need]; exact y3
    refine sg_X4_visit_62 sm jm (by rw [ez]; decide) (fun _ => by rw [S2, p7]; exact rm _ tk.2.2.1 tk.2.2.2.1) (fun _ => by rw [S2]; exact rb1) (fun _ => by rw [S2]; exact rb2) (fun _ b => goB _ ?_) (fun _ b => ?_) (fun g => by rw [ez] at g; omega)
    · rw [cB2, S2, S.2.2.2.2.2.1, S.2.2.2.2.2.2.1] at b
      rw [S2, wB2, if_pos b, S.2.2.2.2.2.2.1]; omega
    · rw [cB2] at b ⊢
      refine goB _ ?_
      rw [S2, S.2.2.2.2.2.1, S.2.2.2.2.2.2.1] at b
      rw [wB2, if_neg b]
  · refine sg_X4_visit_62 sm jm (by rw [ez]; decide) (fun g => absurd ez g) (fun g => absurd ez g) (fun g => absurd ez g) (fun g => absurd ez g) (fun g => absurd ez g) (fun _ => ⟨_, rfl, Or.inr ⟨fun q => ?_, rfl, rfl⟩⟩)
    obtain ⟨-, t', q⟩ := q
    unfold oVisit oSt at q
    rw [if_pos need, if_neg o] at q
    cases q
