/-! rule: both sides -/
def rlR (a : Mem) : PRes := cmL (lkA a (min (a 169 17) 40)) 4 0
def rlZ (a : Mem) (v0 : VF) : Int × VF := if a 169 17 ≤ 0 then (0, fun f => 8 + f 0) else match (rlR a).1 with
  | some v => if a 169 17 ≤ (rlR a).2 then (0, v) else (-1 - (rlR a).2, v0)
  | none => (-1 - (rlR a).2, v0)
theorem rlZ_e {a : Mem} {v0 : VF} (h : a 169 17 ≤ 0) : rlZ a v0 = (0, fun f => 8 + f 0) := if_pos h
theorem rlZ_no {a : Mem} {v0 : VF} (h : ¬ a 169 17 ≤ 0) (g : (rlR a).1 = none) : rlZ a v0 = (-1 - (rlR a).2, v0) := by unfold rlZ; rw [if_neg h, g]
theorem rlZ_so {a : Mem} {v0 v : VF} (h : ¬ a 169 17 ≤ 0) (g : (rlR a).1 = some v) : rlZ a v0 = if a 169 17 ≤ (rlR a).2 then (0, v) else (-1 - (rlR a).2, v0) := by unfold rlZ; rw [if_neg h, g]
theorem CR0.textF {c c' a : Mem} {n : Int} {f : Int → Int} (h : CR0 c a) (q : CText c' (textU a n f)) (e : ∀ k, Told k → k ≠ 1 → k ≠ 2 → c' k = c k) (e0 : c' 0 14 = c 0 14) (e93 : c' 93 4 = c 93 4) : CR0 c' (textU a n f) := by
  refine (h.fr (c' := fun k => if k = 1 ∨ k = 2 then c k else c' k) (fun k hk => ?_) ?_ ?_).text' q (fun k k1 k2 => ?_)
  · show (if k = 1 ∨ k = 2 then c k else c' k) = c k
    by_cases g : k = 1 ∨ k = 2
    · rw [if_pos g]
    · rw [if_neg g]; exact e k hk (fun o => g (Or.inl o)) (fun o => g (Or.inr o))
  · show (if (0 : Nat) = 1 ∨ (0 : Nat) = 2 then c 0 else c' 0) 14 = c 0 14
    rw [if_neg (by decide)]; exact e0
  · show (if (93 : Nat) = 1 ∨ (93 : Nat) = 2 then c 93 else c' 93) 4 = c 93 4
    rw [if_neg (by decide)]; exact e93
  · show c' k = if k = 1 ∨ k = 2 then c k else c' k
    rw [if_neg (by omega)]
/-- the text that is empty -/
theorem ctext0 {c a : Mem} {f : Int → Int} (h : TextOK c) : CText (up2 c 1 1 0) (textU a 0 f) := by
  obtain ⟨x1, x2, x3, x4, x5, x6, x7⟩ := h
  exact ⟨⟨by rw [up2_same]; decide, by rw [up2_same]; decide, by rw [up2_j (by decide)]; exact x3, by rw [up2_j (by decide)]; exact x4, by rw [up2_j (by decide)]; exact x5, by rw [up2_j (by decide)]; exact x6, by rw [up2_k (by decide)]; exact x7⟩, by rw [up2_same, textU_n], fun j j0 j1 => by rw [textU_n] at j1; omega⟩
theorem codeL_13 {y : Nat} (h : y ∈ codeL) : 13 - y ∈ codeL ∧ 13 - (13 - y) = y ∧ 13 - y ≠ y := by
  rcases List.mem_cons.1 h with rfl | h
  · decide
  · rcases List.mem_cons.1 h with rfl | h
    · decide
    · cases h
theorem codeL_67 {y : Nat} (h : y ∈ codeL) : y = 6 ∨ y = 7 := by
  rcases List.mem_cons.1 h with rfl | h
  · exact Or.inl rfl
  · rcases List.mem_cons.1 h with rfl | h
    · exact Or.inr rfl
    · cases h
/-- the cells that reading a rule touches -/
def RlF (c c' : Mem) : Prop := ∀ k, k ≠ 1 → k ≠ 5 → k ≠ 6 → k ≠ 7 → c' k = c k
theorem ct_read5 {E : Nat × (Nat → Int32)} {c a : Mem} {v0 : VF} (hX : CText c a) (hW : WText a) (hR : RuleC c v0) : K_X5_read E [.ref 5, .ref 1] c (fun z c' => z = (rlZ a v0).1 ∧ RuleC c' (rlZ a v0).2 ∧ RlF c c' ∧ TextOK c') := by
  obtain ⟨⟨x1, x2, -, -, -, -, x7⟩, y1, y2⟩ := hX
  have w0 := hW.1
  have w1 := hW.2.1
  obtain ⟨y, hy, h0, h2, h3⟩ := hR
  have c13 := codeL_13 hy
  have y67 := codeL_67 hy
  refine en_X5_read (sg_X5_read_0 (y1 := y) (y2 := 13 - y) (by rw [y1]; constructor <;> omega) (fun _ => h0) (fun _ => hy) (fun _ => h2) (fun _ => c13.1) (fun g => ?_) (fun g => ?_))
  · rw [y1] at g ⊢
    rw [rlZ_e g]
    refine ⟨_, rfl, rfl, ⟨13 - y, c13.1, ?_, ?_, Or.inl ⟨?_, rfl⟩⟩, fun k k1 k2 k3 k4 => by rw [up2_k k2, up2_k k2, up2_k k2, up2_k k2, up2_k k1, up2_k k1], ⟨?_, ?_, ?_, ?_, ?_, ?_, ?_⟩⟩
    · rw [up2_j (by decide), up2_j (by decide), up2_same]
    · rw [up2_same, c13.2.1]
    · rw [up2_j (by decide), up2_same]
    · rw [up2_k (by decide), up2_k (by decide), up2_k (by decide), up2_k (by decide), up2_j (by decide), up2_j (by decide)]; exact x1
    · rw [up2_k (by decide), up2_k (by decide), up2_k (by decide), up2_k (by decide), up2_j (by decide), up2_j (by decide)]; exact x2
    · rw [up2_k (by decide), up2_k (by decide), up2_k (by decide), up2_k (by decide), up2_j (by decide), up2_same]; decide
    · rw [up2_k (by decide), up2_k (by decide), up2_k (by decide), up2_k (by decide), up2_j (by decide), up2_same]; decide
    · rw [up2_k (by decide), up2_k (by decide), up2_k (by decide), up2_k (by decide), up2_same]; omega
    · rw [up2_k (by decide), up2_k (by decide), up2_k (by decide), up2_k (by decide), up2_same]; omega
    · rw [up2_k (by decide), up2_k (by decide), up2_k (by decide), up2_k (by decide), up2_k (by decide), up2_k (by decide)]; exact x7
  · rw [y1] at g ⊢
    generalize hC : up2 (up2 (up2 c 1 2 0) 1 3 (min (a 169 17) 40)) 5 3 0 = C
    have C1 : ∀ k, k ≠ 1 → k ≠ 5 → C k = c k := fun k k1 k5 => by rw [← hC, up2_k k5, up2_k k1, up2_k k1]
    have C5 : ∀ j : Int, j ≠ 3 → C 5 j = c 5 j := fun j hj => by rw [← hC, up2_j hj, up2_k (by decide), up2_k (by decide)]
    have C53 : C 5 3 = 0 := by rw [← hC, up2_same]
    have T : TxC a (min (a 169 17) 40) 0 C := by
      refine ⟨⟨?_, ?_, ?_⟩, ⟨by decide, by omega, by omega, w1⟩, fun j j0 j1 => ?_, fun j j0 j1 => ?_⟩
      · rw [← hC, up2_k (by decide), up2_j (by decide), up2_j (by decide)]; exact y1
      · rw [← hC, up2_k (by decide), up2_j (by decide), up2_same]
      · rw [← hC, up2_k (by decide), up2_same]
      · rw [C1 2 (by decide) (by decide)]; exact y2 j j0 j1
      · rw [C1 2 (by decide) (by decide)]; exact x7 j j0 j1
    clear hC
    have run := ct_cmL (E := E) (a := a) (L := min (a 169 17) 40) (y := 13 - y) (by omega) 4 (by decide) 0 0 C ⟨T, c13.1, by rw [C5 2 (by decide)]; exact h2, C53, by decide, by decide⟩
    rw [show (4 : Int) - ((4 : Nat) : Int) = 0 by decide] at run
    refine ca_X5_read_21 (d2 := 10 + 4 * 4) (by decide) run (fun z c2 hz => ?_)
    obtain ⟨T2, F2, hz⟩ := hz
    have T2 : TxC a (min (a 169 17) 40) (rlR a).2 c2 := T2
    have b2 := T2.2.1
    have f0 : c2 5 0 = ((y : Nat) : Int) := by rw [F2.2.1 0 (by decide), C5 0 (by decide)]; exact h0
    have f2 : c2 5 2 = ((13 - y : Nat) : Int) := by rw [F2.2.1 2 (by decide), C5 2 (by decide)]; exact h2
    have fr : RlF c c2 := fun k k1 k2 k3 k4 => (F2.1 k k1 k2 (by omega)).trans (C1 k k1 k2)
    have old : RuleC c2 v0 := by
      refine ⟨y, hy, f0, f2, ?_⟩
      have ey : c2 y = c y := by rw [F2.1 y (by omega) (by omega) (by omega), C1 y (by omega) (by omega)]
      rw [ey, F2.2.1 1 (by decide), C5 1 (by decide)]
      exact h3
    rcases hz with ⟨e1, ez⟩ | ⟨v, e1, ez, q1, q2, S2, P2⟩
    · have e1 : (rlR a).1 = none := e1
      rw [rlZ_no g e1]
      subst ez
      exact sg_X5_read_24 (y1 := y) (y2 := 13 - y) (by decide) (fun g => absurd rfl g) (fun g => absurd rfl g) (fun g => absurd rfl g) (fun g => absurd rfl g) (fun g => absurd rfl g) (fun g => absurd rfl g) (fun _ => ⟨_, rfl, by rw [T2.p], old, fr, T2.ok⟩) (fun g => absurd rfl g) (fun g => absurd rfl g)
    · have e1 : (rlR a).1 = some v := e1
      rw [rlZ_so g e1]
      subst ez
      refine sg_X5_read_24 (y1 := y) (y2 := 13 - y) (by decide) (fun _ => by rw [T2.p]; constructor <;> omega) (fun _ => by rw [T2.1.1]; constructor <;> omega) (fun _ _ => f0) (fun _ _ => hy) (fun _ _ => f2) (fun _ _ => c13.1) (fun g => absurd g (by decide)) (fun _ gn => ?_) (fun _ gn => ?_)
      · rw [T2.1.1, T2.p] at gn
        rw [if_pos gn]
        have e6 : ∀ k, k ≠ 5 → up2 (up2 (up2 c2 5 0 ((13 - y : Nat) : Int)) 5 1 (c2 5 3)) 5 2 ((y : Nat) : Int) k = c2 k := fun k hk => by rw [up2_k hk, up2_k hk, up2_k hk]
        refine ⟨_, rfl, rfl, ⟨13 - y, c13.1, ?_, ?_, Or.inr ⟨c2 (13 - y), ?_, fun x _ _ => ?_⟩⟩, fun k k1 k2 k3 k4 => (e6 k k2).trans (fr k k1 k2 k3 k4), ?_⟩
        · rw [up2_j (by decide), up2_j (by decide), up2_same]
        · rw [up2_same, c13.2.1]
        · rw [up2_j (by decide), up2_same]
          exact S2
        · rw [e6 _ (codeNot c13.1).1]
        · have := T2.ok
          unfold TextOK
          rw [e6 1 (by decide), e6 2 (by decide)]
          exact this
      · rw [T2.1.1, T2.p] at gn
        rw [if_neg gn]
        exact ⟨_, rfl, by rw [T2.p], old, fr, T2.ok⟩
theorem ct_ruleC {E : Nat × (Nat → Int32)} {c a : Mem} {v0 : VF} (h : CR0 c a) (hR : RuleC c v0) (hW : WText a) : K_X11_rule E [.ref 0] c (fun z c' => z = (rlZ a v0).1 ∧ RuleC c' (rlZ a v0).2 ∧ CR0 c' (textU a 0 (textN a)) ∧ HighEq c c') := by
  refine en_X11_rule (sg_X11_rule_0 (ca_X11_rule_8 (ct_read5 h.text hW hR) (fun z c2 hz => sg_X11_rule_11 ⟨_, rfl, ?_⟩)))
  obtain ⟨ez, r, fr, X⟩ := hz
  refine ⟨ez, r.fr (fun x _ => by rw [up2_k (by decide)]) (up2_k (by decide)) (up2_k (by decide)), ?_, fun k hk => by rw [up2_k (by omega), fr k (by omega) (by omega) (by omega) (by omega)]⟩
  refine h.textF (ctext0 X) (fun k hk k1 k2 => ?_) ?_ ?_
  · have := hk.ne
    rw [up2_k k1, fr k k1 (by omega) (by omega) (by omega)]
  · rw [up2_k (by decide), fr 0 (by decide) (by decide) (by decide) (by decide)]
  · rw [up2_k (by decide), fr 93 (by decide) (by decide) (by decide) (by decide)]
def ruleU (a : Mem) (x : Int) (g : Int → Int) : Mem := upr (up2 a 169 26 x) 185 g
theorem ruleU_k {a : Mem} {x : Int} {g : Int → Int} {k : Nat} (h : k ≠ 169) (h2 : k ≠ 185) : ruleU a x g k = a k := by unfold ruleU; rw [upr_k h2, up2_k h]
theorem ruleU_f {a : Mem} {x j : Int} {g : Int → Int} (h : j ≠ 26) : ruleU a x g 169 j = a 169 j := by unfold ruleU; rw [upr_k (by decide), up2_j h]
theorem ruleU_x {a : Mem} {x : Int} {g : Int → Int} : ruleU a x g 169 26 = x := by unfold ruleU; rw [upr_k (by decide), up2_same]
theorem ruleU_g {a : Mem} {x : Int} {g : Int → Int} : ruleU a x g 185 = g := by funext j; unfold ruleU; rw [upr_same]
theorem CR0.rl {c a : Mem} {x : Int} {f : Int → Int} (h : CR0 c a) : CR0 c (ruleU a x f) := by
  have r : ∀ k, k ≠ 169 → k ≠ 185 → ruleU a x f k = a k := fun k h1 h2 => ruleU_k h1 h2
  have r9 : ∀ j : Int, j ≠ 26 → ruleU a x f 169 j = a 169 j := fun j hj => ruleU_f hj
  refine ⟨?_, ?_, ?_, ?_, ?_, ?_, ?_, ?_⟩
  · have g := h.town
    unfold CTown
    rw [r9 3 (by decide), r 171 (by decide) (by decide), r 172 (by decide) (by decide), r 173 (by decide) (by decide), r 174 (by decide) (by decide), r 175 (by decide) (by decide), r 176 (by decide) (by decide), r 177 (by decide) (by decide), r 178 (by decide) (by decide)]
    exact g
  · have g := h.set
    unfold CSet
    rw [r 179 (by decide) (by decide)]
    exact g
  · have g := h.text
    unfold CText
    rw [r9 17 (by decide), r 182 (by decide) (by decide)]
    exact g
  · rw [r 180 (by decide) (by decide)]
    exact h.now
  · have g := h.hist
    unfold CHist
    rw [r9 40 (by decide), r 190 (by decide) (by decide)]
    exact g
  · have g := h.loads
    unfold CLoads
    rw [r9 62 (by decide), r 201 (by decide) (by decide), r 202 (by decide) (by decide)]
    exact g
  · have g := h.kept
    unfold CKept
    rw [r9 3 (by decide), r9 4 (by decide), r 205 (by decide) (by decide), r 206 (by decide) (by decide), r 207 (by decide) (by decide)]
    exact g
  · have g := h.row
    unfold CRow
    rw [r9 1 (by decide), r 170 (by decide) (by decide)]
    exact g
theorem W0.rl {B : Int} {a : Mem} {x : Int} {f : Int → Int} (h : W0 B a) : W0 B (ruleU a x f) := by
  have r : ∀ k, k ≠ 169 → k ≠ 185 → ruleU a x f k = a k := fun k h1 h2 => ruleU_k h1 h2
  have r9 : ∀ j : Int, j ≠ 26 → ruleU a x f 169 j = a 169 j := fun j hj => ruleU_f hj
  have so : ∀ r : Int → Int, StOK B a r → StOK B (ruleU a x f) r := fun r h => h.congr (fun _ _ _ => rfl) (fun b _ _ => by rw [ruleU_k (by decide) (by decide)])
  refine ⟨?_, ?_, ?_, ?_, ?_, ?_, ?_, ?_⟩
  · exact h.town.of (r9 3 (by decide)) (fun k k0 k1 => r k (by omega) (by omega))
  · exact h.set.of (r 179 (by decide) (by decide))
  · unfold WText; rw [r9 17 (by decide), r 182 (by decide) (by decide)]; exact h.text
  · rw [r 180 (by decide) (by decide)]; exact so _ h.now
  · unfold WHist; rw [r9 40 (by decide), r 190 (by decide) (by decide)]; exact ⟨h.hist.1, h.hist.2.1, fun i i0 i1 => so _ (h.hist.2.2 i i0 i1)⟩
  · unfold WLoads; rw [r9 62 (by decide), r9 3 (by decide), r 201 (by decide) (by decide), r 202 (by decide) (by decide)]; exact h.loads
  · unfold WKept; rw [r9 4 (by decide), r 205 (by decide) (by decide), r 206 (by decide) (by decide), r 207 (by decide) (by decide)]
    refine ⟨h.kept.1, h.kept.2.1, fun i i0 i1 => ?_⟩
    rcases h.kept.2.2 i i0 i1 with g | ⟨g1, g2, g3, g4⟩
    · exact Or.inl g
    · exact Or.inr ⟨g1, g2, g3, so _ g4⟩
  · unfold WRow; rw [r9 1 (by decide), r 170 (by decide) (by decide)]; exact h.row
def FrR (m M : Mem) : Prop := (∀ q, q ≠ 169 → q ≠ 182 → q ≠ 185 → q ≠ 186 → M q = m q) ∧ M 182 = textN m ∧ M 169 17 = 0 ∧ ∀ j : Int, j ≠ 0 → j ≠ 17 → j ≠ 18 → j ≠ 19 → j ≠ 20 → j ≠ 26 → j ≠ 27 → M 169 j = m 169 j
theorem FrR.peq {m M : Mem} (h : FrR m M) : PEq M (ruleU (textU m 0 (textN m)) (M 169 26) (M 185)) := PEq.of (fun k hk h9 => by
    have q := hk.not
    by_cases c : k = 182
    · subst c; rw [h.2.1, ruleU_k (by decide) (by decide), tx0_t]
    · by_cases c5 : k = 185
      · subst c5; rw [ruleU_g]
      · rw [h.1 k h9 c c5 (by omega), ruleU_k h9 c5, tx0_k h9 c]) (fun j hj => by
    have q := hj.not
    by_cases c6 : j = 26
    · subst c6; rw [ruleU_x]
    · rw [ruleU_f c6]
      by_cases c : j = 17
      · subst c; rw [h.2.2.1, textU_n]
      · rw [h.2.2.2 j q.1 c (by omega) (by omega) (by omega) c6 (by omega), textU_f c])
theorem FrR.low {m M : Mem} (h : FrR m M) : LowEq m M := fun k hk => h.1 k (by omega) (by omega) (by omega) (by omega)
theorem mt_ruleM {E : Nat × (Nat → Int32)} {m a : Mem} {v0 : VF} (hm : HighEq a m) (hW : WText a) (hR : RuleM a v0) : K_X12_rule E [.ref 169] m (fun z m' => z = (rlZ a v0).1 ∧ FrR m m' ∧ RuleM m' (rlZ a v0).2) := by
  have x1 := hW.1
  have x2 := hW.2.1
  have e17 : m 169 17 = a 169 17 := by rw [hm 169 (by decide)]
  have T := begR_tx (k := 27) hm hW rfl (show (0 : Int) ≤ 40 by decide) (by decide) (by decide)
  have fb : FrR m (begR m (a 169 17) 40 27) := ⟨fun q q1 q2 _ _ => begR_k q1 q2, begR_t, begR_17 (by decide), fun j j0 j1 j2 j3 j4 _ j5 => begR_f j0 j1 j2 j3 j4 j5⟩
  have b26 : begR m (a 169 17) 40 27 169 26 = a 169 26 := by rw [begR_f (by decide) (by decide) (by decide) (by decide) (by decide) (by decide), hm 169 (by decide)]
  have b185 : begR m (a 169 17) 40 27 185 = a 185 := by rw [begR_k (by decide) (by decide), hm 185 (by decide)]
  have b20 : begR m (a 169 17) 40 27 169 20 = 0 := begR_20 (by decide)
  have b27 : begR m (a 169 17) 40 27 169 27 = 0 := begR_own
  obtain ⟨M0, hM0⟩ : ∃ M0, begR m (a 169 17) 40 27 = M0 := ⟨_, rfl⟩
  rw [hM0] at T fb b26 b185 b20 b27
  -- what is copied at the end
  have copy : ∀ (M : Mem) (s : Int) (v : VF), FrR m M → (0 ≤ M 169 27 ∧ M 169 27 ≤ 40) → ((M 169 27 = 0 ∧ v = fun f => 8 + f 0) ∨ MSeg (M 186) 0 (M 169 27) v) → rlZ a v0 = (0, v) → GM E (m_X12_rule 201) (Pi fun z m' => z = (rlZ a v0).1 ∧ FrR m m' ∧ RuleM m' (rlZ a v0).2) 61 [.ref 169, vi (a 169 17), vi s, vi 0, vi 0] [] (up2 M 169 26 (M 169 27)) := fun M s v F hn hv eZ => by
    rw [eZ]
    refine up_loop (i0 := 0) (n := M 169 27) (fun i m2 => GM E _ _ 61 [.ref 169, vi (a 169 17), vi s, vi 0, vi i] [] m2) (fun i m2 => (∀ k, k ≠ 185 → m2 k = up2 M 169 26 (M 169 27) k) ∧ ∀ x : Int, 0 ≤ x → x < i → m2 185 x = M 186 x) (fun m2 h => ?_) (fun i m2 a0 a1 h k => ?_) (i := 0) (s := up2 M 169 26 (M 169 27)) (by omega) hn.1 ⟨fun _ _ => rfl, fun x x0 x1 => by omega⟩
    · obtain ⟨h1, h2⟩ := h
      have e27 : m2 169 27 = M 169 27 := by rw [h1 169 (by decide), up2_j (by decide)]
      have e26 : m2 169 26 = M 169 27 := by rw [h1 169 (by decide), up2_same]
      refine sg_X12_rule_61 ⟨by omega, by omega⟩ (by rw [e27]; constructor <;> omega) (fun g => by rw [e27] at g; omega) (fun _ => ⟨_, rfl, rfl, ⟨fun q q1 q2 q3 q4 => by rw [h1 q q3, up2_k q1]; exact F.1 q q1 q2 q3 q4, by rw [h1 182 (by decide), up2_k (by decide)]; exact F.2.1, by rw [h1 169 (by decide), up2_j (by decide)]; exact F.2.2.1, fun j j0 j1 j2 j3 j4 j5 j6 => by rw [h1 169 (by decide), up2_j j5]; exact F.2.2.2 j j0 j1 j2 j3 j4 j5 j6⟩, ?_⟩) (fun g => by rw [e27] at g; omega)
      rcases hv with ⟨h0, rfl⟩ | h0
      · exact Or.inl ⟨by rw [e26]; exact h0, rfl⟩
      · refine Or.inr ⟨M 186, by rw [e26]; exact h0, fun x x0 x1 => ?_⟩
        rw [e26] at x1
        exact h2 x x0 x1
    · obtain ⟨h1, h2⟩ := h
      have e27 : m2 169 27 = M 169 27 := by rw [h1 169 (by decide), up2_j (by decide)]
      have e86 : m2 186 = M 186 := by rw [h1 186 (by decide), up2_k (by decide)]
      refine sg_X12_rule_61 ⟨by omega, by omega⟩ (by rw [e27]; constructor <;> omega) (fun _ => by omega) (fun g => by rw [e27] at g; omega) (fun _ => k _ ⟨fun q hq => by rw [up2_k hq]; exact h1 q hq, fun x x0 x1 => ?_⟩)
      by_cases c : x = i
      · subst c; rw [up2_same, e86]
      · rw [up2_j c]; exact h2 x x0 (by omega)
  have old : ∀ M : Mem, M 169 26 = a 169 26 → M 185 = a 185 → RuleM M v0 := fun M h1 h2 => hR.of h1 h2
  refine en_X12_rule (sg_X12_rule_0 (by rw [e17]; constructor <;> omega) (fun g => ?_) (fun g => ?_))
  · rw [e17] at g ⊢
    refine GM_beg (n := a 169 17) (most := 40) (k := 27) ?_
    rw [hM0]
    refine ca_X12_rule_40 (mt_faultOf (p := 0) T.p T.l (by decide) (by omega) x2 (by decide) (by decide)) (fun z m2 hz => ?_)
    obtain ⟨ez, em⟩ := hz
    rw [if_pos ⟨by decide, by omega⟩] at ez
    subst ez
    rw [em]
    exact sg_X12_rule_43 (by decide) (fun _ => copy M0 1 _ fb (by omega) (Or.inl ⟨b27, rfl⟩) (rlZ_e (by omega))) (fun g => absurd (by decide : (0 : Int) ≤ 0) g)
  · rw [e17] at g ⊢
    refine GM_beg (n := a 169 17) (most := 40) (k := 27) ?_
    rw [hM0]
    have run := mt_cmL (E := E) (a := a) (L := min (a 169 17) 40) (by omega) 4 (by decide) 200 0 0 M0 (by decide) ⟨T, b27, by decide, by decide, by rw [b20]; decide⟩
    have gn : ¬ a 169 17 ≤ 0 := by omega
    refine ca_X12_rule_23 (d2 := 200) (by decide) run (fun z m2 hz => ?_)
    obtain ⟨T2, F2, B2, hz⟩ := hz
    have T2 : TxR a (min (a 169 17) 40) (rlR a).2 m2 := T2
    have b2 := T2.2.1
    have B22 : m2 169 27 ≤ 0 + ((rlR a).2 - 0) := B2.2
    have fr : FrR m m2 := ⟨fun q q1 q2 q3 q4 => (F2.1 q q1 q4).trans (fb.1 q q1 q2 q3 q4), (F2.1 182 (by decide) (by decide)).trans fb.2.1, (F2.2 17 (by decide) (by decide) (by decide)).trans fb.2.2.1, fun j j0 j1 j2 j3 j4 j5 j6 => (F2.2 j j2 j4 j6).trans (fb.2.2.2 j j0 j1 j2 j3 j4 j5 j6)⟩
    have ol : RuleM m2 v0 := old m2 (by rw [F2.2 26 (by decide) (by decide) (by decide)]; exact b26) (by rw [F2.1 185 (by decide) (by decide)]; exact b185)
    rcases hz with ⟨e1, ez⟩ | ⟨v, e1, ez, q0, q1, S2, -⟩
    · have e1 : (rlR a).1 = none := e1
      rw [rlZ_no gn e1]
      subst ez
      refine sg_X12_rule_26 (by decide) (fun _ => ?_) (fun g => absurd rfl g)
      refine ca_X12_rule_40 (mt_faultOf (p := (rlR a).2) T2.p T2.l b2.1 b2.2.1 x2 (by decide) (by decide)) (fun z m3 hz => ?_)
      obtain ⟨ez, em⟩ := hz
      rw [if_neg (fun o => o.1 rfl)] at ez
      rw [em]
      exact sg_X12_rule_43 (by constructor <;> omega) (fun g => by omega) (fun _ => ⟨_, rfl, ez, fr, ol⟩)
    · have e1 : (rlR a).1 = some v := e1
      subst ez
      refine sg_X12_rule_26 (by decide) (fun g => absurd g (by decide)) (fun _ => ?_)
      refine ca_X12_rule_40 (mt_faultOf (p := (rlR a).2) T2.p T2.l b2.1 b2.2.1 x2 (by decide) (by decide)) (fun z m3 hz => ?_)
      obtain ⟨ez, em⟩ := hz
      rw [em]
      by_cases c : a 169 17 ≤ (rlR a).2
      · rw [if_pos ⟨by decide, by omega⟩] at ez
        subst ez
        exact sg_X12_rule_43 (by decide) (fun _ => copy m2 1 v fr ⟨by omega, by omega⟩ (Or.inr S2) (by rw [rlZ_so gn e1, if_pos c])) (fun g => absurd (by decide : (0 : Int) ≤ 0) g)
      · rw [if_neg (by omega)] at ez
        rw [rlZ_so gn e1, if_neg c]
        exact sg_X12_rule_43 (by constructor <;> omega) (fun g => by omega) (fun _ => ⟨_, rfl, ez, fr, ol⟩)
theorem step_rule {E E2 : Nat × (Nat → Int32)} {m : Mem} {v : (Int → Int) → Int} {B : Int} (h : Rel v B m) : K_X11_rule E [.ref 0] m (fun z m1 => K_X12_rule E2 [.ref 169] m1 (fun z' m2 => z' = z ∧ ∃ v', Rel v' B m2)) := by
  have w := h.2.2.2
  refine (ct_ruleC h.1 h.2.1 w.text).mono (fun o m1 hz => ?_)
  obtain ⟨z, rfl, ez, rc, c0, hi⟩ := hz
  refine ⟨z, rfl, ?_⟩
  refine (mt_ruleM (a := m) hi w.text h.2.2.1).mono (fun o m2 hy => ?_)
  obtain ⟨y, rfl, ey, fr, rm⟩ := hy
  refine ⟨y, rfl, by rw [ez, ey], (rlZ m v).2, ?_⟩
  have eN : textN m1 = textN m := by unfold textN; rw [hi 182 (by decide)]
  have pe : HighEq (textU m 0 (textN m)) (textU m1 0 (textN m1)) := by rw [eN]; exact hi_textU hi
  have w0 : W0 B (textU m 0 (textN m)) := w.text' (by decide) (by decide) (fun j j0 j1 => by omega)
  exact Rel.fin (c0.peq pe.peq w0.town).rl rc (rm.of ruleU_x ruleU_g) ((w0.peq pe.peq).rl) fr.peq fr.low
