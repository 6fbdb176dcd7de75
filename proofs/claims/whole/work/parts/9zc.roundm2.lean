/-! round: the reference; what streets, rule and round begin with and end with -/
theorem PEq.gen {a b : Mem} (hr : ∀ k, PR k → k ≠ 169 → k ≠ 170 → k ≠ 180 → k ≠ 190 → a k = b k) (hf : ∀ j, PF j → a 169 j = b 169 j) (h170 : ∀ j : Int, 0 ≤ j → j < b 169 1 → a 170 j = b 170 j) (h180 : ∀ j : Int, 0 ≤ j → j < 99 → a 180 j = b 180 j) (h190 : ∀ j : Int, 0 ≤ j → j < 99 * b 169 40 → a 190 j = b 190 j) : PEq a b := by
  have hr : ∀ k, ((169 ≤ k ∧ k < 181) ∨ k = 182 ∨ k = 185 ∨ k = 190 ∨ k = 201 ∨ k = 202 ∨ (205 ≤ k ∧ k < 208)) → k ≠ 169 → k ≠ 170 → k ≠ 180 → k ≠ 190 → a k = b k := hr
  have hf : ∀ j : Int, (j = 1 ∨ j = 3 ∨ j = 4 ∨ j = 17 ∨ j = 26 ∨ j = 40 ∨ j = 62) → a 169 j = b 169 j := hf
  have gk : ∀ k, ((171 ≤ k ∧ k < 180) ∨ k = 182 ∨ k = 185 ∨ k = 201 ∨ k = 202 ∨ (205 ≤ k ∧ k < 208)) → a k = b k := fun k hk => hr k (by omega) (by omega) (by omega) (by omega) (by omega)
  refine ⟨⟨hf 1 (by omega), hf 3 (by omega), hf 4 (by omega), hf 17 (by omega), hf 26 (by omega), hf 40 (by omega), hf 62 (by omega)⟩, fun j _ _ => ?_, fun j _ _ => ?_, fun j _ _ => ?_, h180, h170, fun j _ _ => ?_, fun j _ _ => ?_, h190, fun j _ _ => ?_, fun j _ _ => ?_, fun j _ _ => ?_⟩
  · rw [gk 171 (by omega), gk 172 (by omega), gk 173 (by omega), gk 174 (by omega), gk 175 (by omega), gk 176 (by omega), gk 177 (by omega)]
    exact ⟨rfl, rfl, rfl, rfl, rfl, rfl, rfl⟩
  · rw [gk 178 (by omega)]
  · rw [gk 179 (by omega)]
  · rw [gk 182 (by omega)]
  · rw [gk 185 (by omega)]
  · rw [gk 201 (by omega), gk 202 (by omega)]
    exact ⟨rfl, rfl⟩
  · rw [gk 205 (by omega), gk 206 (by omega)]
    exact ⟨rfl, rfl⟩
  · rw [gk 207 (by omega)]
theorem mt_faultOf {E : Nat × (Nat → Int32)} {m : Mem} {n most s p : Int} (h18 : m 169 18 = p) (h19 : m 169 19 = min n most) (p0 : 0 ≤ p) (p1 : p ≤ min n most) (n80 : n ≤ 80) (m80 : most ≤ 80) (rs : RI s) : K_X12_faultOf E [.ref 169, vi n, vi most, vi s] m (fun z m' => z = (if s ≠ 0 ∧ p = n then 0 else -1 - p) ∧ m' = m) := by
  refine en_X12_faultOf (sg_X12_faultOf_0 rs ⟨by omega, by omega⟩ ⟨by omega, by omega⟩ (fun _ _ => by rw [h18]; constructor <;> omega) (fun _ => by rw [h18]; constructor <;> omega) (fun _ => by rw [h19]; constructor <;> omega) (fun c1 c2 => ?_) (fun c1 c2 c3 => ?_) (fun c1 c2 c3 => ?_) (fun c1 c2 c3 => ?_) (fun c1 c2 c3 c4 => ?_) (fun c1 c2 c3 c4 => ?_) (fun c1 c2 c3 => ?_) (fun c1 c2 c3 => ?_))
  · exact ⟨_, rfl, by rw [h18, if_neg (by omega)], rfl⟩
  · exact ⟨_, rfl, by rw [h18, if_neg (by omega)], rfl⟩
  · rw [h18] at c3
    exact ⟨_, rfl, by rw [if_neg (by omega)]; omega, rfl⟩
  · rw [h18, h19] at c2
    exact ⟨_, rfl, by rw [h18, if_neg (by omega)], rfl⟩
  · rw [h18, h19] at c2
    exact ⟨_, rfl, by rw [h18, if_neg (by omega)], rfl⟩
  · rw [h18, h19] at c2
    rw [h18] at c4
    omega
  · rw [h18, h19] at c2
    exact ⟨_, rfl, by rw [if_pos (by omega)], rfl⟩
  · rw [h18, h19] at c2
    exact ⟨_, rfl, by rw [if_neg (by omega)]; omega, rfl⟩
def begR (m : Mem) (n most k : Int) : Mem := upr (up2 (up2 (up2 (up2 (up2 (up2 m 169 0 0) 169 17 0) 169 18 0) 169 20 0) 169 19 (min n most)) 169 k 0) 182 (textN m)
theorem GM_beg {E : Nat × (Nat → Int32)} {μ : Mu} {P : Option Value → Mem → Prop} {pc : Nat} {lv st : List Value} {m : Mem} {n most k : Int} (g : GM E μ P pc lv st (begR m n most k)) : GM E μ P pc lv st (up2 (up2 (up2 (up2 (up2 (up2 m 169 0 0) 169 17 0) 169 18 0) 169 20 0) 169 19 (min n most)) 169 k 0) := by
  refine GM_iarr (m' := begR m n most k) sh_182 (fun q hq => upr_k hq) (fun j => ?_) g
  unfold begR
  rw [upr_same, up2_k (by decide), up2_k (by decide), up2_k (by decide), up2_k (by decide), up2_k (by decide), up2_k (by decide)]
  exact iI_nrm _
theorem begR_k {m : Mem} {n most k : Int} {q : Nat} (h : q ≠ 169) (h2 : q ≠ 182) : begR m n most k q = m q := by unfold begR; rw [upr_k h2, up2_k h, up2_k h, up2_k h, up2_k h, up2_k h, up2_k h]
theorem begR_t {m : Mem} {n most k : Int} : begR m n most k 182 = textN m := by funext j; unfold begR; rw [upr_same]
theorem begR_f {m : Mem} {n most k j : Int} (h0 : j ≠ 0) (h1 : j ≠ 17) (h2 : j ≠ 18) (h3 : j ≠ 19) (h4 : j ≠ 20) (h5 : j ≠ k) : begR m n most k 169 j = m 169 j := by unfold begR; rw [upr_k (by decide), up2_j h5, up2_j h3, up2_j h4, up2_j h2, up2_j h1, up2_j h0]
theorem begR_17 {m : Mem} {n most k : Int} (h : (17 : Int) ≠ k) : begR m n most k 169 17 = 0 := by unfold begR; rw [upr_k (by decide), up2_j h, up2_j (by decide), up2_j (by decide), up2_j (by decide), up2_same]
theorem begR_18 {m : Mem} {n most k : Int} (h : (18 : Int) ≠ k) : begR m n most k 169 18 = 0 := by unfold begR; rw [upr_k (by decide), up2_j h, up2_j (by decide), up2_j (by decide), up2_same]
theorem begR_20 {m : Mem} {n most k : Int} (h : (20 : Int) ≠ k) : begR m n most k 169 20 = 0 := by unfold begR; rw [upr_k (by decide), up2_j h, up2_j (by decide), up2_same]
theorem begR_19 {m : Mem} {n most k : Int} (h : (19 : Int) ≠ k) : begR m n most k 169 19 = min n most := by unfold begR; rw [upr_k (by decide), up2_j h, up2_same]
theorem begR_own {m : Mem} {n most k : Int} : begR m n most k 169 k = 0 := by unfold begR; rw [upr_k (by decide), up2_same]
theorem begR_tx {m a : Mem} {n most k : Int} (hm : HighEq a m) (w : WText a) (hn : n = a 169 17) (h0 : 0 ≤ most) (h8 : (18 : Int) ≠ k) (h9 : (19 : Int) ≠ k) : TxR a (min n most) 0 (begR m n most k) := by
  obtain ⟨x1, x2, x7⟩ := w
  refine ⟨⟨begR_18 h8, begR_19 h9⟩, ⟨by decide, by omega, by omega⟩, fun j => ?_, fun j j0 j1 => ?_⟩
  · rw [begR_t]; exact nrm_rng _
  · have b := x7 j j0 (by omega)
    refine ⟨?_, b⟩
    rw [begR_t]
    show (iI (m 182 j)).toInt = a 182 j
    rw [hm 182 (by decide)]
    exact iI_toInt (by omega) (by omega)
/-- a memory with the text emptied -/
theorem tx0_k {m : Mem} {k : Nat} (h : k ≠ 169) (h2 : k ≠ 182) : textU m 0 (textN m) k = m k := textU_k h h2
theorem tx0_t {m : Mem} : textU m 0 (textN m) 182 = textN m := by funext j; exact textU_s
def FrL (m M : Mem) : Prop := (∀ q, q ≠ 169 → q ≠ 182 → q ≠ 191 → q ≠ 192 → q ≠ 193 → M q = m q) ∧ M 182 = textN m ∧ M 169 17 = 0 ∧ ∀ j : Int, j ≠ 0 → j ≠ 17 → j ≠ 18 → j ≠ 19 → j ≠ 20 → j ≠ 46 → M 169 j = m 169 j
theorem FrL.then {m M M' : Mem} {k : Int} (h : FrL m M) (g : FrA k M M') : FrL m M' := ⟨fun q q1 q2 q3 q4 q5 => (g.1 q q1 q3 q4 q5).trans (h.1 q q1 q2 q3 q4 q5), (g.1 182 (by decide) (by decide) (by decide) (by decide)).trans h.2.1, (g.2.1 17 (by decide) (by decide)).trans h.2.2.1, fun j j0 j1 j2 j3 j4 j5 => (g.2.1 j j2 j5).trans (h.2.2.2 j j0 j1 j2 j3 j4 j5)⟩
theorem FrL.up {m M : Mem} {z : Int} (h : FrL m M) : FrL m (up2 M 169 18 z) := h.then (k := 0) (FrA.pos PosR.up)
theorem FrL.beg {m : Mem} {n most : Int} : FrL m (begR m n most 46) := ⟨fun q q1 q2 _ _ _ => begR_k q1 q2, begR_t, begR_17 (by decide), fun j j0 j1 j2 j3 j4 j5 => begR_f j0 j1 j2 j3 j4 j5⟩
def ActsR (l : List Int) (M : Mem) : Prop := M 169 46 = l.length ∧ ∀ j : Nat, j < l.length → ActR (l.getD j 0) (M 191 j) (M 192 j) (M 193 j)
/-- what stands behind the reading -/
def RdR (R : Int × List Int × Bool) (n s : Int) (M : Mem) : Prop := ((R.2.2 = true ∧ s ≠ 0 ∧ M 169 18 = n ∧ ActsR R.2.1 M) ∨ (R.2.2 = false ∧ ¬ (s ≠ 0 ∧ R.1 = n) ∧ M 169 18 = R.1)) ∧ M 169 19 = min n 60 ∧ 0 ≤ M 169 18 ∧ M 169 18 ≤ min n 60 ∧ RI s
theorem mt_round_read {E : Nat × (Nat → Int32)} {P : Option Value → Mem → Prop} {m a : Mem} {n : Int} {R : Int × List Int × Bool} (n80 : n ≤ 80) (K : ∀ (s : Int) (M : Mem), FrL m M → RdR R n s M → GM E (m_X12_round 8) P 65 [.ref 169, vi n, vi s, vi 0, un, un, un] [vi s, vi 60, vi n, .ref 169] M) : ∀ (f : Nat) (p : Int) (l : List Int) (s0 : Int) (M : Mem), l.length + f = 30 → 2 * (l.length : Int) ≤ p → TxR a (min n 60) p M → ActsR l M → FrL m M → R = rdG (lkA a (min n 60)) n f p l → GM E (m_X12_round 8) P 29 [.ref 169, vi n, vi s0, vi 1, un, un, un] [] M := by
  have ex : ∀ (s : Int) (M : Mem), FrL m M → RdR R n s M → GM E (m_X12_round 8) P 29 [.ref 169, vi n, vi s, vi 0, un, un, un] [] M := fun s M F S => sg_X12_round_29 (by decide) (fun _ => K s M F S) (fun g => absurd rfl g)
  generalize hL : min n 60 = L at *
  have L60 : L ≤ 60 ∧ L ≤ n := by omega
  intro f
  induction f with
  | zero =>
    intro p l s0 M hl hp T A F eR
    have eR : R = (p, l, false) := eR
    have pL : L ≤ p := by omega
    have b := T.2.1
    refine sg_X12_round_29 (by decide) (fun g => absurd g (by decide)) (fun _ => ca_X12_round_34 (mt_readsAct T A.1 (by omega) (by omega)) (fun z m2 hz => ?_))
    obtain ⟨hc, T2, -, FA⟩ := hz
    rw [actG_end pL] at hc T2
    rcases hc with ⟨-, hc, -⟩ | ⟨ez, -⟩
    · have hc : (0 : Int) ≤ -1 := hc
      omega
    · subst ez
      refine sg_X12_round_37 (by decide) (fun g => absurd rfl g) (fun g => absurd rfl g) (fun _ => ex _ _ (F.then FA) ⟨Or.inr ⟨by rw [eR], fun o => o.1 rfl, by rw [eR]; exact T2.p⟩, T2.l.trans hL.symm, ?_, ?_, by decide⟩) (fun g => absurd rfl g) (fun g => absurd rfl g)
      · rw [T2.p]; exact b.1
      · rw [T2.p]; show p ≤ min n 60; omega
  | succ f ih =>
    intro p l s0 M hl hp T A F eR
    have b := T.2.1
    rw [rdG] at eR
    have ok := actG_ok (a := a) (L := L) b.2.1
    refine sg_X12_round_29 (by decide) (fun g => absurd g (by decide)) (fun _ => ca_X12_round_34 (mt_readsAct T A.1 (by omega) (by omega)) (fun z m2 hz => ?_))
    obtain ⟨hc, T2, h46, FA⟩ := hz
    have b2 := T2.2.1
    have F2 := F.then FA
    rcases hc with ⟨ez, c0, hA⟩ | ⟨ez, c1⟩
    · subst ez
      rw [if_neg (by omega)] at eR
      generalize hG : actG (lkA a L) p = G at *
      have l1 : (l ++ [G.1]).length = l.length + 1 := by rw [List.length_append]; rfl
      have A2 : ActsR (l ++ [G.1]) m2 := ⟨by rw [h46, l1]; omega, fun j hj => by
        rw [l1] at hj
        rw [getD_app]
        by_cases cc : j < l.length
        · rw [if_pos cc, (FA.2.2 j (by omega)).1, (FA.2.2 j (by omega)).2.1, (FA.2.2 j (by omega)).2.2]
          exact A.2 j cc
        · have e : j = l.length := by omega
          rw [if_neg cc, if_pos e, e]
          exact hA⟩
      have A3 : ∀ z : Int, ActsR (l ++ [G.1]) (up2 m2 169 18 z) := fun z => ⟨by rw [up2_j (by decide)]; exact A2.1, fun j hj => by
        rw [up2_k (by decide), up2_k (by decide), up2_k (by decide)]
        exact A2.2 j hj⟩
      refine sg_X12_round_37 (by decide) (fun _ => by rw [T2.p, T2.l]; omega) (fun _ => T2.2.2.1 _) (fun g => absurd g (by decide)) (fun _ g => ?_) (fun _ g => ?_)
      · have g := (T2.next (by decide)).1 g
        have q := (lk_pos (show 0 ≤ lkA a L G.2 by omega)).1
        rw [if_neg (by omega), if_pos g] at eR
        exact ih (G.2 + 1) (l ++ [G.1]) _ _ (by rw [l1]; omega) (by rw [l1]; omega) (T2.pass q (by rw [T2.p])) (A3 _) F2.up eR
      · have g : ¬ lkA a L G.2 = 59 := fun o => g ((T2.next (by decide)).2 o)
        have e18 : up2 m2 169 18 (m2 169 18 + 0) 169 18 = G.2 := by rw [up2_same, T2.p]; omega
        have e19 : up2 m2 169 18 (m2 169 18 + 0) 169 19 = min n 60 := by rw [up2_j (by decide), hL]; exact T2.l
        by_cases cn : n ≤ G.2
        · rw [if_pos cn] at eR
          refine ex _ _ F2.up ⟨Or.inl ⟨by rw [eR], by decide, by rw [e18]; omega, by rw [eR]; exact A3 _⟩, e19, ?_, ?_, by decide⟩
          · rw [e18]; omega
          · rw [e18]; omega
        · rw [if_neg cn, if_neg g] at eR
          refine ex _ _ F2.up ⟨Or.inr ⟨by rw [eR], fun o => by rw [eR] at o; have := o.2; dsimp only at this; omega, by rw [eR]; exact e18⟩, e19, ?_, ?_, by decide⟩
          · rw [e18]; omega
          · rw [e18]; omega
    · subst ez
      rw [if_pos (by omega)] at eR
      refine sg_X12_round_37 (by decide) (fun g => absurd rfl g) (fun g => absurd rfl g) (fun _ => ex _ _ F2 ⟨Or.inr ⟨by rw [eR], fun o => o.1 rfl, by rw [eR]; exact T2.p⟩, T2.l.trans hL.symm, ?_, ?_, by decide⟩) (fun g => absurd rfl g) (fun g => absurd rfl g)
      · rw [T2.p]; omega
      · rw [T2.p]; omega
