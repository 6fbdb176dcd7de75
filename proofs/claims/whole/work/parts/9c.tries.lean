/-! orders: the reference tries all ways -/
def ndP (p : List Int) : Prop := ∀ i j : Nat, i < j → j < p.length → p.getD i 0 ≠ p.getD j 0
theorem getD_app {p : List Int} {s : Int} {j : Nat} : (p ++ [s]).getD j 0 = if j < p.length then p.getD j 0 else if j = p.length then s else 0 := by
  rw [List.getD_eq_getElem?_getD]
  split
  · rename_i h
    rw [List.getElem?_append_left h, List.getD_eq_getElem?_getD]
  · rename_i h
    rw [List.getElem?_append_right (by omega)]
    split
    · rename_i h2
      rw [h2, Nat.sub_self]; rfl
    · rename_i h2
      rw [List.getElem?_eq_none (by simp; omega)]; rfl
theorem ndP_snoc {p : List Int} {s : Int} (h : ndP p) (hs : s ∉ p) : ndP (p ++ [s]) := by
  intro i j hi hj
  rw [List.length_append] at hj
  have hj : j < p.length + 1 := hj
  rw [getD_app, getD_app, if_pos (by omega)]
  split
  · rename_i c; exact h i j hi c
  · rw [if_pos (by omega)]
    intro o
    exact hs (by rw [← o]; exact getD_mem0 (by omega))
def TF (i : Nat) (m m' : Mem) : Prop := (∀ k, k ≠ 181 → k ≠ 189 → k ≠ 169 → k ≠ 187 → k ≠ 188 → k ≠ 195 → k ≠ 196 → m' k = m k) ∧ (∀ j : Int, (j < 30 ∨ 37 < j) → j ≠ 39 → j ≠ 42 → j ≠ 50 → j ≠ 52 → j ≠ 54 → m' 169 j = m 169 j) ∧ ∀ j : Nat, j < i → m' 195 j = m 195 j
theorem TF.rf {i : Nat} {m : Mem} : TF i m m := ⟨fun _ _ _ _ _ _ _ _ => rfl, fun _ _ _ _ _ _ _ => rfl, fun _ _ => rfl⟩
theorem TF.trans {i : Nat} {a b d : Mem} (h : TF i a b) (g : TF i b d) : TF i a d := ⟨fun k q1 q2 q3 q4 q5 q6 q7 => (g.1 k q1 q2 q3 q4 q5 q6 q7).trans (h.1 k q1 q2 q3 q4 q5 q6 q7), fun j q1 q2 q3 q4 q5 q6 => (g.2.1 j q1 q2 q3 q4 q5 q6).trans (h.2.1 j q1 q2 q3 q4 q5 q6), fun j hj => (g.2.2 j hj).trans (h.2.2 j hj)⟩
theorem TF.mb {i : Nat} {m m' : Mem} (h : TF i m m') : MB m m' := ⟨h.2.1 3 (by omega) (by decide) (by decide) (by decide) (by decide) (by decide), h.2.1 26 (by omega) (by decide) (by decide) (by decide) (by decide) (by decide), fun k k0 k1 => h.1 k (by omega) (by omega) (by omega) (by omega) (by omega) (by omega) (by omega), h.1 185 (by decide) (by decide) (by decide) (by decide) (by decide) (by decide) (by decide)⟩
def FQ (L : Nat) (st : Int × List Int) (m : Mem) : Prop := m 169 54 = st.1 ∧ (0 ≤ st.1 → ∀ j : Nat, j < L → m 196 j = st.2.getD j 0)
def stR' (st : Int × List Int) : Prop := -2 ≤ st.1 ∧ st.1 ≤ 2000000000
theorem mt_tries {E : Nat × (Nat → Int32)} {a : Mem} {v : (Int → Int) → Int} {r : Int → Int} {B : Int} {L : Nat} (hR : RuleM a v) (hT : WTown a) (hS : WSet a) (hn : StOK B a r) (hB : B ≤ 1000000000) (hL : L ≤ 6) : ∀ (f : Nat) (q : Int) (dd : Nat) (pre : List Int) (st : Int × List Int) (m : Mem), f + 9 ≤ dd → 0 ≤ q → q < 64 → pop q = f → pre.length + f = L → (∀ s ∈ pre, (0 ≤ s ∧ s < 6) ∧ tb q s = false) → ndP pre → MB a m → (∀ b : Int, 0 ≤ b → b < 99 → m 180 b = r b) → (∀ j : Nat, j < pre.length → m 195 j = pre.getD j 0) → FQ L st m → stR' st → K_X12_triesOrders E dd [.ref 169, vi q, vi (pre.length : Int)] m (fun m' => FQ L ((oPerms (a 169 3).toNat f q).foldl (fun st p => stQ a v r st (pre ++ p)) st) m' ∧ stR' ((oPerms (a 169 3).toNat f q).foldl (fun st p => stQ a v r st (pre ++ p)) st) ∧ TF pre.length m m') := by
  have n0 := hT.1
  have n6 := hT.2.1
  intro f
  induction f with
  | zero =>
    intro q dd pre st m hd q0 q1 hq hl hpre nd b er e195 hF hst
    have qz := pop_zero q0 q1 hq
    subst qz
    have hl : pre.length + 0 = L := hl
    have eo : (oPerms (a 169 3).toNat 0 0).foldl (fun st p => stQ a v r st (pre ++ p)) st = stQ a v r st pre := by
      show stQ a v r st (pre ++ []) = _
      rw [List.append_nil]
    rw [eo]
    refine en_X12_triesOrders (sg_X12_triesOrders_0 (by decide) (fun g => absurd rfl g) (fun _ => ?_))
    refine ca_X12_triesOrders_17 (by omega) (ct_puts (by decide) (by decide) (by decide) (by decide) (by decide)) (fun m1 h1 => sg_X12_triesOrders_20 ?_)
    have k1 : ∀ k, k ≠ 181 → k ≠ 169 → m1 k = m k := fun k q1 q2 => by rw [h1, mv_k q1, up2_k q2]
    have f1 : ∀ j : Int, j ≠ 52 → m1 169 j = m 169 j := fun j hj => by rw [h1, mv_k (by decide), up2_j hj]
    have f52 : m1 169 52 = pre.length := by rw [h1, mv_k (by decide), up2_same]
    have r1 : ∀ c : Int, 0 ≤ c → c < 99 → m1 181 c = r c := fun c c0 c1 => by
      rw [h1, mv_in (by omega) (by omega), up2_k (by decide)]
      rw [show c - 0 + 0 = c by omega]
      exact er c c0 c1
    have F1 : TF pre.length m m1 := ⟨fun k q1 _ q3 _ _ _ _ => k1 k q1 q3, fun j _ _ _ _ q5 _ => f1 j q5, fun j hj => by rw [k1 195 (by decide) (by decide)]⟩
    refine ca_X12_triesOrders_21 (by omega) (mt_goesRound (b.trans F1.mb) hR hT hS hn hB r1 f52 (fun j hj => by rw [k1 195 (by decide) (by decide)]; exact e195 j hj) (fun s hs => (hpre s hs).1) (by omega) nd) (fun z m2 hz => ?_)
    obtain ⟨G, -, hz⟩ := hz
    have F2 : TF pre.length m1 m2 := ⟨fun k q1 q2 q3 q4 q5 _ _ => G.1 k q1 q2 q3 q4 q5, fun j q1 q2 q3 q4 _ _ => G.2 j q1 q2 q3 q4, fun j hj => by rw [G.1 195 (by decide) (by decide) (by decide) (by decide) (by decide)]⟩
    have F12 := F1.trans F2
    have e54 : m2 169 54 = st.1 := by rw [G.2 54 (by omega) (by decide) (by decide) (by decide), f1 54 (by decide)]; exact hF.1
    have e196 : ∀ j : Int, m2 196 j = m 196 j := fun j => by rw [G.1 196 (by decide) (by decide) (by decide) (by decide) (by decide), k1 196 (by decide) (by decide)]
    have e195' : ∀ j : Nat, j < pre.length → m2 195 j = pre.getD j 0 := fun j hj => by rw [F12.2.2 j hj]; exact e195 j hj
    have keep : FQ L st m2 := ⟨e54, fun g j hj => by rw [e196]; exact hF.2 g j hj⟩
    have hst2 := hst
    unfold stR' at hst2
    rcases hz with ⟨t', w1, w2, -, -⟩ | ⟨w1, w2⟩
    · have rng := oEnd_rng hT hS hn pre (trow r) t' B (fun s hs => (hpre s hs).1) ⟨hn.2.1, hn.2.2.1, hn.2.2.2.1, hn.2.2.2.2.1, hn.2.2.2.2.2.1, hn.2.2.2.2.2.2⟩ (by omega) w1
      have rng1 : r 98 ≤ t'.2.2 := rng.1
      have rng0 := hn.2.2.2.2.2.1
      have stp : ∀ (c : st.1 < 0 ∨ t'.2.2 - r 98 < st.1), stQ a v r st pre = (t'.2.2 - r 98, pre) := fun c => by unfold stQ; rw [w1]; dsimp only; rw [if_pos c]
      have stn : ∀ (c : ¬ (st.1 < 0 ∨ t'.2.2 - r 98 < st.1)), stQ a v r st pre = st := fun c => by unfold stQ; rw [w1]; dsimp only; rw [if_neg c]
      have put : (st.1 < 0 ∨ t'.2.2 - r 98 < st.1) → GM E (m_X12_triesOrders dd) (Pv fun m' => FQ L (stQ a v r st pre) m' ∧ stR' (stQ a v r st pre) ∧ TF pre.length m m') 52 [.ref 169, vi 0, vi (pre.length : Int), vi z, vi 0] [] (up2 m2 169 54 z) := fun c => by
        rw [stp c]
        refine up_loop (i0 := 0) (n := pre.length) (fun x m3 => GM E _ _ 52 [.ref 169, vi 0, vi (pre.length : Int), vi z, vi x] [] m3) (fun x m3 => (∀ j : Int, 0 ≤ j → j < x → m3 196 j = m2 195 j) ∧ ∀ k, k ≠ 196 → m3 k = up2 m2 169 54 z k) (fun m3 h => ?_) (fun x m3 x0 x1 h kk => ?_) (i := 0) (by omega) (by omega) ⟨fun j j0 j1 => by omega, fun _ _ => rfl⟩
        · obtain ⟨g1, g2⟩ := h
          refine sg_X12_triesOrders_52 ⟨by omega, by omega⟩ ⟨by omega, by omega⟩ (by omega) (fun _ => ⟨rfl, ⟨?_, fun _ j hj => ?_⟩, ?_, ?_⟩) (by omega)
          · rw [g2 169 (by decide), up2_same, w2]
          · rw [g1 j (by omega) (by omega)]; exact e195' j (by omega)
          · unfold stR'; show -2 ≤ t'.2.2 - r 98 ∧ t'.2.2 - r 98 ≤ 2000000000; omega
          · refine F12.trans ⟨fun k _ _ q3 _ _ _ q7 => by rw [g2 k q7, up2_k q3], fun j _ _ _ _ _ q6 => by rw [g2 169 (by decide), up2_j q6], fun j hj => by rw [g2 195 (by decide), up2_k (by decide)]⟩
        · obtain ⟨g1, g2⟩ := h
          refine sg_X12_triesOrders_52 ⟨by omega, by omega⟩ ⟨by omega, by omega⟩ (fun _ => by omega) (by omega) (fun _ => kk _ ⟨fun j j0 j1 => ?_, fun k hk => by rw [up2_k hk, g2 k hk]⟩)
          by_cases cj : j = x
          · subst cj; rw [up2_same, g2 195 (by decide), up2_k (by decide)]
          · rw [up2_j cj]; exact g1 j j0 (by omega)
      refine sg_X12_triesOrders_24 (by rw [w2]; constructor <;> omega) (fun _ => by rw [e54]; constructor <;> omega) (by rw [w2]; omega) (fun _ g => put (Or.inl (by rw [e54] at g; exact g))) (fun _ g g2 => ⟨rfl, ?_, ?_, F12⟩) (fun _ g g2 => put (Or.inr (by rw [e54, w2] at g2; omega)))
      · rw [stn (by rw [e54] at g g2; rw [w2] at g2; omega)]; exact keep
      · rw [stn (by rw [e54] at g g2; rw [w2] at g2; omega)]; exact hst
    · have e : stQ a v r st pre = st := by unfold stQ; rw [w1]
      rw [e]
      exact sg_X12_triesOrders_24 (by rw [w2]; decide) (by rw [w2]; omega) (fun _ => ⟨rfl, keep, hst, F12⟩) (by rw [w2]; omega) (by rw [w2]; omega) (by rw [w2]; omega)
  | succ f ih =>
    intro q dd pre st m hd q0 q1 hq hl hpre nd b er e195 hF hst
    have qnz : q ≠ 0 := fun o => by rw [o] at hq; have : pop 0 = 0 := by { decide }; omega
    have key : ∀ (k : Nat) (s : Int) (st2 : Int × List Int) (m2 : Mem), 0 ≤ s → s + k = a 169 3 → (oPerms (a 169 3).toNat (f + 1) q).foldl (fun st p => stQ a v r st (pre ++ p)) st = (kids q (fun s => oPerms (a 169 3).toNat f (clr q s)) s k).foldl (fun st p => stQ a v r st (pre ++ p)) st2 → FQ L st2 m2 → stR' st2 → TF pre.length m m2 → GM E (m_X12_triesOrders dd) (Pv fun m' => FQ L ((oPerms (a 169 3).toNat (f + 1) q).foldl (fun st p => stQ a v r st (pre ++ p)) st) m' ∧ stR' ((oPerms (a 169 3).toNat (f + 1) q).foldl (fun st p => stQ a v r st (pre ++ p)) st) ∧ TF pre.length m m') 81 [.ref 169, vi q, vi (pre.length : Int), vi s, un] [] m2 := by
      intro k
      induction k with
      | zero =>
        intro s st2 m2 s0 hs e hF2 hr T
        have e : _ = st2 := e
        rw [e]
        have e3 : m2 169 3 = a 169 3 := (b.trans T.mb).1
        exact sg_X12_triesOrders_81 (by omega) ⟨by omega, by omega⟩ (by rw [e3]; constructor <;> omega) (by rw [e3]; omega) (fun _ => ⟨rfl, hF2, hr, T⟩) (by rw [e3]; omega) (by rw [e3]; omega)
      | succ k ihk =>
        intro s st2 m2 s0 hs e hF2 hr T
        have e3 : m2 169 3 = a 169 3 := (b.trans T.mb).1
        have s6 : s < 6 := by omega
        rw [kids, List.foldl_append] at e
        refine sg_X12_triesOrders_81 (by omega) ⟨by omega, by omega⟩ (by rw [e3]; constructor <;> omega) (fun _ _ => by omega) (by rw [e3]; omega) (fun _ g => ?_) (fun _ g => ?_)
        · rw [has_tb q0 q1 s0 s6] at g
          rw [if_pos g, List.foldl_map] at e
          have c6 := clr64 q0 q1 s0 s6
          have pc := pop_clr q0 q1 s0 s6 g
          have snot : s ∉ pre := fun o => by have := (hpre s o).2; rw [g] at this; cases this
          have hm : ((pre ++ [s]).length : Int) = pre.length + 1 := by rw [List.length_append]; show ((pre.length + 1 : Nat) : Int) = _; omega
          have hmn : (pre ++ [s]).length = pre.length + 1 := by rw [List.length_append]; rfl
          have F195 : ∀ j : Nat, j < pre.length → m2 195 j = pre.getD j 0 := fun j hj => by rw [T.2.2 j hj]; exact e195 j hj
          have T3 : TF pre.length m2 (up2 m2 195 pre.length s) := ⟨fun k _ _ _ _ _ q6 _ => up2_k q6, fun j _ _ _ _ _ _ => by rw [up2_k (by decide)], fun j hj => up2_j (by omega)⟩
          have := ih (clr q s) (dd - 1) (pre ++ [s]) st2 (up2 m2 195 pre.length s) (by omega) c6.1 c6.2 (by omega) (by omega) (fun u hu => ?_) (ndP_snoc nd snot) (b.trans (T.mb.trans T3.mb)) (fun c c0 c1 => by rw [up2_k (by decide), T.1 180 (by decide) (by decide) (by decide) (by decide) (by decide) (by decide) (by decide)]; exact er c c0 c1) (fun j hj => ?_) ⟨by rw [up2_k (by decide)]; exact hF2.1, fun g j hj => by rw [up2_k (by decide)]; exact hF2.2 g j hj⟩ hr
          · rw [hm] at this
            have eF : (fun (st : Int × List Int) p => stQ a v r st (pre ++ [s] ++ p)) = fun st p => stQ a v r st (pre ++ s :: p) := by
              funext st p
              rw [List.append_assoc]
              rfl
            rw [eF] at this
            refine ca_X12_triesOrders_115 (d2 := dd - 1) (by omega) this (fun m4 h4 => sg_X12_triesOrders_118 ?_)
            obtain ⟨g1, g2, g3⟩ := h4
            refine ihk (s + 1) _ m4 (by omega) (by omega) e g1 g2 ?_
            refine T.trans (T3.trans ⟨g3.1, g3.2.1, fun j hj => g3.2.2 j (by omega)⟩)
          · rcases List.mem_append.1 hu with hu | hu
            · have := hpre u hu
              refine ⟨this.1, ?_⟩
              rw [tb_clr s0 s6 this.1.1 (by omega), this.2]; rfl
            · rw [List.mem_singleton] at hu
              subst hu
              refine ⟨⟨s0, s6⟩, ?_⟩
              rw [tb_clr s0 s6 s0 (by omega)]; simp
          · rw [hmn] at hj
            rw [getD_app]
            by_cases cj : j < pre.length
            · rw [if_pos cj, up2_j (by omega)]; exact F195 j cj
            · rw [if_neg cj, if_pos (by omega), show j = pre.length by omega, up2_same]
        · rw [has_tb q0 q1 s0 s6] at g
          rw [if_neg g] at e
          exact ihk (s + 1) st2 m2 (by omega) (by omega) e hF2 hr T
    refine en_X12_triesOrders (sg_X12_triesOrders_0 ⟨by omega, by omega⟩ (fun _ => ?_) (fun g => absurd g qnz))
    exact key (a 169 3).toNat 0 st m (Int.le_refl _) (by omega) rfl hF hst TF.rf
/-- the best of a set -/
def oBest (a : Mem) (v : (Int → Int) → Int) (r : Int → Int) (q : Int) : Int × List Int := (oPerms (a 169 3).toNat (pop q).toNat q).foldl (stQ a v r) (-2, [])
theorem mt_quickestOf {E : Nat × (Nat → Int32)} {m a : Mem} {v : (Int → Int) → Int} {r : Int → Int} {B q : Int} (b : MB a m) (hR : RuleM a v) (hT : WTown a) (hS : WSet a) (hn : StOK B a r) (hB : B ≤ 1000000000) (q0 : 0 ≤ q) (q1 : q < 64) (q6 : pop q ≤ 6) (er : ∀ b : Int, 0 ≤ b → b < 99 → m 180 b = r b) : K_X12_quickestOf E [.ref 169, vi q] m (fun z m' => z = (oBest a v r q).1 ∧ (-2 ≤ z ∧ z ≤ 2000000000) ∧ (0 ≤ z → ∀ j : Nat, j < (pop q).toNat → m' 196 j = (oBest a v r q).2.getD j 0) ∧ TF 0 m m') := by
  have pr := pop_rng q
  refine en_X12_quickestOf (sg_X12_quickestOf_0 ?_)
  have := mt_tries (E := E) (a := a) (v := v) (r := r) (L := (pop q).toNat) hR hT hS hn hB (by omega) (pop q).toNat q 200 [] (-2, []) (up2 m 169 54 (-2)) (by omega) q0 q1 (by omega) (by show 0 + (pop q).toNat = _; omega) (fun s hs => by cases hs) (fun i j _ hj => by have hj : j < 0 := hj; omega) (b.trans ⟨up2_j (by decide), up2_j (by decide), fun k _ _ => up2_k (by omega), up2_k (by decide)⟩) (fun c c0 c1 => by rw [up2_k (by decide)]; exact er c c0 c1) (fun j hj => by have hj : j < 0 := hj; omega) ⟨up2_same _ _ _ _, fun g => by have g : (0 : Int) ≤ -2 := g; omega⟩ ⟨by decide, by decide⟩
  have eF : (fun (st : Int × List Int) p => stQ a v r st ([] ++ p)) = stQ a v r := by
    funext st p
    rw [List.nil_append]
  rw [eF] at this
  refine ca_X12_quickestOf_9 (d2 := 200) (by decide) this (fun m2 h2 => sg_X12_quickestOf_12 ?_)
  obtain ⟨g1, g2, g3⟩ := h2
  have e : m2 169 54 = (oBest a v r q).1 := g1.1
  refine ⟨_, rfl, e, ?_, fun g j hj => ?_, ?_⟩
  · rw [e]; exact g2
  · exact g1.2 (by rw [e] at g; exact g) j hj
  · exact ⟨fun k q1 q2 q3 q4 q5 q6 q7 => by rw [g3.1 k q1 q2 q3 q4 q5 q6 q7, up2_k q3], fun j q1 q2 q3 q4 q5 q6 => by rw [g3.2.1 j q1 q2 q3 q4 q5 q6, up2_j q6], fun j hj => by omega⟩
