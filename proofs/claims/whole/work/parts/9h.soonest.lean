/-! soonest: both sides -/
def SFr (c c' : Mem) : Prop := ∀ q, q < 106 ∨ (106 < q ∧ q < 109) ∨ 146 < q → c' q = c q
theorem SFr.ofr {c c1 : Mem} (h : SFr c c1) : OFr c c1 := ⟨fun q q1 _ _ => h q (by omega), fun x _ => by rw [h 5 (by omega)]⟩
def oMost (a : Mem) (v : (Int → Int) → Int) (r : Int → Int) (S U : Int) : Int := (oNodes a v r S 6 0 [] (trow r)).foldl (jM a U) 0
theorem ct_search {E : Nat × (Nat → Int32)} {c a : Mem} {v : (Int → Int) → Int} {r : Int → Int} {bits : Int → Int} {B S U : Int} (hC : CTown c a) (hCS : CSet c a) (hT : WTown a) (hS : WSet a) (hn : StOK B a r) (hb : ∀ s h : Int, 0 ≤ s → s < a 169 3 → 0 ≤ h → h < 16 → (r (16 * s + h) = 1 ↔ tb (bits s) h = true)) (hB : B ≤ 1000000000) (S0 : 0 ≤ S) (S1 : S < 64) (rU : RI U) (hO : OP a v r bits (a 169 3) c) (h : TrC c (trow r)) : K_X4_search E [.ref 106, vi S, vi U] c (fun c' => FJ (pop S).toNat (oSoon a v r S S) (oMost a v r S U) c' ∧ FJr (oSoon a v r S S) (oMost a v r S U) ∧ SFr c c') := by
  have pr := pop_rng S
  refine en_X4_search (sg_X4_search_0 ?_)
  generalize hM : up2 (up2 (up2 (up2 c 106 14 S) 106 15 U) 106 12 (-1)) 106 13 0 = M
  have Mk : ∀ k, k ≠ 106 → M k = c k := fun k hk => by rw [← hM, up2_k hk, up2_k hk, up2_k hk, up2_k hk]
  have Mj : ∀ j : Int, j < 12 ∨ 15 < j → M 106 j = c 106 j := fun j hj => by rw [← hM, up2_j (by omega), up2_j (by omega), up2_j (by omega), up2_j (by omega)]
  have M14 : M 106 14 = S := by rw [← hM, up2_j (by decide), up2_j (by decide), up2_j (by decide), up2_same]
  have M15 : M 106 15 = U := by rw [← hM, up2_j (by decide), up2_j (by decide), up2_same]
  have M12 : M 106 12 = -1 := by rw [← hM, up2_j (by decide), up2_same]
  have M13 : M 106 13 = 0 := by rw [← hM, up2_same]
  clear hM
  have SM : SFr c M := fun q hq => Mk q (by omega)
  have p0 : pop 0 = 0 := by decide
  have := ct_explore (E := E) (a := a) (v := v) (r := r) (bits := bits) (S := S) (U := U) (L := (pop S).toNat) hT hS hn hb hB S0 S1 rU (by omega) 6 0 200 [] (trow r) (-1, []) 0 M (by decide) (by decide) (by decide) rfl p0 (SM.ofr.town hC) (SM.ofr.set hCS) (hO.fr (fun q hq => Mk q (by omega))) ⟨hn.2.1, hn.2.2.1, hn.2.2.2.1, hn.2.2.2.2.1, hn.2.2.2.2.2.1, by have := hn.2.2.2.2.2.2; show r 98 ≤ B + 80290 * ((0 : Nat) : Int); omega⟩ ⟨by rw [Mj 6 (by omega)]; exact h.1, by rw [Mj 7 (by omega)]; exact h.2.1, by rw [Mj 8 (by omega)]; exact h.2.2⟩ M14 M15 (fun j hj => by have hj : j < 0 := hj; omega) ⟨M12, fun g => by have g : (0 : Int) ≤ -1 := g; omega, M13⟩ ⟨by decide, by decide, by decide, by decide⟩
  refine ca_X4_search_23 (d2 := 200) (by decide) this (fun c2 h2 => sg_X4_search_26 ⟨rfl, ?_⟩)
  obtain ⟨g1, g2, g3, -⟩ := h2
  exact ⟨g1, g2, fun q hq => by rw [g3.1 q hq, SM q hq]⟩
theorem CQ.ord {c m c' : Mem} {n : Int} {f : Int → Int} (j : OFr c m) (q : CQ m c' n f) : CQ c c' n f := by
  obtain ⟨q1, q2, q3, q4, q5, q6, q7, q8⟩ := q
  exact ⟨q1, q2, fun k hk h8 => (q3 k hk h8).trans (j.1 k (by have := hk.ne; omega) (by have := hk.ne; omega) (by have := hk.ne; omega)), q4.trans (by rw [j.1 93 (by omega) (by omega) (by omega)]), fun x hx => (q5 x hx).trans (j.2 x hx), q6.trans (j.1 6 (by omega) (by omega) (by omega)), q7.trans (j.1 7 (by omega) (by omega) (by omega)), fun k hk => (q8 k hk).trans (j.1 k (by omega) (by omega) (by omega))⟩
theorem CQ.ordS {c m a : Mem} (h : CR0 c a) (j : OFr c m) : CQ c m (a 169 1) (a 170) := by
  refine CQ.ord j ⟨?_, fun x x0 x1 => ?_, fun _ _ _ => rfl, rfl, fun _ _ => rfl, rfl, rfl, fun _ _ => rfl⟩
  · rw [j.1 0 (by omega) (by omega) (by omega)]; exact h.row.1
  · rw [j.1 168 (by omega) (by omega) (by omega)]; exact h.row.2 x x0 x1
theorem best_elems {a : Mem} {v : (Int → Int) → Int} {r : Int → Int} : ∀ (l : List (List Int)) (Q : Int × List Int), (∀ p ∈ l, ∀ s ∈ p, 0 ≤ s ∧ s < 6) → (∀ s ∈ Q.2, 0 ≤ s ∧ s < 6) → ∀ s ∈ (l.foldl (stQ a v r) Q).2, 0 ≤ s ∧ s < 6
  | [], Q, _, h => h
  | p :: l, Q, hl, h => by
    rw [List.foldl_cons]
    refine best_elems l _ (fun p hp => hl p (List.mem_cons_of_mem _ hp)) ?_
    have hp := hl p List.mem_cons_self
    unfold stQ
    cases oEnd a v r p (trow r) with
    | none => exact h
    | some t' =>
      dsimp only
      split
      · exact hp
      · exact h
def soonP (a : Mem) (t : Int) : Prop := setOf (a 169 3) t ∧ t ≠ 0
def bestL (a : Mem) (v : (Int → Int) → Int) (t : Int) : Int → Int := fun j => (oBest a v (a 180) t).2.getD j.toNat 0
theorem bestL_rng {a : Mem} {v : (Int → Int) → Int} {t j : Int} (hT : WTown a) : RI (bestL a v t j) := by
  have n0 := hT.1
  have n6 := hT.2.1
  have g := best_elems (a := a) (v := v) (r := a 180) (oPerms (a 169 3).toNat (pop t).toNat t) (-2, []) (fun p hp => (perms_mem (by omega) _ _ p hp).2) (fun s hs => by cases hs)
  unfold bestL
  by_cases c : j.toNat < (oBest a v (a 180) t).2.length
  · have : 0 ≤ (oBest a v (a 180) t).2.getD j.toNat 0 ∧ (oBest a v (a 180) t).2.getD j.toNat 0 < 6 := g _ (getD_mem0 c)
    constructor <;> omega
  · rw [List.getD_eq_getElem?_getD, List.getElem?_eq_none (by omega)]
    decide
theorem set_facts {a : Mem} {t : Int} (hT : WTown a) (h : setOf (a 169 3) t) : 0 ≤ t ∧ t < 64 ∧ pop t ≤ 6 ∧ 0 ≤ pop t ∧ ∀ i : Int, a 169 3 ≤ i → i < 6 → tb t i = false := by
  have g := setOf_64 hT.1 hT.2.1 h
  exact ⟨g.1, g.2, pop_6 g.1 g.2, (pop_rng t).1, fun i i0 _ => setOf_tb hT.1 hT.2.1 h i0⟩
theorem ct_soonest {E : Nat × (Nat → Int32)} {c a : Mem} {v : (Int → Int) → Int} {t B : Int} (rt : RI t) (h : CR0 c a) (hR : RuleC c v) (hT : WTown a) (hS : WSet a) (hn : StOK B a (a 180)) (hB : B ≤ 1000000000) : K_X11_soonest E [.ref 0, vi t] c (fun z c' => (soonP a t ∧ 0 ≤ (oBest a v (a 180) t).1 ∧ z = (oBest a v (a 180) t).1 ∧ CQ c c' (pop t) (bestL a v t)) ∨ (soonP a t ∧ ¬ 0 ≤ (oBest a v (a 180) t).1 ∧ z = -2 ∧ CQ c c' (a 169 1) (a 170)) ∨ (¬ soonP a t ∧ z = -1 ∧ CQ c c' (a 169 1) (a 170))) := by
  have n0 := hT.1
  have n6 := hT.2.1
  have e := h.town.1
  have no : ¬ soonP a t → (Pi fun z c' => (soonP a t ∧ 0 ≤ (oBest a v (a 180) t).1 ∧ z = (oBest a v (a 180) t).1 ∧ CQ c c' (pop t) (bestL a v t)) ∨ (soonP a t ∧ ¬ 0 ≤ (oBest a v (a 180) t).1 ∧ z = -2 ∧ CQ c c' (a 169 1) (a 170)) ∨ (¬ soonP a t ∧ z = -1 ∧ CQ c c' (a 169 1) (a 170))) (some (vi (-1))) c := fun g => ⟨_, rfl, Or.inr (Or.inr ⟨g, rfl, CQ.stay h⟩)⟩
  refine en_X11_soonest (sg_X11_soonest_0 rt (fun g => no (fun o => o.2 g)) (fun g g2 => ?_) (fun g g2 => no (fun o => g2 (by rw [e]; exact (hasAll_iff n0 n6 rt).2 o.1))))
  rw [e] at g2
  have P : soonP a t := ⟨(hasAll_iff n0 n6 rt).1 g2, g⟩
  have sf := set_facts hT P.1
  refine ca_X11_soonest_28 (ct_prepare h.town h.set h.now hR hT hS hn) (fun c2 h2 => sg_X11_soonest_31 ?_)
  obtain ⟨O2, F2, L2⟩ := h2
  have e23 : c2 23 = c 23 := L2 23 (by decide) (by decide) (by decide)
  have e24 : c2 24 = c 24 := L2 24 (by decide) (by decide) (by decide)
  rw [e23]
  generalize hM : up2 (up2 (up2 (up2 (up2 c2 106 6 (c 23 3)) 106 7 (c 23 4)) 106 8 (c 23 5)) 106 9 0) 106 10 0 = M
  have Mk : ∀ k, k ≠ 106 → M k = c2 k := fun k hk => by rw [← hM, up2_k hk, up2_k hk, up2_k hk, up2_k hk, up2_k hk]
  have MT : TrC M (trow (a 180)) := ⟨by rw [← hM, up2_j (by decide), up2_j (by decide), up2_j (by decide), up2_j (by decide), up2_same]; exact h.now.2.1, by rw [← hM, up2_j (by decide), up2_j (by decide), up2_j (by decide), up2_same]; exact h.now.2.2.1, by rw [← hM, up2_j (by decide), up2_j (by decide), up2_same]; exact h.now.2.2.2⟩
  clear hM
  have FM : OFr c M := F2.trans ⟨fun q q1 _ _ => Mk q (by omega), fun x _ => by rw [Mk 5 (by decide)]⟩
  refine ca_X11_soonest_65 (ct_search (v := v) (r := a 180) (bits := c 24) (S := t) (U := -1) (FM.town h.town) (FM.set h.set) hT hS hn (fun s k s0 s1 k0 k1 => h.now.out1 s0 (by omega) k0 k1) hB sf.1 sf.2.1 (by decide) (O2.fr (fun q hq => Mk q (by omega))) MT) (fun c3 h3 => ?_)
  obtain ⟨⟨f1, f2, -⟩, ⟨r1, r2, -, -⟩, SF3⟩ := h3
  have rel := soon_best (S := t) (T := t) (v := v) hT hS hn hB (by have := P.2; omega) sf.2.1 (fun _ _ _ h => h) sf.2.2.2.2
  have F3 := FM.trans SF3.ofr
  refine sg_X11_soonest_68 (by rw [f1]; constructor <;> omega) (fun g3 => ?_) (fun g3 => ⟨_, rfl, Or.inr (Or.inl ⟨P, ?_, rfl, CQ.ordS h F3⟩)⟩)
  · rw [f1] at g3
    have rel : 0 ≤ (oBest a v (a 180) t).1 ∧ (oSoon a v (a 180) t t).1 = (oBest a v (a 180) t).1 + a 180 98 ∧ (oSoon a v (a 180) t t).2 = (oBest a v (a 180) t).2 := by
      rcases rel with x | x
      · omega
      · exact x
    refine up_loop (i0 := 0) (n := pop t) (fun i c4 => GM E _ _ 87 [.ref 0, vi t, vi i] [] c4) (fun i c4 => c4 0 14 = i ∧ (∀ j : Int, 0 ≤ j → j < i → c4 168 j = bestL a v t j) ∧ ∀ k, k ≠ 0 → k ≠ 168 → c4 k = c3 k) (fun c4 h4 => ?_) (fun i c4 i0 i1 h4 kk => ?_) (i := 0) (by omega) (by omega) ⟨up2_same _ _ _ _, fun j j0 j1 => by omega, fun k k1 _ => up2_k k1⟩
    · obtain ⟨p1, p2, p3⟩ := h4
      refine sg_X11_soonest_87 (ca_X11_soonest_89 (ct_bitCount ⟨sf.1, by omega⟩) (fun z m2 hz => ?_))
      obtain ⟨rfl, ez⟩ := hz
      rw [ez]
      have e12 : m2 106 12 = (oSoon a v (a 180) t t).1 := by rw [p3 106 (by decide) (by decide), f1]
      have e5 : m2 23 5 = a 180 98 := by rw [p3 23 (by decide) (by decide), F3.1 23 (by omega) (by decide) (by decide)]; exact h.now.2.2.2
      refine sg_X11_soonest_92 ⟨by omega, by omega⟩ ⟨by omega, by omega⟩ (by omega) (by omega) (by omega) (fun _ => ⟨_, rfl, Or.inl ⟨P, rel.1, ?_, CQ.ord F3 (CQ.of2 p3 p1 p2)⟩⟩) (by omega)
      rw [e12, e5, rel.2.1]; omega
    · obtain ⟨p1, p2, p3⟩ := h4
      refine sg_X11_soonest_87 (ca_X11_soonest_89 (ct_bitCount ⟨sf.1, by omega⟩) (fun z m2 hz => ?_))
      obtain ⟨rfl, ez⟩ := hz
      rw [ez]
      have ei : ((i.toNat : Nat) : Int) = i := Int.toNat_of_nonneg i0
      have e110 : m2 110 i = bestL a v t i := by
        have := f2 g3 i.toNat (by omega)
        rw [ei] at this
        rw [p3 110 (by decide) (by decide), this, rel.2.2]
        rfl
      refine sg_X11_soonest_92 ⟨by omega, by omega⟩ ⟨by omega, by omega⟩ (fun _ => by omega) (fun _ => by rw [e110]; exact bestL_rng hT) (fun _ => by rw [p1]; omega) (by omega) (fun _ => kk _ ?_)
      rw [p1, e110]
      refine ⟨up2_same _ _ _ _, fun j j0 j1 => ?_, fun k k1 k2 => by rw [up2_k k1, up2_k k2, p3 k k1 k2]⟩
      rw [up2_k (by decide)]
      by_cases cj : j = i
      · subst cj; exact up2_same _ _ _ _
      · rw [up2_j cj]; exact p2 j j0 (by omega)
  · rw [f1] at g3
    have r98 := hn.2.2.2.2.2.1
    rcases rel with x | x <;> omega
theorem TF.row {m m' m2 : Mem} {n : Int} {f : Int → Int} (h : TF 0 m m') (e : ∀ k, k ≠ 169 → k ≠ 170 → m2 k = m' k) (e9 : ∀ j : Int, j ≠ 1 → m2 169 j = m' 169 j) (h1 : m2 169 1 = n) (h2 : ∀ j : Int, 0 ≤ j → j < n → m2 170 j = f j) : PEq m2 (rowU m n f) := by
  refine PEq.row (fun k hk k9 k0 => ?_) (fun j hj j1 => ?_) h1 h2
  · have hk : (169 ≤ k ∧ k < 181) ∨ k = 182 ∨ k = 185 ∨ k = 190 ∨ k = 201 ∨ k = 202 ∨ (205 ≤ k ∧ k < 208) := hk
    rw [e k k9 k0, h.1 k (by omega) (by omega) k9 (by omega) (by omega) (by omega) (by omega)]
  · have hj : j = 1 ∨ j = 3 ∨ j = 4 ∨ j = 17 ∨ j = 26 ∨ j = 40 ∨ j = 62 := hj
    rw [e9 j j1, h.2.1 j (by omega) (by omega) (by omega) (by omega) (by omega) (by omega)]
theorem TF.same {m m' : Mem} (h : TF 0 m m') : PEq m' m := PEq.of (fun k hk k9 => by
    have hk : (169 ≤ k ∧ k < 181) ∨ k = 182 ∨ k = 185 ∨ k = 190 ∨ k = 201 ∨ k = 202 ∨ (205 ≤ k ∧ k < 208) := hk
    exact h.1 k (by omega) (by omega) k9 (by omega) (by omega) (by omega) (by omega)) (fun j hj => by
    have hj : j = 1 ∨ j = 3 ∨ j = 4 ∨ j = 17 ∨ j = 26 ∨ j = 40 ∨ j = 62 := hj
    exact h.2.1 j (by omega) (by omega) (by omega) (by omega) (by omega) (by omega))
theorem TF.low {m m' : Mem} (h : TF 0 m m') : LowEq m m' := fun k hk => h.1 k (by omega) (by omega) (by omega) (by omega) (by omega) (by omega) (by omega)
theorem mt_soonest {E : Nat × (Nat → Int32)} {m a : Mem} {v : (Int → Int) → Int} {t B : Int} (rt : RI t) (hm : HighEq a m) (hR : RuleM a v) (hT : WTown a) (hS : WSet a) (hn : StOK B a (a 180)) (hB : B ≤ 1000000000) : K_X12_soonest E [.ref 169, vi t] m (fun z m' => (soonP a t ∧ 0 ≤ (oBest a v (a 180) t).1 ∧ z = (oBest a v (a 180) t).1 ∧ PEq m' (rowU m (pop t) (bestL a v t)) ∧ LowEq m m') ∨ (soonP a t ∧ ¬ 0 ≤ (oBest a v (a 180) t).1 ∧ z = -2 ∧ PEq m' m ∧ LowEq m m') ∨ (¬ soonP a t ∧ z = -1 ∧ PEq m' m ∧ LowEq m m')) := by
  have n0 := hT.1
  have n6 := hT.2.1
  have e9 := hm 169 (by decide)
  have es := shlN n0 n6
  have p6 := pow6 (k := (a 169 3).toNat) (by omega)
  have := rt.1; have := rt.2
  have k0 : ∀ k, k ≠ 169 → up2 m 169 0 0 k = m k := fun k h => up2_k h
  have b0 : MB a (up2 m 169 0 0) := hm.mb.trans ⟨up2_j (by decide), up2_j (by decide), fun k _ _ => k0 k (by omega), k0 185 (by decide)⟩
  have low0 : LowEq m (up2 m 169 0 0) := fun k hk => k0 k (by omega)
  refine en_X12_soonest (sg_X12_soonest_0 rt (by rw [e9]; constructor <;> omega) ⟨by omega, by omega⟩ (by rw [e9]; constructor <;> omega) (fun g => ?_) (fun g => ⟨_, rfl, Or.inr (Or.inr ⟨fun o => g (by rw [e9]; have := o.1; unfold setOf at this; have := o.2; omega), rfl, PEq.field npf0, low0⟩)⟩))
  rw [e9] at g
  have P : soonP a t := ⟨⟨by omega, g.2⟩, by omega⟩
  have sf := set_facts hT P.1
  refine ca_X12_soonest_23 (mt_quickestOf b0 hR hT hS hn hB sf.1 sf.2.1 sf.2.2.1 (fun b _ _ => by rw [k0 180 (by decide), hm 180 (by decide)])) (fun z m2 hz => ?_)
  obtain ⟨ez, zr, e196, T⟩ := hz
  have low2 : LowEq m m2 := fun k hk => by rw [T.low k hk, low0 k hk]
  refine sg_X12_soonest_26 ⟨by omega, by omega⟩ (fun g2 => ⟨_, rfl, Or.inr (Or.inl ⟨P, by omega, ?_, T.same.trans (PEq.field npf0), low2⟩)⟩) (fun g2 => ?_)
  · have rel := soon_best (S := t) (T := t) (v := v) hT hS hn hB (by have := P.2; omega) sf.2.1 (fun _ _ _ h => h) sf.2.2.2.2
    rcases rel with x | x <;> omega
  · refine up_loop (i0 := 0) (n := pop t) (fun i m3 => GM E _ _ 38 [.ref 169, vi t, vi z, vi i] [] m3) (fun i m3 => m3 169 1 = i ∧ (∀ j : Int, 0 ≤ j → j < i → m3 170 j = bestL a v t j) ∧ (∀ k, k ≠ 169 → k ≠ 170 → m3 k = m2 k) ∧ ∀ j : Int, j ≠ 1 → m3 169 j = m2 169 j) (fun m3 h3 => ?_) (fun i m3 i0 i1 h3 kk => ?_) (i := 0) (by omega) (by omega) ⟨up2_same _ _ _ _, fun j j0 j1 => by omega, fun k k1 _ => up2_k k1, fun j j1 => up2_j j1⟩
    · obtain ⟨p1, p2, p3, p4⟩ := h3
      refine sg_X12_soonest_38 (ca_X12_soonest_40 (ct_bitCount ⟨sf.1, by omega⟩) (fun y m4 hy => ?_))
      obtain ⟨rfl, ey⟩ := hy
      rw [ey]
      exact sg_X12_soonest_43 ⟨by omega, by omega⟩ ⟨by omega, by omega⟩ (by omega) (by omega) (by omega) (fun _ => ⟨_, rfl, Or.inl ⟨P, by omega, ez, (T.row p3 p4 p1 p2).trans (PEq.field npf0).rowC, fun k hk => by rw [p3 k (by omega) (by omega), low2 k hk]⟩⟩) (by omega)
    · obtain ⟨p1, p2, p3, p4⟩ := h3
      refine sg_X12_soonest_38 (ca_X12_soonest_40 (ct_bitCount ⟨sf.1, by omega⟩) (fun y m4 hy => ?_))
      obtain ⟨rfl, ey⟩ := hy
      rw [ey]
      have ei : ((i.toNat : Nat) : Int) = i := Int.toNat_of_nonneg i0
      have e196' : m4 196 i = bestL a v t i := by
        have := e196 (by omega) i.toNat (by omega)
        rw [ei] at this
        rw [p3 196 (by decide) (by decide), this]
        rfl
      refine sg_X12_soonest_43 ⟨by omega, by omega⟩ ⟨by omega, by omega⟩ (fun _ => by omega) (fun _ => by rw [e196']; exact bestL_rng hT) (fun _ => by rw [p1]; omega) (by omega) (fun _ => kk _ ?_)
      rw [p1, e196']
      refine ⟨up2_same _ _ _ _, fun j j0 j1 => ?_, fun k k1 k2 => by rw [up2_k k1, up2_k k2, p3 k k1 k2], fun j j1 => by rw [up2_j j1, up2_k (by decide), p4 j j1]⟩
      rw [up2_k (by decide)]
      by_cases cj : j = i
      · subst cj; exact up2_same _ _ _ _
      · rw [up2_j cj]; exact p2 j j0 (by omega)
