/-! orders: the class' search -/
abbrev Nd := List Int × Int × Tr
abbrev mBet (u mb : Int) : Prop := 0 < pop u - pop mb ∨ (pop u - pop mb = 0 ∧ ¬ mb ≤ u)
def jS (a : Mem) (S : Int) (st : Int × List Int) (nd : Nd) : Int × List Int := if nd.2.1 = 0 ∨ ¬ oOpen a nd.2.2 then st else if nd.2.1 = S ∧ (st.1 < 0 ∨ oThere a nd.2.2 + 300 < st.1) then (oThere a nd.2.2 + 300, nd.1) else st
def jM (a : Mem) (U : Int) (mb : Int) (nd : Nd) : Int := if nd.2.1 = 0 ∨ ¬ oOpen a nd.2.2 then mb else if oThere a nd.2.2 + 300 ≤ U ∧ mBet nd.2.1 mb then nd.2.1 else mb
def FJ (L : Nat) (s1 : Int × List Int) (mb : Int) (c : Mem) : Prop := c 106 12 = s1.1 ∧ (0 ≤ s1.1 → ∀ j : Nat, j < L → c 110 j = s1.2.getD j 0) ∧ c 106 13 = mb
def FJr (s1 : Int × List Int) (mb : Int) : Prop := -1 ≤ s1.1 ∧ s1.1 ≤ 2000000000 ∧ 0 ≤ mb ∧ mb < 64
def JF (c c' : Mem) : Prop := (∀ k, k ≠ 106 → k ≠ 110 → c' k = c k) ∧ ∀ j : Int, j ≠ 12 → j ≠ 13 → c' 106 j = c 106 j
theorem ct_judge {E : Nat × (Nat → Int32)} {c a : Mem} {S U u W mb : Int} {L i : Nat} {p : List Int} {t : Tr} {s1 : Int × List Int} (hCS : CSet c a) (hS : WSet a) (ht : trOK W t) (hW : W ≤ 1900000000) (h : TrC c t) (e14 : c 106 14 = S) (e15 : c 106 15 = U) (rS : RI S) (rU : RI U) (hp : p.length = i) (i6 : i ≤ 6) (e109 : ∀ j : Nat, j < i → c 109 j = p.getD j 0) (u0 : 0 ≤ u) (u1 : u < 64) (hL : u = S → i = L) (hF : FJ L s1 mb c) (hr : FJr s1 mb) : K_X4_judge E [.ref 106, vi (i : Int), vi u] c (fun c' => FJ L (jS a S s1 (p, u, t)) (jM a U mb (p, u, t)) c' ∧ FJr (jS a S s1 (p, u, t)) (jM a U mb (p, u, t)) ∧ JF c c') := by
  obtain ⟨h6, h7, h8⟩ := h
  obtain ⟨f1, f2, f3⟩ := hF
  obtain ⟨g1, g2, g3, g4⟩ := hr
  have e5 := hCS 5 (by decide) (by decide)
  have e6 := hCS 6 (by decide) (by decide)
  have tk := oTip_ok hS ht
  have w5 := hS.2.2.2.2.2.2.2.2.2.2.1
  have w5' := hS.2.2.2.2.2.2.2.2.2.2.2.1
  have w6 := hS.2.2.2.2.2.2.2.2.2.2.2.2.1
  have w6' := hS.2.2.2.2.2.2.2.2.2.2.2.2.2
  obtain ⟨t1, t2, t3, t4, t5, t6⟩ := ht
  have eD : c 106 8 + 10 * (if 0 ≤ c 106 7 - c 4 5 then c 106 7 - c 4 5 else -(c 106 7 - c 4 5)) = oThere a t := by rw [h7, h8, e5]; rfl
  have rmb : FJr s1 mb := ⟨g1, g2, g3, g4⟩
  -- behind the soonest
  have tail : ∀ (c2 : Mem) (s2 : Int × List Int), u ≠ 0 → oOpen a t → jS a S s1 (p, u, t) = s2 → c2 106 12 = s2.1 → (0 ≤ s2.1 → ∀ j : Nat, j < L → c2 110 j = s2.2.getD j 0) → -1 ≤ s2.1 → s2.1 ≤ 2000000000 → c2 106 13 = mb → c2 106 15 = U → JF c c2 → GM E (m_X4_judge 2) (Pv fun c' => FJ L (jS a S s1 (p, u, t)) (jM a U mb (p, u, t)) c' ∧ FJr (jS a S s1 (p, u, t)) (jM a U mb (p, u, t)) ∧ JF c c') 102 [.ref 106, vi (i : Int), vi u, vi (oThere a t), vi (oThere a t + 300), un] [vi u] c2 := by
    intro c2 s2 un0 op eq q1 q2 q3 q4 q5 q6 q7
    rw [eq]
    have pu := pop_rng u
    have pm := pop_rng mb
    have stay : ¬ (oThere a t + 300 ≤ U ∧ mBet u mb) → jM a U mb (p, u, t) = mb := fun n => by
      unfold jM
      rw [if_neg (fun o => by rcases o with o | o; exact un0 o; exact o op)]
      exact if_neg n
    have take : (oThere a t + 300 ≤ U ∧ mBet u mb) → jM a U mb (p, u, t) = u := fun n => by
      unfold jM
      rw [if_neg (fun o => by rcases o with o | o; exact un0 o; exact o op)]
      exact if_pos n
    refine ca_X4_judge_102 (ct_bitCount ⟨u0, by omega⟩) (fun z m2 hz => sg_X4_judge_105 ?_)
    obtain ⟨rfl, ez⟩ := hz
    rw [q5]
    refine ca_X4_judge_109 (ct_bitCount ⟨g3, by omega⟩) (fun z2 m3 hz => ?_)
    obtain ⟨rfl, ez2⟩ := hz
    have same : ¬ (oThere a t + 300 ≤ U ∧ mBet u mb) → (Pv fun c' => FJ L s2 (jM a U mb (p, u, t)) c' ∧ FJr s2 (jM a U mb (p, u, t)) ∧ JF c c') none m3 := fun n => by
      rw [stay n]
      exact ⟨rfl, ⟨q1, q2, q5⟩, ⟨q3, q4, g3, g4⟩, q7⟩
    have new : (oThere a t + 300 ≤ U ∧ mBet u mb) → (Pv fun c' => FJ L s2 (jM a U mb (p, u, t)) c' ∧ FJr s2 (jM a U mb (p, u, t)) ∧ JF c c') none (up2 m3 106 13 u) := fun n => by
      rw [take n]
      exact ⟨rfl, ⟨by rw [up2_j (by decide)]; exact q1, fun g j hj => by rw [up2_k (by decide)]; exact q2 g j hj, up2_same _ _ _ _⟩, ⟨q3, q4, u0, u1⟩, fun k k1 k2 => by rw [up2_k k1, q7.1 k k1 k2], fun j j1 j2 => by rw [up2_j j2, q7.2 j j1 j2]⟩
    rw [ez, ez2]
    refine sg_X4_judge_112 ⟨by omega, by omega⟩ (by rw [q6]; exact rU) (fun _ => ⟨by omega, by omega⟩) ⟨by omega, by omega⟩ (fun _ _ _ => by rw [q5]; constructor <;> omega) (fun g => same (fun o => by rw [q6] at g; omega)) (fun g g' => new ⟨by rw [q6] at g; omega, Or.inl g'⟩) (fun g g' g'' => same (fun o => by have := o.2; omega)) (fun g g' g'' g3' => same (fun o => by rw [q5] at g3'; have := o.2; omega)) (fun g g' g'' g3' => new ⟨by rw [q6] at g; omega, Or.inr ⟨g'', by rw [q5] at g3'; exact g3'⟩⟩)
  have no : (u = 0 ∨ ¬ oOpen a t) → (Pv fun c' => FJ L (jS a S s1 (p, u, t)) (jM a U mb (p, u, t)) c' ∧ FJr (jS a S s1 (p, u, t)) (jM a U mb (p, u, t)) ∧ JF c c') none c := fun n => by
    have eq1 : jS a S s1 (p, u, t) = s1 := if_pos n
    have eq2 : jM a U mb (p, u, t) = mb := if_pos n
    rw [eq1, eq2]
    exact ⟨rfl, ⟨f1, f2, f3⟩, rmb, fun _ _ _ => rfl, fun _ _ _ => rfl⟩
  have setJ : u ≠ 0 → oOpen a t → u = S → (s1.1 < 0 ∨ oThere a t + 300 < s1.1) → GM E (m_X4_judge 2) (Pv fun c' => FJ L (jS a S s1 (p, u, t)) (jM a U mb (p, u, t)) c' ∧ FJr (jS a S s1 (p, u, t)) (jM a U mb (p, u, t)) ∧ JF c c') 102 [.ref 106, vi (i : Int), vi u, vi (oThere a t), vi (oThere a t + 300), un] [vi u] (upr (up2 c 106 12 (oThere a t + 300)) 110 (cpyR ((up2 c 106 12 (oThere a t + 300)) 109) ((up2 c 106 12 (oThere a t + 300)) 110) (min (i : Int) 6))) := fun un0 op uS better => by
    refine tail _ (oThere a t + 300, p) un0 op ?_ ?_ (fun _ j hj => ?_) ?_ ?_ ?_ ?_ ⟨fun k k1 k2 => by rw [upr_k k2, up2_k k1], fun j j1 _ => by rw [upr_k (by decide), up2_j j1]⟩
    · unfold jS
      rw [if_neg (fun o => by rcases o with o | o; exact un0 o; exact o op)]
      exact if_pos ⟨uS, better⟩
    · rw [upr_k (by decide), up2_same]
    · rw [upr_same, cpyR_lt (by omega) (by have := hL uS; omega), up2_k (by decide)]
      exact e109 j (by have := hL uS; omega)
    · show -1 ≤ oThere a t + 300; omega
    · show oThere a t + 300 ≤ 2000000000; omega
    · rw [upr_k (by decide), up2_j (by decide)]; exact f3
    · rw [upr_k (by decide), up2_j (by decide)]; exact e15
  have notJ : u ≠ 0 → oOpen a t → ¬ (u = S ∧ (s1.1 < 0 ∨ oThere a t + 300 < s1.1)) → GM E (m_X4_judge 2) (Pv fun c' => FJ L (jS a S s1 (p, u, t)) (jM a U mb (p, u, t)) c' ∧ FJr (jS a S s1 (p, u, t)) (jM a U mb (p, u, t)) ∧ JF c c') 102 [.ref 106, vi (i : Int), vi u, vi (oThere a t), vi (oThere a t + 300), un] [vi u] c := fun un0 op n => by
    refine tail c s1 un0 op ?_ f1 f2 g1 g2 f3 e15 ⟨fun _ _ _ => rfl, fun _ _ _ => rfl⟩
    unfold jS
    rw [if_neg (fun o => by rcases o with o | o; exact un0 o; exact o op)]
    exact if_neg n
  have op : ∀ g : divI (oThere a t) 60 ≤ c 4 6, oOpen a t := fun g => by rw [e6] at g; exact g
  refine en_X4_judge (sg_X4_judge_0 (by rw [h7, e5]; constructor <;> omega) ⟨by omega, by omega⟩ (fun _ => by rw [e6]; constructor <;> omega) (fun _ _ => by rw [e14]; exact rS) (fun _ _ _ => by rw [f1]; constructor <;> omega) ⟨by omega, by omega⟩ (fun _ _ _ _ => by omega) (fun _ _ _ _ => by rw [eD]; constructor <;> omega) (fun _ _ _ _ _ => by omega) (fun g => no (Or.inl g)) (fun g g2 g3' => ?_) (fun g g2 g3' g4' => ?_) (fun g g2 g3' g4' g5 => ?_) (fun g g2 g3' g4' g5 => ?_) (fun g g2 => no (Or.inr (fun o => g2 (by rw [eD, e6]; exact o)))))
  · rw [eD] at g2 ⊢
    exact notJ g (op g2) (fun o => g3' (by rw [e14]; exact o.1))
  · rw [eD] at g2 ⊢
    exact setJ g (op g2) (by rw [← e14]; exact g3') (Or.inl (by rw [← f1]; exact g4'))
  · rw [eD] at g2 g5 ⊢
    exact notJ g (op g2) (fun o => by rw [f1] at g4' g5; omega)
  · rw [eD] at g2 g5 ⊢
    exact setJ g (op g2) (by rw [← e14]; exact g3') (Or.inr (by rw [f1] at g5; omega))
def kidsN (S u : Int) (vis : Int → Option Tr) (rest : Int → Tr → List Nd) : Int → Nat → List Nd
  | _, 0 => []
  | s, k + 1 => (if tb S s = true ∧ tb u s = false then (match vis s with | some t' => rest s t' | none => []) else []) ++ kidsN S u vis rest (s + 1) k
def oNodes (a : Mem) (v : (Int → Int) → Int) (r : Int → Int) (S : Int) : Nat → Int → List Int → Tr → List Nd
  | 0, u, p, t => [(p, u, t)]
  | f + 1, u, p, t => (p, u, t) :: kidsN S u (fun s => oVisit a v r s t) (fun s t' => oNodes a v r S f (inc u s) (p ++ [s]) t') 0 (a 169 3).toNat
def EF (i : Nat) (c c' : Mem) : Prop := (∀ q, q < 106 ∨ (106 < q ∧ q < 109) ∨ 146 < q → c' q = c q) ∧ (c' 106 14 = c 106 14 ∧ c' 106 15 = c 106 15) ∧ ∀ j : Nat, j < i → c' 109 j = c 109 j
theorem EF.rf {i : Nat} {c : Mem} : EF i c c := ⟨fun _ _ => rfl, ⟨rfl, rfl⟩, fun _ _ => rfl⟩
theorem EF.trans {i : Nat} {c c1 c2 : Mem} (h : EF i c c1) (g : EF i c1 c2) : EF i c c2 := ⟨fun q hq => (g.1 q hq).trans (h.1 q hq), ⟨g.2.1.1.trans h.2.1.1, g.2.1.2.trans h.2.1.2⟩, fun j hj => (g.2.2 j hj).trans (h.2.2 j hj)⟩
theorem EF.ofr {i : Nat} {c c1 : Mem} (h : EF i c c1) : OFr c c1 := ⟨fun q q1 _ _ => h.1 q (by omega), fun x _ => by rw [h.1 5 (by omega)]⟩
theorem JF.ef {i : Nat} {c c1 : Mem} (h : JF c c1) : EF i c c1 := ⟨fun q q1 => h.1 q (by omega) (by omega), ⟨h.2 14 (by decide) (by decide), h.2 15 (by decide) (by decide)⟩, fun j _ => by rw [h.1 109 (by decide) (by decide)]⟩
theorem OV.ef {i : Nat} {c c1 : Mem} (h : OV c c1) : EF i c c1 := ⟨fun q q1 => h.2 q (by omega), ⟨h.1 14 (by omega), h.1 15 (by omega)⟩, fun j _ => by rw [h.2 109 (by omega)]⟩
theorem OP.fr {a : Mem} {v : (Int → Int) → Int} {r bits : Int → Int} {n : Int} {c c1 : Mem} (h : OP a v r bits n c) (e : ∀ q, 110 < q → c1 q = c q) : OP a v r bits n c1 := fun s s0 s1 => (h s s0 s1).fr (fun x _ _ => by rw [e _ (by omega)]) (fun q q0 _ => e q (by omega))
theorem ct_explore {E : Nat × (Nat → Int32)} {a : Mem} {v : (Int → Int) → Int} {r : Int → Int} {bits : Int → Int} {B S U : Int} {L : Nat} (hT : WTown a) (hS : WSet a) (hn : StOK B a r) (hb : ∀ s h : Int, 0 ≤ s → s < a 169 3 → 0 ≤ h → h < 16 → (r (16 * s + h) = 1 ↔ tb (bits s) h = true)) (hB : B ≤ 1000000000) (S0 : 0 ≤ S) (S1 : S < 64) (rU : RI U) (hL : pop S = L) : ∀ (f : Nat) (u : Int) (dd : Nat) (p : List Int) (t : Tr) (s1 : Int × List Int) (mb : Int) (c : Mem), f + 4 ≤ dd → 0 ≤ u → u < 64 → p.length + f = 6 → pop u = p.length → CTown c a → CSet c a → OP a v r bits (a 169 3) c → trOK (B + 80290 * p.length) t → TrC c t → c 106 14 = S → c 106 15 = U → (∀ j : Nat, j < p.length → c 109 j = p.getD j 0) → FJ L s1 mb c → FJr s1 mb → K_X4_explore E dd [.ref 106, vi (p.length : Int), vi u] c (fun c' => FJ L ((oNodes a v r S f u p t).foldl (jS a S) s1) ((oNodes a v r S f u p t).foldl (jM a U) mb) c' ∧ FJr ((oNodes a v r S f u p t).foldl (jS a S) s1) ((oNodes a v r S f u p t).foldl (jM a U) mb) ∧ EF p.length c c' ∧ OP a v r bits (a 169 3) c') := by
  have n0 := hT.1
  have n6 := hT.2.1
  intro f
  induction f with
  | zero =>
    intro u dd p t s1 mb c hd u0 u1 hl hp hC hCS hO ht h e14 e15 e109 hF hr
    refine en_X4_explore (sg_X4_explore_0 ?_)
    refine ca_X4_explore_3 (by omega) (ct_judge hCS hS ht (by omega) h e14 e15 ⟨by omega, by omega⟩ rU rfl (by omega) e109 u0 u1 (fun o => by subst o; omega) hF hr) (fun c2 h2 => ?_)
    obtain ⟨g1, g2, g3⟩ := h2
    exact sg_X4_explore_6 ⟨by omega, by omega⟩ (by omega) (fun _ => ⟨rfl, g1, g2, g3.ef, hO.fr (fun q hq => g3.1 q (by omega) (by omega))⟩)
  | succ f ih =>
    intro u dd p t s1 mb c hd u0 u1 hl hp hC hCS hO ht h e14 e15 e109 hF hr
    refine en_X4_explore (sg_X4_explore_0 ?_)
    refine ca_X4_explore_3 (by omega) (ct_judge hCS hS ht (by omega) h e14 e15 ⟨by omega, by omega⟩ rU rfl (by omega) e109 u0 u1 (fun o => by subst o; omega) hF hr) (fun c2 h2 => ?_)
    obtain ⟨g1, g2, g3⟩ := h2
    have h2 : TrC c2 t := ⟨by rw [g3.2 6 (by decide) (by decide)]; exact h.1, by rw [g3.2 7 (by decide) (by decide)]; exact h.2.1, by rw [g3.2 8 (by decide) (by decide)]; exact h.2.2⟩
    refine sg_X4_explore_6 ⟨by omega, by omega⟩ (fun _ => ?_) (by omega)
    rw [h2.1, h2.2.1, h2.2.2]
    have rst : ∀ c3 : Mem, TrC (up2 (up2 (up2 c3 106 6 t.1) 106 7 t.2.1) 106 8 t.2.2) t := fun c3 => ⟨by rw [up2_j (by decide), up2_j (by decide), up2_same], by rw [up2_j (by decide), up2_same], up2_same _ _ _ _⟩
    have rstk : ∀ (c3 : Mem) (k : Nat), k ≠ 106 → up2 (up2 (up2 c3 106 6 t.1) 106 7 t.2.1) 106 8 t.2.2 k = c3 k := fun c3 k hk => by rw [up2_k hk, up2_k hk, up2_k hk]
    have rstj : ∀ (c3 : Mem) (j : Int), j < 6 ∨ 8 < j → up2 (up2 (up2 c3 106 6 t.1) 106 7 t.2.1) 106 8 t.2.2 106 j = c3 106 j := fun c3 j hj => by rw [up2_j (by omega), up2_j (by omega), up2_j (by omega)]
    have rEF : ∀ c3 : Mem, EF p.length c3 (up2 (up2 (up2 c3 106 6 t.1) 106 7 t.2.1) 106 8 t.2.2) := fun c3 => ⟨fun q hq => rstk c3 q (by omega), ⟨rstj c3 14 (by omega), rstj c3 15 (by omega)⟩, fun j _ => by rw [rstk c3 109 (by decide)]⟩
    have rFJ : ∀ (c3 : Mem) (s2 : Int × List Int) (mb2 : Int), FJ L s2 mb2 c3 → FJ L s2 mb2 (up2 (up2 (up2 c3 106 6 t.1) 106 7 t.2.1) 106 8 t.2.2) := fun c3 s2 mb2 q => ⟨by rw [rstj c3 12 (by omega)]; exact q.1, fun g j hj => by rw [rstk c3 110 (by decide)]; exact q.2.1 g j hj, by rw [rstj c3 13 (by omega)]; exact q.2.2⟩
    have eN : ∀ {A : Type} (F : A → Nd → A) (x : A), (oNodes a v r S (f + 1) u p t).foldl F x = (kidsN S u (fun s => oVisit a v r s t) (fun s t' => oNodes a v r S f (inc u s) (p ++ [s]) t') 0 (a 169 3).toNat).foldl F (F x (p, u, t)) := fun F x => by rw [oNodes, List.foldl_cons]
    rw [eN (jS a S) s1, eN (jM a U) mb]
    generalize jS a S s1 (p, u, t) = s0 at g1 g2
    generalize jM a U mb (p, u, t) = mb0 at g1 g2
    have key : ∀ (k : Nat) (s : Int) (s2 : Int × List Int) (mb2 : Int) (c3 : Mem), 0 ≤ s → s + k = a 169 3 → (kidsN S u (fun s => oVisit a v r s t) (fun s t' => oNodes a v r S f (inc u s) (p ++ [s]) t') 0 (a 169 3).toNat).foldl (jS a S) s0 = (kidsN S u (fun s => oVisit a v r s t) (fun s t' => oNodes a v r S f (inc u s) (p ++ [s]) t') s k).foldl (jS a S) s2 → (kidsN S u (fun s => oVisit a v r s t) (fun s t' => oNodes a v r S f (inc u s) (p ++ [s]) t') 0 (a 169 3).toNat).foldl (jM a U) mb0 = (kidsN S u (fun s => oVisit a v r s t) (fun s t' => oNodes a v r S f (inc u s) (p ++ [s]) t') s k).foldl (jM a U) mb2 → FJ L s2 mb2 c3 → FJr s2 mb2 → EF p.length c c3 → OP a v r bits (a 169 3) c3 → TrC c3 t → GM E (m_X4_explore dd) (Pv fun c' => FJ L ((kidsN S u (fun s => oVisit a v r s t) (fun s t' => oNodes a v r S f (inc u s) (p ++ [s]) t') 0 (a 169 3).toNat).foldl (jS a S) s0) ((kidsN S u (fun s => oVisit a v r s t) (fun s t' => oNodes a v r S f (inc u s) (p ++ [s]) t') 0 (a 169 3).toNat).foldl (jM a U) mb0) c' ∧ FJr ((kidsN S u (fun s => oVisit a v r s t) (fun s t' => oNodes a v r S f (inc u s) (p ++ [s]) t') 0 (a 169 3).toNat).foldl (jS a S) s0) ((kidsN S u (fun s => oVisit a v r s t) (fun s t' => oNodes a v r S f (inc u s) (p ++ [s]) t') 0 (a 169 3).toNat).foldl (jM a U) mb0) ∧ EF p.length c c' ∧ OP a v r bits (a 169 3) c') 36 [.ref 106, vi (p.length : Int), vi u, vi t.1, vi t.2.1, vi t.2.2, vi s] [] c3 := by
      intro k
      induction k with
      | zero =>
        intro s s2 mb2 c3 s0' hs q1 q2 q3 q4 q5 q6 q7
        have q1 : _ = s2 := q1
        have q2 : _ = mb2 := q2
        rw [q1, q2]
        have e : c3 9 1 = a 169 3 := (q5.ofr.town hC).1
        exact sg_X4_explore_36 ⟨by omega, by omega⟩ (by rw [e]; constructor <;> omega) (fun _ => ⟨rfl, q3, q4, q5, q6⟩) (by rw [e]; omega) (by rw [e]; omega)
      | succ k ihk =>
        intro s s2 mb2 c3 s0' hs q1 q2 q3 q4 q5 q6 q7
        have e : c3 9 1 = a 169 3 := (q5.ofr.town hC).1
        have s6 : s < 6 := by omega
        have e14' : c3 106 14 = S := by rw [q5.2.1.1, e14]
        rw [kidsN, List.foldl_append] at q1 q2
        have bit : bandI (bandI (c3 106 14) (bxorI u (-1))) (shlI 1 s) = 0 ↔ ¬ (tb S s = true ∧ tb u s = false) := by
          rw [bandI_bit s0' (by omega), tb_and, tb_xor, tb_m1 (by omega), e14']
          cases tb S s <;> cases tb u s <;> simp
        have OPr : ∀ c5 : Mem, OP a v r bits (a 169 3) c5 → OP a v r bits (a 169 3) (up2 (up2 (up2 c5 106 6 t.1) 106 7 t.2.1) 106 8 t.2.2) := fun c5 o => o.fr (fun q hq => rstk c5 q (by omega))
        refine sg_X4_explore_36 ⟨by omega, by omega⟩ (by rw [e]; constructor <;> omega) (by rw [e]; omega) (fun _ g => ?_) (fun _ g => ?_)
        · rw [bit] at g
          rw [if_neg g] at q1 q2
          exact ihk (s + 1) s2 mb2 _ (by omega) (by omega) q1 q2 (rFJ _ _ _ q3) q4 (q5.trans (rEF c3)) (OPr c3 q6) (rst c3)
        · rw [bit] at g
          have g : tb S s = true ∧ tb u s = false := Classical.byContradiction g
          rw [if_pos g] at q1 q2
          refine ca_X4_explore_67 (by omega) (ct_visit (v := v) ⟨by omega, by omega⟩ (q5.ofr.town hC) (q5.ofr.set hCS) hT hS hn hb q6 ht (by omega) q7) (fun z c4 hz => ?_)
          rcases hz with ⟨-, t', w1, ez, w2, -, -, w5, w6⟩ | ⟨w, ez, rfl⟩
          · rw [w1] at q1 q2
            dsimp only at q1 q2
            refine sg_X4_explore_70 (by rw [ez]; decide) (fun _ => by omega) (fun g => by rw [ez] at g; omega) (fun _ => ?_)
            have i6 := inc64 u0 u1 s0' s6
            have pi : pop (inc u s) = pop u + 1 := pop_add s0' (by omega) g.2
            have hm : ((p ++ [s]).length : Int) = p.length + 1 := by rw [List.length_append]; show ((p.length + 1 : Nat) : Int) = _; omega
            have hmn : (p ++ [s]).length = p.length + 1 := by rw [List.length_append]; rfl
            have E4 : EF p.length c c4 := q5.trans w5.ef
            have F4 : FJ L s2 mb2 c4 := ⟨by rw [w5.1 12 (by omega)]; exact q3.1, fun g j hj => by rw [w5.2 110 (by omega)]; exact q3.2.1 g j hj, by rw [w5.1 13 (by omega)]; exact q3.2.2⟩
            have u109 : ∀ k, k ≠ 109 → up2 c4 109 (p.length : Int) s k = c4 k := fun k hk => up2_k hk
            have E5 : EF p.length c4 (up2 c4 109 (p.length : Int) s) := ⟨fun q hq => u109 q (by omega), ⟨by rw [u109 106 (by decide)], by rw [u109 106 (by decide)]⟩, fun j hj => up2_j (by omega)⟩
            have E45 := E4.trans E5
            have := ih (inc u s) (dd - 1) (p ++ [s]) t' s2 mb2 (up2 c4 109 (p.length : Int) s) (by omega) i6.1 i6.2 (by omega) (by omega) (E45.ofr.town hC) (E45.ofr.set hCS) (w6.fr (fun q hq => u109 q (by omega))) ?_ ⟨by rw [u109 106 (by decide)]; exact w2.1, by rw [u109 106 (by decide)]; exact w2.2.1, by rw [u109 106 (by decide)]; exact w2.2.2⟩ (by rw [E45.2.1.1, e14]) (by rw [E45.2.1.2, e15]) (fun j hj => ?_) ⟨by rw [u109 106 (by decide)]; exact F4.1, fun g j hj => by rw [u109 110 (by decide)]; exact F4.2.1 g j hj, by rw [u109 106 (by decide)]; exact F4.2.2⟩ q4
            · rw [hm] at this
              refine ca_X4_explore_91 (d2 := dd - 1) (by omega) this (fun c6 h6 => sg_X4_explore_94 ?_)
              obtain ⟨y1, y2, y3, y4⟩ := h6
              refine ihk (s + 1) _ _ _ (by omega) (by omega) q1 q2 (rFJ _ _ _ y1) y2 ?_ (OPr c6 y4) (rst c6)
              exact E45.trans (EF.trans ⟨y3.1, y3.2.1, fun j hj => y3.2.2 j (by omega)⟩ (rEF c6))
            · have := oVisit_ok hT hS hn s0' s6 ht w1
              rw [hm, show B + 80290 * ((p.length : Int) + 1) = B + 80290 * p.length + 80290 by omega]
              exact this
            · rw [hmn] at hj
              rw [getD_app]
              by_cases cj : j < p.length
              · rw [if_pos cj, up2_j (by omega), E4.2.2 j cj]; exact e109 j cj
              · rw [if_neg cj, if_pos (by omega), show j = p.length by omega, up2_same]
          · have nv : oVisit a v r s t = none := by
              cases c : oVisit a v r s t with
              | none => rfl
              | some t3 => exact absurd ⟨⟨s0', by omega⟩, t3, c⟩ w
            rw [nv] at q1 q2
            dsimp only at q1 q2
            refine sg_X4_explore_70 (by rw [ez]; decide) (fun g => absurd ez g) (fun _ => ?_) (fun g => absurd ez g)
            exact ihk (s + 1) s2 mb2 _ (by omega) (by omega) q1 q2 (rFJ _ _ _ q3) q4 (q5.trans (rEF _)) (OPr _ q6) (rst _)
    exact key (a 169 3).toNat 0 s0 mb0 c2 (Int.le_refl _) (by omega) rfl rfl g1 g2 g3.ef (hO.fr (fun q hq => g3.1 q (by omega) (by omega))) h2
