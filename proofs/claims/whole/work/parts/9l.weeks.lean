/-! weeks: the class' side -/
theorem ct_prepareR {R : Nat} {E : Nat × (Nat → Int32)} {c a : Mem} {v : (Int → Int) → Int} {r : Int → Int} {B : Int} (hRl : R < 111) (hRs : SH[R]? = some (.inr (0, 6))) (hR8 : R ≠ 8) (hR5 : R ≠ 5) (hb0 : ∀ s h : Int, 0 ≤ s → s < a 169 3 → 0 ≤ h → h < 16 → (r (16 * s + h) = 1 ↔ tb (c R s) h = true)) (hC : CTown c a) (hCS : CSet c a) (hR : RuleC c v) (hT : WTown a) (hS : WSet a) (hn : StOK B a r) : K_X4_prepare E [.ref 106, .ref R] c (fun c' => OP a v r (c R) (a 169 3) c' ∧ OFr c c' ∧ ∀ q, q < 111 → q ≠ 8 → q ≠ 5 → c' q = c q) := by
  have n0 := hT.1
  have n6 := hT.2.1
  have m1 := hS.2.2.1
  have m4 := hS.2.2.2.1
  refine en_X4_prepare (sg_X4_prepare_0 (by omega) hRs ?_)
  refine up_loop (i0 := 0) (n := a 169 3) (fun s c2 => GM E _ _ 2 [.ref 106, .ref R, vi s, un, un] [] c2) (fun s c2 => OP a v r (c R) s c2 ∧ OFr c c2 ∧ ∀ q, q < 111 → q ≠ 8 → q ≠ 5 → c2 q = c q) (fun c2 h => ?_) (fun s c2 s0 s1 h k => ?_) (i := 0) (s := c) (by omega) (by omega) ⟨fun s s0 s1 => by omega, OFr.rf, fun _ _ _ _ => rfl⟩
  · have e : c2 9 1 = a 169 3 := (h.2.1.town hC).1
    exact sg_X4_prepare_2 (by omega) hRs ⟨by omega, by omega⟩ (by rw [e]; constructor <;> omega) (by rw [e]; omega) (by rw [e]; omega) (by rw [e]; omega) (fun _ => ⟨rfl, h⟩) (by rw [e]; omega) (by rw [e]; omega) (by rw [e]; omega) (by rw [e]; omega)
  · obtain ⟨hO, hF, hL⟩ := h
    have hC2 := hF.town hC
    have hCS2 := hF.set hCS
    have e : c2 9 1 = a 169 3 := hC2.1
    have e41 : c2 4 1 = a 179 1 := hCS2 1 (by decide) (by decide)
    have t := hT.2.2.1 s s0 (by omega)
    have ts := hC2.s s0 s1 n6
    have ns : s.toNat < 6 := by omega
    refine sg_X4_prepare_2 (by omega) hRs ⟨by omega, by omega⟩ (by rw [e]; constructor <;> omega) (fun _ _ _ => by rw [e]; omega) (fun _ _ _ _ => by omega) (fun _ _ _ _ => by rw [e41]; constructor <;> omega) (by rw [e]; omega) (by rw [e]; omega) (by omega) (fun _ _ _ _ => ?_) (by rw [e]; omega)
    rw [e41, ts.2.2.1, show max 1 (a 179 1) = a 179 1 by omega]
    generalize ho : 111 + 6 * s.toNat = o
    have jm : o ∈ jobL := by rw [← ho]; exact jobM _ ns
    have jr := jobR jm
    have sm := streetMem _ ns
    have sr := streetR1 sm
    have F3 : JobFr o c2 (up2 (up2 c2 o 7 (a 179 1)) o 8 (a 173 s)) := (JobFr.rf.up jr.1).up jr.1
    have e24 : up2 (up2 c2 o 7 (a 179 1)) o 8 (a 173 s) R s = c R s := by rw [up2_k (by omega), up2_k (by omega), hL R hRl hR8 hR5]
    rw [e24]
    have hb : ∀ h : Int, 0 ≤ h → h < 16 → (r (16 * s + h) = 1 ↔ tb (c R s) h = true) := fun h h0 h1 => hb0 s h s0 s1 h0 h1
    refine ca_X4_prepare_75 jm (ct_chooseHow (r := emptyRow r) jm (F3.town jr.1 hC2) (F3.set jr.1 hCS2) (F3.rule jr.1 (hF.rule hR)) hT hS s0 s1 (up2_same _ _ _ _) (by rw [up2_j (by decide), up2_same]) ⟨by omega, by omega⟩ ⟨m1, by omega⟩ (er3 hn.r3) (er1 (by omega) hb) emptyRow_96) (fun z c4 hz => ?_)
    obtain ⟨z1, -, -, z4, z5⟩ := hz
    have zr := bestH_rng (BT a v r s)
    have ez : z = oHow a v r s := z1
    have F4 := F3.trans z5
    refine sg_X4_prepare_78 (by omega) hRs sm jm ⟨s0, by omega⟩ ?_
    have e24' : c4 R s = c R s := by rw [F4.1 R (by omega) hR8 hR5, hL R hRl hR8 hR5]
    rw [e24']
    refine ca_X4_prepare_81 jm (ct_lay2 (hill := a 173 s) (men := a 179 1) jm (F4.town jr.1 hC2) (F4.set jr.1 hCS2) (F4.rule jr.1 (hF.rule hR)) hT hS s0 s1 (by rw [ez]; exact zr.1) (by rw [ez]; unfold oHow; omega) z4.2.1 z4.1 ⟨by omega, by omega⟩ ⟨by omega, by omega⟩) (fun c5 h5 => sg_X4_prepare_84 (by omega) hRs sm jm (k _ ⟨fun u u0 u1 => ?_, ?_, ?_⟩))
    · obtain ⟨l5, f5, -⟩ := h5
      by_cases cu : u = s
      · subst cu
        rw [ho, ← ez]
        exact l5
      · have L := hO u u0 (by omega)
        have F5 := F4.trans f5
        have hu : u.toNat < s.toNat := by omega
        exact L.fr (fun x _ _ => by rw [F5.1 _ (by omega) (by omega) (by omega)]) (fun q q0 q1 => F5.1 q (by omega) (by omega) (by omega))
    · have F5 := F4.trans h5.2.1
      exact hF.trans ⟨fun q q1 q2 q3 => F5.1 q (by omega) q2 q3, F5.2⟩
    · have F5 := F4.trans h5.2.1
      intro q q1 q2 q3
      rw [F5.1 q (by omega) q2 q3, hL q q1 q2 q3]
def pN (n : Nat) : List Int := (List.range n).map (fun i : Nat => (i : Int))
theorem pN_len {n : Nat} : (pN n).length = n := by unfold pN; rw [List.length_map, List.length_range]
theorem pN_get {n j : Nat} (h : j < n) : (pN n).getD j 0 = j := by
  unfold pN
  rw [List.getD_eq_getElem?_getD, List.getElem?_map, List.getElem?_range h]
  rfl
theorem pN_mem {n : Nat} {s : Int} (h : s ∈ pN n) : 0 ≤ s ∧ s < n := by
  unfold pN at h
  obtain ⟨i, hi, e⟩ := List.mem_map.1 h
  have := List.mem_range.1 hi
  omega
theorem pN_nd {n : Nat} : ndP (pN n) := fun i j hi hj => by
  rw [pN_len] at hj
  rw [pN_get (by omega), pN_get hj]
  omega
abbrev WS := Int × Int × Int × Int
def wkF (a : Mem) (v : (Int → Int) → Int) (p : Int) (st : WS) : WS :=
  match oEnd a v (dRow a p st.1) (pN (a 169 3).toNat) (0, 0, 0) with
  | none => (chN a st.1 96, st.2)
  | some t' => (chN a st.1 96, st.2.1 + 1, (if st.2.1 ≠ 0 then min st.2.2.1 t'.2.2 else t'.2.2), max st.2.2.2 t'.2.2)
def wkN' (a : Mem) (v : (Int → Int) → Int) (x p : Int) : Nat → WS
  | 0 => (x, 0, -1, -1)
  | k + 1 => wkF a v p (wkN' a v x p k)
theorem dRow_tr {a : Mem} {p x : Int} : trow (dRow a p x) = (0, 0, 0) := by
  unfold trow
  rw [dRow_hi (by decide), dRow_hi (by decide), dRow_hi (by decide)]
theorem week_end {a : Mem} {v : (Int → Int) → Int} {p x : Int} {t' : Tr} (hT : WTown a) (hS : WSet a) (e : oEnd a v (dRow a p x) (pN (a 169 3).toNat) (0, 0, 0) = some t') : 0 ≤ t'.2.2 ∧ t'.2.2 ≤ 1000000 := by
  have n0 := hT.1
  have n6 := hT.2.1
  have g := oEnd_rng hT hS (dRow_ok (a := a) (p := p) (x := x)) (pN (a 169 3).toNat) (0, 0, 0) t' 0 (fun s hs => by have := pN_mem hs; omega) ⟨by decide, by decide, by decide, by decide, by decide, by decide⟩ (by rw [pN_len]; omega) e
  rw [pN_len] at g
  have g1 : (0 : Int) ≤ t'.2.2 := g.1
  omega
theorem wkN_rng {a : Mem} {v : (Int → Int) → Int} {x p : Int} (hT : WTown a) (hS : WSet a) : ∀ k : Nat, 0 ≤ (wkN' a v x p k).2.1 ∧ (wkN' a v x p k).2.1 ≤ k ∧ -1 ≤ (wkN' a v x p k).2.2.1 ∧ (wkN' a v x p k).2.2.1 ≤ 1000000 ∧ -1 ≤ (wkN' a v x p k).2.2.2 ∧ (wkN' a v x p k).2.2.2 ≤ 1000000 ∧ ((wkN' a v x p k).2.1 = 0 ↔ (wkN' a v x p k).2.2.1 < 0)
  | 0 => ⟨by show (0 : Int) ≤ 0; omega, by show (0 : Int) ≤ ((0 : Nat) : Int); omega, by show (-1 : Int) ≤ -1; omega, by show (-1 : Int) ≤ 1000000; omega, by show (-1 : Int) ≤ -1; omega, by show (-1 : Int) ≤ 1000000; omega, by show (0 : Int) = 0 ↔ (-1 : Int) < 0; omega⟩
  | k + 1 => by
    obtain ⟨g1, g2, g3, g4, g5, g6, g7⟩ := wkN_rng (v := v) (x := x) (p := p) hT hS k
    rw [wkN']
    generalize wkN' a v x p k = st at g1 g2 g3 g4 g5 g6 g7
    unfold wkF
    cases c : oEnd a v (dRow a p st.1) (pN (a 169 3).toNat) (0, 0, 0) with
    | none => exact ⟨g1, by dsimp only; omega, g3, g4, g5, g6, g7⟩
    | some t' =>
      have w := week_end hT hS c
      dsimp only
      by_cases o : st.2.1 = 0
      · rw [if_neg (fun z => z o)]; omega
      · rw [if_pos o]; omega
def weekP (a : Mem) (n p : Int) : Prop := a 169 3 ≠ 0 ∧ (1 ≤ n ∧ n ≤ 20) ∧ 0 ≤ p ∧ p ≤ 10
def WFr (c c' : Mem) : Prop := (∀ q, (q < 106 ∨ 146 < q) → q ≠ 0 → q ≠ 8 → q ≠ 5 → c' q = c q) ∧ (∀ x : Int, x ≠ 5 → c' 5 x = c 5 x) ∧ ∀ j : Int, j ≠ 15 → c' 0 j = c 0 j
theorem WFr.trans {c c1 c2 : Mem} (h : WFr c c1) (g : WFr c1 c2) : WFr c c2 := ⟨fun q q1 q2 q3 q4 => (g.1 q q1 q2 q3 q4).trans (h.1 q q1 q2 q3 q4), fun x hx => (g.2.1 x hx).trans (h.2.1 x hx), fun j hj => (g.2.2 j hj).trans (h.2.2 j hj)⟩
theorem OFr.wfr {c c1 : Mem} (h : OFr c c1) : WFr c c1 := ⟨fun q q1 _ q3 q4 => h.1 q q1 q3 q4, h.2, fun j _ => by rw [h.1 0 (by omega) (by decide) (by decide)]⟩
theorem WFr.town {c c' a : Mem} (h : WFr c c') (hC : CTown c a) : CTown c' a := hC.fr (h.1 9 (by omega) (by omega) (by omega) (by omega)) (fun s _ => ⟨h.1 _ (by omega) (by omega) (by omega) (by omega), h.1 _ (by omega) (by omega) (by omega) (by omega)⟩)
theorem WFr.set {c c' a : Mem} (h : WFr c c') (hC : CSet c a) : CSet c' a := hC.fr (h.1 4 (by omega) (by omega) (by omega) (by omega))
theorem WFr.rule {c c' : Mem} {v : (Int → Int) → Int} (h : WFr c c') (hR : RuleC c v) : RuleC c' v := hR.fr (fun x hx => h.2.1 x hx) (h.1 6 (by omega) (by omega) (by omega) (by omega)) (h.1 7 (by omega) (by omega) (by omega) (by omega))
theorem CQ.wk {c m c' : Mem} {n : Int} {f : Int → Int} (j : WFr c m) (q : CQ m c' n f) : CQ c c' n f := by
  obtain ⟨q1, q2, q3, q4, q5, q6, q7, q8⟩ := q
  exact ⟨q1, q2, fun k hk h8 => (q3 k hk h8).trans (j.1 k (by have := hk.ne; omega) (by have := hk.ne; omega) (by have := hk.ne; omega) (by have := hk.ne; omega)), q4.trans (by rw [j.1 93 (by omega) (by omega) (by omega) (by omega)]), fun x hx => (q5 x hx).trans (j.2.1 x hx), q6.trans (j.1 6 (by omega) (by omega) (by omega) (by omega)), q7.trans (j.1 7 (by omega) (by omega) (by omega) (by omega)), fun k hk => (q8 k hk).trans (j.1 k (by omega) (by omega) (by omega) (by omega))⟩
theorem sh_108' : SH[108]? = some (.inr (0, 6)) := rfl
theorem ct_pathToAll {E : Nat × (Nat → Int32)} {c a : Mem} (hC : CTown c a) (hT : WTown a) : K_X4_pathToAll E [.ref 106] c (fun c' => c' 106 5 = a 169 3 ∧ (∀ j : Int, 0 ≤ j → j < a 169 3 → c' 109 j = j) ∧ ∀ k, k ≠ 106 → k ≠ 109 → c' k = c k) := by
  have n0 := hT.1
  have n6 := hT.2.1
  have e : c 9 1 = a 169 3 := hC.1
  refine en_X4_pathToAll (sg_X4_pathToAll_0 (by rw [e]; constructor <;> omega) ?_)
  rw [e, show min (a 169 3) 6 = a 169 3 by omega]
  refine up_loop (i0 := 0) (n := a 169 3) (fun i c2 => GM E _ _ 21 [.ref 106, vi i] [] c2) (fun i c2 => c2 106 5 = a 169 3 ∧ (∀ j : Int, 0 ≤ j → j < i → c2 109 j = j) ∧ ∀ k, k ≠ 106 → k ≠ 109 → c2 k = c k) (fun c2 h => ?_) (fun i c2 i0 i1 h kk => ?_) (i := 0) (by omega) (by omega) ⟨up2_same _ _ _ _, fun j j0 j1 => by omega, fun k k1 _ => up2_k k1⟩
  · exact sg_X4_pathToAll_21 ⟨by omega, by omega⟩ (by rw [h.1]; constructor <;> omega) (by rw [h.1]; omega) (fun _ => ⟨rfl, h⟩) (by rw [h.1]; omega)
  · obtain ⟨h1, h2, h3⟩ := h
    refine sg_X4_pathToAll_21 ⟨by omega, by omega⟩ (by rw [h1]; constructor <;> omega) (fun _ => by omega) (by rw [h1]; omega) (fun _ => kk _ ⟨by rw [up2_k (by decide)]; exact h1, fun j j0 j1 => ?_, fun k k1 k2 => by rw [up2_k k2, h3 k k1 k2]⟩)
    by_cases cj : j = i
    · subst cj; rw [up2_same]
    · rw [up2_j cj]; exact h2 j j0 (by omega)
