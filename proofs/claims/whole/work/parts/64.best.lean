/-! the best how -/
def secN (a : Mem) (v : (Int → Int) → Int) (r : Int → Int) (s how hill men : Int) : Int := handsP men (goesP a v r s how 1000000 hill men 132) + movesR a s how
def bestH (T : Int → Int) : Int := if T 2 < T (if T 1 < T 0 then 1 else 0) then 2 else (if T 1 < T 0 then 1 else 0)
theorem bestH_rng (T : Int → Int) : 0 ≤ bestH T ∧ bestH T < 3 := by
  unfold bestH
  split
  · omega
  · split <;> omega
def JobFr (o : Nat) (c c' : Mem) : Prop := (∀ q, (q < o ∨ o + 5 < q) → q ≠ 8 → q ≠ 5 → c' q = c q) ∧ ∀ x : Int, x ≠ 5 → c' 5 x = c 5 x
theorem JobFr.rf {o : Nat} {c : Mem} : JobFr o c c := ⟨fun _ _ _ _ => rfl, fun _ _ => rfl⟩
theorem JobFr.trans {o : Nat} {c c1 c2 : Mem} (h : JobFr o c c1) (g : JobFr o c1 c2) : JobFr o c c2 := ⟨fun q q1 q2 q3 => (g.1 q q1 q2 q3).trans (h.1 q q1 q2 q3), fun x hx => (g.2 x hx).trans (h.2 x hx)⟩
theorem JobFr.up {o : Nat} {c c1 : Mem} {j z : Int} (jr : 99 < o) (h : JobFr o c c1) : JobFr o c (up2 c1 o j z) := ⟨fun q q1 q2 q3 => (up2_k (by omega)).trans (h.1 q q1 q2 q3), fun x hx => by rw [up2_k (by omega)]; exact h.2 x hx⟩
theorem JobFr.up5 {o : Nat} {c c1 : Mem} {j z : Int} (jr : 99 < o) (h : JobFr o c c1) : JobFr o c (up2 c1 (o + 5) j z) := ⟨fun q q1 q2 q3 => (up2_k (by omega)).trans (h.1 q q1 q2 q3), fun x hx => by rw [up2_k (by omega)]; exact h.2 x hx⟩
theorem JobFr.town {o : Nat} {c c' a : Mem} (jr : 99 < o) (h : JobFr o c c') (hC : CTown c a) : CTown c' a := hC.fr (h.1 9 (by omega) (by omega) (by omega)) (fun s _ => ⟨h.1 _ (by omega) (by omega) (by omega), h.1 _ (by omega) (by omega) (by omega)⟩)
theorem JobFr.set {o : Nat} {c c' a : Mem} (jr : 99 < o) (h : JobFr o c c') (hC : CSet c a) : CSet c' a := hC.fr (h.1 4 (by omega) (by omega) (by omega))
theorem JobFr.rule {o : Nat} {c c' : Mem} {v : (Int → Int) → Int} (jr : 99 < o) (h : JobFr o c c') (hR : RuleC c v) : RuleC c' v := hR.fr (fun x hx => h.2 x hx) (h.1 6 (by omega) (by omega) (by omega)) (h.1 7 (by omega) (by omega) (by omega))
theorem LayI.jf {o : Nat} {a : Mem} {v : (Int → Int) → Int} {s how bits n hill men : Int} {c c' : Mem} {k : Nat} (h : LayI o a v s how bits n hill men c c' k) : JobFr o c c' := ⟨fun q q1 q2 q3 => h.2.2.2.2.1 q (by omega) q2 q3, h.2.2.2.2.2.1⟩
theorem Gone.jf {o : Nat} {s bits men : Int} {x : Int → Int} {m m' : Mem} (jr : 99 < o) (h : Gone o s bits men x m m') : JobFr o m m' := ⟨fun q q1 q2 q3 => h.2.2.2.2.2.2.2.2.1 q (by omega), fun y _ => by rw [h.2.2.2.2.2.2.2.2.1 5 (by omega)]⟩
/-- a street laid out: think is done -/
theorem ct_lay2 {E : Nat × (Nat → Int32)} {c a : Mem} {v : (Int → Int) → Int} {o : Nat} {s how bits hill men : Int} (ho : o ∈ jobL) (hC : CTown c a) (hCS : CSet c a) (hR : RuleC c v) (hT : WTown a) (hS : WSet a) (s0 : 0 ≤ s) (s1 : s < a 169 3) (h0 : 0 ≤ how) (h2 : how ≤ 2) (e8 : c o 8 = hill) (e7 : c o 7 = men) (rh : RI hill) (rm : RI men) : K_X2_lay E [.ref o, .ref (11 + 2 * s.toNat), vi how, vi bits] c (fun c' => Laid o a v s how bits hill men c' ∧ JobFr o c c' ∧ (∀ x : Int, x < 9 ∨ 12 < x → c' o x = c o x) ∧ c' (o + 5) = c (o + 5)) := by
  have jr := jobR ho
  subst e8 e7
  refine (ct_lay ho hC hCS hR hT hS s0 s1 h0 h2 rh rm).mono (fun x m1 hz => ?_)
  obtain ⟨z0, c1, z1, z2⟩ := hz
  refine ⟨z0, Laid.of z1 z2, ?_, fun x hx => ?_, ?_⟩
  · rw [z2]; exact z1.jf.up jr.1
  · rw [z2, up2_j (by omega)]; exact z1.2.2.2.2.2.2 x (by omega) (by omega) (by omega) (by omega)
  · rw [z2, up2_k (by omega)]; exact z1.2.2.2.2.1 _ (by omega) (by omega) (by omega)
theorem goes_rng {a : Mem} {v : (Int → Int) → Int} {r : Int → Int} {s how full hill men : Int} (hT : WTown a) (hS : WSet a) (s0 : 0 ≤ s) (s6 : s < 6) (hr : ∀ b : Int, 0 ≤ b → b < 96 → 0 ≤ r b ∧ r b ≤ 3) (h96 : 0 ≤ r 96) : WkOK (r 96) 16 (goesP a v r s how full hill men) := by
  have t := hT.2.2.1 s s0 s6
  have := walkN_ok (v := v) (how := how) (full := full) (hill := hill) (men := men) hT hS s0 s6 (by omega : a 172 s ≤ 8) (x0_ok hr h96) (2 * a 172 s).toNat (by omega)
  obtain ⟨X1, X2, X3, X4, X5, X6, X7, X8, X9, XA, XB, XC⟩ := this
  exact ⟨X1, X2, by unfold goesP; omega, X4, X5, by unfold goesP; omega, X7, by unfold goesP; omega, X9, by unfold goesP; omega, XB, by unfold goesP; omega⟩
theorem hands_rng {men w : Int} (hm : 1 ≤ men ∧ men ≤ 9) (h0 : 0 ≤ w) (h1 : w ≤ 17600) : 0 ≤ handsP men w ∧ handsP men w ≤ 17600 := by
  unfold handsP
  rw [divI_nn ⟨by omega, by omega⟩ ⟨by omega, by omega⟩]
  refine ⟨Int.ediv_nonneg (by omega) (by omega), ?_⟩
  have : (w + men - 1) / men < 17601 := by
    rw [Int.ediv_lt_iff_lt_mul (by omega)]
    have : 17601 * 1 ≤ 17601 * men := Int.mul_le_mul_of_nonneg_left (by omega) (by omega)
    have : 17600 * (men - 1) ≥ 0 := Int.mul_nonneg (by omega) (by omega)
    omega
  omega
theorem secN_rng {a : Mem} {v : (Int → Int) → Int} {r : Int → Int} {s how hill men : Int} (hT : WTown a) (hS : WSet a) (s0 : 0 ≤ s) (s6 : s < 6) (hr : ∀ b : Int, 0 ≤ b → b < 96 → 0 ≤ r b ∧ r b ≤ 3) (h96 : 0 ≤ r 96) (hm : 1 ≤ men ∧ men ≤ 9) : 0 ≤ secN a v r s how hill men ∧ secN a v r s how hill men ≤ 17712 := by
  have g := goes_rng (v := v) (how := how) (full := 1000000) (hill := hill) (men := men) hT hS s0 s6 hr h96
  have h1 := hands_rng hm g.2.2.2.2.1 (by have := g.2.2.2.2.2.1; omega)
  have h2 := movesR_rng (how := how) hT s0 s6
  unfold secN
  omega
theorem ct_chooseHow {E : Nat × (Nat → Int32)} {c a : Mem} {v : (Int → Int) → Int} {o : Nat} {s bits hill men : Int} {r : Int → Int} (ho : o ∈ jobL) (hC : CTown c a) (hCS : CSet c a) (hR : RuleC c v) (hT : WTown a) (hS : WSet a) (s0 : 0 ≤ s) (s1 : s < a 169 3) (e8 : c o 8 = hill) (e7 : c o 7 = men) (rh : RI hill) (hm : 1 ≤ men ∧ men ≤ 9) (hr : ∀ b : Int, 0 ≤ b → b < 96 → 0 ≤ r b ∧ r b ≤ 3) (hb : ∀ h : Int, 0 ≤ h → h < 16 → (r (16 * s + h) = 1 ↔ tb bits h = true)) (h96 : r 96 = 0) : K_X2_chooseHow E [.ref o, .ref (11 + 2 * s.toNat), vi bits] c (fun z c' => z = bestH (fun how => secN a v r s how hill men) ∧ c' o 13 = z ∧ (∀ how : Int, 0 ≤ how → how < 3 → c' (o + 5) how = secN a v r s how hill men) ∧ Laid o a v s 2 bits hill men c' ∧ JobFr o c c') := by
  have n6 := hT.2.1
  have jr := jobR ho
  have m := streetMem s.toNat (by omega)
  have rm : RI men := ⟨by omega, by omega⟩
  have T := fun how => secN_rng (v := v) (how := how) (hill := hill) hT hS s0 (by omega : s < 6) hr (by omega) hm
  let chosen : Int → Int := fun how => if how ≤ 1 then 0 else if how = 2 then (if secN a v r s 1 hill men < secN a v r s 0 hill men then 1 else 0) else bestH (fun how => secN a v r s how hill men)
  have hch : ∀ how : Int, 0 ≤ chosen how ∧ chosen how < 3 := fun how => by
    show 0 ≤ (if how ≤ 1 then (0 : Int) else if how = 2 then (if secN a v r s 1 hill men < secN a v r s 0 hill men then 1 else 0) else bestH (fun how => secN a v r s how hill men)) ∧ (if how ≤ 1 then (0 : Int) else if how = 2 then (if secN a v r s 1 hill men < secN a v r s 0 hill men then 1 else 0) else bestH (fun how => secN a v r s how hill men)) < 3
    have := bestH_rng (fun how => secN a v r s how hill men)
    split
    · omega
    · split
      · split <;> omega
      · omega
  refine en_X2_chooseHow (sg_X2_chooseHow_0 ho m ?_)
  refine up_loop (i0 := 0) (n := 3) (fun how c1 => GM E _ _ 7 [.ref o, .ref (11 + 2 * s.toNat), vi bits, vi how] [] c1) (fun how c1 => c1 o 13 = chosen how ∧ (∀ j : Int, 0 ≤ j → j < how → c1 (o + 5) j = secN a v r s j hill men) ∧ c1 o 7 = men ∧ c1 o 8 = hill ∧ (0 < how → Laid o a v s (how - 1) bits hill men c1) ∧ JobFr o c c1) (fun c1 h => ?_) (fun how c1 a0 a1 h k => ?_) (i := 0) (by omega) (by omega) ?_
  · obtain ⟨q1, q2, q3, q4, q5, q6⟩ := h
    exact sg_X2_chooseHow_7 ho m (by decide) (fun _ => ⟨_, rfl, q1, rfl, q2, q5 (by decide), q6⟩) (by omega)
  · obtain ⟨q1, q2, q3, q4, q5, q6⟩ := h
    refine sg_X2_chooseHow_7 ho m ⟨by omega, by omega⟩ (by omega) (fun _ => ?_)
    refine ca_X2_chooseHow_20 ho (ct_lay2 ho (q6.town jr.1 hC) (q6.set jr.1 hCS) (q6.rule jr.1 hR) hT hS s0 s1 a0 (by omega) q4 q3 rh rm) (fun c2 hc => sg_X2_chooseHow_23 ho m ?_)
    obtain ⟨z1, z2, z3, z4⟩ := hc
    refine ca_X2_chooseHow_27 ho (ct_go (r := r) ho z1 hT hS s0 (by omega) hm (by decide) hr hb h96 (by omega) (by omega)) (fun c3 hc => ?_)
    have f3 := hc.jf jr.1
    have l3 : Laid o a v s how bits hill men c3 := z1.fr (fun x x0 x1 => hc.2.2.2.2.2.2.2.2.2 x (by omega)) (fun q q0 q1 => hc.2.2.2.2.2.2.2.2.1 q (by omega))
    have e18 := hc.2.2.2.2.2.2.2.1
    have e11 := l3.2.2.2.2.1
    have e13 : c3 o 13 = chosen how := by rw [hc.2.2.2.2.2.2.2.2.2 13 (by omega), z3 13 (by omega)]; exact q1
    have e5 : c3 (o + 5) = c1 (o + 5) := by rw [hc.2.2.2.2.2.2.2.2.1 _ (by omega), z4]
    have es : c3 o 18 + c3 o 11 = secN a v r s how hill men := by rw [e18, e11]; rfl
    have th := T how
    have eb : up2 c3 (o + 5) how (c3 o 18 + c3 o 11) (o + 5) (c3 o 13) = secN a v r s (chosen how) hill men := by
      rw [es, e13]
      by_cases g : chosen how = how
      · rw [g, up2_same]
      · rw [up2_j g, e5]
        refine q2 _ (hch how).1 ?_
        have : chosen how = (if how ≤ 1 then (0 : Int) else if how = 2 then (if secN a v r s 1 hill men < secN a v r s 0 hill men then 1 else 0) else bestH (fun how => secN a v r s how hill men)) := rfl
        have h3 : how = 0 ∨ how = 1 ∨ how = 2 := by omega
        rcases h3 with rfl | rfl | rfl
        · exact absurd rfl g
        · rw [this, if_pos (by decide)]; decide
        · rw [this, if_neg (by decide), if_pos rfl]; split <;> decide
    have tc := T (chosen how)
    refine sg_X2_chooseHow_30 ho m ⟨a0, a1⟩ (by rw [e13]; exact hch how) (by rw [es]; constructor <;> omega) (by rw [eb]; constructor <;> omega) (fun g => k _ ?_) (fun g => k _ ?_)
    all_goals rw [eb, es] at g
    all_goals rw [es]
    · refine ⟨?_, fun j j0 j1 => ?_, ?_, ?_, fun _ => ?_, ?_⟩
      · rw [up2_k (by omega), e13]
        have h3 : how = 0 ∨ how = 1 ∨ how = 2 := by omega
        rcases h3 with rfl | rfl | rfl
        · rfl
        · have g : secN a v r s 0 hill men ≤ secN a v r s 1 hill men := g
          show (0 : Int) = if secN a v r s 1 hill men < secN a v r s 0 hill men then 1 else 0
          rw [if_neg (by omega)]
        · have g : secN a v r s (if secN a v r s 1 hill men < secN a v r s 0 hill men then 1 else 0) hill men ≤ secN a v r s 2 hill men := g
          show (if secN a v r s 1 hill men < secN a v r s 0 hill men then (1 : Int) else 0) = if secN a v r s 2 hill men < secN a v r s (if secN a v r s 1 hill men < secN a v r s 0 hill men then 1 else 0) hill men then 2 else (if secN a v r s 1 hill men < secN a v r s 0 hill men then (1 : Int) else 0)
          exact (if_neg (by omega)).symm
      · by_cases e : j = how
        · subst e; rw [up2_same]
        · rw [up2_j e, e5]; exact q2 j j0 (by omega)
      · rw [up2_k (by omega)]; exact l3.1
      · rw [up2_k (by omega)]; exact l3.2.1
      · rw [show how + 1 - 1 = how by omega]
        exact l3.fr (fun x _ _ => by rw [up2_k (by omega)]) (fun q q0 q1 => by rw [up2_k (by omega)])
      · exact ((q6.trans z2).trans f3).up5 jr.1
    · refine ⟨?_, fun j j0 j1 => ?_, ?_, ?_, fun _ => ?_, ?_⟩
      · rw [up2_same]
        have h3 : how = 0 ∨ how = 1 ∨ how = 2 := by omega
        rcases h3 with rfl | rfl | rfl
        · have g : ¬ secN a v r s 0 hill men ≤ secN a v r s 0 hill men := g
          omega
        · have g : ¬ secN a v r s 0 hill men ≤ secN a v r s 1 hill men := g
          show (1 : Int) = if secN a v r s 1 hill men < secN a v r s 0 hill men then 1 else 0
          rw [if_pos (by omega)]
        · have g : ¬ secN a v r s (if secN a v r s 1 hill men < secN a v r s 0 hill men then 1 else 0) hill men ≤ secN a v r s 2 hill men := g
          show (2 : Int) = if secN a v r s 2 hill men < secN a v r s (if secN a v r s 1 hill men < secN a v r s 0 hill men then 1 else 0) hill men then 2 else (if secN a v r s 1 hill men < secN a v r s 0 hill men then (1 : Int) else 0)
          exact (if_pos (by omega)).symm
      · rw [up2_k (by omega)]
        by_cases e : j = how
        · subst e; rw [up2_same]
        · rw [up2_j e, e5]; exact q2 j j0 (by omega)
      · rw [up2_j (by decide), up2_k (by omega)]; exact l3.1
      · rw [up2_j (by decide), up2_k (by omega)]; exact l3.2.1
      · rw [show how + 1 - 1 = how by omega]
        exact l3.fr (fun x _ _ => by rw [up2_j (by omega), up2_k (by omega)]) (fun q q0 q1 => by rw [up2_k (by omega), up2_k (by omega)])
      · exact (((q6.trans z2).trans f3).up5 jr.1).up jr.1
  · refine ⟨up2_same _ _ _ _, fun j j0 j1 => by omega, ?_, ?_, fun g => by omega, JobFr.rf.up jr.1⟩
    · rw [up2_j (by decide)]; exact e7
    · rw [up2_j (by decide)]; exact e8
