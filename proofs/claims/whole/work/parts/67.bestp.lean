/-! takes, best, less, hill: both sides -/
theorem StRel.out1 {c : Mem} {o : Nat} {r : Int → Int} (h : StRel c o r) {s k : Int} (s0 : 0 ≤ s) (s6 : s < 6) (k0 : 0 ≤ k) (k1 : k < 16) : r (16 * s + k) = 1 ↔ tb (c (o + 1) s) k = true := by
  obtain ⟨-, -, -, g⟩ := h.1 s s0 s6
  rw [← stv_1 (tb (c (o + 1) s) k) (tb (c (o + 2) s) k) (tb (c (o + 3) s) k), (g k k0 k1).1]
  simp
theorem StOK.r3 {B : Int} {a : Mem} {r : Int → Int} (h : StOK B a r) : ∀ b : Int, 0 ≤ b → b < 96 → 0 ≤ r b ∧ r b ≤ 3 := fun b b0 b1 => ⟨(h.1 b b0 b1).1, (h.1 b b0 b1).2.1⟩
theorem er3 {r : Int → Int} (h : ∀ b : Int, 0 ≤ b → b < 96 → 0 ≤ r b ∧ r b ≤ 3) : ∀ b : Int, 0 ≤ b → b < 96 → 0 ≤ emptyRow r b ∧ emptyRow r b ≤ 3 := fun b b0 b1 => by rw [emptyRow_b (by omega)]; exact h b b0 b1
theorem er1 {r : Int → Int} {s bits : Int} (s6 : s < 6) (h : ∀ k : Int, 0 ≤ k → k < 16 → (r (16 * s + k) = 1 ↔ tb bits k = true)) : ∀ k : Int, 0 ≤ k → k < 16 → (emptyRow r (16 * s + k) = 1 ↔ tb bits k = true) := fun k k0 k1 => by rw [emptyRow_b (by omega)]; exact h k k0 k1
theorem m100 : 100 ∈ jobL := by decide
/-- think -/
theorem thinkFr {c : Mem} {x y : Int} : JobFr 100 c (up2 (up2 c 100 7 x) 100 8 y) := (JobFr.rf.up (by decide)).up (by decide)
theorem ct_think {E : Nat × (Nat → Int32)} {c a : Mem} {v : (Int → Int) → Int} {s bits hill men : Int} {r : Int → Int} {x y : Int} (hC : CTown c a) (hCS : CSet c a) (hR : RuleC c v) (hT : WTown a) (hS : WSet a) (s0 : 0 ≤ s) (s1 : s < a 169 3) (ex : x = men) (ey : y = hill) (rh : RI hill) (hm : 1 ≤ men ∧ men ≤ 9) (hr : ∀ b : Int, 0 ≤ b → b < 96 → 0 ≤ r b ∧ r b ≤ 3) (hb : ∀ h : Int, 0 ≤ h → h < 16 → (r (16 * s + h) = 1 ↔ tb bits h = true)) : K_X2_chooseHow E [.ref 100, .ref (11 + 2 * s.toNat), vi bits] (up2 (up2 c 100 7 x) 100 8 y) (fun z c' => z = bestH (fun how => secN a v (emptyRow r) s how hill men) ∧ c' 100 13 = z ∧ (∀ how : Int, 0 ≤ how → how < 3 → c' 105 how = secN a v (emptyRow r) s how hill men) ∧ Laid 100 a v s 2 bits hill men c' ∧ JobFr 100 c c') := by
  subst ex ey
  refine (ct_chooseHow (r := emptyRow r) m100 (thinkFr.town (by decide) hC) (thinkFr.set (by decide) hCS) (thinkFr.rule (by decide) hR) hT hS s0 s1 (up2_same _ _ _ _) (by rw [up2_j (by decide), up2_same]) rh hm (er3 hr) (er1 (by have := hT.2.1; omega) hb) emptyRow_96).mono (fun o m' hz => ?_)
  obtain ⟨z, z0, z1, z2, z3, z4, z5⟩ := hz
  exact ⟨z, z0, z1, z2, z3, z4, thinkFr.trans z5⟩
theorem ct_quickest {E : Nat × (Nat → Int32)} {c a : Mem} {v : (Int → Int) → Int} {s hill men : Int} {r : Int → Int} (hC : CTown c a) (hCS : CSet c a) (hN : StRel c 23 r) (hR : RuleC c v) (hT : WTown a) (hS : WSet a) (s0 : 0 ≤ s) (s1 : s < a 169 3) (rh : RI hill) (hm : 1 ≤ men ∧ men ≤ 9) (hr : ∀ b : Int, 0 ≤ b → b < 96 → 0 ≤ r b ∧ r b ≤ 3) : K_X11_quickest E [.ref 0, .ref (11 + 2 * s.toNat), vi men, vi hill] c (fun z c' => z = secN a v (emptyRow r) s (bestH (fun how => secN a v (emptyRow r) s how hill men)) hill men ∧ c' 100 13 = bestH (fun how => secN a v (emptyRow r) s how hill men) ∧ Laid 100 a v s 2 (c 24 s) hill men c' ∧ JobFr 100 c c') := by
  have n6 := hT.2.1
  have m := streetMem s.toNat (by omega)
  have sr := streetR1 m
  have num : up2 (up2 c 100 7 (max 1 men)) 100 8 hill (11 + 2 * s.toNat) 0 = s := by
    have := (hC.2 s.toNat (by omega)).1
    rw [Int.toNat_of_nonneg s0] at this
    rw [up2_k (by omega), up2_k (by omega)]
    exact this
  refine en_X11_quickest (sg_X11_quickest_0 m ⟨by omega, by omega⟩ (by rw [num]; omega) ?_)
  rw [num]
  refine ca_X11_quickest_25 m100 (ct_think (hill := hill) (men := men) hC hCS hR hT hS s0 s1 (by omega) rfl rh hm hr (fun k k0 k1 => hN.out1 s0 (by omega) k0 k1)) (fun z c2 hz => ?_)
  obtain ⟨z1, z2, z3, z4, z5⟩ := hz
  have br := bestH_rng (fun how => secN a v (emptyRow r) s how hill men)
  rw [z1] at z2
  refine sg_X11_quickest_28 m (by rw [z2]; exact br) ⟨_, rfl, ?_, z2, z4, z5⟩
  rw [z2]
  exact z3 _ br.1 br.2
theorem ct_best {E : Nat × (Nat → Int32)} {c a : Mem} {v : (Int → Int) → Int} {s B : Int} (rs : RI s) (h : CR0 c a) (hR : RuleC c v) (hT : WTown a) (hS : WSet a) (hn : StOK B a (a 180)) : K_X11_best E [.ref 0, vi s] c (fun z c' => ((0 ≤ s ∧ s < a 169 3) ∧ z = bestH (BT a v (a 180) s) ∧ CQ c c' 3 (rwL [BT a v (a 180) s 0, BT a v (a 180) s 1, BT a v (a 180) s 2])) ∨ (¬ (0 ≤ s ∧ s < a 169 3) ∧ z = -1 ∧ c' = c)) := by
  have e := h.town.1
  have n0 := hT.1
  have n6 := hT.2.1
  have e41 := h.set 1 (by decide) (by decide)
  have m1 := hS.2.2.1
  have m4 := hS.2.2.2.1
  refine en_X11_best (sg_X11_best_0 (by omega) rs (fun _ => by constructor <;> omega) (fun p => by omega) (fun p => ?_) (fun p => ⟨_, rfl, Or.inr ⟨by omega, rfl, rfl⟩⟩))
  have m := streetMem s.toNat (by omega)
  have t := hT.2.2.1 s p.1 (by omega)
  have s1 : s < a 169 3 := by omega
  refine ca_X11_best_47 m100 (ct_think (hill := a 173 s) (men := a 179 1) h.town h.set hR hT hS p.1 s1 (by omega) (h.town.s p.1 s1 n6).2.2.1 ⟨by omega, by omega⟩ ⟨by omega, by omega⟩ hn.r3 (fun k k0 k1 => h.now.out1 p.1 (by omega) k0 k1)) (fun z c2 hz => ?_)
  obtain ⟨z1, z2, z3, z4, z5⟩ := hz
  have T := fun how => BT_rng (v := v) (how := how) hT hS p.1 (by omega : s < 6) hn.r3
  have t0 := T 0
  have t1 := T 1
  have t2 := T 2
  have e0 : c2 105 0 = BT a v (a 180) s 0 := z3 0 (by decide) (by decide)
  have e1 : c2 105 1 = BT a v (a 180) s 1 := z3 1 (by decide) (by decide)
  have e2 : c2 105 2 = BT a v (a 180) s 2 := z3 2 (by decide) (by decide)
  refine sg_X11_best_50 m (by rw [e0]; constructor <;> omega) (by rw [e1]; constructor <;> omega) (by rw [e2]; constructor <;> omega) ⟨_, rfl, Or.inl ⟨by omega, z1, ?_⟩⟩
  rw [e0, e1, e2]
  exact CQ.job (by decide) z5 CQ.three
theorem mt_best {E : Nat × (Nat → Int32)} {m a : Mem} {v : (Int → Int) → Int} {s B : Int} (rs : RI s) (hm : HighEq a m) (hR : RuleM a v) (hT : WTown a) (hS : WSet a) (hn : StOK B a (a 180)) : K_X12_best E [.ref 169, vi s] m (fun z m' => ((0 ≤ s ∧ s < a 169 3) ∧ z = bestH (BT a v (a 180) s) ∧ PEq m' (rowU m 3 (rwL [BT a v (a 180) s 0, BT a v (a 180) s 1, BT a v (a 180) s 2])) ∧ LowEq m m') ∨ (¬ (0 ≤ s ∧ s < a 169 3) ∧ z = -1 ∧ m' = up2 m 169 0 0)) := by
  have n0 := hT.1
  have n6 := hT.2.1
  have e3 : m 169 3 = a 169 3 := by rw [hm 169 (by decide)]
  refine en_X12_best (sg_X12_best_0 (by rw [e3]; constructor <;> omega) rs (fun p => by omega) (fun p => ?_) (fun p => ⟨_, rfl, Or.inr ⟨by omega, rfl, rfl⟩⟩))
  have t := hT.2.2.1 s p.1 (by omega)
  have m1 := hS.2.2.1
  have m4 := hS.2.2.2.1
  have T := fun how => BT_rng (v := v) (how := how) hT hS p.1 (by omega : s < 6) hn.r3
  generalize hM : up2 (up2 (up2 (up2 m 169 0 0) 169 30 (m 179 1)) 169 31 (m 173 s)) 169 1 0 = M
  have M1 : ∀ k, k ≠ 169 → M k = m k := fun k q => by rw [← hM, up2_k q, up2_k q, up2_k q, up2_k q]
  have M2 : ∀ j : Int, j ≠ 0 → j ≠ 1 → j ≠ 30 → j ≠ 31 → M 169 j = m 169 j := fun j q1 q2 q3 q4 => by rw [← hM, up2_j q2, up2_j q4, up2_j q3, up2_j q1]
  have M31 : M 169 31 = a 173 s := by rw [← hM, up2_j (by decide), up2_same, hm 173 (by decide)]
  have M30 : M 169 30 = a 179 1 := by rw [← hM, up2_j (by decide), up2_j (by decide), up2_same, hm 179 (by decide)]
  have M01 : M 169 1 = 0 := by rw [← hM, up2_same]
  clear hM
  have MBa : MB a M := hm.mb.trans ⟨M2 3 (by decide) (by decide) (by decide) (by decide), M2 26 (by decide) (by decide) (by decide) (by decide), fun k _ _ => M1 k (by omega), M1 185 (by decide)⟩
  have Me : ∀ c : Int, M 180 c = a 180 c := fun c => by rw [M1 180 (by decide), hm 180 (by decide)]
  -- how the memory looks with i numbers told
  refine up_loop (i0 := 0) (n := 3) (fun how m1 => GM E _ _ 27 [.ref 169, vi s, vi how] [] m1) (fun how m1 => m1 169 1 = how ∧ (∀ j : Int, 0 ≤ j → j < how → m1 170 j = BT a v (a 180) s j) ∧ (∀ k, k ≠ 189 → k ≠ 169 → k ≠ 170 → k ≠ 187 → k ≠ 188 → m1 k = M k) ∧ (∀ j : Int, (j < 30 ∨ 37 < j) → j ≠ 39 → j ≠ 1 → m1 169 j = M 169 j) ∧ m1 169 31 = M 169 31 ∧ m1 169 30 = M 169 30) (fun m1 h => ?_) (fun how m1 a0 a1 h k => ?_) (i := 0) (s := M) (by omega) (by omega) ⟨M01, fun j j0 j1 => by omega, fun _ _ _ _ _ _ => rfl, fun _ _ _ _ => rfl, rfl, rfl⟩
  · obtain ⟨q1, q2, q3, q4, q5, q6⟩ := h
    have b1 : MB a m1 := MBa.trans ⟨q4 3 (by omega) (by decide) (by decide), q4 26 (by omega) (by decide) (by decide), fun k k0 k1 => q3 k (by omega) (by omega) (by omega) (by omega) (by omega), q3 185 (by decide) (by decide) (by decide) (by decide) (by decide)⟩
    refine sg_X12_best_27 (by decide) (fun _ => ?_) (by omega)
    refine ca_X12_best_59 (mt_bestOf (r := 180) (r0 := a 180) (by decide) (by decide) (by decide) b1 hR hT hS p.1 (by omega) (q5.trans M31) (q6.trans M30) ⟨by omega, by omega⟩ ⟨by omega, by omega⟩ (fun c _ _ => by rw [q3 180 (by decide) (by decide) (by decide) (by decide) (by decide)]; exact Me c) hn.r3) (fun z m2 hz => ?_)
    obtain ⟨z1, z2, z3, z4, z5⟩ := hz
    refine sg_X12_best_62 ⟨_, rfl, Or.inl ⟨by omega, z2, ?_, fun k hk => ?_⟩⟩
    · refine z3.peq.trans (PEq.row (fun k hk h9 h0 => ?_) (fun j hj h1 => ?_) q1 (fun j j0 j1 => ?_))
      · have hk : (169 ≤ k ∧ k < 181) ∨ k = 182 ∨ k = 185 ∨ k = 190 ∨ k = 201 ∨ k = 202 ∨ (205 ≤ k ∧ k < 208) := hk
        rw [q3 k (by omega) h9 h0 (by omega) (by omega), M1 k h9]
      · have hj : j = 1 ∨ j = 3 ∨ j = 4 ∨ j = 17 ∨ j = 26 ∨ j = 40 ∨ j = 62 := hj
        rw [q4 j (by omega) (by omega) h1, M2 j (by omega) h1 (by omega) (by omega)]
      · rw [q2 j j0 j1]
        have : j = 0 ∨ j = 1 ∨ j = 2 := by omega
        rcases this with rfl | rfl | rfl <;> rfl
    · rw [z3.low k hk, q3 k (by omega) (by omega) (by omega) (by omega) (by omega), M1 k (by omega)]
  · obtain ⟨q1, q2, q3, q4, q5, q6⟩ := h
    have b1 : MB a m1 := MBa.trans ⟨q4 3 (by omega) (by decide) (by decide), q4 26 (by omega) (by decide) (by decide), fun k k0 k1 => q3 k (by omega) (by omega) (by omega) (by omega) (by omega), q3 185 (by decide) (by decide) (by decide) (by decide) (by decide)⟩
    refine sg_X12_best_27 ⟨by omega, by omega⟩ (by omega) (fun _ => ?_)
    refine ca_X12_best_40 (mt_takesOf2 (r := 180) (r0 := a 180) (by decide) (by decide) (by decide) b1 hR hT hS p.1 (by omega) a0 (by omega) (q5.trans M31) (q6.trans M30) ⟨by omega, by omega⟩ ⟨by omega, by omega⟩ (fun c _ _ => by rw [q3 180 (by decide) (by decide) (by decide) (by decide) (by decide)]; exact Me c) hn.r3) (fun z m2 hz => ?_)
    obtain ⟨z1, -, -, z4, z5, z6, -⟩ := hz
    have z1 : z = BT a v (a 180) s how := z1
    have th := T how
    have e1 : m2 169 1 = how := (z4.2 1 (by omega) (by decide)).trans q1
    refine sg_X12_best_43 (by rw [z1]; constructor <;> omega) (by rw [e1]; omega) (k _ ?_)
    rw [e1]
    refine ⟨up2_same _ _ _ _, fun j j0 j1 => ?_, fun k q1 q2 q3' q4' q5' => ?_, fun j j0 j1 j2 => ?_, ?_, ?_⟩
    · rw [up2_k (by decide)]
      by_cases c : j = how
      · subst c; rw [up2_same, z1]
      · rw [up2_j c, z4.1 170 (by decide) (by decide) (by decide) (by decide)]; exact q2 j j0 (by omega)
    · rw [up2_k q2, up2_k q3', z4.1 k q1 q2 q4' q5', q3 k q1 q2 q3' q4' q5']
    · rw [up2_j j2, up2_k (by decide), z4.2 j j0 j1, q4 j j0 j1 j2]
    · rw [up2_j (by decide), up2_k (by decide), z5, q5]
    · rw [up2_j (by decide), up2_k (by decide), z6, q6]
