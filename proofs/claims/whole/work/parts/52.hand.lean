/-! what the rule is asked about a bin -/
def fct (a : Mem) (s h hill men carried : Int) : Int → Int := fun j => if j = 0 then hv a (16 * s + h) (a 179 2) else if j = 1 then h % 8 else if j = 2 then h / 8 else if j = 3 then hill else if j = 4 then men else if j = 5 then a 179 2 else if j = 6 then carried else s
theorem fct_ok {a : Mem} {s h hill men carried : Int} (hT : WTown a) (hS : WSet a) (s0 : 0 ≤ s) (s6 : s < 6) (h0 : 0 ≤ h) (h1 : h < 16) (rh : RI hill) (rm : RI men) (rc : RI carried) : FOK (fct a s h hill men carried) ∧ 0 ≤ fct a s h hill men carried 0 ∧ fct a s h hill men carried 0 ≤ 9999 := by
  have r1 := hS.2.2.2.2.1
  have r2 := hS.2.2.2.2.2.1
  have hh := hv_rng (b := 16 * s + h) (rain := a 179 2) (hT.w (by omega) (by omega)) hS ⟨r1, r2⟩
  refine ⟨fun j j0 j1 => ?_, ?_, ?_⟩
  · unfold fct
    have : j = 0 ∨ j = 1 ∨ j = 2 ∨ j = 3 ∨ j = 4 ∨ j = 5 ∨ j = 6 ∨ j = 7 := by omega
    rcases this with rfl | rfl | rfl | rfl | rfl | rfl | rfl | rfl
    · show RI (hv _ _ _); constructor <;> omega
    · show RI (h % 8); constructor <;> omega
    · show RI (h / 8); constructor <;> omega
    · exact rh
    · exact rm
    · show RI (a 179 2); constructor <;> omega
    · exact rc
    · show RI s; constructor <;> omega
  · exact hh.1
  · show hv _ _ _ ≤ 9999; omega
theorem fok_congr {f g : Int → Int} (h : FOK g) (e : ∀ j : Int, 0 ≤ j → j < 8 → f j = g j) : FOK f := fun j j0 j1 => by rw [e j j0 j1]; exact h j j0 j1
theorem rule_ext {a : Mem} {v : (Int → Int) → Int} (h : RuleM a v) (f g : Int → Int) (e : ∀ j : Int, 0 ≤ j → j < 8 → f j = g j) : v f = v g := by
  rcases h with ⟨-, rfl⟩ | ⟨p, h, -⟩
  · show 8 + f 0 = 8 + g 0
    rw [e 0 (by omega) (by omega)]
  · exact h.1.2 f g e
theorem mt_secondsOf {E : Nat × (Nat → Int32)} {a : Mem} {v : (Int → Int) → Int} {s side block carried : Int} (hR : RuleM a v) (hT : WTown a) (hS : WSet a) (s0 : 0 ≤ s) (s6 : s < 6) (d0 : 0 ≤ side) (d1 : side ≤ 1) (b0 : 0 ≤ block) (b8 : block < 8) (rh : RI (a 169 31)) (rm : RI (a 169 30)) (rc : RI carried) : K_X12_secondsOf E [.ref 169, vi s, vi side, vi block, vi carried] a (fun z a' => z = sec v (fct a s (8 * side + block) (a 169 31) (a 169 30) carried) ∧ ∀ k, k ≠ 187 → k ≠ 188 → a' k = a k) := by
  obtain ⟨f1, f2, f3⟩ := fct_ok (carried := carried) hT hS s0 s6 (h := 8 * side + block) (by omega) (by omega) rh rm rc
  refine en_X12_secondsOf (sg_X12_secondsOf_0 (by omega) ?_)
  have key : ∀ M : Mem, (∀ k, k ≠ 188 → M k = a k) → (∀ j : Int, 0 ≤ j → j < 8 → M 188 j = fct a s (8 * side + block) (a 169 31) (a 169 30) carried j) → GM E (m_X12_secondsOf 3) (Pi fun z a' => z = sec v (fct a s (8 * side + block) (a 169 31) (a 169 30) carried) ∧ ∀ k, k ≠ 187 → k ≠ 188 → a' k = a k) 80 [.ref 169, vi s, vi side, vi block, vi carried] [.ref 169] M := by
    intro M h1 h2
    have hM : RuleM M v := hR.peq (PEq.of (fun k hk _ => h1 k (fun e => by subst e; rcases hk with h | h | h | h | h | h | h <;> omega)) (fun j _ => by rw [h1 169 (by decide)]))
    refine ca_X12_secondsOf_80 (mt_rule hM (fok_congr f1 h2) (by rw [h2 0 (by omega) (by omega)]; exact ⟨f2, f3⟩)) (fun z m2 hz => sg_X12_secondsOf_83 ⟨_, rfl, ?_, fun k k7 k8 => (hz.2 k k7).trans (h1 k k8)⟩)
    rw [hz.1]
    unfold sec
    rw [rule_ext hM _ _ h2]
  refine key _ (fun k hk => by rw [up2_k hk, up2_k hk, up2_k hk, up2_k hk, up2_k hk, up2_k hk, up2_k hk, up2_k hk]) (fun j j0 j1 => ?_)
  have : j = 0 ∨ j = 1 ∨ j = 2 ∨ j = 3 ∨ j = 4 ∨ j = 5 ∨ j = 6 ∨ j = 7 := by omega
  rcases this with rfl | rfl | rfl | rfl | rfl | rfl | rfl | rfl
  · rw [up2_j (by decide), up2_j (by decide), up2_j (by decide), up2_j (by decide), up2_j (by decide), up2_j (by decide), up2_j (by decide), up2_same]
    show _ = hv _ _ _
    unfold hv
    rw [show 16 * s + (8 * side + block) = 16 * s + 8 * side + block by omega]
  · rw [up2_j (by decide), up2_j (by decide), up2_j (by decide), up2_j (by decide), up2_j (by decide), up2_j (by decide), up2_same]
    show _ = (8 * side + block) % 8
    omega
  · rw [up2_j (by decide), up2_j (by decide), up2_j (by decide), up2_j (by decide), up2_j (by decide), up2_same]
    show _ = (8 * side + block) / 8
    omega
  · rw [up2_j (by decide), up2_j (by decide), up2_j (by decide), up2_j (by decide), up2_same]
    rfl
  · rw [up2_j (by decide), up2_j (by decide), up2_j (by decide), up2_same]
    rfl
  · rw [up2_j (by decide), up2_j (by decide), up2_same]
    rfl
  · rw [up2_j (by decide), up2_same]
    rfl
  · rw [up2_same]
    rfl
theorem jobR : ∀ {o : Nat}, o ∈ jobL → 99 < o ∧ o + 5 < 147 := by decide +kernel
theorem streetR1 : ∀ {o : Nat}, o ∈ streetL → 10 < o ∧ o < 22 := by decide +kernel
/-- the class' byHand -/
theorem ct_byHand {E : Nat × (Nat → Int32)} {c a : Mem} {v : (Int → Int) → Int} {o : Nat} {s h carried : Int} (ho : o ∈ jobL) (hC : CTown c a) (hCS : CSet c a) (hR : RuleC c v) (hT : WTown a) (hS : WSet a) (s0 : 0 ≤ s) (s1 : s < a 169 3) (h0 : 0 ≤ h) (h1 : h < 16) (rh : RI (c o 8)) (rm : RI (c o 7)) (rc : RI carried) : K_X2_byHand E [.ref o, .ref (11 + 2 * s.toNat), vi h, vi carried] c (fun z c' => z = sec v (fct a s h (c o 8) (c o 7) carried) ∧ (∀ k, k ≠ 8 → k ≠ 5 → k ≠ o + 1 → c' k = c k) ∧ ∀ x : Int, x ≠ 5 → c' 5 x = c 5 x) := by
  have n6 := hT.2.1
  obtain ⟨f1, f2, f3⟩ := fct_ok (carried := carried) hT hS s0 (by omega : s < 6) h0 h1 rh rm rc
  have m := streetMem s.toNat (by omega)
  have jr := jobR ho
  have num : c (11 + 2 * s.toNat) 0 = s := by
    have := (hC.2 s.toNat (by omega)).1
    rw [Int.toNat_of_nonneg s0] at this
    exact this
  obtain ⟨-, -, -, -, -, -, -, w⟩ := hC.s s0 s1 n6
  refine en_X2_byHand (sg_X2_byHand_0 ho m ⟨h0, h1⟩ ?_)
  have key : ∀ M : Mem, (∀ k, k ≠ o + 1 → M k = c k) → (∀ j : Int, 0 ≤ j → j < 8 → M (o + 1) j = fct a s h (c o 8) (c o 7) carried j) → GM E (m_X2_byHand 3) (Pi fun z c' => z = sec v (fct a s h (c o 8) (c o 7) carried) ∧ (∀ k, k ≠ 8 → k ≠ 5 → k ≠ o + 1 → c' k = c k) ∧ ∀ x : Int, x ≠ 5 → c' 5 x = c 5 x) 107 [.ref o, .ref (11 + 2 * s.toNat), vi h, vi carried] [.ref (o + 1), .ref 5] M := by
    intro M h1 h2
    have hM : RuleC M v := hR.fr (fun j _ => by rw [h1 5 (by omega)]) (h1 6 (by omega)) (h1 7 (by omega))
    refine ca_X2_byHand_107 (ct_rule hM (ltJob1 ho) (shJob1 ho) (fok_congr f1 h2) (by rw [h2 0 (by omega) (by omega)]; exact ⟨f2, f3⟩)) (fun z m2 hz => sg_X2_byHand_110 ho m ⟨_, rfl, ?_, fun k k8 k5 ko => (hz.2.1 k k8 k5).trans (h1 k ko), fun x hx => (hz.2.2 x hx).trans (by rw [h1 5 (by omega)])⟩)
    rw [hz.1]
    unfold sec
    rw [hM.ext _ _ h2]
  have o4 : ∀ {M : Mem} {j z : Int}, up2 M (o + 1) j z 4 = M 4 := fun {M j z} => up2_k (by omega)
  have oS : ∀ {M : Mem} {j z : Int}, up2 M (o + 1) j z (11 + 2 * s.toNat) = M (11 + 2 * s.toNat) := fun {M j z} => up2_k (by omega)
  refine key _ (fun k hk => by rw [up2_k hk, up2_k hk, up2_k hk, up2_k hk, up2_k hk, up2_k hk, up2_k hk, up2_k hk]) (fun j j0 j1 => ?_)
  have : j = 0 ∨ j = 1 ∨ j = 2 ∨ j = 3 ∨ j = 4 ∨ j = 5 ∨ j = 6 ∨ j = 7 := by omega
  rcases this with rfl | rfl | rfl | rfl | rfl | rfl | rfl | rfl
  · rw [up2_j (by decide), up2_j (by decide), up2_j (by decide), up2_j (by decide), up2_j (by decide), up2_j (by decide), up2_j (by decide), up2_same]
    show _ = hv _ _ _
    unfold hv
    rw [w h h0 h1, hCS 3 (by omega) (by omega), hCS 2 (by omega) (by omega)]
  · rw [up2_j (by decide), up2_j (by decide), up2_j (by decide), up2_j (by decide), up2_j (by decide), up2_j (by decide), up2_same]
    show _ = h % 8
    exact remI_nn (by omega) (by omega)
  · rw [up2_j (by decide), up2_j (by decide), up2_j (by decide), up2_j (by decide), up2_j (by decide), up2_same]
    show _ = h / 8
    exact divI_nn (by omega) (by omega)
  · rw [up2_j (by decide), up2_j (by decide), up2_j (by decide), up2_j (by decide), up2_same]
    rfl
  · rw [up2_j (by decide), up2_j (by decide), up2_j (by decide), up2_same]
    rfl
  · rw [up2_j (by decide), up2_j (by decide), up2_same, o4, o4, o4, o4, o4]
    exact hCS 2 (by omega) (by omega)
  · rw [up2_j (by decide), up2_same]
    rfl
  · rw [up2_same, oS, oS, oS, oS, oS, oS, oS]
    exact num
