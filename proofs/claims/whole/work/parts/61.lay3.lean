theorem ct_lay {E : Nat × (Nat → Int32)} {c a : Mem} {v : (Int → Int) → Int} {o : Nat} {s how bits : Int} (ho : o ∈ jobL) (hC : CTown c a) (hCS : CSet c a) (hR : RuleC c v) (hT : WTown a) (hS : WSet a) (s0 : 0 ≤ s) (s1 : s < a 169 3) (h0 : 0 ≤ how) (h2 : how ≤ 2) (rh : RI (c o 8)) (rm : RI (c o 7)) : K_X2_lay E [.ref o, .ref (11 + 2 * s.toNat), vi how, vi bits] c (fun c' => ∃ c1, LayI o a v s how bits (a 172 s) (c o 8) (c o 7) c c1 (2 * a 172 s).toNat ∧ c' = up2 c1 o 11 (movesR a s how)) := by
  have n6 := hT.2.1
  have t := hT.2.2.1 s s0 (by omega)
  have m := streetMem s.toNat (by omega)
  have jr := jobR ho
  have sr := streetR1 m
  have rw' : RI how := ⟨by omega, by omega⟩
  have l1 := hS.2.2.2.2.2.2.2.2.1
  have l2 := hS.2.2.2.2.2.2.2.2.2.1
  have town : ∀ c1, (∀ q, (q < o ∨ o + 4 < q) → q ≠ 8 → q ≠ 5 → c1 q = c q) → CTown c1 a ∧ CSet c1 a := fun c1 e => ⟨hC.fr (e 9 (by omega) (by omega) (by omega)) (fun s _ => ⟨e _ (by omega) (by omega) (by omega), e _ (by omega) (by omega) (by omega)⟩), hCS.fr (e 4 (by omega) (by omega) (by omega))⟩
  refine en_X2_lay (sg_X2_lay_0 ho m ?_)
  have o4 : ∀ (M : Mem) (j z : Int), up2 M o j z 4 = M 4 := fun M j z => up2_k (by omega)
  rw [o4, o4, hCS 4 (by omega) (by omega)]
  refine up_loop (i0 := 0) (n := 16) (fun i c1 => GM E _ _ 25 [.ref o, .ref (11 + 2 * s.toNat), vi how, vi bits, vi i, un, un, un, un] [] c1) (fun i c1 => LayI o a v s how bits (a 172 s) (c o 8) (c o 7) c c1 (min i (2 * a 172 s)).toNat) (fun c1 h => ?_) (fun i c1 i0 i1 h k => ?_) (i := 0) (by omega) (by omega) ?_
  · rw [show (min 16 (2 * a 172 s)).toNat = (2 * a 172 s).toNat by omega] at h
    refine sg_X2_lay_25 ho m ⟨by omega, by omega⟩ (fun _ => ?_) (by omega)
    obtain ⟨t1, t2⟩ := town c1 h.2.2.2.2.1
    exact ca_X2_lay_229 (ct_movesOf t1 hT s0 s1 rw') (fun z c2 hz => sg_X2_lay_232 ho m ⟨rfl, c1, h, by rw [hz.1, hz.2]⟩)
  · obtain ⟨t1, t2⟩ := town c1 h.2.2.2.2.1
    have e3 := (t1.s s0 s1 n6).2.1
    refine sg_X2_lay_25 ho m ⟨by omega, by omega⟩ (by omega) (fun _ => ?_)
    refine ca_X2_lay_36 (ct_houseAt m e3 (by omega) (by omega) rw' i0 (by omega)) (fun z c2 hz => ?_)
    obtain ⟨rfl, rfl⟩ := hz
    by_cases ci : i < 2 * a 172 s
    · rw [if_pos ci]
      have hr := houseN_rng (how := how) (by omega : a 172 s ≤ 8) i0 ci
      have ek : (min i (2 * a 172 s)).toNat = i.toNat := by omega
      have ek1 : (min (i + 1) (2 * a 172 s)).toNat = i.toNat + 1 := by omega
      have ei : ((i.toNat : Nat) : Int) = i := Int.toNat_of_nonneg i0
      rw [ek] at h
      have hk : houseN (a 172 s) how (i.toNat : Nat) = houseN (a 172 s) how i := by rw [ei]
      have e10 := h.1
      have e9 := h.2.1
      have cr := cntN_rng (bits := bits) (n := a 172 s) (how := how) (k := i.toNat)
      have ehv : divI (((c2 (11 + 2 * s.toNat + 1) (houseN (a 172 s) how i)) * (c2 4 3)) * (10 + (c2 4 2))) 10 = hv a (16 * s + houseN (a 172 s) how i) (a 179 2) := by
        rw [(t1.s s0 s1 n6).2.2.2.2.2.2.2 _ hr.1 hr.2, t2 3 (by omega) (by omega), t2 2 (by omega) (by omega)]
        rfl
      refine sg_X2_lay_39 ho m ⟨by omega, by omega⟩ (fun _ _ => ⟨by omega, by omega⟩) (fun _ _ _ => hr) rw' (fun _ _ _ => ⟨by omega, by omega⟩) (fun _ _ _ => ⟨by omega, by omega⟩) (fun q => by omega) (fun _ q => k _ ?_) (fun _ _ q => by omega) (fun _ q _ g => ?_) (fun _ q _ g => ?_)
      · rw [ek1]
        exact h.skip (by rw [hk]; exact (bit_0 hr.1 (by omega)).1 q)
      · have bt1 : tb bits (houseN (a 172 s) how i) = true := by
          rcases hb : tb bits (houseN (a 172 s) how i) with _ | _
          · exact absurd ((bit_0 hr.1 (by omega)).2 hb) q
          · rfl
        have h5 := h.2.2.2.2.1
        have h6 := h.2.2.2.2.2.1
        have h7 := h.2.2.2.2.2.2
        rw [ehv] at g ⊢
        rw [e9] at g
        have e8 : remI (houseN (a 172 s) how i) 8 = houseN (a 172 s) how i % 8 := remI_nn (by omega) (by omega)
        rw [e8]
        have ecar : (if how ≠ 2 then (0 : Int) else houseN (a 172 s) how i % 8 + 1) = carriedOf how (houseN (a 172 s) how i) := rfl
        rw [ecar]
        have rcc : RI (carriedOf how (houseN (a 172 s) how i)) := by
          unfold carriedOf
          split <;> constructor <;> omega
        generalize hM : up2 (up2 c2 (o + 2) (c2 o 10) (houseN (a 172 s) how i)) (o + 3) (c2 o 10) (hv a (16 * s + houseN (a 172 s) how i) (a 179 2)) = M
        have M1 : ∀ q, q ≠ o + 2 → q ≠ o + 3 → M q = c2 q := fun q q1 q2 => by rw [← hM, up2_k q2, up2_k q1]
        obtain ⟨u1, u2⟩ := town M (fun q q1 q2 q3 => (M1 q (by omega) (by omega)).trans (h5 q q1 q2 q3))
        have Mo : M o = c2 o := M1 o (by omega) (by omega)
        have hM8 : M o 8 = c o 8 := by rw [Mo]; exact h7 8 (by decide) (by decide) (by decide) (by decide)
        have hM7 : M o 7 = c o 7 := by rw [Mo]; exact h7 7 (by decide) (by decide) (by decide) (by decide)
        have uR : RuleC M v := hR.fr (fun x hx => by rw [M1 5 (by omega) (by omega)]; exact h6 x hx) (by rw [M1 6 (by omega) (by omega)]; exact h5 6 (by omega) (by omega) (by omega)) (by rw [M1 7 (by omega) (by omega)]; exact h5 7 (by omega) (by omega) (by omega))
        refine ca_X2_lay_174 ho (ct_byHand ho u1 u2 uR hT hS s0 s1 hr.1 hr.2 (by rw [hM8]; exact rh) (by rw [hM7]; exact rm) rcc) (fun z m2 hz => ?_)
        obtain ⟨z1, z2, z3⟩ := hz
        rw [hM8, hM7] at z1
        have m2o : m2 o = c2 o := (z2 o (by omega) (by omega) (by omega)).trans Mo
        have e12 : ∀ y : Int, up2 m2 (o + 4) (c2 o 10) y o = c2 o := fun y => by rw [up2_k (by omega), m2o]
        refine sg_X2_lay_177 ho m (ltJob4 ho) (shJob4 ho) ⟨by omega, by omega⟩ ⟨by have := hv_rng (b := 16 * s + houseN (a 172 s) how i) (rain := a 179 2) (hT.w (by omega) (by omega)) hS ⟨hS.2.2.2.2.1, hS.2.2.2.2.2.1⟩; omega, by have := hv_rng (b := 16 * s + houseN (a 172 s) how i) (rain := a 179 2) (hT.w (by omega) (by omega)) hS ⟨hS.2.2.2.2.1, hS.2.2.2.2.2.1⟩; omega⟩ (by rw [e12, e9]; constructor <;> omega) (k _ ?_)
        rw [e12, e9, if_pos g, ek1]
        have etake : z + 4 * carriedOf how (houseN (a 172 s) how i) + (if how ≠ 1 then (0 : Int) else (if houseN (a 172 s) how i < 8 then (0 : Int) else (11 : Int))) = takeN a v s how (c o 8) (c o 7) (houseN (a 172 s) how i) := by
          unfold takeN
          rw [if_pos g, ← z1]
          unfold carriedOf extraOf
          by_cases w1 : how = 1
          · subst w1
            simp only [ne_eq, not_true_eq_false, if_false]
            rw [if_pos (by decide)]
            split <;> omega
          · by_cases w2 : how = 2
            · subst w2
              simp
            · simp [w1, w2]
        rw [etake]
        have eo : ∀ (y1 y2 : Int) (x : Int), x ≠ 10 → x ≠ 12 → up2 (up2 (up2 m2 (o + 4) (c2 o 10) (takeN a v s how (c o 8) (c o 7) (houseN (a 172 s) how i))) o 12 y1) o 10 y2 o x = c2 o x := fun y1 y2 x x1 x2 => by rw [up2_j x1, up2_j x2, e12]
        refine h.add (by rw [hk]; exact bt1) (fun x => ?_) (fun x => ?_) (fun x => ?_) ?_ ?_ (fun x x1 x2 => eo _ _ x x1 x2) (fun q q1 q2 q3 => ?_) (fun x hx => ?_)
        · rw [hk, ← e10, up2_k (by omega), up2_k (by omega), up2_k (by omega), z2 (o + 2) (by omega) (by omega) (by omega), ← hM, up2_k (by omega)]
          by_cases c : x = c2 o 10
          · subst c; rw [up2_same, if_pos rfl]
          · rw [up2_j c, if_neg c]
        · rw [hk, ← e10, up2_k (by omega), up2_k (by omega), up2_k (by omega), z2 (o + 3) (by omega) (by omega) (by omega), ← hM]
          by_cases c : x = c2 o 10
          · subst c; rw [up2_same, if_pos rfl]
          · rw [up2_j c, if_neg c, up2_k (by omega)]
        · rw [hk, ← e10, up2_k (by omega), up2_k (by omega)]
          by_cases c : x = c2 o 10
          · subst c; rw [up2_same, if_pos rfl]
          · rw [up2_j c, if_neg c, z2 (o + 4) (by omega) (by omega) (by omega), M1 (o + 4) (by omega) (by omega)]
        · rw [up2_same]
        · rw [up2_j (by decide), up2_same, hk, if_pos g]
        · rw [up2_k (by omega), up2_k (by omega), up2_k (by omega), z2 q q2 q3 (by omega), M1 q (by omega) (by omega)]
        · rw [up2_k (by omega), up2_k (by omega), up2_k (by omega), z3 x hx, M1 5 (by omega) (by omega)]
      · refine k _ ?_
        rw [ehv] at g ⊢
        rw [ek1, e9, if_neg (by rw [← e9]; exact g)]
        have bt1 : tb bits (houseN (a 172 s) how i) = true := by
          rcases hb : tb bits (houseN (a 172 s) how i) with _ | _
          · exact absurd ((bit_0 hr.1 (by omega)).2 hb) q
          · rfl
        refine h.add (by rw [hk]; exact bt1) (fun x => ?_) (fun x => ?_) (fun x => ?_) ?_ ?_ (fun x x1 x2 => ?_) (fun q q1 q2 q3 => ?_) (fun x hx => ?_)
        · rw [hk, ← e10, up2_k (by omega), up2_k (by omega), up2_k (by omega), up2_k (by omega)]
          by_cases c : x = c2 o 10
          · subst c; rw [up2_same, if_pos rfl]
          · rw [up2_j c, if_neg c]
        · rw [hk, ← e10, up2_k (by omega), up2_k (by omega), up2_k (by omega)]
          by_cases c : x = c2 o 10
          · subst c; rw [up2_same, if_pos rfl]
          · rw [up2_j c, if_neg c, up2_k (by omega)]
        · rw [hk, ← e10, up2_k (by omega), up2_k (by omega)]
          by_cases c : x = c2 o 10
          · subst c; rw [up2_same, if_pos rfl]
            unfold takeN
            rw [if_neg (by rw [← e9]; exact g)]
          · rw [up2_j c, if_neg c, up2_k (by omega), up2_k (by omega)]
        · rw [up2_same]
        · rw [up2_j (by decide), up2_same, hk, if_neg (by rw [← e9]; exact g)]
        · rw [up2_j x1, up2_j x2, up2_k (by omega), up2_k (by omega), up2_k (by omega)]
        · rw [up2_k (by omega), up2_k (by omega), up2_k (by omega), up2_k (by omega), up2_k (by omega)]
        · rw [up2_k (by omega), up2_k (by omega), up2_k (by omega), up2_k (by omega), up2_k (by omega)]
    · rw [if_neg ci]
      refine sg_X2_lay_39 ho m (by decide) (by omega) (by omega) rw' (by omega) (by omega) (fun _ => k _ ?_) (by omega) (by omega) (by omega) (by omega)
      rw [show (min (i + 1) (2 * a 172 s)).toNat = (min i (2 * a 172 s)).toNat by omega]
      exact h
  · rw [show (min 0 (2 * a 172 s)).toNat = 0 by omega]
    refine ⟨by rw [up2_j (by decide), up2_j (by decide), up2_same]; rfl, up2_same _ _ _ _, by rw [up2_j (by decide), up2_same]; rfl, fun j hj => by omega, fun q q1 q2 q3 => by rw [up2_k (by omega), up2_k (by omega), up2_k (by omega)], fun x hx => by rw [up2_k (by omega), up2_k (by omega), up2_k (by omega)], fun x x1 x2 x3 x4 => by rw [up2_j x1, up2_j x4, up2_j x2]⟩
