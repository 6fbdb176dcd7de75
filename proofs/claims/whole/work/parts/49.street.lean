/-! street -/
def streetR (a : Mem) (s w : Int) : Int := if w = 0 then a 171 s else if w = 1 then a 172 s else if w = 2 then a 173 s else if w = 3 then a 174 s else if w = 4 then a 175 s else if w = 5 then a 176 s else if w = 6 then a 177 s else if w = 7 then rO (a 180) s 16 else rW a (a 180) s (a 179 2) 16
theorem cntO {c : Mem} {o : Nat} {r : Int → Int} (h : StRel c o r) {s : Int} (h0 : 0 ≤ s) (h6 : s < 6) : pop (c (o + 1) s) = rO r s 16 := h.cntOf s h0 h6
theorem ct_street {E : Nat × (Nat → Int32)} {c a : Mem} {s w : Int} (h : CR0 c a) (ht : WTown a) (s0 : 0 ≤ s) (s1 : s < a 169 3) (w0 : 0 ≤ w) (w8 : w ≤ 8) : K_X11_street E [.ref 0, vi s, vi w] c (fun z c' => z = streetR a s w ∧ c' = c) := by
  have e := h.town.1
  obtain ⟨n0, n6, t1, -⟩ := ht
  obtain ⟨e2, e3, e4, e5, e6, e7, e8, e9⟩ := h.town.s s0 s1 n6
  have t := t1 s s0 (by omega)
  have m := streetMem s.toNat (by omega)
  refine en_X11_street (sg_X11_street_0 (by omega) (by omega) (by omega) (fun _ _ _ _ _ => by omega) (fun _ _ _ _ _ _ _ _ _ => by omega) (fun _ _ _ _ _ _ _ _ _ _ => by omega) (fun _ p => ⟨_, rfl, ?_, rfl⟩) (fun _ p0 p => ⟨_, rfl, ?_, rfl⟩) (fun _ p0 p1 p => ⟨_, rfl, ?_, rfl⟩) (fun _ p0 p1 p2 p q => ⟨_, rfl, ?_, rfl⟩) (fun _ p0 p1 p2 p q => ⟨_, rfl, ?_, rfl⟩) (fun _ p0 p1 p2 p3 p => ⟨_, rfl, ?_, rfl⟩) (fun _ p0 p1 p2 p3 p4 p => ⟨_, rfl, ?_, rfl⟩) (fun _ p0 p1 p2 p3 p4 p5 p => ⟨_, rfl, ?_, rfl⟩) (fun _ p0 p1 p2 p3 p4 p5 p6 p => ?_) (fun _ p0 p1 p2 p3 p4 p5 p6 p7 p => ?_) (fun _ p0 p1 p2 p3 p4 p5 p6 p7 p => by omega) (fun p => by omega))
  · subst p; exact e2
  · subst p; exact e3
  · subst p; exact e4
  · subst p; show 0 = a 174 s; omega
  · subst p; show 1 = a 174 s; omega
  · subst p; exact e6
  · subst p; exact e7
  · subst p; exact e8
  · refine ca_X11_street_127 (ct_bitCount (h.now.1 s s0 (by omega)).1) (fun z c2 hz => sg_X11_street_130 m ⟨_, rfl, ?_, hz.1⟩)
    subst p
    exact hz.2.trans (cntO h.now s0 (by omega))
  · refine ca_X11_street_152 (ct_weigh m) (fun z c2 hz => sg_X11_street_155 m ⟨_, rfl, ?_, hz.1⟩)
    subst p
    rw [hz.2, weigh_eq h.town h.set h.now s0 s1 n6, h.set 2 (by omega) (by omega)]
    rfl
theorem rW_congr {a b : Mem} {r r' : Int → Int} {s rain : Int} {n : Nat} (h8 : b 178 = a 178) (h9 : b 179 = a 179) (hr : r' = r) : rW b r' s rain n = rW a r s rain n := by
  unfold rW hv
  rw [h8, h9, hr]
theorem rT_congr {a b : Mem} {r r' : Int → Int} {s rain : Int} {n : Nat} (h8 : b 178 = a 178) (h9 : b 179 = a 179) (hr : r' = r) : rT b r' s rain n = rT a r s rain n := by
  unfold rT hv
  rw [h8, h9, hr]
theorem ite_ne1 {x y : Int} : (if x ≠ 1 then (0 : Int) else y) = if x = 1 then y else 0 := by
  by_cases c : x = 1
  · rw [if_neg (fun g => g c), if_pos c]
  · rw [if_pos c, if_neg c]
theorem mt_street_loop {E : Nat × (Nat → Int32)} {P : Option Value → Mem → Prop} {m : Mem} {s w : Int} (s0 : 0 ≤ s) (s6 : s < 6) (hr : ∀ b : Int, 0 ≤ b → b < 96 → RI (m 180 b)) (hP : P (some (vi (rW m (m 180) s (m 179 2) 16))) m) : GM E (m_X12_street 2) P 146 [.ref 169, vi s, vi w, vi 0, vi (16 * s)] [] m := by
  refine up_loop (i0 := 16 * s) (n := 16 * (s + 1)) (fun i (x : Int) => GM E _ _ 146 [.ref 169, vi s, vi w, vi x, vi i] [] m) (fun i x => x = rW m (m 180) s (m 179 2) (i - 16 * s).toNat) (fun x h => ?_) (fun i x a0 a1 h k => ?_) (i := 16 * s) (s := 0) (by omega) (by omega) (by rw [Int.sub_self]; rfl)
  · refine sg_X12_street_146 (by omega) (by omega) (by omega) (by omega) (by omega) (fun _ => ?_) (by omega)
    rw [h, show 16 * (s + 1) - 16 * s = 16 by omega]
    exact hP
  · refine sg_X12_street_146 (by omega) (by omega) (by omega) (fun _ => hr i (by omega) (by omega)) (by omega) (by omega) (fun _ => k _ ?_)
    rw [show i + 1 - 16 * s = (i - 16 * s) + 1 by omega, ite_ne1]
    unfold rW at h ⊢
    rw [sumI_step (by omega), ← h, show 16 * s + (i - 16 * s) = i by omega]
    rfl
theorem mt_street {E : Nat × (Nat → Int32)} {a : Mem} {s w B : Int} (hs : RI s) (hw : RI w) (ht : WTown a) (hn : StOK B a (a 180)) : K_X12_street E [.ref 169, vi s, vi w] a (fun z a' => ((0 ≤ s ∧ s < a 169 3 ∧ 0 ≤ w ∧ w ≤ 8) ∧ z = streetR a s w ∧ a' = up2 a 169 0 0) ∨ (¬ (0 ≤ s ∧ s < a 169 3 ∧ 0 ≤ w ∧ w ≤ 8) ∧ z = 0 ∧ a' = up2 (up2 a 169 0 0) 169 0 1)) := by
  obtain ⟨n0, n6, t1, -⟩ := ht
  have := hs.1; have := hs.2; have := hw.1; have := hw.2
  have e180 : up2 a 169 0 0 180 = a 180 := up2_k (by decide)
  have rr : ∀ b : Int, 0 ≤ b → b < 96 → RI (up2 a 169 0 0 180 b) := fun b b0 b1 => by rw [e180]; exact hn.ri b0 b1
  refine en_X12_street (sg_X12_street_0 (by omega) hs hw (by omega) (fun _ _ _ => by omega) (fun _ _ _ _ => by omega) (fun _ _ _ _ _ => by omega) (fun _ _ _ _ _ _ => by omega) (fun p _ _ _ _ _ => by have := t1 s p.1 (by omega); omega) (fun _ _ _ _ _ _ _ => by omega) (fun _ _ _ _ _ _ _ _ => by omega) (fun _ _ _ _ _ _ _ _ _ => by omega) (fun g g2 p => ⟨_, rfl, Or.inl ⟨by omega, ?_, rfl⟩⟩) (fun g g2 p0 p => ⟨_, rfl, Or.inl ⟨by omega, ?_, rfl⟩⟩) (fun g g2 p0 p1 p => ⟨_, rfl, Or.inl ⟨by omega, ?_, rfl⟩⟩) (fun g g2 p0 p1 p2 p q => ⟨_, rfl, Or.inl ⟨by omega, ?_, rfl⟩⟩) (fun g g2 p0 p1 p2 p q => ⟨_, rfl, Or.inl ⟨by omega, ?_, rfl⟩⟩) (fun g g2 p0 p1 p2 p3 p => ⟨_, rfl, Or.inl ⟨by omega, ?_, rfl⟩⟩) (fun g g2 p0 p1 p2 p3 p4 p => ⟨_, rfl, Or.inl ⟨by omega, ?_, rfl⟩⟩) (fun g g2 p0 p1 p2 p3 p4 p5 p => ⟨_, rfl, Or.inl ⟨by omega, ?_, rfl⟩⟩) (fun g g2 p0 p1 p2 p3 p4 p5 p6 p => ?_) (fun g g2 p0 p1 p2 p3 p4 p5 p6 p7 => ?_) (fun g g2 => ⟨_, rfl, Or.inr ⟨by omega, rfl, rfl⟩⟩) (fun g => ⟨_, rfl, Or.inr ⟨by omega, rfl, rfl⟩⟩))
  · subst p; rfl
  · subst p; rfl
  · subst p; rfl
  · subst p; have := t1 s g.1 (by omega); show 1 = a 174 s; omega
  · subst p; have := t1 s g.1 (by omega); show 0 = a 174 s; omega
  · subst p; rfl
  · subst p; rfl
  · subst p; rfl
  · refine ca_X12_street_134 (mt_outOf (by decide) (by decide) g.1 (by omega) rr) (fun z c2 hz => sg_X12_street_137 ⟨_, rfl, Or.inl ⟨by omega, ?_, hz.1⟩⟩)
    subst p
    rw [hz.2, e180]
    rfl
  · refine mt_street_loop g.1 (by omega) rr ⟨_, rfl, Or.inl ⟨by omega, ?_, rfl⟩⟩
    have : w = 8 := by omega
    subst this
    rw [rW_congr (a := a) (r := a 180) (up2_k (by decide)) (up2_k (by decide)) e180]
    rfl
/-! wet -/
theorem rT_rng {sg : Mem} {r : Int → Int} {s rain : Int} {n : Nat} : 0 ≤ rT sg r s rain n ∧ rT sg r s rain n ≤ n := by
  have := sumI_bound (f := fun h => if (if r (16 * s + h) = 1 then hv sg (16 * s + h) rain else 0) ≤ sg 179 4 then (0 : Int) else 1) (c := 1) (n := n) (fun i _ _ => by
    show 0 ≤ (if (if r (16 * s + i) = 1 then hv sg (16 * s + i) rain else 0) ≤ sg 179 4 then (0 : Int) else 1) ∧ (if (if r (16 * s + i) = 1 then hv sg (16 * s + i) rain else 0) ≤ sg 179 4 then (0 : Int) else 1) ≤ 1
    split <;> omega)
  unfold rT
  omega
theorem ct_wet {E : Nat × (Nat → Int32)} {c a : Mem} {s v : Int} (hs : RI s) (hv : RI v) (h : CR0 c a) (ht : WTown a) (hS : WSet a) : K_X11_wet E [.ref 0, vi s, vi v] c (fun z c' => ((0 ≤ s ∧ s < a 169 3 ∧ 0 ≤ v ∧ v ≤ 9) ∧ z = rW a (a 180) s v 16 ∧ c' = up2 (up2 (up2 c 0 14 0) 168 0 (rT a (a 180) s v 16)) 0 14 1) ∨ (¬ (0 ≤ s ∧ s < a 169 3 ∧ 0 ≤ v ∧ v ≤ 9) ∧ z = -1 ∧ c' = c)) := by
  have e := h.town.1
  obtain ⟨n0, n6, t1, -⟩ := ht
  have l1 := hS.2.2.2.2.2.2.2.2.1
  have l2 := hS.2.2.2.2.2.2.2.2.2.1
  have e4 := h.set 4 (by omega) (by omega)
  refine en_X11_wet (sg_X11_wet_0 (by omega) hs hv (by omega) (fun p q => ⟨_, rfl, Or.inr ⟨by omega, rfl, rfl⟩⟩) (fun p q r => ?_) (fun p q r => ⟨_, rfl, Or.inr ⟨by omega, rfl, rfl⟩⟩) (fun p => ⟨_, rfl, Or.inr ⟨by omega, rfl, rfl⟩⟩))
  have m := streetMem s.toNat (by omega)
  refine ca_X11_wet_40 (ct_tooHeavy m (by omega)) (fun z c2 hz => ?_)
  obtain ⟨rfl, rfl⟩ := hz
  rw [tooH_eq h.town h.set h.now p.1 (by omega) n6 (by omega)]
  refine sg_X11_wet_43 m ?_ (by omega) ?_
  · have t0 := rT_rng (sg := a) (r := a 180) (s := s) (rain := v) (n := 16)
    omega
  · have e : ∀ k, k ≠ 0 → k ≠ 168 → up2 (up2 (up2 c2 0 14 0) 168 0 (rT a (a 180) s v 16)) 0 14 1 k = c2 k := fun k q1 q2 => by rw [up2_k q1, up2_k q2, up2_k q1]
    revert e
    generalize up2 (up2 (up2 c2 0 14 0) 168 0 (rT a (a 180) s v 16)) 0 14 1 = C
    intro e
    refine ca_X11_wet_61 (ct_weigh m) (fun z c3 hz => sg_X11_wet_64 m ⟨_, rfl, Or.inl ⟨by omega, ?_, hz.1⟩⟩)
    rw [hz.2, ← e 24 (by omega) (by omega)]
    exact weigh_eq (c := C) (r := a 180) (h.town.fr (e _ (by omega) (by omega)) (fun s _ => ⟨e _ (by omega) (by omega), e _ (by omega) (by omega)⟩)) (h.set.fr (e _ (by omega) (by omega))) (h.now.congr (e _ (by omega) (by omega)) (e _ (by omega) (by omega)) (e _ (by omega) (by omega)) (e _ (by omega) (by omega))) p.1 (by omega) n6
theorem mt_wet {E : Nat × (Nat → Int32)} {a : Mem} {s v B : Int} (hs : RI s) (hvv : RI v) (ht : WTown a) (hS : WSet a) (hn : StOK B a (a 180)) : K_X12_wet E [.ref 169, vi s, vi v] a (fun z a' => ((0 ≤ s ∧ s < a 169 3 ∧ 0 ≤ v ∧ v ≤ 9) ∧ z = rW a (a 180) s v 16 ∧ a' = up2 (up2 (up2 (up2 a 169 0 0) 169 1 0) 170 0 (rT a (a 180) s v 16)) 169 1 1) ∨ (¬ (0 ≤ s ∧ s < a 169 3 ∧ 0 ≤ v ∧ v ≤ 9) ∧ z = -1 ∧ a' = up2 a 169 0 0)) := by
  have hT := ht
  obtain ⟨n0, n6, t1, -⟩ := ht
  have l1 := hS.2.2.2.2.2.2.2.2.1
  have l2 := hS.2.2.2.2.2.2.2.2.2.1
  have := hs.1; have := hs.2; have := hvv.1; have := hvv.2
  refine en_X12_wet (sg_X12_wet_0 (by omega) hs hvv (by omega) (fun p q => ?_) (fun p q => ⟨_, rfl, Or.inr ⟨by omega, rfl, rfl⟩⟩) (fun p => ⟨_, rfl, Or.inr ⟨by omega, rfl, rfl⟩⟩))
  have e180 : up2 a 169 0 0 180 = a 180 := up2_k (by decide)
  have e178 : up2 a 169 0 0 178 = a 178 := up2_k (by decide)
  have e179 : up2 a 169 0 0 179 = a 179 := up2_k (by decide)
  have eR : ∀ n, rW (up2 a 169 0 0) (up2 a 169 0 0 180) s v n = rW a (a 180) s v n := fun n => rW_congr e178 e179 e180
  have eT : ∀ n, rT (up2 a 169 0 0) (up2 a 169 0 0 180) s v n = rT a (a 180) s v n := fun n => rT_congr e178 e179 e180
  refine up_loop (i0 := 16 * s) (n := 16 * (s + 1)) (fun i (x : Int × Int) => GM E _ _ 38 [.ref 169, vi s, vi v, vi x.1, vi x.2, vi i, un] [] (up2 a 169 0 0)) (fun i x => x.1 = rW a (a 180) s v (i - 16 * s).toNat ∧ x.2 = rT a (a 180) s v (i - 16 * s).toNat) (fun x h => ?_) (fun i x a0 a1 h k => ?_) (i := 16 * s) (s := (0, 0)) (by omega) (by omega) (by rw [Int.sub_self]; exact ⟨rfl, rfl⟩)
  · obtain ⟨x1, x2⟩ := x
    obtain ⟨h1, h2⟩ := h
    have h1 : x1 = rW a (a 180) s v (16 * (s + 1) - 16 * s).toNat := h1
    have h2 : x2 = rT a (a 180) s v (16 * (s + 1) - 16 * s).toNat := h2
    rw [show (16 * (s + 1) - 16 * s).toNat = 16 by omega] at h1 h2
    have t0 := rT_rng (sg := a) (r := a 180) (s := s) (rain := v) (n := 16)
    refine sg_X12_wet_38 (by omega) (by omega) (by omega) (by omega) (by omega) (by omega) (by omega) (by omega) (fun _ => ⟨_, rfl, Or.inl ⟨by omega, h1, ?_⟩⟩) (by omega) (by omega)
    rw [h2]
  · obtain ⟨x1, x2⟩ := x
    obtain ⟨h1, h2⟩ := h
    have h1 : x1 = rW a (a 180) s v (i - 16 * s).toNat := h1
    have h2 : x2 = rT a (a 180) s v (i - 16 * s).toNat := h2
    have t0 := rT_rng (sg := a) (r := a 180) (s := s) (rain := v) (n := (i - 16 * s).toNat)
    have ei : 16 * s + (i - 16 * s) = i := by omega
    have hh := hv_rng (b := i) (rain := v) (hT.w (by omega) (by omega)) hS ⟨q.1, by omega⟩
    have eh : (if up2 a 169 0 0 180 i ≠ 1 then (0 : Int) else (divI (((up2 a 169 0 0 178 i) * (up2 a 169 0 0 179 3)) * (10 + v)) 10)) = if a 180 i = 1 then hv a i v else 0 := by
      rw [ite_ne1, e180, e178, e179]; rfl
    have hb : 0 ≤ (if a 180 i = 1 then hv a i v else 0) ∧ (if a 180 i = 1 then hv a i v else 0) ≤ 34 := by split <;> omega
    have s1 : rW a (a 180) s v (i + 1 - 16 * s).toNat = x1 + (if a 180 i = 1 then hv a i v else 0) := by
      rw [show i + 1 - 16 * s = (i - 16 * s) + 1 by omega, h1]
      unfold rW
      rw [sumI_step (by omega), ei]
    have s2 : rT a (a 180) s v (i + 1 - 16 * s).toNat = x2 + (if (if a 180 i = 1 then hv a i v else 0) ≤ a 179 4 then 0 else 1) := by
      rw [show i + 1 - 16 * s = (i - 16 * s) + 1 by omega, h2]
      unfold rT
      rw [sumI_step (by omega), ei]
    refine sg_X12_wet_38 (by omega) (by omega) (by omega) (by omega) (fun _ => by rw [e180]; exact hn.ri (by omega) (by omega)) (fun _ _ => by omega) (fun _ => by rw [eh]; omega) (fun _ => by rw [e179]; omega) (by omega) (fun _ g => ?_) (fun _ g => ?_)
    · rw [eh, e179] at g
      refine k (_, _) ⟨?_, ?_⟩
      · rw [s1, eh]
      · rw [s2, if_pos g]
    · rw [eh, e179] at g
      refine k (_, _) ⟨?_, ?_⟩
      · rw [s1, eh]
      · rw [s2, if_neg g]
