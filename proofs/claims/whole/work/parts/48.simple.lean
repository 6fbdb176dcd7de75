/-! dayOf -/
theorem ct_dayOf {E : Nat × (Nat → Int32)} {c a : Mem} {s v : Int} (hs : RI s) (hv : RI v) (h : CTown c a) (hw : WTown a) : K_X11_dayOf E [.ref 0, vi s, vi v] c (fun z c' => ((0 ≤ s ∧ s < a 169 3 ∧ 0 ≤ v ∧ v < 7) ∧ z = a 175 s ∧ c' = up2 c (11 + 2 * s.toNat) 6 v) ∨ (¬ (0 ≤ s ∧ s < a 169 3 ∧ 0 ≤ v ∧ v < 7) ∧ z = -1 ∧ c' = c)) := by
  have e := h.1
  obtain ⟨w0, w6, -⟩ := hw
  refine en_X11_dayOf (sg_X11_dayOf_0 (by omega) hs hv (fun p q => ⟨_, rfl, Or.inr ⟨by omega, rfl, rfl⟩⟩) (fun p q r => ⟨_, rfl, Or.inl ⟨by omega, ?_, rfl⟩⟩) (fun p q r => ⟨_, rfl, Or.inr ⟨by omega, rfl, rfl⟩⟩) (fun p => ⟨_, rfl, Or.inr ⟨by omega, rfl, rfl⟩⟩))
  exact (h.s p.1 (by omega) w6).2.2.2.2.1
theorem mt_dayOf {E : Nat × (Nat → Int32)} {a : Mem} {s v : Int} (hs : RI s) (hv : RI v) (hw : WTown a) : K_X12_dayOf E [.ref 169, vi s, vi v] a (fun z a' => ((0 ≤ s ∧ s < a 169 3 ∧ 0 ≤ v ∧ v < 7) ∧ z = a 175 s ∧ a' = up2 (up2 a 169 0 0) 175 s v) ∨ (¬ (0 ≤ s ∧ s < a 169 3 ∧ 0 ≤ v ∧ v < 7) ∧ z = -1 ∧ a' = up2 a 169 0 0)) := by
  obtain ⟨w0, w6, -⟩ := hw
  have := hs.1; have := hs.2; have := hv.1; have := hv.2
  exact en_X12_dayOf (sg_X12_dayOf_0 (by omega) hs hv (by omega) (by omega) (fun p q => ⟨_, rfl, Or.inl ⟨by omega, rfl, rfl⟩⟩) (fun p q => ⟨_, rfl, Or.inr ⟨by omega, rfl, rfl⟩⟩) (fun p => ⟨_, rfl, Or.inr ⟨by omega, rfl, rfl⟩⟩))
/-! set -/
def setOk (a : Mem) (w v : Int) : Prop := (0 ≤ w ∧ w ≤ 6) ∧ leastT.getD w.toNat 0 ≤ v ∧ v ≤ greatT.getD w.toNat 0 ∧ (w = 0 → a 180 96 ≤ v)
theorem least_rng : ∀ i, RI (leastT.getD i 0) := by
  intro i
  rcases Nat.lt_or_ge i 7 with h | h
  · revert i; decide
  · rw [List.getD_eq_getElem?_getD, List.getElem?_eq_none (by exact h)]; decide
theorem great_rng : ∀ i, RI (greatT.getD i 0) := by
  intro i
  rcases Nat.lt_or_ge i 7 with h | h
  · revert i; decide
  · rw [List.getD_eq_getElem?_getD, List.getElem?_eq_none (by exact h)]; decide
theorem ct_change {E : Nat × (Nat → Int32)} {c : Mem} {w v : Int} (hw : RI w) (hv : RI v) : K_X6_change E [.ref 3, vi w, vi v] c (fun z c' => (((0 ≤ w ∧ w ≤ 6) ∧ leastT.getD w.toNat 0 ≤ v ∧ v ≤ greatT.getD w.toNat 0) ∧ z = c 4 w ∧ c' = up2 c 4 w v) ∨ (¬ ((0 ≤ w ∧ w ≤ 6) ∧ leastT.getD w.toNat 0 ≤ v ∧ v ≤ greatT.getD w.toNat 0) ∧ z = -1 ∧ c' = c)) := by
  exact en_X6_change (sg_X6_change_0 hw hv (fun _ _ => least_rng _) (fun _ _ _ => great_rng _) (fun p => ⟨_, rfl, Or.inr ⟨by omega, rfl, rfl⟩⟩) (fun p q => ⟨_, rfl, Or.inr ⟨by omega, rfl, rfl⟩⟩) (fun p q r => ⟨_, rfl, Or.inr ⟨by omega, rfl, rfl⟩⟩) (fun p q r t => ⟨_, rfl, Or.inl ⟨by omega, rfl, rfl⟩⟩) (fun p q r t => ⟨_, rfl, Or.inr ⟨by omega, rfl, rfl⟩⟩))
theorem ct_set {E : Nat × (Nat → Int32)} {c a : Mem} {w v : Int} (hw : RI w) (hv : RI v) (hs : CSet c a) (hn : c 23 3 = a 180 96) (h3 : RI (a 180 96)) : K_X11_set E [.ref 0, vi w, vi v] c (fun z c' => (setOk a w v ∧ z = a 179 w ∧ c' = up2 c 4 w v) ∨ (¬ setOk a w v ∧ z = -1 ∧ c' = c)) := by
  have fin : (w = 0 → a 180 96 ≤ v) → GM E (m_X11_set 1) (Pi (fun z c' => (setOk a w v ∧ z = a 179 w ∧ c' = up2 c 4 w v) ∨ (¬ setOk a w v ∧ z = -1 ∧ c' = c))) 23 [.ref 0, vi w, vi v] [vi v, vi w, .ref 3] c := fun g => by
    refine ca_X11_set_23 (ct_change hw hv) (fun z c2 hz => sg_X11_set_26 ⟨_, rfl, ?_⟩)
    rcases hz with ⟨⟨q1, q2, q3⟩, q4, q5⟩ | ⟨q1, q2, q3⟩
    · exact Or.inl ⟨⟨q1, q2, q3, g⟩, q4.trans (hs w (by omega) (by omega)), q5⟩
    · exact Or.inr ⟨fun o => q1 ⟨o.1, o.2.1, o.2.2.1⟩, q2, q3⟩
  exact en_X11_set (sg_X11_set_0 hw hv (fun _ => by rw [hn]; exact h3) (fun p => fin (fun q => absurd q p)) (fun p q => fin (fun _ => by omega)) (fun p q => ⟨_, rfl, Or.inr ⟨fun o => by have := o.2.2.2 p; omega, rfl, rfl⟩⟩))
theorem mlo {w s : Int} (h : 0 ≤ w ∧ w ≤ 6) : (if w ≠ 0 then (if w = 1 then (1 : Int) else (if w = 3 then (1 : Int) else (if w ≠ 4 then (0 : Int) else (1 : Int)))) else (max 1 s)) = if w = 0 then max 1 s else leastT.getD w.toNat 0 := by
  have : w = 0 ∨ w = 1 ∨ w = 2 ∨ w = 3 ∨ w = 4 ∨ w = 5 ∨ w = 6 := by omega
  rcases this with rfl | rfl | rfl | rfl | rfl | rfl | rfl <;> rfl
theorem mhi {w : Int} (h : 0 ≤ w ∧ w ≤ 6) : (if w = 0 then (999 : Int) else (if w ≠ 6 then (if w ≠ 1 then (if w ≠ 2 then (if w ≠ 3 then (99 : Int) else (2 : Int)) else (9 : Int)) else (4 : Int)) else (999 : Int))) = greatT.getD w.toNat 0 := by
  have : w = 0 ∨ w = 1 ∨ w = 2 ∨ w = 3 ∨ w = 4 ∨ w = 5 ∨ w = 6 := by omega
  rcases this with rfl | rfl | rfl | rfl | rfl | rfl | rfl <;> rfl
theorem mlo2 {w s v : Int} : ((if w = 0 then max 1 s else leastT.getD w.toNat 0) ≤ v) ↔ (leastT.getD w.toNat 0 ≤ v ∧ (w = 0 → s ≤ v)) := by
  by_cases c : w = 0
  · subst c
    rw [if_pos rfl]
    show max 1 s ≤ v ↔ 1 ≤ v ∧ _
    omega
  · rw [if_neg c]
    exact ⟨fun g => ⟨g, fun e => absurd e c⟩, fun g => g.1⟩
theorem mt_set {E : Nat × (Nat → Int32)} {a : Mem} {w v : Int} (hw : RI w) (hv : RI v) (h3 : RI (a 180 96)) : K_X12_set E [.ref 169, vi w, vi v] a (fun z a' => (setOk a w v ∧ z = a 179 w ∧ a' = up2 (up2 a 169 0 0) 179 w v) ∨ (¬ setOk a w v ∧ z = -1 ∧ a' = up2 a 169 0 0)) := by
  have := hw.1; have := hw.2; have := hv.1; have := hv.2
  have r1 : 0 ≤ w ∧ w ≤ 6 → RI (if w = 0 then max 1 (a 180 96) else leastT.getD w.toNat 0) := fun _ => by
    have := h3.1; have := h3.2
    split
    · constructor <;> omega
    · exact least_rng _
  refine en_X12_set (sg_X12_set_0 hw (by omega) (fun _ _ => h3) hv (fun p => by rw [mlo p]; exact r1 p) (fun p => by rw [mhi p]; exact great_rng _) (by omega) (fun p => by rw [mlo p]; have := r1 p; have := this.1; have := (r1 p).2; constructor <;> omega) (fun p => by rw [mhi p]; have := great_rng w.toNat; have := this.1; have := (great_rng w.toNat).2; constructor <;> omega) (fun p _ => by omega) (fun p q => ⟨_, rfl, Or.inl ?_⟩) (fun p q => ⟨_, rfl, Or.inr ⟨fun o => q ?_, rfl, rfl⟩⟩) (fun p => ⟨_, rfl, Or.inr ⟨fun o => p o.1, rfl, rfl⟩⟩))
  · rw [mlo p, mhi p, mlo2] at q
    exact ⟨⟨p, q.1.1, q.2, q.1.2⟩, rfl, rfl⟩
  · rw [mlo p, mhi p, mlo2]
    exact ⟨⟨o.2.1, o.2.2.2⟩, o.2.2.1⟩
/-! count -/
def countR (a : Mem) (w : Int) : Int := if w = 0 then a 169 3 else if w = 1 then a 180 97 else if w = 2 then a 180 96 else if w = 3 then a 180 98 else if w = 4 then cnt (a 180) 1 96 else if w = 5 then cnt (a 180) 2 96 else if w = 6 then cnt (a 180) 3 96 else if w = 7 then a 169 62 else if w = 8 then a 169 40 else if w = 9 then a 169 1 else if w = 10 then a 169 17 else if w = 11 then a 179 0 else -100
theorem ct_count {E : Nat × (Nat → Int32)} {c a : Mem} {w : Int} (hw : RI w) (h : CR0 c a) : K_X11_count E [.ref 0, vi w] c (fun z c' => z = countR a w ∧ c' = c) := by
  have n3 := h.now.2.1
  have n4 := h.now.2.2.1
  have n5 := h.now.2.2.2
  refine en_X11_count (sg_X11_count_0 hw (fun p => ⟨_, rfl, ?_, rfl⟩) (fun p0 p => ⟨_, rfl, ?_, rfl⟩) (fun p0 p1 p => ⟨_, rfl, ?_, rfl⟩) (fun p0 p1 p2 p => ⟨_, rfl, ?_, rfl⟩) (fun p0 p1 p2 p3 p => ?_) (fun p0 p1 p2 p3 p4 p => ?_) (fun p0 p1 p2 p3 p4 p5 p => ?_) (fun p0 p1 p2 p3 p4 p5 p6 p => ⟨_, rfl, ?_, rfl⟩) (fun p0 p1 p2 p3 p4 p5 p6 p7 p => ⟨_, rfl, ?_, rfl⟩) (fun p0 p1 p2 p3 p4 p5 p6 p7 p8 p => ⟨_, rfl, ?_, rfl⟩) (fun p0 p1 p2 p3 p4 p5 p6 p7 p8 p9 p => ⟨_, rfl, ?_, rfl⟩) (fun p0 p1 p2 p3 p4 p5 p6 p7 p8 p9 pa p => ⟨_, rfl, ?_, rfl⟩) (fun p0 p1 p2 p3 p4 p5 p6 p7 p8 p9 pa pb => ⟨_, rfl, ?_, rfl⟩))
  · subst p; exact h.town.1
  · subst p; exact n4
  · subst p; exact n3
  · subst p; exact n5
  · refine ca_X11_count_101 m23 (ct_countOf m23 (Or.inl rfl) h.now) (fun z c2 hz => sg_X11_count_104 ⟨_, rfl, ?_, hz.1⟩)
    subst p; exact hz.2
  · refine ca_X11_count_110 m23 (ct_countOf m23 (Or.inr (Or.inl rfl)) h.now) (fun z c2 hz => sg_X11_count_113 ⟨_, rfl, ?_, hz.1⟩)
    subst p; exact hz.2
  · refine ca_X11_count_119 m23 (ct_countOf m23 (Or.inr (Or.inr rfl)) h.now) (fun z c2 hz => sg_X11_count_122 ⟨_, rfl, ?_, hz.1⟩)
    subst p; exact hz.2
  · subst p; exact h.loads.1
  · subst p; exact h.hist.1
  · subst p; exact h.row.1
  · subst p; exact h.text.2.1
  · subst p; exact h.set 0 (by omega) (by omega)
  · unfold countR; rw [if_neg p0, if_neg p1, if_neg p2, if_neg p3, if_neg p4, if_neg p5, if_neg p6, if_neg p7, if_neg p8, if_neg p9, if_neg pa, if_neg pb]
theorem mt_count {E : Nat × (Nat → Int32)} {a : Mem} {w B : Int} (hw : RI w) (h : StOK B a (a 180)) : K_X12_count E [.ref 169, vi w] a (fun z a' => z = countR a w ∧ a' = up2 a 169 0 0) := by
  have e180 : up2 a 169 0 0 180 = a 180 := up2_k (by decide)
  have rr : ∀ b : Int, 0 ≤ b → b < 96 → RI (up2 a 169 0 0 180 b) := fun b b0 b1 => by rw [e180]; exact h.ri b0 b1
  refine en_X12_count (sg_X12_count_0 hw (fun p => ⟨_, rfl, ?_, rfl⟩) (fun p0 p => ⟨_, rfl, ?_, rfl⟩) (fun p0 p1 p => ⟨_, rfl, ?_, rfl⟩) (fun p0 p1 p2 p => ⟨_, rfl, ?_, rfl⟩) (fun p0 p1 p2 p3 p => ?_) (fun p0 p1 p2 p3 p4 p => ?_) (fun p0 p1 p2 p3 p4 p5 p => ?_) (fun p0 p1 p2 p3 p4 p5 p6 p => ⟨_, rfl, ?_, rfl⟩) (fun p0 p1 p2 p3 p4 p5 p6 p7 p => ⟨_, rfl, ?_, rfl⟩) (fun p0 p1 p2 p3 p4 p5 p6 p7 p8 p => ⟨_, rfl, ?_, rfl⟩) (fun p0 p1 p2 p3 p4 p5 p6 p7 p8 p9 p => ⟨_, rfl, ?_, rfl⟩) (fun p0 p1 p2 p3 p4 p5 p6 p7 p8 p9 pa p => ⟨_, rfl, ?_, rfl⟩) (fun p0 p1 p2 p3 p4 p5 p6 p7 p8 p9 pa pb => ⟨_, rfl, ?_, rfl⟩))
  · subst p; rfl
  · subst p; rfl
  · subst p; rfl
  · subst p; rfl
  · refine ca_X12_count_99 (ct_allBy (by decide) rr) (fun z c2 hz => sg_X12_count_102 ⟨_, rfl, ?_, hz.1⟩)
    subst p; rw [hz.2, e180]; rfl
  · refine ca_X12_count_105 (ct_allBy (by decide) rr) (fun z c2 hz => sg_X12_count_108 ⟨_, rfl, ?_, hz.1⟩)
    subst p; rw [hz.2, e180]; rfl
  · refine ca_X12_count_111 (ct_allBy (by decide) rr) (fun z c2 hz => sg_X12_count_114 ⟨_, rfl, ?_, hz.1⟩)
    subst p; rw [hz.2, e180]; rfl
  · subst p; rfl
  · subst p; rfl
  · subst p; rfl
  · subst p; rfl
  · subst p; rfl
  · unfold countR; rw [if_neg p0, if_neg p1, if_neg p2, if_neg p3, if_neg p4, if_neg p5, if_neg p6, if_neg p7, if_neg p8, if_neg p9, if_neg pa, if_neg pb]
/-! forget -/
theorem ct_forget {E : Nat × (Nat → Int32)} {c : Mem} : K_X11_forget E [.ref 0] c (fun z c' => z = c 93 4 ∧ c' = up2 c 93 4 0) := en_X11_forget (sg_X11_forget_0 ⟨_, rfl, rfl, rfl⟩)
theorem mt_forget {E : Nat × (Nat → Int32)} {a : Mem} : K_X12_forget E [.ref 169] a (fun z a' => z = a 169 62 ∧ a' = up2 (up2 a 169 0 0) 169 62 0) := en_X12_forget (sg_X12_forget_0 ⟨_, rfl, rfl, rfl⟩)
