/-! tip, pause -/
theorem ct_tip {E : Nat × (Nat → Int32)} {c a : Mem} {B : Int} (h : CR0 c a) (w : W0 B a) (hB : B ≤ 1000000000) : K_X11_tip E [.ref 0] c (fun z c' => (tipOk a (a 180) ∧ z = tipD a (a 180) + 300 ∧ CR0 c' (actU a (tipR a (a 180)) 1 (rwL [a 180 96])) ∧ RF c c' ∧ HighEq c c') ∨ (¬ tipOk a (a 180) ∧ z = -2 ∧ CQ c c' (a 169 1) (a 170))) := by
  have r96 := w.now.2.1
  have r96' := w.now.2.2.1
  have r97 := w.now.2.2.2.1
  have r97' := w.now.2.2.2.2.1
  have w5 := w.set.2.2.2.2.2.2.2.2.2.2.1
  have w5' := w.set.2.2.2.2.2.2.2.2.2.2.2.1
  have d : 0 ≤ tipD a (a 180) ∧ tipD a (a 180) ≤ 990 := dist_rng r97 r97' w5 w5'
  refine en_X11_tip (sg_X11_tip_0 (ca_X11_tip_8 (ct_note h.now) (fun c1 hc => sg_X11_tip_11 ?_)))
  obtain ⟨b1, n1⟩ := hc
  have e3 : c1 23 3 = a 180 96 := (note_rel h.now n1).2.1
  rw [e3]
  refine ca_X11_tip_21 (ct_goTip (note_set h.set n1) (note_rel h.now n1) w.set w.now) (fun z c2 hz => sg_X11_tip_24 ?_)
  have f2 : AF c1 c2 := by
    rcases hz with ⟨-, -, -, e⟩ | ⟨-, -, e⟩
    · exact AF.of e
    · rw [e]; exact AF.of (fun _ _ => rfl)
  have rz : RI z := by
    rcases hz with ⟨p, e, -, -⟩ | ⟨-, e, -⟩
    · rw [e]; constructor <;> omega
    · rw [e]; decide
  refine ca_X11_tip_24 (ct_remember (b := pushU a) rz (f2.hist (note_hist h.hist n1)) w.hist.1 (f2.before b1) (fun _ => pushU_pushed w.hist.1 w.hist.2.1)) (fun z' c3 h3 => ?_)
  obtain ⟨rfl, g1, g2, g3⟩ := h3
  refine sg_X11_tip_27 rz ⟨by omega, by omega⟩ (fun q => ⟨_, rfl, ?_⟩) (fun q => ⟨_, rfl, ?_⟩)
  · rcases hz with ⟨p, e, st, -⟩ | ⟨p, e, e2⟩
    · omega
    · rw [g1 (by omega), e2]
      exact Or.inr ⟨p, e, act_ref h n1⟩
  · rcases hz with ⟨p, e, st, -⟩ | ⟨p, e, e2⟩
    · refine Or.inl ⟨p, e, act_rel h n1 f2 st (g2 (by omega)) g3 (fun k h0 h8 => by rw [up2_k h0, up2_k h8, up2_k h0]) (up2_same _ _ _ _) (fun j j0 j1 => ?_)⟩
      have : j = 0 := by omega
      subst this
      rw [up2_k (by decide), up2_same]
      rfl
    · omega
theorem mt_counts0 {E : Nat × (Nat → Int32)} {m : Mem} {z : Int} (hz : 0 ≤ z) (rz : RI z) (u0 : 0 ≤ m 169 40) (u1 : m 169 40 ≤ 15) : K_X12_counts E [.ref 169, vi z] m (fun z' m' => z' = z ∧ m' = addU m) :=
  en_X12_counts (sg_X12_counts_0 rz (fun _ => ca_X12_counts_10 (ct_adds u0 u1) (fun y m4 hy => sg_X12_counts_13 ⟨_, rfl, hy⟩)) (fun q => absurd hz q))
theorem mt_counts1 {E : Nat × (Nat → Int32)} {m : Mem} {z : Int} (hz : z < 0) (rz : RI z) : K_X12_counts E [.ref 169, vi z] m (fun z' m' => z' = z ∧ m' = m) :=
  en_X12_counts (sg_X12_counts_0 rz (fun q => by omega) (fun _ => ⟨_, rfl, rfl, rfl⟩))
theorem mt_tip {E : Nat × (Nat → Int32)} {m a : Mem} {B : Int} (hm : HighEq a m) (w : W0 B a) (hB : B ≤ 1000000000) : K_X12_tip E [.ref 169] m (fun z m' => (tipOk a (a 180) ∧ z = tipD a (a 180) + 300 ∧ PEq m' (actU m (tipR a (a 180)) 1 (rwL [a 180 96])) ∧ LowEq m m') ∨ (¬ tipOk a (a 180) ∧ z = -2 ∧ PEq m' m ∧ LowEq m m')) := by
  have e9 := hm 169 (by decide)
  have r96 := w.now.2.1
  have r96' := w.now.2.2.1
  have r97 := w.now.2.2.2.1
  have r97' := w.now.2.2.2.2.1
  have w5 := w.set.2.2.2.2.2.2.2.2.2.2.1
  have w5' := w.set.2.2.2.2.2.2.2.2.2.2.2.1
  have d : 0 ≤ tipD a (a 180) ∧ tipD a (a 180) ≤ 990 := dist_rng r97 r97' w5 w5'
  have u0 := w.hist.1
  have u1 := w.hist.2.1
  refine en_X12_tip (sg_X12_tip_0 ?_)
  refine ca_X12_tip_6 (ct_putsBy (by rw [up2_j (by decide), e9]; exact u0) (by rw [up2_j (by decide), e9]; exact u1)) (fun m1 h1 => sg_X12_tip_9 ?_)
  have k1 : ∀ k, k ≠ 169 → k ≠ 190 → m1 k = m k := fun k h h2 => by rw [h1]; exact by_k h h2
  have f1 : ∀ j : Int, j ≠ 0 → m1 169 j = m 169 j := fun j h => by rw [h1]; exact by_f h
  have x1 : m1 190 = mv m 180 0 190 (99 * m 169 40) 99 190 := by rw [h1]; exact by_190
  have y180 : m1 180 = a 180 := by rw [k1 180 (by decide) (by decide), hm 180 (by decide)]
  have l1 : LowEq m m1 := fun k hk => k1 k (by omega) (by omega)
  have p1 : PEq m1 m := by
    rw [h1]
    exact putsBy_peq.trans (PEq.field npf0)
  clear h1
  have g := mt_tips (E := E) (m := m1) (a := a) (r := 180) (by decide) (by decide) (by rw [k1 179 (by decide) (by decide), hm 179 (by decide)]) w.set (by rw [y180]; exact ⟨r97, r97'⟩)
  rw [y180] at g
  refine ca_X12_tip_14 g (fun z m2 hz => ?_)
  rcases hz with ⟨p, e, s1, s2, s3, s4⟩ | ⟨p, e, e2⟩
  · refine sg_X12_tip_17 (by rw [e]; constructor <;> omega) (fun _ => by rw [s2]; constructor <;> omega) (by omega) (fun _ => ?_)
    have c40 : up2 (up2 (up2 m2 169 1 0) 170 0 (m2 169 42)) 169 1 1 169 40 = m 169 40 := by
      rw [up2_j (by decide), up2_k (by decide), up2_j (by decide), s4 40 (by decide), f1 40 (by decide)]
    refine ca_X12_tip_38 (mt_counts0 (by omega) (by rw [e]; constructor <;> omega) (by rw [c40, e9]; exact u0) (by rw [c40, e9]; exact u1)) (fun y m4 hy => sg_X12_tip_41 ⟨_, rfl, Or.inl ?_⟩)
    have hy : y = z ∧ m4 = addU (up2 (up2 (up2 m2 169 1 0) 170 0 (m2 169 42)) 169 1 1) := hy
    obtain ⟨rfl, rfl⟩ := hy
    refine ⟨p, e, act_peq ?_ c40 (fun b b0 b1 => ?_) (fun k hk h9 h0 h8 h19 => ?_) (fun j hj h1 h40 => ?_) (up2_same _ _ _ _) (fun j j0 j1 => ?_), fun k hk => ?_⟩
    · rw [up2_k (by decide), up2_k (by decide), up2_k (by decide), s3 190 (by decide) (by decide), x1]
    · rw [up2_k (by decide), up2_k (by decide), up2_k (by decide)]; exact s1 b
    · rw [up2_k h9, up2_k h0, up2_k h9, s3 k h8 h9, k1 k h9 h19]
    · have := hj.not
      rw [up2_j h1, up2_k (by decide), up2_j h1, s4 j (by omega), f1 j (by omega)]
    · have : j = 0 := by omega
      subst this
      rw [up2_k (by decide), up2_same, s2]
      rfl
    · rw [addU_low hk, up2_k (by omega), up2_k (by omega), up2_k (by omega), s3 k (by omega) (by omega), l1 k hk]
  · refine sg_X12_tip_17 (by rw [e]; decide) (by omega) (fun _ => ?_) (by omega)
    refine ca_X12_tip_38 (mt_counts1 (by omega) (by rw [e]; decide)) (fun y m4 hy => sg_X12_tip_41 ⟨_, rfl, Or.inr ?_⟩)
    obtain ⟨rfl, rfl⟩ := hy
    rw [e2]
    exact ⟨p, e, p1, l1⟩
theorem ct_pause {E : Nat × (Nat → Int32)} {c a : Mem} {n B : Int} (rn : RI n) (h : CR0 c a) (w : W0 B a) (hB : B ≤ 1000000000) : K_X11_pause E [.ref 0, vi n] c (fun z c' => ((0 ≤ n ∧ n ≤ 9999) ∧ z = a 180 98 + n ∧ CR0 c' (actU a (pauseR (a 180) n) (a 169 1) (a 170)) ∧ RF c c' ∧ HighEq c c') ∨ (¬ (0 ≤ n ∧ n ≤ 9999) ∧ z = -1 ∧ CQ c c' (a 169 1) (a 170))) := by
  have r98 := w.now.2.2.2.2.2.1
  have r98' := w.now.2.2.2.2.2.2
  refine en_X11_pause (sg_X11_pause_0 (ca_X11_pause_8 (ct_note h.now) (fun c1 hc => sg_X11_pause_11 ?_)))
  obtain ⟨b1, n1⟩ := hc
  refine ca_X11_pause_14 (ct_waitFor rn (note_rel h.now n1)) (fun z c2 hz => sg_X11_pause_17 ?_)
  have f2 : AF c1 c2 := by
    rcases hz with ⟨-, -, -, e⟩ | ⟨-, -, e⟩
    · exact AF.of e
    · rw [e]; exact AF.of (fun _ _ => rfl)
  have rz : RI z := by
    rcases hz with ⟨p, e, -, -⟩ | ⟨-, e, -⟩
    · rw [e]; constructor <;> omega
    · rw [e]; decide
  refine ca_X11_pause_17 (ct_remember (b := pushU a) rz (f2.hist (note_hist h.hist n1)) w.hist.1 (f2.before b1) (fun _ => pushU_pushed w.hist.1 w.hist.2.1)) (fun z' c3 h3 => sg_X11_pause_20 ⟨_, rfl, ?_⟩)
  obtain ⟨rfl, g1, g2, g3⟩ := h3
  rcases hz with ⟨p, e, st, -⟩ | ⟨p, e, e2⟩
  · have rr := row_stays h n1 f2 g3
    exact Or.inl ⟨p, e, act_rel h n1 f2 st (g2 (by omega)) g3 (fun _ _ _ => rfl) rr.1 rr.2⟩
  · rw [g1 (by omega), e2]
    exact Or.inr ⟨p, e, act_ref h n1⟩
theorem mt_pause {E : Nat × (Nat → Int32)} {m a : Mem} {n B : Int} (rn : RI n) (hm : HighEq a m) (w : W0 B a) : K_X12_pause E [.ref 169, vi n] m (fun z m' => ((0 ≤ n ∧ n ≤ 9999) ∧ z = a 180 98 + n ∧ PEq m' (actU m (pauseR (a 180) n) (a 169 1) (a 170)) ∧ LowEq m m') ∨ (¬ (0 ≤ n ∧ n ≤ 9999) ∧ z = -1 ∧ PEq m' m ∧ LowEq m m')) := by
  have e9 := hm 169 (by decide)
  have u0 := w.hist.1
  have u1 := w.hist.2.1
  have := rn.1
  have := rn.2
  refine en_X12_pause (sg_X12_pause_0 rn ⟨by omega, by omega⟩ (fun p => ?_) (fun p => ⟨_, rfl, Or.inr ⟨p, rfl, PEq.field npf0, fun k hk => up2_k (by omega)⟩⟩))
  refine ca_X12_pause_20 (ct_putsBy (by rw [up2_j (by decide), e9]; exact u0) (by rw [up2_j (by decide), e9]; exact u1)) (fun m1 h1 => sg_X12_pause_23 ?_)
  have k1 : ∀ k, k ≠ 169 → k ≠ 190 → m1 k = m k := fun k h h2 => by rw [h1]; exact by_k h h2
  have f1 : ∀ j : Int, j ≠ 0 → m1 169 j = m 169 j := fun j h => by rw [h1]; exact by_f h
  have x1 : m1 190 = mv m 180 0 190 (99 * m 169 40) 99 190 := by rw [h1]; exact by_190
  have y180 : m1 180 = a 180 := by rw [k1 180 (by decide) (by decide), hm 180 (by decide)]
  clear h1
  refine ca_X12_pause_42 (ct_adds (by rw [up2_k (by decide), f1 40 (by decide), e9]; exact u0) (by rw [up2_k (by decide), f1 40 (by decide), e9]; exact u1)) (fun z m2 hz => sg_X12_pause_45 ⟨_, rfl, Or.inl ?_⟩)
  obtain ⟨rfl, rfl⟩ := hz
  refine ⟨p, by rw [y180], act_peq ?_ ?_ (fun b b0 b1 => ?_) (fun k hk h9 h0 h8 h19 => ?_) (fun j hj h1 h40 => ?_) ?_ (fun j j0 j1 => ?_), fun k hk => ?_⟩
  · rw [up2_k (by decide), x1]
  · rw [up2_k (by decide), f1 40 (by decide)]
  · unfold pauseR lorry
    by_cases c : b = 98
    · subst c; rw [up2_same, pt_same, y180]
    · rw [up2_j c, pt_ne c, y180]
      by_cases c2 : b = 97
      · subst c2; rw [pt_same]
      · rw [pt_ne c2]
        by_cases c3 : b = 96
        · subst c3; rw [pt_same]
        · rw [pt_ne c3]
  · rw [up2_k h8, k1 k h9 h19]
  · rw [up2_k (by decide), f1 j hj.not.1]
  · rw [up2_k (by decide), f1 1 (by decide), e9]
  · rw [up2_k (by decide), k1 170 (by decide) (by decide), hm 170 (by decide)]
  · rw [addU_low hk, up2_k (by omega), k1 k (by omega) (by omega)]
