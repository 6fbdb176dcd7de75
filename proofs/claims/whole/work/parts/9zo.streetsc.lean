/-! streets: the class -/
def LnC (c : Mem) (s : Nat) (r : LnT) : Prop := (c (11 + 2 * s) 2 = r 0 ∧ c (11 + 2 * s) 3 = r 1 ∧ c (11 + 2 * s) 4 = r 2 ∧ c (11 + 2 * s) 5 = r 3 ∧ c (11 + 2 * s) 7 = r 4 ∧ c (11 + 2 * s) 8 = r 5) ∧ ∀ h : Int, 0 ≤ h → h < 16 → c (11 + 2 * s + 1) h = r (16 + h)
theorem LnC.fr {c c' : Mem} {s : Nat} {r : LnT} (h : LnC c s r) (e1 : c' (11 + 2 * s) = c (11 + 2 * s)) (e2 : c' (11 + 2 * s + 1) = c (11 + 2 * s + 1)) : LnC c' s r := by
  unfold LnC
  rw [e1, e2]
  exact h
def StF (n0 : Nat) (c c' : Mem) : Prop := (∀ k, k ≠ 1 → k ≠ 9 → (k < 11 + 2 * n0 ∨ 22 < k) → c' k = c k) ∧ ∀ s : Nat, s < 6 → c' (11 + 2 * s) 0 = c (11 + 2 * s) 0 ∧ c' (11 + 2 * s) 6 = c (11 + 2 * s) 6
theorem getD_appL {l : List LnT} {r : LnT} {j : Nat} : (l ++ [r]).getD j zL = if j < l.length then l.getD j zL else if j = l.length then r else zL := by
  by_cases h : j < l.length
  · rw [if_pos h, List.getD_eq_getElem?_getD, List.getElem?_append_left h, List.getD_eq_getElem?_getD]
  · rw [if_neg h, List.getD_eq_getElem?_getD, List.getElem?_append_right (by omega)]
    by_cases e : j = l.length
    · rw [if_pos e, show j - l.length = 0 by omega]
      rfl
    · rw [if_neg e, List.getElem?_eq_none (by show 1 ≤ j - l.length; omega)]
      rfl
theorem ct_read10 {E : Nat × (Nat → Int32)} {c a : Mem} {n0 : Nat} (hX : CText c a) (hW : WText a) (hC : CTown c a) (hT : WTown a) (en : (n0 : Int) = a 169 3) : K_X10_read E [.ref 9, .ref 1] c (fun z c' => (((slA a).2.2 = true ∧ z = ((slA a).2.1.length : Int) ∧ c' 9 1 = (n0 : Int) + ((slA a).2.1.length : Int) ∧ ∀ i : Nat, i < (slA a).2.1.length → LnC c' (n0 + i) ((slA a).2.1.getD i zL)) ∨ ((slA a).2.2 = false ∧ z = -1 - (slA a).1 ∧ z < 0 ∧ c' 9 1 = (n0 : Int))) ∧ (-81 ≤ z ∧ z ≤ 6) ∧ StF n0 c c' ∧ TextOK c') := by
  obtain ⟨⟨x1, x2, -, -, -, -, x7⟩, y1, y2⟩ := hX
  have w0 := hW.1
  have w1 := hW.2.1
  have t6 := hT.2.1
  have e9 : c 9 1 = (n0 : Int) := by rw [en]; exact hC.1
  have so := slA_ok hT
  refine en_X10_read (sg_X10_read_0 (by rw [y1]; constructor <;> omega) (fun g => ?_) (fun g => ?_))
  · rw [y1] at g
    have e : slA a = (0, [], true) := if_pos g
    rw [e]
    refine ⟨_, rfl, Or.inl ⟨rfl, rfl, ?_, fun i hi => absurd hi (Nat.not_lt_zero i)⟩, ⟨by decide, by decide⟩, ⟨fun k k1 _ _ => by rw [up2_k k1, up2_k k1], fun s _ => by rw [up2_k (by omega), up2_k (by omega)]; exact ⟨rfl, rfl⟩⟩, ⟨by rw [up2_j (by decide), up2_j (by decide)]; omega, by rw [up2_j (by decide), up2_j (by decide)]; omega, by rw [up2_j (by decide), up2_same]; omega, by rw [up2_j (by decide), up2_same]; omega, by rw [up2_same]; omega, by rw [up2_same]; omega, by rw [up2_k (by decide), up2_k (by decide)]; exact x7⟩⟩
    rw [up2_k (by decide), up2_k (by decide), e9]
    show (n0 : Int) = (n0 : Int) + ((0 : Nat) : Int)
    omega
  · rw [y1] at g ⊢
    have e : slA a = rdS (lkA a (min (a 169 17) 76)) (a 169 17) (6 - a 169 3).toNat 0 [] := if_neg g
    have e76 : min (a 169 17) 76 ≤ a 169 17 ∧ min (a 169 17) 76 ≤ 76 ∧ 0 ≤ min (a 169 17) 76 := by omega
    generalize hL : min (a 169 17) 76 = L at e e76 ⊢
    generalize slA a = R at e so ⊢
    have key : ∀ (f : Nat) (p : Int) (l : List LnT) (c2 : Mem), n0 + l.length + f = 6 → TxC a L p c2 → R = rdS (lkA a L) (a 169 17) f p l → (∀ i : Nat, i < l.length → LnC c2 (n0 + i) (l.getD i zL)) → StF n0 c c2 → c2 9 1 = (n0 : Int) → GM E (m_X10_read 5) (Pi fun z c' => ((R.2.2 = true ∧ z = (R.2.1.length : Int) ∧ c' 9 1 = (n0 : Int) + (R.2.1.length : Int) ∧ ∀ i : Nat, i < R.2.1.length → LnC c' (n0 + i) (R.2.1.getD i zL)) ∨ (R.2.2 = false ∧ z = -1 - R.1 ∧ z < 0 ∧ c' 9 1 = (n0 : Int))) ∧ (-81 ≤ z ∧ z ≤ 6) ∧ StF n0 c c' ∧ TextOK c') 20 [.ref 9, .ref 1, vi ((n0 + l.length : Nat) : Int), un] [] c2 := by
      intro f
      induction f with
      | zero =>
        intro p l c2 hl T eR q1 q2 q3
        have eR : R = (p, l, false) := eR
        have b := T.2.1
        rw [eR]
        exact sg_X10_read_20 ⟨by omega, by omega⟩ (fun g => by omega) (fun _ => ⟨_, rfl, Or.inr ⟨rfl, by rw [T.p], by rw [T.p]; omega, q3⟩, ⟨by rw [T.p]; omega, by rw [T.p]; omega⟩, q2, T.ok⟩) (fun g => by omega)
      | succ f ih =>
        intro p l c2 hl T eR q1 q2 q3
        refine sg_X10_read_20 ⟨by omega, by omega⟩ (fun _ => by omega) (fun g => by omega) (fun _ => ?_)
        rw [Int.toNat_natCast]
        have ho := streetMem (n0 + l.length) (by omega)
        refine ca_X10_read_36 ho (ct_line8 ho T) (fun z c3 hz => ?_)
        obtain ⟨T3, F3, hz⟩ := hz
        have b3 := T3.2.1
        have q23 : StF n0 c c3 := ⟨fun k k1 k9 k2 => (F3.1 k k1 (by omega) (by omega)).trans (q2.1 k k1 k9 k2), fun s s6 => by
          by_cases es : s = n0 + l.length
          · subst es
            exact ⟨F3.2.2.1.trans (q2.2 _ s6).1, F3.2.2.2.trans (q2.2 _ s6).2⟩
          · rw [F3.1 (11 + 2 * s) (by omega) (by omega) (by omega)]
            exact q2.2 s s6⟩
        have q33 : c3 9 1 = (n0 : Int) := by rw [F3.1 9 (by omega) (by omega) (by omega)]; exact q3
        rcases hz with ⟨r1, ez⟩ | ⟨r, r1, ez, m1, m2⟩
        · rw [rdS_no r1] at eR
          subst ez
          rw [eR]
          exact sg_X10_read_39 (by decide) (fun g => absurd rfl g) (fun g => absurd rfl g) (fun g => absurd rfl g) (fun g => absurd rfl g) (fun g => absurd rfl g) (fun g => absurd rfl g) (fun _ => ⟨_, rfl, Or.inr ⟨rfl, by rw [T3.p], by rw [T3.p]; omega, q33⟩, ⟨by rw [T3.p]; omega, by rw [T3.p]; omega⟩, q23, T3.ok⟩)
        · rw [rdS_so r1] at eR
          subst ez
          generalize hq : (lnG (lkA a L) p).2 = q at *
          have l1 : (l ++ [r]).length = l.length + 1 := by rw [List.length_append]; rfl
          have nL : ∀ (c4 : Mem), (∀ k, k ≠ 1 → k ≠ 9 → c4 k = c3 k) → ∀ i : Nat, i < (l ++ [r]).length → LnC c4 (n0 + i) ((l ++ [r]).getD i zL) := fun c4 h4 i hi => by
            rw [l1] at hi
            rw [getD_appL]
            by_cases ci : i < l.length
            · rw [if_pos ci]
              exact (q1 i ci).fr (by rw [h4 _ (by omega) (by omega), F3.1 _ (by omega) (by omega) (by omega)]) (by rw [h4 _ (by omega) (by omega), F3.1 _ (by omega) (by omega) (by omega)])
            · rw [if_neg ci, if_pos (by omega), show i = l.length by omega]
              have : LnC c3 (n0 + l.length) r := ⟨m1, m2⟩
              exact this.fr (h4 _ (by omega) (by omega)) (h4 _ (by omega) (by omega))
          refine sg_X10_read_39 (by decide) (fun _ => by rw [T3.p]; constructor <;> omega) (fun _ => by rw [T3.1.1]; constructor <;> omega) (fun _ _ => T3.ok) (fun _ gn => ?_) (fun _ gn gs => ?_) (fun _ gn gs => ?_) (fun g => absurd g (by decide))
          · rw [T3.1.1, T3.p] at gn
            rw [if_pos gn] at eR
            rw [eR]
            refine ⟨_, rfl, Or.inl ⟨rfl, ?_, ?_, nL _ (fun k _ k9 => up2_k k9)⟩, ?_, ⟨fun k k1 k9 k2 => by rw [up2_k k9]; exact q23.1 k k1 k9 k2, fun s s6 => by rw [up2_k (by omega)]; exact q23.2 s s6⟩, ?_⟩
            · dsimp only; rw [l1, q33]; omega
            · dsimp only; rw [l1, up2_same]; omega
            · rw [q33]; omega
            · have := T3.ok
              unfold TextOK
              rw [up2_k (by decide), up2_k (by decide)]
              exact this
          · rw [T3.1.1, T3.p] at gn
            rw [T3.look] at gs
            rw [if_neg gn, if_pos gs] at eR
            have qL := (lk_pos (show 0 ≤ lkA a L q by omega)).1
            have T4 : TxC a L (q + 1) (up2 c3 1 2 (c3 1 2 + 1)) := T3.pass qL (by rw [T3.p])
            have := ih (q + 1) (l ++ [r]) _ (by rw [l1]; omega) T4 eR (nL _ (fun k k1 _ => up2_k k1)) ⟨fun k k1 k9 k2 => by rw [up2_k k1]; exact q23.1 k k1 k9 k2, fun s s6 => by rw [up2_k (by omega)]; exact q23.2 s s6⟩ (by rw [up2_k (by decide)]; exact q33)
            rw [l1, show ((n0 + (l.length + 1) : Nat) : Int) = ((n0 + l.length : Nat) : Int) + 1 by omega] at this
            exact this
          · rw [T3.1.1, T3.p] at gn
            rw [T3.look] at gs
            rw [if_neg gn, if_neg gs] at eR
            rw [eR]
            exact ⟨_, rfl, Or.inr ⟨rfl, by rw [T3.p], by rw [T3.p]; omega, q33⟩, ⟨by rw [T3.p]; omega, by rw [T3.p]; omega⟩, q23, T3.ok⟩
    rw [e9]
    have T0 : TxC a L 0 (up2 (up2 c 1 2 0) 1 3 L) := ⟨⟨by rw [up2_j (by decide), up2_j (by decide)]; exact y1, by rw [up2_j (by decide), up2_same], by rw [up2_same]⟩, ⟨by decide, e76.2.2, e76.1, w1⟩, fun j j0 j1 => by rw [up2_k (by decide), up2_k (by decide)]; exact y2 j j0 j1, fun j j0 j1 => by rw [up2_k (by decide), up2_k (by decide)]; exact x7 j j0 j1⟩
    have := key (6 - a 169 3).toNat 0 [] _ (by show n0 + 0 + _ = 6; omega) T0 e (fun i hi => absurd hi (Nat.not_lt_zero i)) ⟨fun k k1 _ _ => by rw [up2_k k1, up2_k k1], fun s _ => by rw [up2_k (by omega), up2_k (by omega)]; exact ⟨rfl, rfl⟩⟩ (by rw [up2_k (by decide), up2_k (by decide)]; exact e9)
    exact this
theorem ct_streetsC {E : Nat × (Nat → Int32)} {c a : Mem} {v : VF} {B : Int} (h : CR0 c a) (hR : RuleC c v) (w : W0 B a) : K_X11_streets E [.ref 0] c (fun z c' => HighEq c c' ∧ RuleC c' v ∧ (((slA a).2.2 = false ∧ z = -1 - (slA a).1 ∧ CR0 c' (textU a 0 (textN a))) ∨ ((slA a).2.2 = true ∧ a 169 17 ≤ 0 ∧ z = 0 ∧ CR0 c' (textU a 0 (textN a))) ∨ ((slA a).2.2 = true ∧ 0 < a 169 17 ∧ z = ((slA a).2.1.length : Int) ∧ CR0 c' (textU (stU a (slA a).2.1) 0 (textN a))))) := by
  have hT := w.town
  have t0 := hT.1
  have t6 := hT.2.1
  obtain ⟨n0, en⟩ : ∃ n0 : Nat, (n0 : Int) = a 169 3 := ⟨(a 169 3).toNat, by omega⟩
  have so := slA_ok hT
  have eE : a 169 17 ≤ 0 → slA a = (0, [], true) := fun g => if_pos g
  have e9 : c 9 1 = (n0 : Int) := by rw [en]; exact h.town.1
  refine en_X11_streets (sg_X11_streets_0 ?_)
  rw [e9]
  refine ca_X11_streets_16 (ct_read10 h.text w.text h.town hT en) (fun z c1 hz => sg_X11_streets_19 ?_)
  obtain ⟨hz, zr, F1, X1⟩ := hz
  generalize hC : up2 c1 1 1 0 = C
  have Ck : ∀ k, k ≠ 1 → C k = c1 k := fun k hk => by rw [← hC, up2_k hk]
  have XT : ∀ (b : Mem) (f : Int → Int), CText C (textU b 0 f) := fun b f => by rw [← hC]; exact ctext0 X1
  have CX : ∀ (c' : Mem) (b : Mem) (f : Int → Int), c' 1 = C 1 → c' 2 = C 2 → CText c' (textU b 0 f) := fun c' b f e1 e2 => (XT b f).fr e1 e2
  clear hC
  have fC : ∀ k, k ≠ 1 → k ≠ 9 → (k < 11 + 2 * n0 ∨ 22 < k) → C k = c k := fun k k1 k9 k2 => (Ck k k1).trans (F1.1 k k1 k9 k2)
  have hiC : ∀ c' : Mem, (∀ k, k ≠ 24 → k ≠ 25 → k ≠ 26 → k ≠ 27 → c' k = C k) → HighEq c c' := fun c' e k hk => (e k (by omega) (by omega) (by omega) (by omega)).trans (fC k (by omega) (by omega) (by omega))
  have rC : ∀ c' : Mem, (∀ k, k ≠ 24 → k ≠ 25 → k ≠ 26 → k ≠ 27 → c' k = C k) → RuleC c' v := fun c' e => hR.fr (fun x _ => by rw [e 5 (by decide) (by decide) (by decide) (by decide), fC 5 (by decide) (by decide) (by omega)]) (by rw [e 6 (by decide) (by decide) (by decide) (by decide), fC 6 (by decide) (by decide) (by omega)]) (by rw [e 7 (by decide) (by decide) (by decide) (by decide), fC 7 (by decide) (by decide) (by omega)])
  -- nothing came
  have nothing : C 9 1 = (n0 : Int) → CR0 C (textU a 0 (textN a)) := fun e91 => by
    have tk : ∀ k, k ≠ 169 → k ≠ 182 → textU a 0 (textN a) k = a k := fun k h1 h2 => textU_k h1 h2
    have t9 : ∀ j : Int, j ≠ 17 → textU a 0 (textN a) 169 j = a 169 j := fun j hj => textU_f hj
    have hh := h.hist.fr (c' := C) (by rw [fC 27 (by decide) (by decide) (by omega)]) (fC 28 (by decide) (by decide) (by omega)) (fun k k0 k1 => fC k (by omega) (by omega) (by omega))
    have hk := h.kept.fr (c' := C) (fC 166 (by decide) (by decide) (by omega)) (fun k k0 k1 => fC k (by omega) (by omega) (by omega))
    refine h.join ?_ (XT _ _) ?_ ?_ ?_ (fC 4 (by decide) (by decide) (by omega)) (tk 179 (by decide) (by decide)) (by rw [fC 93 (by decide) (by decide) (by omega)]) (fC 94 (by decide) (by decide) (by omega)) (fC 95 (by decide) (by decide) (by omega)) (t9 62 (by decide)) (tk 201 (by decide) (by decide)) (tk 202 (by decide) (by decide)) (by rw [fC 0 (by decide) (by decide) (by omega)]) (fC 168 (by decide) (by decide) (by omega)) (t9 1 (by decide)) (tk 170 (by decide) (by decide))
    · unfold CTown
      rw [t9 3 (by decide), tk 171 (by decide) (by decide), tk 172 (by decide) (by decide), tk 173 (by decide) (by decide), tk 174 (by decide) (by decide), tk 175 (by decide) (by decide), tk 176 (by decide) (by decide), tk 177 (by decide) (by decide), tk 178 (by decide) (by decide)]
      refine ⟨by rw [e91, en], fun s s6 => ?_⟩
      obtain ⟨g1, g2, g3⟩ := h.town.2 s s6
      have f2 := F1.2 s s6
      rw [Ck (11 + 2 * s) (by omega)]
      refine ⟨f2.1.trans g1, f2.2.trans g2, fun g => ?_⟩
      rw [F1.1 (11 + 2 * s) (by omega) (by omega) (by omega), Ck (11 + 2 * s + 1) (by omega), F1.1 (11 + 2 * s + 1) (by omega) (by omega) (by omega)]
      exact g3 g
    · rw [tk 180 (by decide) (by decide)]
      exact h.now.congr (fC _ (by decide) (by decide) (by omega)) (fC _ (by decide) (by decide) (by omega)) (fC _ (by decide) (by decide) (by omega)) (fC _ (by decide) (by decide) (by omega))
    · unfold CHist; rw [t9 40 (by decide), tk 190 (by decide) (by decide)]; exact hh
    · unfold CKept; rw [t9 3 (by decide), t9 4 (by decide), tk 205 (by decide) (by decide), tk 206 (by decide) (by decide), tk 207 (by decide) (by decide)]; exact hk
  rcases hz with ⟨ok, ez, c91, hL⟩ | ⟨ok, ez, zn, c91⟩
  · by_cases gn : a 169 17 ≤ 0
    · have e := eE gn
      rw [e] at ez c91
      have ez : z = 0 := ez
      subst ez
      have c91 : C 9 1 = (n0 : Int) := by
        rw [Ck 9 (by decide), c91]
        show (n0 : Int) + ((0 : Nat) : Int) = n0
        omega
      exact sg_X11_streets_29 ⟨by omega, by omega⟩ (by rw [c91]; constructor <;> omega) (by decide) (fun _ _ => ⟨_, rfl, hiC C (fun _ _ _ _ _ => rfl), rC C (fun _ _ _ _ _ => rfl), Or.inr (Or.inl ⟨ok, gn, rfl, nothing c91⟩)⟩) (fun _ g => absurd (Int.le_refl 0) g) (fun g => by rw [c91] at g; omega)
    · have lp := so.2.2 ok (by omega)
      generalize hl : (slA a).2.1 = l at *
      have C91 : C 9 1 = a 169 3 + (l.length : Int) := by rw [Ck 9 (by decide), c91, en]
      have TC : CTown C (stU a l) := by
        unfold CTown
        rw [stU_3, stU_171, stU_172, stU_173, stU_174, stU_k (k := 175) (by decide), stU_176, stU_177, stU_178]
        refine ⟨C91, fun s s6 => ?_⟩
        obtain ⟨g1, g2, g3⟩ := h.town.2 s s6
        have f2 := F1.2 s s6
        rw [Ck (11 + 2 * s) (by omega), Ck (11 + 2 * s + 1) (by omega)]
        refine ⟨f2.1.trans g1, f2.2.trans g2, fun g => ?_⟩
        by_cases cs : s < n0
        · rw [F1.1 (11 + 2 * s) (by omega) (by omega) (by omega), F1.1 (11 + 2 * s + 1) (by omega) (by omega) (by omega), fld_old (by omega), fld_old (by omega), fld_old (by omega), fld_old (by omega), fld_old (by omega), fld_old (by omega)]
          obtain ⟨u1, u2, u3, u4, u5, u6, u7⟩ := g3 (by omega)
          exact ⟨u1, u2, u3, u4, u5, u6, fun t t0 t1 => by rw [wU_old (by omega)]; exact u7 t t0 t1⟩
        · rw [fld_new (by omega) g, fld_new (by omega) g, fld_new (by omega) g, fld_new (by omega) g, fld_new (by omega) g, fld_new (by omega) g]
          have q := hL (s - n0) (by omega)
          rw [show n0 + (s - n0) = s by omega] at q
          have el : lnOf (a 169 3) l (s : Int) = l.getD (s - n0) zL := by
            unfold lnOf
            rw [show ((s : Int) - a 169 3).toNat = s - n0 by omega]
          rw [el]
          obtain ⟨⟨v1, v2, v3, v4, v5, v6⟩, v7⟩ := q
          exact ⟨v1, v2, v3, v4, v5, v6, fun t t0 t1 => by rw [wU_new (by omega) g t0 t1, el]; exact v7 t t0 t1⟩
      have TW : WTown (stU a l) := hT.stu so.1 so.2.1
      have l6 := so.2.1
      have s0 : StRel C 23 (a 180) := h.now.congr (fC _ (by decide) (by decide) (by omega)) (fC _ (by decide) (by decide) (by omega)) (fC _ (by decide) (by decide) (by omega)) (fC _ (by decide) (by decide) (by omega))
      refine up_loop (i0 := a 169 3) (n := a 169 3 + (l.length : Int)) (fun s c2 => GM E (m_X11_streets 6) _ 29 [.ref 0, vi (n0 : Int), vi z, vi s] [] c2) (fun s c2 => StRel c2 23 (fun b => if 16 * s ≤ b then a 180 b else nwU a l b) ∧ ∀ k, k ≠ 24 → k ≠ 25 → k ≠ 26 → c2 k = C k) (fun c2 hc => ?_) (fun s c2 a0 a1 hc k => ?_) (i := (n0 : Int)) (s := C) (by omega) (by omega) ⟨s0.ext (fun b b0 b1 => ?_), fun _ _ _ _ => rfl⟩
      · obtain ⟨st, f⟩ := hc
        have e91 : c2 9 1 = a 169 3 + (l.length : Int) := by rw [f 9 (by decide) (by decide) (by decide)]; exact C91
        refine sg_X11_streets_29 ⟨by omega, by omega⟩ (by rw [e91]; constructor <;> omega) ⟨by omega, by omega⟩ (fun _ g => by omega) (fun _ g => ⟨_, rfl, hiC _ (fun k k1 k2 k3 k4 => by rw [up2_k k4]; exact f k k1 k2 k3), rC _ (fun k k1 k2 k3 k4 => by rw [up2_k k4]; exact f k k1 k2 k3), Or.inr (Or.inr ⟨ok, by omega, ez, ?_⟩)⟩) (fun g => by rw [e91] at g; omega)
        have fF : ∀ k, k ≠ 24 → k ≠ 25 → k ≠ 26 → k ≠ 27 → up2 c2 27 2 0 k = C k := fun k k1 k2 k3 k4 => by rw [up2_k k4]; exact f k k1 k2 k3
        have fG : ∀ k, k ≠ 1 → k ≠ 9 → (k < 11 + 2 * n0 ∨ 22 < k) → k ≠ 24 → k ≠ 25 → k ≠ 26 → k ≠ 27 → up2 c2 27 2 0 k = c k := fun k k1 k9 k2 k3 k4 k5 k6 => (fF k k3 k4 k5 k6).trans (fC k k1 k9 k2)
        have tk : ∀ k, k ≠ 169 → k ≠ 182 → textU (stU a l) 0 (textN a) k = stU a l k := fun k h1 h2 => textU_k h1 h2
        have t9 : ∀ j : Int, j ≠ 17 → textU (stU a l) 0 (textN a) 169 j = stU a l 169 j := fun j hj => textU_f hj
        refine h.join ?_ (CX _ _ _ (fF 1 (by decide) (by decide) (by decide) (by decide)) (fF 2 (by decide) (by decide) (by decide) (by decide))) ?_ ?_ ?_ (fG 4 (by decide) (by decide) (by omega) (by decide) (by decide) (by decide) (by decide)) ?_ (by rw [fG 93 (by decide) (by decide) (by omega) (by decide) (by decide) (by decide) (by decide)]) (fG 94 (by decide) (by decide) (by omega) (by decide) (by decide) (by decide) (by decide)) (fG 95 (by decide) (by decide) (by omega) (by decide) (by decide) (by decide) (by decide)) ?_ ?_ ?_ (by rw [fG 0 (by decide) (by decide) (by omega) (by decide) (by decide) (by decide) (by decide)]) (fG 168 (by decide) (by decide) (by omega) (by decide) (by decide) (by decide) (by decide)) ?_ ?_
        · have := TC.fr (c' := up2 c2 27 2 0) (fF 9 (by decide) (by decide) (by decide) (by decide)) (fun s hs => ⟨fF _ (by omega) (by omega) (by omega) (by omega), fF _ (by omega) (by omega) (by omega) (by omega)⟩)
          unfold CTown
          rw [t9 3 (by decide), tk 171 (by decide) (by decide), tk 172 (by decide) (by decide), tk 173 (by decide) (by decide), tk 174 (by decide) (by decide), tk 175 (by decide) (by decide), tk 176 (by decide) (by decide), tk 177 (by decide) (by decide), tk 178 (by decide) (by decide)]
          exact this
        · rw [tk 180 (by decide) (by decide), stU_180]
          refine (st.congr (up2_k (by decide)) (up2_k (by decide)) (up2_k (by decide)) (up2_k (by decide))).ext (fun b b0 b1 => ?_)
          by_cases cb : 16 * (a 169 3 + (l.length : Int)) ≤ b
          · rw [if_pos cb, nwU_old (Or.inr cb)]
          · rw [if_neg cb]
        · obtain ⟨-, f2, p1, p2, p3, -⟩ := h.hist
          unfold CHist
          rw [t9 40 (by decide), stU_40]
          exact ⟨up2_same _ _ _ _, f2, p1, p2, by rw [fG 28 (by decide) (by decide) (by omega) (by decide) (by decide) (by decide) (by decide)]; exact p3, fun i _ hi => by omega⟩
        · intro i hi
          have wk := w.kept.2.2 i (by omega) (by omega)
          rw [t9 3 (by decide), t9 4 (by decide), stU_3, stU_4, tk 205 (by decide) (by decide), tk 206 (by decide) (by decide), tk 207 (by decide) (by decide), stU_k (k := 205) (by decide), stU_k (k := 206) (by decide), stU_k (k := 207) (by decide), fG 166 (by decide) (by decide) (by omega) (by decide) (by decide) (by decide) (by decide)]
          rcases h.kept i hi with g | ⟨g1, g2, g3, g4, g5⟩
          · exact Or.inl g
          · rcases wk with wk | ⟨-, wk1, wk2, -⟩
            · omega
            · exact Or.inr ⟨g1, g2, by omega, ⟨fun o => by omega, fun o => by omega⟩, g5.congr (fG _ (by omega) (by omega) (by omega) (by omega) (by omega) (by omega) (by omega)) (fG _ (by omega) (by omega) (by omega) (by omega) (by omega) (by omega) (by omega)) (fG _ (by omega) (by omega) (by omega) (by omega) (by omega) (by omega) (by omega)) (fG _ (by omega) (by omega) (by omega) (by omega) (by omega) (by omega) (by omega))⟩
        · rw [tk 179 (by decide) (by decide), stU_k (k := 179) (by decide)]
        · rw [t9 62 (by decide), stU_f (by decide) (by decide) (by decide)]
        · rw [tk 201 (by decide) (by decide), stU_k (k := 201) (by decide)]
        · rw [tk 202 (by decide) (by decide), stU_k (k := 202) (by decide)]
        · rw [t9 1 (by decide), stU_f (by decide) (by decide) (by decide)]
        · rw [tk 170 (by decide) (by decide), stU_k (k := 170) (by decide)]
      · obtain ⟨st, f⟩ := hc
        have e91 : c2 9 1 = a 169 3 + (l.length : Int) := by rw [f 9 (by decide) (by decide) (by decide)]; exact C91
        have hC2 : CTown c2 (stU a l) := TC.fr (f 9 (by decide) (by decide) (by decide)) (fun s hs => ⟨f _ (by omega) (by omega) (by omega), f _ (by omega) (by omega) (by omega)⟩)
        refine sg_X11_streets_29 ⟨by omega, by omega⟩ (by rw [e91]; constructor <;> omega) ⟨by omega, by omega⟩ (fun g => by rw [e91] at g; omega) (fun g => by rw [e91] at g; omega) (fun _ => ?_)
        refine ca_X11_streets_50 (ct_binsOf ⟨by omega, by omega⟩ hC2 TW) (fun y c3 hy => sg_X11_streets_53 ?_)
        obtain ⟨rfl, z2, z3⟩ := hy
        refine ca_X11_streets_53 m23 (ct_putOut m23 st (by omega) (by omega) z2) (fun c4 h4 => sg_X11_streets_56 (k _ ⟨h4.1.ext (fun b b0 b1 => ?_), fun k k1 k2 k3 => (h4.2 k k1 k2 k3).trans (f k k1 k2 k3)⟩))
        by_cases cc : 16 * s ≤ b ∧ b < 16 * s + 16
        · have ep : putR (fun b => if 16 * s ≤ b then a 180 b else nwU a l b) s y b = if tb y (b - 16 * s) = true then 1 else 0 := if_pos cc
          have ey := z3 (b - 16 * s) (by omega) (by omega)
          rw [show 16 * s + (b - 16 * s) = b by omega, stU_178, stU_3] at ey
          rw [if_neg (by omega), ep, nwU_new (by omega) (by omega), ey]
          by_cases g : wU a l b = 0
          · simp [g]
          · have : 0 ≤ s ∧ s < a 169 3 + (l.length : Int) := by omega
            simp [g, this]
        · rw [putR_out (by omega)]
          by_cases c2 : 16 * s ≤ b
          · rw [if_pos c2, if_pos (by omega)]
          · rw [if_neg c2, if_neg (by omega)]
      · by_cases cb : 16 * (n0 : Int) ≤ b
        · rw [if_pos cb]
        · rw [if_neg cb, nwU_old (by omega)]
  · have c91 : C 9 1 = (n0 : Int) := by rw [Ck 9 (by decide), c91]
    exact sg_X11_streets_29 ⟨by omega, by omega⟩ (by rw [c91]; constructor <;> omega) ⟨by omega, by omega⟩ (fun _ _ => ⟨_, rfl, hiC C (fun _ _ _ _ _ => rfl), rC C (fun _ _ _ _ _ => rfl), Or.inl ⟨ok, ez, nothing c91⟩⟩) (fun _ g => by omega) (fun g => by rw [c91] at g; omega)
