/-! holiday -/
def mvL (a : Mem) (d : Int) : Nat → List Int
  | 0 => []
  | n + 1 => if a 175 n = d then mvL a d n ++ [(n : Int)] else mvL a d n
theorem mvL_mem {a : Mem} {d x : Int} : ∀ n : Nat, x ∈ mvL a d n → 0 ≤ x ∧ x < n
  | 0, h => by cases h
  | n + 1, h => by
    rw [mvL] at h
    split at h
    · rcases List.mem_append.1 h with h | h
      · have := mvL_mem n h; omega
      · rw [List.mem_singleton] at h; omega
    · have := mvL_mem n h; omega
theorem mvL_len {a : Mem} {d : Int} : ∀ n : Nat, (mvL a d n).length ≤ n
  | 0 => Nat.le_refl _
  | n + 1 => by
    have := mvL_len (a := a) (d := d) n
    rw [mvL]
    split
    · rw [List.length_append]; show _ + 1 ≤ _; omega
    · omega
def mvA (a : Mem) (d : Int) : List Int := mvL a d (a 169 3).toNat
def mvS (a : Mem) (v : (Int → Int) → Int) (d : Int) : List Int := (mvA a d).map (fun s => bestS a v (a 180) s)
def holA (a : Mem) (v : (Int → Int) → Int) (d n : Int) : List (List Int) := asg n (d + 1) (6 - d).toNat (mvS a v d) (dayF a v)
def holR (a : Mem) (v : (Int → Int) → Int) (d n : Int) : Int × Int × List Int := (holA a v d n).foldl (stR [] 0 0) (7, 0, [])
def holC (a : Mem) (v : (Int → Int) → Int) (d n B : Int) : Int × List Int := (asg n (d + 1) (B - (d + 1)).toNat (mvS a v d) (dayF a v)).foldl (stC [] 0) (1000000, [])
def holP (v n : Int) : Prop := (0 ≤ v ∧ v ≤ 6) ∧ 0 ≤ n ∧ n ≤ 99999
theorem hol_inv {a : Mem} {v : (Int → Int) → Int} {d n : Int} (d0 : 0 ≤ d) (d6 : d ≤ 6) (h6 : (mvS a v d).length ≤ 6) : (holR a v d n).1 ≤ 7 ∧ (∀ B : Int, d + 1 ≤ B → B ≤ 7 → (holC a v d n B).1 ≤ 1000000 ∧ ((holC a v d n B).1 = 1000000 ↔ B ≤ (holR a v d n).1)) ∧ ((holR a v d n).1 < 7 → 0 ≤ (holR a v d n).1) ∧ ((holR a v d n).1 < 7 → d + 1 ≤ (holR a v d n).1 + 1 → holC a v d n ((holR a v d n).1 + 1) = ((holR a v d n).2.1, (holR a v d n).2.2)) := by
  have := InvH.fold (holA a v d n) _ _ (fun q hq => by
    obtain ⟨m1, m2⟩ := mem_asg _ _ q hq
    have b := sumL_ge (lo := 0) (hi := 6) q (fun x hx => by have := m2 x hx; omega)
    refine ⟨fun x hx => by have := m2 x hx; omega, ?_⟩
    rw [m1] at b
    omega) InvH.start
  have eC : ∀ B : Int, d + 1 ≤ B → B ≤ 7 → ((holA a v d n).filter (fun q => q.all (fun x => decide (x < B)))).foldl (stC [] 0) (1000000, []) = holC a v d n B := fun B h1 h2 => by
    unfold holC holA
    rw [← asg_filter (B := B) (k' := (B - (d + 1)).toNat) (by omega) (by omega)]
  obtain ⟨g1, g2, g3⟩ := this
  refine ⟨g1, fun B h1 h2 => ?_, fun g => (g3 g).1, fun g h => ?_⟩
  · have e := eC B h1 h2
    have := g2 B (by omega) h2
    dsimp only at this
    rw [show ((holA a v d n).filter (fun q => q.all (fun x => decide (x < B)))).foldl (stC [] 0) (1000000, []) = holC a v d n B from e] at this
    exact this
  · have e := (g3 g).2
    have g : (holR a v d n).1 < 7 := g
    have e2 := eC ((holR a v d n).1 + 1) h (by omega)
    exact e2.symm.trans e
theorem CQ.fill {c c2 : Mem} {f : Int → Int} {n : Int} (e : ∀ k, k ≠ 0 → k ≠ 168 → c2 k = c k) (h1 : c2 0 14 = n) (h2 : ∀ j : Int, 0 ≤ j → j < n → c2 168 j = f j) : CQ c c2 n f := CQ.of2 e h1 h2
theorem ct_takeOff {E : Nat × (Nat → Int32)} {c a : Mem} {d : Int} (rd : RI d) (hC : CTown c a) (hT : WTown a) : K_X0_takeOff E [.ref 147, vi d] c (fun z c' => z = (mvA a d).length ∧ c' 147 4 = (mvA a d).length ∧ (∀ j : Nat, j < (mvA a d).length → c' 150 j = (mvA a d).getD j 0) ∧ (∀ k, k ≠ 147 → k ≠ 150 → c' k = c k) ∧ ∀ j : Int, j ≠ 4 → c' 147 j = c 147 j) := by
  have n0 := hT.1
  have n6 := hT.2.1
  refine en_X0_takeOff (sg_X0_takeOff_0 ?_)
  have key : ∀ (k : Nat) (s : Nat) (c2 : Mem), (s : Int) + k = a 169 3 → c2 147 4 = (mvL a d s).length → (∀ j : Nat, j < (mvL a d s).length → c2 150 j = (mvL a d s).getD j 0) → (∀ k, k ≠ 147 → k ≠ 150 → c2 k = c k) → (∀ j : Int, j ≠ 4 → c2 147 j = c 147 j) → GM E (m_X0_takeOff 1) (Pi fun z c' => z = (mvA a d).length ∧ c' 147 4 = (mvA a d).length ∧ (∀ j : Nat, j < (mvA a d).length → c' 150 j = (mvA a d).getD j 0) ∧ (∀ k, k ≠ 147 → k ≠ 150 → c' k = c k) ∧ ∀ j : Int, j ≠ 4 → c' 147 j = c 147 j) 7 [.ref 147, vi d, vi (s : Int), un] [] c2 := by
    intro k
    induction k with
    | zero =>
      intro s c2 hs h1 h2 h3 h4
      have e : c2 9 1 = a 169 3 := by rw [h3 9 (by decide) (by decide)]; exact hC.1
      have es : mvL a d s = mvA a d := by unfold mvA; rw [show (a 169 3).toNat = s by omega]
      rw [es] at h1 h2
      exact sg_X0_takeOff_7 ⟨by omega, by omega⟩ (by rw [e]; constructor <;> omega) (by rw [e]; omega) (by rw [e]; omega) rd (by rw [e]; omega) (by rw [e]; omega) (fun _ => ⟨_, rfl, h1, h1, h2, h3, h4⟩) (by rw [e]; omega) (by rw [e]; omega) (by rw [e]; omega) (by rw [e]; omega) (by rw [e]; omega)
    | succ k ih =>
      intro s c2 hs h1 h2 h3 h4
      have e : c2 9 1 = a 169 3 := by rw [h3 9 (by decide) (by decide)]; exact hC.1
      have hC2 : CTown c2 a := hC.fr (h3 9 (by decide) (by decide)) (fun s hs => ⟨h3 _ (by omega) (by omega), h3 _ (by omega) (by omega)⟩)
      have e6 := (hC2.s (s := s) (by omega) (by omega) n6).2.2.2.2.1
      have t := hT.2.2.1 s (by omega) (by omega)
      have ln := mvL_len (a := a) (d := d) s
      refine sg_X0_takeOff_7 ⟨by omega, by omega⟩ (by rw [e]; constructor <;> omega) (fun _ _ => by omega) (fun _ _ _ => by rw [e6]; constructor <;> omega) rd (fun _ _ _ _ => by rw [h1]; constructor <;> omega) (fun _ _ _ _ _ => by rw [h1]; omega) (by rw [e]; omega) (by omega) (fun _ _ _ g => ?_) (fun _ _ _ _ g => by rw [h1] at g; omega) (fun _ _ _ g _ => ?_) (fun _ _ g => by omega)
      · rw [e6] at g
        have em : mvL a d (s + 1) = mvL a d s := by rw [mvL, if_neg g]
        rw [show (s : Int) + 1 = ((s + 1 : Nat) : Int) by omega]
        exact ih (s + 1) c2 (by omega) (by rw [em]; exact h1) (by rw [em]; exact h2) h3 h4
      · rw [e6] at g
        have em : mvL a d (s + 1) = mvL a d s ++ [(s : Int)] := by rw [mvL, if_pos g]
        rw [show (s : Int) + 1 = ((s + 1 : Nat) : Int) by omega]
        refine ih (s + 1) _ (by omega) ?_ (fun j hj => ?_) (fun k k1 k2 => by rw [up2_k k1, up2_k k2, h3 k k1 k2]) (fun j hj => by rw [up2_j hj, up2_k (by decide), h4 j hj])
        · rw [up2_same, em, List.length_append, h1]
          show _ = (((mvL a d s).length + 1 : Nat) : Int)
          omega
        · rw [em] at hj ⊢
          rw [List.length_append] at hj
          have hj : j < (mvL a d s).length + 1 := hj
          rw [up2_k (by decide), h1]
          by_cases cj : j = (mvL a d s).length
          · subst cj
            rw [up2_same, List.getD_eq_getElem?_getD, List.getElem?_append_right (by omega), Nat.sub_self]
            rfl
          · rw [up2_j (by omega), h2 j (by omega), List.getD_eq_getElem?_getD, List.getD_eq_getElem?_getD, List.getElem?_append_left (by omega)]
  exact key (a 169 3).toNat 0 _ (by omega) (up2_same _ _ _ _) (fun j hj => by have hj : j < 0 := hj; omega) (fun k k1 _ => up2_k k1) (fun j hj => up2_j hj)
theorem getD_map0 {f : Int → Int} {l : List Int} {j : Nat} (h : j < l.length) : (l.map f).getD j 0 = f (l.getD j 0) := by
  rw [List.getD_eq_getElem?_getD, List.getD_eq_getElem?_getD, List.getElem?_map]
  rw [List.getElem?_eq_getElem h]
  rfl
theorem getD_mem0 {l : List Int} {j : Nat} (h : j < l.length) : l.getD j 0 ∈ l := by
  rw [List.getD_eq_getElem?_getD, List.getElem?_eq_getElem h]
  exact List.getElem_mem h
theorem mvS_len {a : Mem} {v : (Int → Int) → Int} {d : Int} (n0 : 0 ≤ a 169 3) (n6 : a 169 3 ≤ 6) : (mvS a v d).length = (mvA a d).length ∧ (mvA a d).length ≤ 6 := by
  have := mvL_len (a := a) (d := d) (a 169 3).toNat
  unfold mvS mvA
  rw [List.length_map]
  omega
theorem mvS_rng {a : Mem} {v : (Int → Int) → Int} {d B : Int} (hT : WTown a) (hS : WSet a) (hn : StOK B a (a 180)) : ∀ x ∈ mvS a v d, 0 ≤ x ∧ x ≤ 17712 := fun x hx => by
  unfold mvS at hx
  obtain ⟨s, h1, rfl⟩ := List.mem_map.1 hx
  have h2 := mvL_mem _ h1
  exact bestS_rng hT hS hn h2.1 (by have := hT.2.1; omega)
/-- the row of a holiday -/
def holL (a : Mem) (v : (Int → Int) → Int) (d n : Int) : Int → Int := fun j => (holR a v d n).2.2.getD j.toNat 0
theorem hol_rng {a : Mem} {v : (Int → Int) → Int} {d n : Int} (d0 : 0 ≤ d) : ∀ x ∈ (holR a v d n).2.2, 0 ≤ x ∧ x < d + 1 + (6 - d).toNat := by
  have gen : ∀ (l : List (List Int)) (st : Int × Int × List Int), (∀ q ∈ l, ∀ x ∈ q, 0 ≤ x ∧ x < d + 1 + (6 - d).toNat) → (∀ x ∈ st.2.2, 0 ≤ x ∧ x < d + 1 + (6 - d).toNat) → ∀ x ∈ (l.foldl (stR [] 0 0) st).2.2, 0 ≤ x ∧ x < d + 1 + (6 - d).toNat := by
    intro l
    induction l with
    | nil => intro st _ h; exact h
    | cons q l ih =>
      intro st hl hst
      rw [List.foldl_cons]
      refine ih _ (fun r hr => hl r (List.mem_cons_of_mem _ hr)) ?_
      unfold stR
      split
      · intro x hx
        have hx : x ∈ [] ++ q := hx
        rw [List.nil_append] at hx
        exact hl q List.mem_cons_self x hx
      · exact hst
  refine gen _ _ (fun q hq x hx => ?_) (fun x hx => by cases hx)
  obtain ⟨-, m2⟩ := mem_asg _ _ q hq
  have := m2 x hx
  omega
theorem ct_holiday {E : Nat × (Nat → Int32)} {c a : Mem} {v : (Int → Int) → Int} {d n B : Int} (rd : RI d) (rn : RI n) (h : CR0 c a) (hR : RuleC c v) (hT : WTown a) (hS : WSet a) (hn : StOK B a (a 180)) : K_X11_holiday E [.ref 0, vi d, vi n] c (fun z c' => (holP d n ∧ (mvA a d).length ≠ 0 ∧ (holR a v d n).1 ≤ 6 ∧ z = (holR a v d n).1 - d ∧ CQ c c' (mvA a d).length (holL a v d n)) ∨ (holP d n ∧ (mvA a d).length ≠ 0 ∧ ¬ (holR a v d n).1 ≤ 6 ∧ z = -2 ∧ CQ c c' (a 169 1) (a 170)) ∨ (holP d n ∧ (mvA a d).length = 0 ∧ z = 0 ∧ CQ c c' 0 (rwL [])) ∨ (¬ holP d n ∧ z = -1 ∧ CQ c c' (a 169 1) (a 170))) := by
  have n0 := hT.1
  have n6 := hT.2.1
  have no : ¬ holP d n → (Pi fun z c' => (holP d n ∧ (mvA a d).length ≠ 0 ∧ (holR a v d n).1 ≤ 6 ∧ z = (holR a v d n).1 - d ∧ CQ c c' (mvA a d).length (holL a v d n)) ∨ (holP d n ∧ (mvA a d).length ≠ 0 ∧ ¬ (holR a v d n).1 ≤ 6 ∧ z = -2 ∧ CQ c c' (a 169 1) (a 170)) ∨ (holP d n ∧ (mvA a d).length = 0 ∧ z = 0 ∧ CQ c c' 0 (rwL [])) ∨ (¬ holP d n ∧ z = -1 ∧ CQ c c' (a 169 1) (a 170))) (some (vi (-1))) c := fun g => ⟨_, rfl, Or.inr (Or.inr (Or.inr ⟨g, rfl, CQ.stay h⟩))⟩
  refine en_X11_holiday (sg_X11_holiday_0 rd rn (fun g => no (fun o => by have := o.1; omega)) (fun g g2 => no (fun o => by have := o.1; omega)) (fun g g2 g3 => no (fun o => by have := o.2; omega)) (fun g g2 g3 g4 => ?_) (fun g g2 g3 g4 => no (fun o => by have := o.2; omega)))
  have P : holP d n := ⟨⟨by omega, by omega⟩, by omega, g4⟩
  have ml := mvS_len (a := a) (v := v) (d := d) n0 n6
  obtain ⟨inv1, inv2, inv3, inv4⟩ := hol_inv (a := a) (v := v) (d := d) (n := n) P.1.1 P.1.2 (by omega)
  refine ca_X11_holiday_24 (ct_measureDays h hR hT hS hn) (fun c1 h1 => sg_X11_holiday_27 ?_)
  obtain ⟨hd, f1⟩ := h1
  have hC1 : CTown c1 a := h.town.fr (f1.1 9 (by omega) (by omega) (by omega) (by omega) (by omega)) (fun s hs => ⟨f1.1 _ (by omega) (by omega) (by omega) (by omega) (by omega), f1.1 _ (by omega) (by omega) (by omega) (by omega) (by omega)⟩)
  refine ca_X11_holiday_32 (ct_takeOff rd hC1 hT) (fun z c2 hz => ?_)
  obtain ⟨ez, e4, e150, f2, f3⟩ := hz
  -- the days' cells change freely behind measureDays
  have CQd : ∀ (c' c3 : Mem) (N : Int) (f : Int → Int), (∀ k, k ≠ 147 → k ≠ 149 → k ≠ 150 → k ≠ 151 → k ≠ 152 → c3 k = c1 k) → CQ c3 c' N f → CQ c c' N f := fun c' c3 N f e q => by
    have j : CQ c1 c3 (c1 0 14) (c1 168) := ⟨by rw [e 0 (by decide) (by decide) (by decide) (by decide) (by decide)], fun j _ _ => by rw [e 168 (by decide) (by decide) (by decide) (by decide) (by decide)], fun k hk _ => e k (by have := hk.ne; omega) (by have := hk.ne; omega) (by have := hk.ne; omega) (by have := hk.ne; omega) (by have := hk.ne; omega), by rw [e 93 (by decide) (by decide) (by decide) (by decide) (by decide)], fun x _ => by rw [e 5 (by decide) (by decide) (by decide) (by decide) (by decide)], e 6 (by decide) (by decide) (by decide) (by decide) (by decide), e 7 (by decide) (by decide) (by decide) (by decide) (by decide), fun k hk => e k (by omega) (by omega) (by omega) (by omega) (by omega)⟩
    exact CQ.days f1 (j.then q)
  have CQs : ∀ c3 : Mem, (∀ k, k ≠ 147 → k ≠ 149 → k ≠ 150 → k ≠ 151 → k ≠ 152 → c3 k = c1 k) → CQ c c3 (a 169 1) (a 170) := fun c3 e => by
    have g0 : c1 0 = c 0 := f1.1 0 (by omega) (by omega) (by omega) (by omega) (by omega)
    have g8 : c1 168 = c 168 := f1.1 168 (by omega) (by omega) (by omega) (by omega) (by omega)
    refine CQd c3 c3 _ _ e ⟨?_, fun x x0 x1 => ?_, fun _ _ _ => rfl, rfl, fun _ _ => rfl, rfl, rfl, fun _ _ => rfl⟩
    · rw [e 0 (by decide) (by decide) (by decide) (by decide) (by decide), g0]; exact h.row.1
    · rw [e 168 (by decide) (by decide) (by decide) (by decide) (by decide), g8]; exact h.row.2 x x0 x1
  have e2 : ∀ k, k ≠ 147 → k ≠ 149 → k ≠ 150 → k ≠ 151 → k ≠ 152 → c2 k = c1 k := fun k k1 _ k3 _ _ => f2 k k1 k3
  refine sg_X11_holiday_35 (by rw [ez]; constructor <;> omega) (fun g5 => ?_) (fun g5 => ⟨_, rfl, Or.inr (Or.inr (Or.inl ⟨P, by rw [ez] at g5; omega, rfl, CQd _ c2 _ _ e2 CQ.zero⟩))⟩)
  rw [ez] at g5
  have cnt0 : (mvA a d).length ≠ 0 := by omega
  have sp : ∀ c3 : Mem, (∀ k, k ≠ 147 → k ≠ 149 → k ≠ 151 → k ≠ 152 → c3 k = c2 k) → c3 147 4 = c2 147 4 → (∀ x : Int, c3 149 x = c2 149 x) → ∀ L : Int, d + 1 ≤ L → L ≤ 6 → K_X0_spread E [.ref 147, vi (d + 1), vi L, vi n] c3 (fun z c' => (((holC a v d n (L + 1)).1 = 1000000 ∧ z = 0) ∨ ((holC a v d n (L + 1)).1 < 1000000 ∧ z = 1 ∧ ∀ j : Nat, j < (mvA a d).length → c' 152 j = (holC a v d n (L + 1)).2.getD j 0)) ∧ (∀ k, k ≠ 147 → k ≠ 149 → k ≠ 151 → k ≠ 152 → c' k = c2 k) ∧ c' 147 4 = c2 147 4 ∧ ∀ x : Int, c' 149 x = c2 149 x) := by
    intro c3 q1 q2 q3 L L0 L6
    refine en_X0_spread (sg_X0_spread_0 ?_)
    have k7 : ∀ (k : Nat) (z1 z2 z3 z4 : Int), k ≠ 147 → up2 (up2 (up2 (up2 c3 147 8 z1) 147 9 z2) 147 10 z3) 147 7 z4 k = c3 k := fun k z1 z2 z3 z4 hk => by rw [up2_k hk, up2_k hk, up2_k hk, up2_k hk]
    have hk : (L - d).toNat = (L + 1 - (d + 1)).toNat := by omega
    refine ca_X0_spread_24 (d2 := 200) (by decide) (ct_spreadFrom (a := a) (v := v) (n := n) (lo := d + 1) (k := (L + 1 - (d + 1)).toNat) (all := mvS a v d) (by have := P.1.1; omega) (by omega) P.2.1 P.2.2 (by omega) (mvS_rng hT hS hn) (mvS a v d) 200 0 0 [] (dayF a v) (1000000, []) _ (by omega) rfl (by omega) rfl ⟨?_, ?_, ?_, ?_, ?_, ?_⟩ (fun x x0 x7 => ?_) (fun x x0 x7 => ?_) (fun j hj => by omega) ⟨by rw [up2_same], fun o => by omega⟩ (by omega) (by omega) (by decide) (by decide)) (fun c4 h4 => ?_)
    · rw [up2_j (by decide), up2_j (by decide), up2_j (by decide), up2_same]
    · rw [up2_j (by decide), up2_j (by decide), up2_same]; omega
    · rw [up2_j (by decide), up2_same]
    · rw [up2_j (by decide), up2_j (by decide), up2_j (by decide), up2_j (by decide), q2, e4, ml.1]
    · intro s s0 s6
      rw [k7 148 _ _ _ _ (by decide), q1 148 (by decide) (by decide) (by decide) (by decide), f2 148 (by decide) (by decide)]
      exact hd.1 s s0 s6
    · intro j hj
      rw [ml.1] at hj
      rw [k7 150 _ _ _ _ (by decide), q1 150 (by decide) (by decide) (by decide) (by decide), e150 j hj]
      have hm : 0 ≤ (mvA a d).getD j 0 ∧ (mvA a d).getD j 0 < ((a 169 3).toNat : Nat) := mvL_mem _ (getD_mem0 hj)
      refine ⟨hm.1, by omega, ?_⟩
      unfold mvS
      rw [getD_map0 hj]
      unfold secS
      rw [if_pos (by omega)]
    · rw [k7 149 _ _ _ _ (by decide), q3 x, f2 149 (by decide) (by decide)]
      exact hd.2 x x0 x7
    · have := dayS_rng (v := v) (d := x) hT hS hn (n := (a 169 3).toNat) (by omega)
      unfold dayF
      omega
    · obtain ⟨⟨g1, g2'⟩, g3', g4', g5', -⟩ := h4
      have eH : (asg n (d + 1) (L + 1 - (d + 1)).toNat (mvS a v d) (dayF a v)).foldl (stC [] 0) (1000000, []) = holC a v d n (L + 1) := rfl
      rw [eH] at g1 g2'
      have iv := inv2 (L + 1) (by omega) (by omega)
      have F0 : 0 ≤ (holC a v d n (L + 1)).1 := by
        have gen : ∀ (l : List (List Int)) (s2 : Int × List Int), (∀ q ∈ l, 0 ≤ sumL q) → 0 ≤ s2.1 → 0 ≤ (l.foldl (stC [] 0) s2).1 := by
          intro l
          induction l with
          | nil => intro s2 _ h0; exact h0
          | cons q l ihl =>
            intro s2 hl h0
            rw [List.foldl_cons]
            have hq := hl q List.mem_cons_self
            refine ihl _ (fun r hr => hl r (List.mem_cons_of_mem _ hr)) ?_
            unfold stC
            split
            · show 0 ≤ 0 + sumL q; omega
            · exact h0
        refine gen _ _ (fun q hq => ?_) (by decide)
        obtain ⟨m1, m2⟩ := mem_asg _ _ q hq
        have := (sumL_ge (lo := 0) (hi := 7) q (fun x hx => by have := m2 x hx; have := P.1.1; omega)).1
        omega
      have rest : (∀ k, k ≠ 147 → k ≠ 149 → k ≠ 151 → k ≠ 152 → c4 k = c2 k) ∧ c4 147 4 = c2 147 4 ∧ ∀ x : Int, c4 149 x = c2 149 x := by
        refine ⟨fun k k1 k2 k3 k4 => by rw [g3' k k1 k2 k3 k4, k7 k _ _ _ _ k1, q1 k k1 k2 k3 k4], ?_, fun x => by rw [g5' x, k7 149 _ _ _ _ (by decide), q3 x]⟩
        rw [g4' 4 (by decide), up2_j (by decide), up2_j (by decide), up2_j (by decide), up2_j (by decide), q2]
      refine sg_X0_spread_27 (by rw [g1]; constructor <;> omega) (fun o => ⟨_, rfl, Or.inl ⟨by rw [g1] at o; omega, rfl⟩, rest⟩) (fun o => ⟨_, rfl, Or.inr ⟨by rw [g1] at o; omega, rfl, fun j hj => g2' (by rw [g1] at o; omega) j (by rw [ml.1]; exact hj)⟩, rest⟩)
  have key : ∀ (k : Nat) (L : Int) (c3 : Mem), L + k = 7 → d + 1 ≤ L → L ≤ (holR a v d n).1 → (∀ k, k ≠ 147 → k ≠ 149 → k ≠ 151 → k ≠ 152 → c3 k = c2 k) → c3 147 4 = c2 147 4 → (∀ x : Int, c3 149 x = c2 149 x) → GM E (m_X11_holiday 202) (Pi fun z c' => (holP d n ∧ (mvA a d).length ≠ 0 ∧ (holR a v d n).1 ≤ 6 ∧ z = (holR a v d n).1 - d ∧ CQ c c' (mvA a d).length (holL a v d n)) ∨ (holP d n ∧ (mvA a d).length ≠ 0 ∧ ¬ (holR a v d n).1 ≤ 6 ∧ z = -2 ∧ CQ c c' (a 169 1) (a 170)) ∨ (holP d n ∧ (mvA a d).length = 0 ∧ z = 0 ∧ CQ c c' 0 (rwL [])) ∨ (¬ holP d n ∧ z = -1 ∧ CQ c c' (a 169 1) (a 170))) 51 [.ref 0, vi d, vi n, vi z, vi L, un] [] c3 := by
    intro k
    induction k with
    | zero =>
      intro L c3 hL hd1 hR1 q1 q2 q3
      exact sg_X11_holiday_51 ⟨by omega, by omega⟩ (fun _ => ⟨_, rfl, Or.inr (Or.inl ⟨P, cnt0, by omega, rfl, CQs c3 (fun k k1 k2 k3 k4 k5 => by rw [q1 k k1 k2 k4 k5, e2 k k1 k2 k3 k4 k5])⟩)⟩) (by omega)
    | succ k ih =>
      intro L c3 hL hd1 hR1 q1 q2 q3
      refine sg_X11_holiday_51 ⟨by omega, by omega⟩ (by omega) (fun _ => ?_)
      have iv := inv2 (L + 1) (by omega) (by omega)
      refine ca_X11_holiday_68 (sp c3 q1 q2 q3 L hd1 (by omega)) (fun y c4 hy => ?_)
      obtain ⟨hy, w1, w2, w3⟩ := hy
      rcases hy with ⟨y1, y2⟩ | ⟨y1, y2, y3⟩
      · refine sg_X11_holiday_71 (by rw [y2]; decide) (fun _ => ?_) (fun o => by omega)
        exact ih (L + 1) c4 (by omega) (by omega) (iv.2.1 y1) w1 w2 w3
      · refine sg_X11_holiday_71 (by rw [y2]; decide) (fun o => by omega) (fun _ => ?_)
        have nR : ¬ L + 1 ≤ (holR a v d n).1 := fun o => by have := iv.2.2 o; omega
        have eR : (holR a v d n).1 = L := by omega
        have eC := inv4 (by omega) (by omega)
        rw [eR] at eC
        rw [eC] at y3
        have e4' : ∀ k, k ≠ 147 → k ≠ 149 → k ≠ 150 → k ≠ 151 → k ≠ 152 → c4 k = c1 k := fun k k1 k2 k3 k4 k5 => by rw [w1 k k1 k2 k4 k5, e2 k k1 k2 k3 k4 k5]
        have hr := hol_rng (a := a) (v := v) (d := d) (n := n) P.1.1
        refine up_loop (i0 := 0) (n := (mvA a d).length) (fun i c5 => GM E _ _ 81 [.ref 0, vi d, vi n, vi z, vi L, vi i] [] c5) (fun i c5 => c5 0 14 = i ∧ (∀ j : Int, 0 ≤ j → j < i → c5 168 j = holL a v d n j) ∧ ∀ k, k ≠ 0 → k ≠ 168 → c5 k = c4 k) (fun c5 h5 => ?_) (fun i c5 i0 i1 h5 kk => ?_) (i := 0) (by omega) (by omega) ⟨up2_same _ _ _ _, fun j j0 j1 => by omega, fun k k1 _ => up2_k k1⟩
        · obtain ⟨p1, p2, p3⟩ := h5
          exact sg_X11_holiday_81 ⟨by omega, by omega⟩ (by rw [ez]; constructor <;> omega) (by rw [ez]; omega) (by rw [ez]; omega) (by rw [ez]; omega) (fun _ => ⟨_, rfl, Or.inl ⟨P, cnt0, by omega, by rw [eR], CQd c5 c4 _ _ e4' (CQ.of2 p3 p1 p2)⟩⟩) (by rw [ez]; omega)
        · obtain ⟨p1, p2, p3⟩ := h5
          have ei : ((i.toNat : Nat) : Int) = i := Int.toNat_of_nonneg i0
          have e152 : c5 152 i = holL a v d n i := by
            rw [p3 152 (by decide) (by decide)]
            have := y3 i.toNat (by omega)
            rw [ei] at this
            exact this
          have hrng : RI (holL a v d n i) := by
            unfold holL
            by_cases c : i.toNat < (holR a v d n).2.2.length
            · have := hr _ (getD_mem0 c)
              have := P.1.1
              constructor <;> omega
            · rw [List.getD_eq_getElem?_getD, List.getElem?_eq_none (by omega)]
              decide
          refine sg_X11_holiday_81 ⟨by omega, by omega⟩ (by rw [ez]; constructor <;> omega) (fun _ => ⟨i0, by omega⟩) (fun _ => by rw [e152]; exact hrng) (fun _ => by rw [p1]; omega) (by rw [ez]; omega) (fun _ => kk _ ?_)
          rw [p1, e152]
          refine ⟨up2_same _ _ _ _, fun j j0 j1 => ?_, fun k k1 k2 => by rw [up2_k k1, up2_k k2, p3 k k1 k2]⟩
          rw [up2_k (by decide)]
          by_cases cj : j = i
          · subst cj; exact up2_same _ _ _ _
          · rw [up2_j cj]; exact p2 j j0 (by omega)
  have start : d + 1 ≤ (holR a v d n).1 := by
    have iv := inv2 (d + 1) (by omega) (by have := P.1.2; omega)
    refine iv.2.1 ?_
    unfold holC
    have : mvS a v d ≠ [] := fun e => by
      have := ml.1
      rw [e] at this
      exact cnt0 this.symm
    obtain ⟨t, ts, e⟩ := List.exists_cons_of_ne_nil this
    rw [e, show (d + 1 - (d + 1)).toNat = 0 by omega, asg, asgD]
    rfl
  exact key (6 - d).toNat (d + 1) c2 (by have := P.1.2; omega) (Int.le_refl _) start (fun _ _ _ _ _ => rfl) rfl (fun _ => rfl)
