/-! holiday: the reference's side -/
def HM (m m' : Mem) : Prop := (∀ k, k ≠ 200 → k ≠ 189 → k ≠ 169 → k ≠ 187 → k ≠ 188 → k ≠ 197 → k ≠ 198 → k ≠ 199 → m' k = m k) ∧ ∀ j : Int, (j < 30 ∨ 37 < j) → j ≠ 39 → j ≠ 0 → j ≠ 59 → j ≠ 60 → j ≠ 61 → m' 169 j = m 169 j
theorem HM.trans {a b d : Mem} (h : HM a b) (g : HM b d) : HM a d := ⟨fun k k1 k2 k3 k4 k5 k6 k7 k8 => (g.1 k k1 k2 k3 k4 k5 k6 k7 k8).trans (h.1 k k1 k2 k3 k4 k5 k6 k7 k8), fun j j1 j2 j3 j4 j5 j6 => (g.2 j j1 j2 j3 j4 j5 j6).trans (h.2 j j1 j2 j3 j4 j5 j6)⟩
theorem HM.mb {m m' : Mem} (h : HM m m') : MB m m' := ⟨h.2 3 (by omega) (by decide) (by decide) (by decide) (by decide) (by decide), h.2 26 (by omega) (by decide) (by decide) (by decide) (by decide) (by decide), fun k k0 k1 => h.1 k (by omega) (by omega) (by omega) (by omega) (by omega) (by omega) (by omega) (by omega), h.1 185 (by decide) (by decide) (by decide) (by decide) (by decide) (by decide) (by decide) (by decide)⟩
theorem HM.low {m m' : Mem} (h : HM m m') : LowEq m m' := fun k hk => h.1 k (by omega) (by omega) (by omega) (by omega) (by omega) (by omega) (by omega) (by omega)
theorem HM.row {m m' m2 : Mem} {n : Int} {f : Int → Int} (h : HM m m') (e : ∀ k, k ≠ 169 → k ≠ 170 → m2 k = m' k) (e9 : ∀ j : Int, j ≠ 1 → m2 169 j = m' 169 j) (h1 : m2 169 1 = n) (h2 : ∀ j : Int, 0 ≤ j → j < n → m2 170 j = f j) : PEq m2 (rowU m n f) := by
  refine PEq.row (fun k hk k9 k0 => ?_) (fun j hj j1 => ?_) h1 h2
  · have hk : (169 ≤ k ∧ k < 181) ∨ k = 182 ∨ k = 185 ∨ k = 190 ∨ k = 201 ∨ k = 202 ∨ (205 ≤ k ∧ k < 208) := hk
    rw [e k k9 k0, h.1 k (by omega) (by omega) k9 (by omega) (by omega) (by omega) (by omega) (by omega)]
  · have hj : j = 1 ∨ j = 3 ∨ j = 4 ∨ j = 17 ∨ j = 26 ∨ j = 40 ∨ j = 62 := hj
    rw [e9 j j1, h.2 j (by omega) (by omega) (by omega) (by omega) (by omega) (by omega)]
theorem HM.same {m m' : Mem} (h : HM m m') : PEq m' m := PEq.of (fun k hk k9 => by
    have hk : (169 ≤ k ∧ k < 181) ∨ k = 182 ∨ k = 185 ∨ k = 190 ∨ k = 201 ∨ k = 202 ∨ (205 ≤ k ∧ k < 208) := hk
    exact h.1 k (by omega) (by omega) k9 (by omega) (by omega) (by omega) (by omega) (by omega)) (fun j hj => by
    have hj : j = 1 ∨ j = 3 ∨ j = 4 ∨ j = 17 ∨ j = 26 ∨ j = 40 ∨ j = 62 := hj
    exact h.2 j (by omega) (by omega) (by omega) (by omega) (by omega) (by omega))
theorem mt_holiday {E : Nat × (Nat → Int32)} {m a : Mem} {v : (Int → Int) → Int} {d n B : Int} (rd : RI d) (rn : RI n) (hm : HighEq a m) (hR : RuleM a v) (hT : WTown a) (hS : WSet a) (hn : StOK B a (a 180)) : K_X12_holiday E [.ref 169, vi d, vi n] m (fun z m' => (holP d n ∧ (mvA a d).length ≠ 0 ∧ (holR a v d n).1 ≤ 6 ∧ z = (holR a v d n).1 - d ∧ PEq m' (rowU m (mvA a d).length (holL a v d n)) ∧ LowEq m m') ∨ (holP d n ∧ (mvA a d).length ≠ 0 ∧ ¬ (holR a v d n).1 ≤ 6 ∧ z = -2 ∧ PEq m' m ∧ LowEq m m') ∨ (holP d n ∧ (mvA a d).length = 0 ∧ z = 0 ∧ PEq m' (rowU m 0 (rwL [])) ∧ LowEq m m') ∨ (¬ holP d n ∧ z = -1 ∧ PEq m' m ∧ LowEq m m')) := by
  have n0 := hT.1
  have n6 := hT.2.1
  have no : ¬ holP d n → (Pi fun z m' => (holP d n ∧ (mvA a d).length ≠ 0 ∧ (holR a v d n).1 ≤ 6 ∧ z = (holR a v d n).1 - d ∧ PEq m' (rowU m (mvA a d).length (holL a v d n)) ∧ LowEq m m') ∨ (holP d n ∧ (mvA a d).length ≠ 0 ∧ ¬ (holR a v d n).1 ≤ 6 ∧ z = -2 ∧ PEq m' m ∧ LowEq m m') ∨ (holP d n ∧ (mvA a d).length = 0 ∧ z = 0 ∧ PEq m' (rowU m 0 (rwL [])) ∧ LowEq m m') ∨ (¬ holP d n ∧ z = -1 ∧ PEq m' m ∧ LowEq m m')) (some (vi (-1))) (up2 m 169 0 0) := fun g => ⟨_, rfl, Or.inr (Or.inr (Or.inr ⟨g, rfl, PEq.field npf0, fun k hk => up2_k (by omega)⟩))⟩
  have := rd.1; have := rd.2; have := rn.1; have := rn.2
  refine en_X12_holiday (sg_X12_holiday_0 rd ⟨by omega, by omega⟩ rn ⟨by omega, by omega⟩ (fun g g2 => ?_) (fun g g2 => no (fun o => g2 o.2)) (fun g => no (fun o => g o.1)))
  have P : holP d n := ⟨g, g2⟩
  have ml := mvS_len (a := a) (v := v) (d := d) n0 n6
  have mr := mvS_rng (d := d) (v := v) hT hS hn
  have H0 : HM m (up2 (up2 m 169 0 0) 169 59 0) := ⟨fun k _ _ k9 _ _ _ _ _ => by rw [up2_k k9, up2_k k9], fun j _ _ j0 j9 _ _ => by rw [up2_j j9, up2_j j0]⟩
  have mbm : MB a m := hm.mb
  have loop : ∀ (k s : Nat) (m2 : Mem), (s : Int) + k = a 169 3 → HM m m2 → m2 169 59 = (mvL a d s).length → (∀ j : Nat, j < (mvL a d s).length → m2 200 j = bestS a v (a 180) ((mvL a d s).getD j 0)) → GM E (m_X12_holiday 201) (Pi fun z m' => (holP d n ∧ (mvA a d).length ≠ 0 ∧ (holR a v d n).1 ≤ 6 ∧ z = (holR a v d n).1 - d ∧ PEq m' (rowU m (mvA a d).length (holL a v d n)) ∧ LowEq m m') ∨ (holP d n ∧ (mvA a d).length ≠ 0 ∧ ¬ (holR a v d n).1 ≤ 6 ∧ z = -2 ∧ PEq m' m ∧ LowEq m m') ∨ (holP d n ∧ (mvA a d).length = 0 ∧ z = 0 ∧ PEq m' (rowU m 0 (rwL [])) ∧ LowEq m m') ∨ (¬ holP d n ∧ z = -1 ∧ PEq m' m ∧ LowEq m m')) 38 [.ref 169, vi d, vi n, vi (s : Int)] [] m2 := by
    intro k
    induction k with
    | zero =>
      intro s m2 hs H e59 e200
      have b2 := mbm.trans H.mb
      have es : mvL a d s = mvA a d := by unfold mvA; rw [show (a 169 3).toNat = s by omega]
      rw [es] at e59 e200
      have e3 : m2 169 3 = a 169 3 := b2.1
      refine sg_X12_holiday_38 ⟨by omega, by omega⟩ (by rw [e3]; constructor <;> omega) (fun _ => by rw [e59]; constructor <;> omega) (by rw [e3]; omega) (by rw [e3]; omega) rd (fun _ q => ?_) (fun _ q => ⟨_, rfl, Or.inr (Or.inr (Or.inl ⟨P, by rw [e59] at q; omega, rfl, H.row (fun k k9 _ => up2_k k9) (fun j j1 => up2_j j1) (up2_same _ _ _ _) (fun j j0 j1 => by omega), fun k hk => by rw [up2_k (by omega), H.low k hk]⟩))⟩) (by rw [e3]; omega) (by rw [e3]; omega)
      rw [e59] at q
      have cnt0 : (mvA a d).length ≠ 0 := by omega
      have e180 : m2 180 = a 180 := by rw [H.1 180 (by decide) (by decide) (by decide) (by decide) (by decide) (by decide) (by decide) (by decide), hm 180 (by decide)]
      refine ca_X12_holiday_101 (mt_laysDays b2 e180 hR hT hS hn) (fun m3 h3 => sg_X12_holiday_104 ?_)
      obtain ⟨l1, l2, l3⟩ := h3
      have k2' : ∀ (k : Nat) (z1 z2 : Int), k ≠ 169 → up2 (up2 m3 169 60 z1) 169 61 z2 k = m3 k := fun k z1 z2 h => by rw [up2_k h, up2_k h]
      refine ca_X12_holiday_121 (d2 := 200) (by decide) (mt_movesFrom (n := n) (hv' := d) (k := (6 - d).toNat) (all := mvS a v d) P.1.1 P.1.2 (by have := P.1.2; omega) P.2.1 P.2.2 (by omega) mr (mvS a v d) 200 0 0 0 [] (dayF a v) (7, 0, []) _ (by omega) rfl (by omega) rfl ⟨?_, fun j hj => ?_⟩ (fun x x0 x7 => ?_) (fun x x0 x7 => ?_) (fun j hj => by omega) ⟨?_, ?_, fun o => by omega⟩ (by omega) (by omega) (by decide) (by decide) (by decide) (by decide) (by decide) (by decide)) (fun m4 h4 => ?_)
      · rw [up2_j (by decide), up2_j (by decide), l3 59 (by omega) (by decide), e59, ml.1]
      · rw [ml.1] at hj
        rw [k2' _ _ _ (by decide), l2 200 (by decide) (by decide) (by decide) (by decide) (by decide), e200 j hj]
        unfold mvS
        rw [getD_map0 hj]
      · rw [k2' _ _ _ (by decide)]
        exact l1 x x0 x7
      · have := dayS_rng (v := v) (d := x) hT hS hn (n := (a 169 3).toNat) (by omega)
        unfold dayF
        omega
      · rw [up2_j (by decide), up2_same]
      · rw [up2_same]
      · obtain ⟨⟨f1, f2, f3⟩, f4⟩ := h4
        have eH : (asg n (d + 1) (6 - d).toNat (mvS a v d) (dayF a v)).foldl (stR [] 0 0) (7, 0, []) = holR a v d n := rfl
        rw [eH] at f1 f2 f3
        have rng := foldR_rng (p := []) (lat := 0) (sum := 0) (by decide) (by decide) (by decide) (holA a v d n) (7, 0, []) (fun q hq => by
          obtain ⟨m1, mm⟩ := mem_asg _ _ q hq
          have b := sumL_ge (lo := 0) (hi := 7) q (fun x hx => by have := mm x hx; have := P.1.1; have := P.1.2; omega)
          refine ⟨b.1, by omega, ?_⟩
          have gen : ∀ (l : List Int) (x : Int), (∀ y ∈ l, y ≤ 7) → x ≤ 7 → l.foldl max x ≤ 7 := by
            intro l
            induction l with
            | nil => intro x _ h; exact h
            | cons y l ih =>
              intro x hl hx
              rw [List.foldl_cons]
              have := hl y List.mem_cons_self
              exact ih _ (fun z hz => hl z (List.mem_cons_of_mem _ hz)) (by omega)
          exact gen q 0 (fun y hy => by have := mm y hy; have := P.1.2; omega) (by decide)) (by decide) (by decide) (by decide) (by decide)
        have H4 : HM m m4 := H.trans ⟨fun k k1 k2 k3 k4 k5 k6 k7 k8 => by rw [f4.1 k k3 k6 k7 k8, k2' k _ _ k3, l2 k k6 k2 k3 k4 k5], fun j j1 j2 j3 j4 j5 j6 => by rw [f4.2.1 j j5 j6, up2_j j6, up2_j j5, l3 j j1 j2]⟩
        have e59' : m4 169 59 = (mvA a d).length := by rw [f4.2.1 59 (by decide) (by decide), up2_j (by decide), up2_j (by decide), l3 59 (by omega) (by decide), e59]
        refine sg_X12_holiday_124 (by rw [f1]; have : 0 ≤ (holR a v d n).1 ∧ (holR a v d n).1 ≤ 7 := ⟨rng.1, rng.2.1⟩; constructor <;> omega) (fun c => ?_) (fun c => ⟨_, rfl, Or.inr (Or.inl ⟨P, cnt0, by rw [f1] at c; exact c, rfl, H4.same, H4.low⟩)⟩)
        rw [f1] at c
        have hr := hol_rng (a := a) (v := v) (d := d) (n := n) P.1.1
        refine up_loop (i0 := 0) (n := (mvA a d).length) (fun i m5 => GM E _ _ 143 [.ref 169, vi d, vi n, vi i] [] m5) (fun i m5 => m5 169 1 = i ∧ (∀ j : Int, 0 ≤ j → j < i → m5 170 j = holL a v d n j) ∧ (∀ k, k ≠ 169 → k ≠ 170 → m5 k = m4 k) ∧ ∀ j : Int, j ≠ 1 → m5 169 j = m4 169 j) (fun m5 h5 => ?_) (fun i m5 i0 i1 h5 kk => ?_) (i := 0) (by omega) (by omega) ⟨up2_same _ _ _ _, fun j j0 j1 => by omega, fun k k1 _ => up2_k k1, fun j j1 => up2_j j1⟩
        · obtain ⟨p1, p2, p3, p4⟩ := h5
          have e59m : m5 169 59 = (mvA a d).length := by rw [p4 59 (by decide), e59']
          refine sg_X12_holiday_143 ⟨by omega, by omega⟩ (by rw [e59m]; constructor <;> omega) (by rw [e59m]; omega) (by rw [e59m]; omega) (by rw [e59m]; omega) (fun _ => ⟨_, rfl, Or.inl ⟨P, cnt0, c, by rw [p4 60 (by decide), f1], H4.row p3 p4 p1 p2, fun k hk => by rw [p3 k (by omega) (by omega), H4.low k hk]⟩⟩) (by rw [e59m]; omega)
        · obtain ⟨p1, p2, p3, p4⟩ := h5
          have e59m : m5 169 59 = (mvA a d).length := by rw [p4 59 (by decide), e59']
          have ei : ((i.toNat : Nat) : Int) = i := Int.toNat_of_nonneg i0
          have e199 : m5 199 i = holL a v d n i := by
            rw [p3 199 (by decide) (by decide)]
            have := f3 (by omega) i.toNat (by omega)
            rw [ei] at this
            exact this
          have hrng : RI (holL a v d n i) := by
            unfold holL
            by_cases c : i.toNat < (holR a v d n).2.2.length
            · have := hr _ (getD_mem0 c)
              have := P.1.1; have := P.1.2
              constructor <;> omega
            · rw [List.getD_eq_getElem?_getD, List.getElem?_eq_none (by omega)]
              decide
          refine sg_X12_holiday_143 ⟨by omega, by omega⟩ (by rw [e59m]; constructor <;> omega) (fun _ => ⟨i0, by omega⟩) (fun _ => by rw [e199]; exact hrng) (fun _ => by rw [p1]; omega) (by rw [e59m]; omega) (fun _ => kk _ ?_)
          rw [p1, e199]
          refine ⟨up2_same _ _ _ _, fun j j0 j1 => ?_, fun k k1 k2 => by rw [up2_k k1, up2_k k2, p3 k k1 k2], fun j j1 => by rw [up2_j j1, up2_k (by decide), p4 j j1]⟩
          rw [up2_k (by decide)]
          by_cases cj : j = i
          · subst cj; exact up2_same _ _ _ _
          · rw [up2_j cj]; exact p2 j j0 (by omega)
    | succ k ih =>
      intro s m2 hs H e59 e200
      have b2 := mbm.trans H.mb
      have e3 : m2 169 3 = a 169 3 := b2.1
      have e75 : m2 175 = a 175 := b2.2.2.1 175 (by omega) (by omega)
      have t := hT.2.2.1 s (by omega) (by omega)
      have ln := mvL_len (a := a) (d := d) s
      refine sg_X12_holiday_38 ⟨by omega, by omega⟩ (by rw [e3]; constructor <;> omega) (by rw [e3]; omega) (fun _ => by omega) (fun _ => by rw [e75]; constructor <;> omega) rd (by rw [e3]; omega) (by rw [e3]; omega) (fun _ g => ?_) (fun _ g => ?_)
      · rw [e75] at g
        have em : mvL a d (s + 1) = mvL a d s := by rw [mvL, if_neg g]
        rw [show (s : Int) + 1 = ((s + 1 : Nat) : Int) by omega]
        exact ih (s + 1) m2 (by omega) H (by rw [em]; exact e59) (by rw [em]; exact e200)
      · rw [e75] at g
        have em : mvL a d (s + 1) = mvL a d s ++ [(s : Int)] := by rw [mvL, if_pos g]
        have e180 : m2 180 = a 180 := by rw [H.1 180 (by decide) (by decide) (by decide) (by decide) (by decide) (by decide) (by decide) (by decide), hm 180 (by decide)]
        refine ca_X12_holiday_66 (mt_bestNow (r0 := a 180) b2 hR hT hS (by omega) (by omega) (fun c _ _ => by rw [e180]) hn.r3) (fun z m4 hz => sg_X12_holiday_69 (by rw [e59]; omega) ?_)
        obtain ⟨ez, -, f, -, -⟩ := hz
        rw [show (s : Int) + 1 = ((s + 1 : Nat) : Int) by omega]
        refine ih (s + 1) _ (by omega) (H.trans ⟨fun k k1 k2 k3 k4 k5 k6 k7 k8 => by rw [up2_k k3, up2_k k1, f.1 k k2 k3 k4 k5], fun j j1 j2 j3 j4 j5 j6 => by rw [up2_j j4, up2_k (by decide), f.2 j j1 j2]⟩) ?_ (fun j hj => ?_)
        · rw [up2_same, em, List.length_append, f.2 59 (by omega) (by decide), e59]
          show _ = (((mvL a d s).length + 1 : Nat) : Int)
          omega
        · rw [em] at hj ⊢
          rw [List.length_append] at hj
          have hj : j < (mvL a d s).length + 1 := hj
          rw [up2_k (by decide), e59]
          by_cases cj : j = (mvL a d s).length
          · subst cj
            rw [up2_same, List.getD_eq_getElem?_getD, List.getElem?_append_right (by omega), Nat.sub_self, ez]
            rfl
          · rw [up2_j (by omega), f.1 200 (by decide) (by decide) (by decide) (by decide), e200 j (by omega), List.getD_eq_getElem?_getD, List.getD_eq_getElem?_getD, List.getElem?_append_left (by omega)]
  exact loop (a 169 3).toNat 0 _ (by omega) H0 (up2_same _ _ _ _) (fun j hj => by have hj : j < 0 := hj; omega)
