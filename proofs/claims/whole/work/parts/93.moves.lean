/-! holiday: the reference's search -/
def FR (cnt : Nat) (st : Int × Int × List Int) (m : Mem) : Prop := m 169 60 = st.1 ∧ m 169 61 = st.2.1 ∧ (st.1 < 7 → ∀ j : Nat, j < cnt → m 199 j = st.2.2.getD j 0)
def MvI (all : List Int) (m : Mem) : Prop := m 169 59 = all.length ∧ ∀ j : Nat, j < all.length → m 200 j = all.getD j 0
def MvFr (i : Nat) (m m' : Mem) : Prop := (∀ k, k ≠ 169 → k ≠ 197 → k ≠ 198 → k ≠ 199 → m' k = m k) ∧ (∀ j : Int, j ≠ 60 → j ≠ 61 → m' 169 j = m 169 j) ∧ (∀ d : Int, m' 197 d = m 197 d) ∧ ∀ j : Int, j < i → m' 198 j = m 198 j
theorem MvFr.rf {i : Nat} {m : Mem} : MvFr i m m := ⟨fun _ _ _ _ _ => rfl, fun _ _ _ => rfl, fun _ => rfl, fun _ _ => rfl⟩
theorem foldR_rng {p : List Int} {lat sum : Int} (l0 : 0 ≤ lat) (s0 : 0 ≤ sum) (s9 : sum ≤ 900000) : ∀ (l : List (List Int)) (s2 : Int × Int × List Int), (∀ q ∈ l, 0 ≤ sumL q ∧ sumL q ≤ 100 ∧ q.foldl max lat ≤ 7) → 0 ≤ s2.1 → s2.1 ≤ 7 → 0 ≤ s2.2.1 → s2.2.1 ≤ 1000000 → 0 ≤ (l.foldl (stR p lat sum) s2).1 ∧ (l.foldl (stR p lat sum) s2).1 ≤ 7 ∧ 0 ≤ (l.foldl (stR p lat sum) s2).2.1 ∧ (l.foldl (stR p lat sum) s2).2.1 ≤ 1000000
  | [], s2, _, h0, h1, h2, h3 => ⟨h0, h1, h2, h3⟩
  | q :: l, s2, hl, h0, h1, h2, h3 => by
    rw [List.foldl_cons]
    have hq := hl q List.mem_cons_self
    have mg := foldmax_ge q lat
    refine foldR_rng l0 s0 s9 l _ (fun r hr => hl r (List.mem_cons_of_mem _ hr)) ?_ ?_ ?_ ?_
    · unfold stR
      split
      · show 0 ≤ q.foldl max lat; omega
      · exact h0
    · unfold stR
      split
      · show q.foldl max lat ≤ 7; omega
      · exact h1
    · unfold stR
      split
      · show 0 ≤ sum + sumL q; omega
      · exact h2
    · unfold stR
      split
      · show sum + sumL q ≤ 1000000; omega
      · exact h3
theorem mt_movesFrom {E : Nat × (Nat → Int32)} {n hv' : Int} {k : Nat} {all : List Int} (v0 : 0 ≤ hv') (v6 : hv' ≤ 6) (hk : hv' + 1 + k = 7) (n0 : 0 ≤ n) (n9 : n ≤ 99999) (all6 : all.length ≤ 6) (hall : ∀ x ∈ all, 0 ≤ x ∧ x ≤ 17712) : ∀ (secs : List Int) (dd i : Nat) (lat sum : Int) (p : List Int) (ld : Int → Int) (st : Int × Int × List Int) (m : Mem), secs.length + 3 ≤ dd → all.drop i = secs → i + secs.length = all.length → p.length = i → MvI all m → (∀ d : Int, 0 ≤ d → d < 7 → m 197 d = ld d) → (∀ d : Int, 0 ≤ d → d < 7 → 0 ≤ ld d ∧ ld d + 17712 * secs.length ≤ 1000000) → (∀ j : Nat, j < i → m 198 j = p.getD j 0) → FR all.length st m → 0 ≤ sum → sum ≤ 6 * i → 0 ≤ lat → lat ≤ 6 → 0 ≤ st.1 → st.1 ≤ 7 → 0 ≤ st.2.1 → st.2.1 ≤ 1000000 → K_X12_movesFrom E dd [.ref 169, vi (i : Int), vi hv', vi n, vi lat, vi sum] m (fun m' => FR all.length ((asg n (hv' + 1) k secs ld).foldl (stR p lat sum) st) m' ∧ MvFr i m m') := by
  intro secs
  induction secs with
  | nil =>
    intro dd i lat sum p ld st m hd hs hl hp hI h197 hld h198 hF s0 s6 l0 l6 f0 f7 g0 g6
    have hl : i + 0 = all.length := hl
    have e59 := hI.1
    have e60 := hF.1
    have e61 := hF.2.1
    have eas : (asg n (hv' + 1) k [] ld).foldl (stR p lat sum) st = stR p lat sum st [] := by rw [asg]; rfl
    rw [eas]
    have sets : (lat < st.1 ∨ (lat = st.1 ∧ sum < st.2.1)) → GM E (m_X12_movesFrom dd) (Pv fun m' => FR all.length (stR p lat sum st []) m' ∧ MvFr i m m') 59 [.ref 169, vi (i : Int), vi hv', vi n, vi lat, vi sum, vi 0] [] (up2 (up2 m 169 60 lat) 169 61 sum) := by
      intro c
      have e : stR p lat sum st [] = (lat, sum, p) := by
        unfold stR
        show (if lat < st.1 ∨ (lat = st.1 ∧ sum + 0 < st.2.1) then (lat, sum + 0, p ++ []) else st) = _
        rw [Int.add_zero, if_pos c, List.append_nil]
      rw [e]
      refine up_loop (i0 := 0) (n := i) (fun x m2 => GM E _ _ 59 [.ref 169, vi (i : Int), vi hv', vi n, vi lat, vi sum, vi x] [] m2) (fun x m2 => (∀ j : Int, 0 ≤ j → j < x → m2 199 j = m 198 j) ∧ ∀ q, q ≠ 199 → m2 q = up2 (up2 m 169 60 lat) 169 61 sum q) (fun m2 h => ?_) (fun x m2 x0 x1 h kk => ?_) (i := 0) (by omega) (by omega) ⟨fun j j0 j1 => by omega, fun _ _ => rfl⟩
      · obtain ⟨q1, q2⟩ := h
        refine sg_X12_movesFrom_59 ⟨by omega, by omega⟩ ⟨by omega, by omega⟩ (by omega) (fun _ => ⟨rfl, ⟨?_, ?_, fun _ j hj => ?_⟩, fun q k1 k2 k3 k4 => ?_, fun j j1 j2 => ?_, fun d => ?_, fun j _ => ?_⟩) (by omega)
        · rw [q2 169 (by decide), up2_j (by decide), up2_same]
        · rw [q2 169 (by decide), up2_same]
        · rw [q1 j (by omega) (by omega)]; exact h198 j (by omega)
        · rw [q2 q k4, up2_k k1, up2_k k1]
        · rw [q2 169 (by decide), up2_j j2, up2_j j1]
        · rw [q2 197 (by decide), up2_k (by decide), up2_k (by decide)]
        · rw [q2 198 (by decide), up2_k (by decide), up2_k (by decide)]
      · obtain ⟨q1, q2⟩ := h
        refine sg_X12_movesFrom_59 ⟨by omega, by omega⟩ ⟨by omega, by omega⟩ (fun _ => by omega) (by omega) (fun _ => kk _ ⟨fun j j0 j1 => ?_, fun q hq => by rw [up2_k hq, q2 q hq]⟩)
        by_cases cj : j = x
        · subst cj
          rw [up2_same, q2 198 (by decide), up2_k (by decide), up2_k (by decide)]
        · rw [up2_j cj]; exact q1 j j0 (by omega)
    have stays : ¬ (lat < st.1 ∨ (lat = st.1 ∧ sum < st.2.1)) → (Pv fun m' => FR all.length (stR p lat sum st []) m' ∧ MvFr i m m') none m := by
      intro c
      have e : stR p lat sum st [] = st := by
        unfold stR
        show (if lat < st.1 ∨ (lat = st.1 ∧ sum + 0 < st.2.1) then (lat, sum + 0, p ++ []) else st) = _
        rw [Int.add_zero, if_neg c]
      rw [e]
      exact ⟨rfl, hF, MvFr.rf⟩
    refine en_X12_movesFrom (sg_X12_movesFrom_0 ⟨by omega, by omega⟩ (by rw [e60]; constructor <;> omega) ⟨by omega, by omega⟩ (fun _ _ => by rw [e59]; constructor <;> omega) (fun _ _ => by rw [e59]; constructor <;> omega) ⟨by omega, by omega⟩ (fun _ _ _ => by rw [e61]; constructor <;> omega) (fun g => stays ?_) (fun g g2 g3 => by rw [e59] at g3; omega) (fun g g2 g3 => sets ?_) (fun g g2 g3 _ => by rw [e59] at g3; omega) (fun g g2 g3 g4 => absurd g4 g3) (fun g g2 g3 g4 g5 => absurd g3 g5) (fun g g2 g3 g4 _ => sets ?_) (fun g g2 g3 g4 => stays ?_))
    all_goals rw [e60] at g
    · omega
    · rw [e60] at g2; omega
    · rw [e60] at g2; rw [e61] at g4; omega
    · rw [e60] at g2; rw [e61] at g4; omega
  | cons t ts ih =>
    intro dd i lat sum p ld st m hd hs hl hp hI h197 hld h198 hF s0 s6 l0 l6 f0 f7 g0 g6
    rw [List.length_cons] at hl hd
    have e59 := hI.1
    have e60 := hF.1
    have e61 := hF.2.1
    have hldt : ∀ d : Int, 0 ≤ d → d < 7 → 0 ≤ ld d ∧ ld d + 17712 * ((ts.length : Int) + 1) ≤ 1000000 := fun d d0 d7 => by
      have := hld d d0 d7
      rw [List.length_cons] at this
      omega
    have et : all.getD i 0 = t := by
      have : (all.drop i).getD 0 0 = t := by rw [hs]; rfl
      rw [← this, List.getD_eq_getElem?_getD, List.getD_eq_getElem?_getD, List.getElem?_drop, Nat.add_zero]
    have ht : 0 ≤ t ∧ t ≤ 17712 := hall t (List.mem_of_mem_drop (by rw [hs]; exact List.mem_cons_self))
    have hs' : all.drop (i + 1) = ts := by rw [← List.tail_drop, hs]; rfl
    have e200 : m 200 i = t := by rw [hI.2 i (by omega), et]
    have loop : lat ≤ st.1 → GM E (m_X12_movesFrom dd) (Pv fun m' => FR all.length ((asg n (hv' + 1) k (t :: ts) ld).foldl (stR p lat sum) st) m' ∧ MvFr i m m') 91 [.ref 169, vi (i : Int), vi hv', vi n, vi lat, vi sum, vi (hv' + 1)] [] m := by
      intro _
      rw [asg]
      have key : ∀ (kk : Nat) (d : Int) (st2 : Int × Int × List Int) (m3 : Mem), kk ≤ k → d + kk = 7 → hv' + 1 ≤ d → FR all.length st2 m3 → 0 ≤ st2.1 → st2.1 ≤ 7 → 0 ≤ st2.2.1 → st2.2.1 ≤ 1000000 → MvFr i m m3 → GM E (m_X12_movesFrom dd) (Pv fun m' => FR all.length ((asgD n (asg n (hv' + 1) k ts) t ld kk d).foldl (stR p lat sum) st2) m' ∧ MvFr i m m') 91 [.ref 169, vi (i : Int), vi hv', vi n, vi lat, vi sum, vi d] [] m3 := by
        intro kk
        induction kk with
        | zero =>
          intro d st2 m3 hkk hd' hlo hF2 u0 u7 w0 w6 hfr
          refine sg_X12_movesFrom_91 (by omega) ⟨by omega, by omega⟩ (by omega) (by omega) (by omega) ⟨by omega, by omega⟩ ⟨by omega, by omega⟩ (fun _ => ⟨rfl, ?_, hfr⟩) (by omega) (by omega)
          rw [asgD]
          exact hF2
        | succ kk ihk =>
          intro d st2 m3 hkk hd' hlo hF2 u0 u7 w0 w6 hfr
          have e97 : ∀ x : Int, 0 ≤ x → x < 7 → m3 197 x = ld x := fun x x0 x7 => by rw [hfr.2.2.1 x]; exact h197 x x0 x7
          have ed := e97 d (by omega) (by omega)
          have hd7 := hldt d (by omega) (by omega)
          have e00 : m3 200 i = t := by rw [hfr.1 200 (by decide) (by decide) (by decide) (by decide)]; exact e200
          refine sg_X12_movesFrom_91 (by omega) ⟨by omega, by omega⟩ (fun _ => by omega) (fun _ => by omega) (fun _ => by rw [ed, e00]; constructor <;> omega) ⟨by omega, by omega⟩ ⟨by omega, by omega⟩ (by omega) (fun _ g2 => ?_) (fun _ g2 => ?_)
          · rw [ed, e00] at g2
            have ea : asgD n (asg n (hv' + 1) k ts) t ld (kk + 1) d = asgD n (asg n (hv' + 1) k ts) t ld kk (d + 1) := by
              rw [asgD, if_neg (by omega)]; rfl
            rw [ea]
            exact ihk (d + 1) st2 m3 (by omega) (by omega) (by omega) hF2 u0 u7 w0 w6 hfr
          · rw [ed, e00] at g2
            have ea : asgD n (asg n (hv' + 1) k ts) t ld (kk + 1) d = (asg n (hv' + 1) k ts (pt ld d (ld d + t))).map (fun q => d :: q) ++ asgD n (asg n (hv' + 1) k ts) t ld kk (d + 1) := by
              rw [asgD, if_pos (by omega)]
            rw [ea, List.foldl_append, fold_mapR, ed, e00]
            rw [show (i : Int) + 1 = ((i + 1 : Nat) : Int) by omega]
            have r2 := foldR_rng (p := p ++ [d]) (lat := max lat d) (sum := sum + d) (by omega) (by omega) (by omega) (asg n (hv' + 1) k ts (pt ld d (ld d + t))) st2 (fun q hq => by
              obtain ⟨m1, m2⟩ := mem_asg ts _ q hq
              have b := sumL_ge (lo := 0) (hi := 7) q (fun x hx => by have := m2 x hx; omega)
              have c := (foldmax_lt (B := 7) q (max lat d)).2 ⟨by omega, fun y hy => by have := m2 y hy; omega⟩
              omega) u0 u7 w0 w6
            refine ca_X12_movesFrom_158 (d2 := dd - 1) (by omega) (ih (dd - 1) (i + 1) (max lat d) (sum + d) (p ++ [d]) (pt ld d (ld d + t)) st2 _ (by omega) hs' (by omega) (by rw [List.length_append, hp]; rfl) ⟨by rw [up2_k (by decide), up2_k (by decide), hfr.2.1 59 (by decide) (by decide)]; exact e59, fun j hj => by rw [up2_k (by decide), up2_k (by decide), hfr.1 200 (by decide) (by decide) (by decide) (by decide)]; exact hI.2 j hj⟩ (fun x x0 x7 => ?_) (fun x x0 x7 => ?_) (fun j hj => ?_) ⟨by rw [up2_k (by decide), up2_k (by decide)]; exact hF2.1, by rw [up2_k (by decide), up2_k (by decide)]; exact hF2.2.1, fun q j hj => by rw [up2_k (by decide), up2_k (by decide)]; exact hF2.2.2 q j hj⟩ (by omega) (by omega) (by omega) (by omega) u0 u7 w0 w6) (fun m4 h4 => sg_X12_movesFrom_161 (by omega) (by omega) ?_)
            · rw [up2_k (by decide)]
              unfold pt
              by_cases cx : x = d
              · subst cx; rw [up2_same, if_pos rfl]
              · rw [up2_j cx, if_neg cx]; exact e97 x x0 x7
            · have hx := hldt x x0 x7
              unfold pt
              by_cases cx : x = d
              · subst cx; rw [if_pos rfl]; omega
              · rw [if_neg cx]; omega
            · by_cases cj : j = i
              · subst cj
                rw [up2_same, List.getD_eq_getElem?_getD, List.getElem?_append_right (by omega), hp, Nat.sub_self]
                rfl
              · rw [up2_j (by omega), up2_k (by decide), hfr.2.2.2 j (by omega), h198 j (by omega), List.getD_eq_getElem?_getD, List.getD_eq_getElem?_getD, List.getElem?_append_left (by omega)]
            · obtain ⟨g4, g5, g6', g7, g8⟩ := h4
              have e00' : m4 200 i = t := by rw [g5 200 (by decide) (by decide) (by decide) (by decide), up2_k (by decide), up2_k (by decide)]; exact e00
              refine ihk (d + 1) _ _ (by omega) (by omega) (by omega) ⟨by rw [up2_k (by decide)]; exact g4.1, by rw [up2_k (by decide)]; exact g4.2.1, fun q j hj => by rw [up2_k (by decide)]; exact g4.2.2 q j hj⟩ r2.1 r2.2.1 r2.2.2.1 r2.2.2.2 ⟨fun q q1 q2 q3 q4 => ?_, fun j j1 j2 => ?_, fun x => ?_, fun j hj => ?_⟩
              · rw [up2_k q2, g5 q q1 q2 q3 q4, up2_k q3, up2_k q2]; exact hfr.1 q q1 q2 q3 q4
              · rw [up2_k (by decide), g6' j j1 j2, up2_k (by decide), up2_k (by decide)]; exact hfr.2.1 j j1 j2
              · by_cases cx : x = d
                · subst cx
                  rw [up2_same, g7, up2_k (by decide), up2_same, e00', ← ed, hfr.2.2.1 x]; omega
                · rw [up2_j cx, g7, up2_k (by decide), up2_j cx, hfr.2.2.1 x]
              · rw [up2_k (by decide), g8 j (by omega), up2_j (by omega), up2_k (by decide)]; exact hfr.2.2.2 j hj
      exact key k (hv' + 1) st m (Nat.le_refl _) (by omega) (Int.le_refl _) hF f0 f7 g0 g6 MvFr.rf
    refine en_X12_movesFrom (sg_X12_movesFrom_0 ⟨by omega, by omega⟩ (by rw [e60]; constructor <;> omega) ⟨by omega, by omega⟩ (fun _ _ => by rw [e59]; constructor <;> omega) (fun _ _ => by rw [e59]; constructor <;> omega) ⟨by omega, by omega⟩ (fun _ _ _ => by rw [e61]; constructor <;> omega) (fun g => ⟨rfl, ?_, MvFr.rf⟩) (fun g g2 g3 => loop (by rw [e60] at g; omega)) (fun g g2 g3 => by rw [e59] at g3; omega) (fun g g2 g3 _ => loop (by rw [e60] at g; omega)) (fun g g2 g3 g4 => absurd g4 g3) (fun g g2 g3 => by rw [e59] at g3; omega) (fun g g2 g3 => by rw [e59] at g3; omega) (fun g g2 g3 => by rw [e59] at g3; omega))
    rw [e60] at g
    have : (asg n (hv' + 1) k (t :: ts) ld).foldl (stR p lat sum) st = st := fold_id _ (fun q hq => by
      have mg := foldmax_ge q lat
      unfold stR
      rw [if_neg]
      omega)
    rw [this]
    exact hF
