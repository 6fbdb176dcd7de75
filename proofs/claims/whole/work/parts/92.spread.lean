/-! holiday: the class' search -/
theorem ct_secondsOf' {E : Nat × (Nat → Int32)} {c a : Mem} {v : (Int → Int) → Int} {t : Int} (hd : ∀ s : Int, 0 ≤ s → s < 6 → c 148 s = secS a v s) : K_X0_secondsOf E [.ref 147, vi t] c (fun z c' => z = shS a v t ∧ c' = c) := by
  refine en_X0_secondsOf (sg_X0_secondsOf_0 ?_)
  refine up_loop (i0 := 0) (n := 6) (fun i (x : Int) => GM E _ _ 4 [.ref 147, vi t, vi x, vi i] [] c) (fun i x => x = sumI (fun s => if tb t s = true then secS a v s else 0) i.toNat) (fun x h => ?_) (fun i x i0 i1 h k => ?_) (i := 0) (s := 0) (by omega) (by omega) rfl
  · exact sg_X0_secondsOf_4 (by decide) (by omega) (fun _ => ⟨_, rfl, h, rfl⟩) (by omega)
  · refine sg_X0_secondsOf_4 ⟨by omega, by omega⟩ (fun _ _ => ⟨i0, i1⟩) (by omega) (fun _ => k _ ?_)
    rw [sumI_step i0, ← h, hd i i0 i1]
    by_cases b : tb t i = true
    · rw [if_neg (fun e => by rw [bit_0 i0 (by omega), b] at e; exact absurd e (by decide)), if_pos b]
    · rw [if_pos ((bit_0 i0 (by omega)).2 (by simpa using b)), if_neg b]; omega
theorem shS_one {a : Mem} {v : (Int → Int) → Int} {s : Int} (s0 : 0 ≤ s) (s6 : s < 6) : shS a v (shlI 1 s) = secS a v s := by
  unfold shS
  rw [sumI_pt (f := fun j => if tb (shlI 1 s) j = true then secS a v j else 0) (g := fun _ => 0) (i := s) (d := secS a v s) (n := 6) s0 (by omega) (by
    show (if tb (shlI 1 s) s = true then secS a v s else 0) = 0 + secS a v s
    rw [tb_one s0 (by omega) s0 (by omega)]
    simp) (fun j j0 j1 ne => by
    show (if tb (shlI 1 s) j = true then secS a v j else 0) = 0
    rw [tb_one s0 (by omega) j0 (by omega)]
    simp [ne])]
  rw [sumI_0 (f := fun _ => 0) (fun _ _ _ => rfl)]
  omega
/-- the best so far, as the class holds it -/
def FX (cnt : Nat) (st : Int × List Int) (c : Mem) : Prop := c 147 7 = st.1 ∧ (st.1 < 1000000 → ∀ j : Nat, j < cnt → c 152 j = st.2.getD j 0)
/-- what the search reads -/
def SpI (a : Mem) (v : (Int → Int) → Int) (n lo : Int) (k : Nat) (all : List Int) (c : Mem) : Prop := c 147 8 = lo ∧ c 147 9 = lo + k - 1 ∧ c 147 10 = n ∧ c 147 4 = all.length ∧ (∀ s : Int, 0 ≤ s → s < 6 → c 148 s = secS a v s) ∧ ∀ j : Nat, j < all.length → 0 ≤ c 150 j ∧ c 150 j < 6 ∧ secS a v (c 150 j) = all.getD j 0
theorem SpI.of {a : Mem} {v : (Int → Int) → Int} {n lo : Int} {k : Nat} {all : List Int} {c c' : Mem} (h : SpI a v n lo k all c) (e : ∀ j : Int, j ≠ 7 → c' 147 j = c 147 j) (e8 : c' 148 = c 148) (e0 : c' 150 = c 150) : SpI a v n lo k all c' := by
  obtain ⟨h1, h2, h3, h4, h5, h6⟩ := h
  unfold SpI
  rw [e 8 (by decide), e 9 (by decide), e 10 (by decide), e 4 (by decide), e8, e0]
  exact ⟨h1, h2, h3, h4, h5, h6⟩
def SpFr (i : Nat) (c c' : Mem) : Prop := (∀ k, k ≠ 147 → k ≠ 149 → k ≠ 151 → k ≠ 152 → c' k = c k) ∧ (∀ j : Int, j ≠ 7 → c' 147 j = c 147 j) ∧ (∀ d : Int, c' 149 d = c 149 d) ∧ ∀ j : Int, j < i → c' 151 j = c 151 j
theorem SpFr.rf {i : Nat} {c : Mem} : SpFr i c c := ⟨fun _ _ _ _ _ => rfl, fun _ _ => rfl, fun _ => rfl, fun _ _ => rfl⟩
theorem SpFr.trans {i : Nat} {c c1 c2 : Mem} (h : SpFr i c c1) (g : SpFr i c1 c2) : SpFr i c c2 := ⟨fun k q1 q2 q3 q4 => (g.1 k q1 q2 q3 q4).trans (h.1 k q1 q2 q3 q4), fun j hj => (g.2.1 j hj).trans (h.2.1 j hj), fun d => (g.2.2.1 d).trans (h.2.2.1 d), fun j hj => (g.2.2.2 j hj).trans (h.2.2.2 j hj)⟩
theorem ct_spreadFrom {E : Nat × (Nat → Int32)} {a : Mem} {v : (Int → Int) → Int} {n lo : Int} {k : Nat} {all : List Int} (lo1 : 1 ≤ lo) (hk : lo + k ≤ 7) (n0 : 0 ≤ n) (n9 : n ≤ 99999) (all6 : all.length ≤ 6) (hall : ∀ x ∈ all, 0 ≤ x ∧ x ≤ 17712) : ∀ (secs : List Int) (dd i : Nat) (sum : Int) (p : List Int) (ld : Int → Int) (st : Int × List Int) (c : Mem), secs.length + 3 ≤ dd → all.drop i = secs → i + secs.length = all.length → p.length = i → SpI a v n lo k all c → (∀ d : Int, 0 ≤ d → d < 7 → c 149 d = ld d) → (∀ d : Int, 0 ≤ d → d < 7 → 0 ≤ ld d ∧ ld d + 17712 * secs.length ≤ 1000000) → (∀ j : Nat, j < i → c 151 j = p.getD j 0) → FX all.length st c → 0 ≤ sum → sum ≤ 6 * i → 0 ≤ st.1 → st.1 ≤ 1000000 → K_X0_spreadFrom E dd [.ref 147, vi (i : Int), vi sum] c (fun c' => FX all.length ((asg n lo k secs ld).foldl (stC p sum) st) c' ∧ SpFr i c c') := by
  intro secs
  induction secs with
  | nil =>
    intro dd i sum p ld st c hd hs hl hp hI h149 hld h151 hF s0 s6 f0 f6
    obtain ⟨I8, I9, I10, I4, I148, I150⟩ := id hI
    have hl : i + 0 = all.length := hl
    have eas : (asg n lo k [] ld).foldl (stC p sum) st = stC p sum st [] := by rw [asg]; rfl
    rw [eas]
    have ew : sum + ((c 147 4 - (i : Int)) * c 147 8) = sum := by rw [I4, show ((all.length : Nat) : Int) - (i : Int) = 0 by omega, Int.zero_mul, Int.add_zero]
    have F7 := hF.1
    refine en_X0_spreadFrom (sg_X0_spreadFrom_0 (by first | omega | (simp only [List.length_nil] at hd; omega)) (by rw [ew]; constructor <;> omega) (by rw [F7]; constructor <;> omega) ⟨by omega, by omega⟩ (fun _ => by rw [I4]; constructor <;> omega) (fun _ g => by rw [I4] at g; omega) (fun g _ => ⟨rfl, ?_⟩) (fun _ g => by rw [I4] at g; omega) (fun _ g => by rw [I4] at g; omega) (fun g => ⟨rfl, ?_⟩))
    · rw [ew, F7] at g
      have e : stC p sum st [] = (sum, p) := by
        unfold stC
        show (if sum + 0 < st.1 then (sum + 0, p ++ []) else st) = _
        rw [Int.add_zero, if_pos g, List.append_nil]
      rw [e]
      refine ⟨⟨?_, fun _ j hj => ?_⟩, fun q q1 q2 q3 q4 => by rw [upr_k q4, up2_k q1], fun j hj => by rw [upr_k (by decide), up2_j hj], fun d => by rw [upr_k (by decide), up2_k (by decide)], fun j hj => by rw [upr_k (by decide), up2_k (by decide)]⟩
      · rw [upr_k (by decide), up2_same]
      · rw [upr_same, cpyR_lt (by omega) (by omega), up2_k (by decide)]
        exact h151 j (by omega)
    · rw [ew, F7] at g
      have e : stC p sum st [] = st := by
        unfold stC
        show (if sum + 0 < st.1 then (sum + 0, p ++ []) else st) = _
        rw [Int.add_zero, if_neg g]
      rw [e]
      exact ⟨hF, SpFr.rf⟩
  | cons t ts ih =>
    intro dd i sum p ld st c hd hs hl hp hI h149 hld h151 hF s0 s6 f0 f6
    obtain ⟨I8, I9, I10, I4, I148, I150⟩ := id hI
    rw [List.length_cons] at hl hd
    have hldt : ∀ d : Int, 0 ≤ d → d < 7 → 0 ≤ ld d ∧ ld d + 17712 * ((ts.length : Int) + 1) ≤ 1000000 := fun d d0 d7 => by
      have := hld d d0 d7
      rw [List.length_cons] at this
      omega
    have F7 := hF.1
    have et : all.getD i 0 = t := by
      have : (all.drop i).getD 0 0 = t := by rw [hs]; rfl
      rw [← this, List.getD_eq_getElem?_getD, List.getD_eq_getElem?_getD, List.getElem?_drop, Nat.add_zero]
    have ht : 0 ≤ t ∧ t ≤ 17712 := hall t (List.mem_of_mem_drop (by rw [hs]; exact List.mem_cons_self))
    have hs' : all.drop (i + 1) = ts := by rw [← List.tail_drop, hs]; rfl
    have J := I150 i (by omega)
    have mul : 0 ≤ (((ts.length : Int) + 1)) * lo ∧ ((ts.length : Int) + 1) * lo ≤ 6 * 7 := ⟨Int.mul_nonneg (by omega) (by omega), Int.mul_le_mul (by omega) (by omega) (by omega) (by omega)⟩
    have ew : sum + ((c 147 4 - (i : Int)) * c 147 8) = sum + ((ts.length : Int) + 1) * lo := by rw [I4, I8, show ((all.length : Nat) : Int) - (i : Int) = (ts.length : Int) + 1 by omega]
    refine en_X0_spreadFrom (sg_X0_spreadFrom_0 (by first | omega | (simp only [List.length_nil] at hd; omega)) (by rw [ew]; constructor <;> omega) (by rw [F7]; constructor <;> omega) ⟨by omega, by omega⟩ (fun _ => by rw [I4]; constructor <;> omega) (fun _ _ _ => by omega) (fun _ g => by rw [I4] at g; omega) (fun g _ _ => ?_) (fun _ _ g => by omega) (fun g => ⟨rfl, ?_, SpFr.rf⟩))
    · refine ca_X0_spreadFrom_71 (by omega) (ct_secondsOf' I148) (fun z c2 hz => sg_X0_spreadFrom_74 (by omega) (by rw [hz.2, I8]; constructor <;> omega) ?_)
      obtain ⟨ez, e2⟩ := hz
      subst e2
      rw [shS_one J.1 J.2.1, J.2.2, et] at ez
      subst ez
      rw [I8, Int.max_eq_right (show (0 : Int) ≤ lo by omega), asg]
      have key : ∀ (kk : Nat) (d : Int) (st2 : Int × List Int) (c3 : Mem), kk ≤ k → d + kk = lo + k → lo ≤ d → FX all.length st2 c3 → 0 ≤ st2.1 → st2.1 ≤ 1000000 → SpFr i c2 c3 → GM E (m_X0_spreadFrom dd) (Pv fun c' => FX all.length ((asgD n (asg n lo k ts) z ld kk d).foldl (stC p sum) st2) c' ∧ SpFr i c2 c') 85 [.ref 147, vi (i : Int), vi sum, vi z, vi d] [] c3 := by
        intro kk
        induction kk with
        | zero =>
          intro d st2 c3 hkk hd' hlo hF2 u0 u6 hfr
          have e9 : c3 147 9 = lo + k - 1 := by rw [hfr.2.1 9 (by decide)]; exact I9
          refine sg_X0_spreadFrom_85 ⟨by omega, by omega⟩ (by rw [e9]; constructor <;> omega) (by rw [e9]; omega) (by rw [e9]; omega) (by rw [e9]; omega) (by rw [e9]; omega) (fun _ => ⟨rfl, ?_, hfr⟩) (by rw [e9]; omega) (by rw [e9]; omega) (by rw [e9]; omega)
          rw [asgD]
          exact hF2
        | succ kk ihk =>
          intro d st2 c3 hkk hd' hlo hF2 u0 u6 hfr
          have e9 : c3 147 9 = lo + k - 1 := by rw [hfr.2.1 9 (by decide)]; exact I9
          have e10 : c3 147 10 = n := by rw [hfr.2.1 10 (by decide)]; exact I10
          have e49 : ∀ x : Int, 0 ≤ x → x < 7 → c3 149 x = ld x := fun x x0 x7 => by rw [hfr.2.2.1 x]; exact h149 x x0 x7
          have ed := e49 d (by omega) (by omega)
          have hd7 := hldt d (by omega) (by omega)
          refine sg_X0_spreadFrom_85 ⟨by omega, by omega⟩ (by rw [e9]; constructor <;> omega) (fun _ _ => by omega) (fun _ _ => by rw [ed]; constructor <;> omega) (fun _ _ => by rw [e10]; constructor <;> omega) (fun _ _ _ => by omega) (by rw [e9]; omega) (by omega) (fun _ _ g2 => ?_) (fun _ _ g2 => ?_)
          · rw [ed, e10] at g2
            have ea : asgD n (asg n lo k ts) z ld (kk + 1) d = asgD n (asg n lo k ts) z ld kk (d + 1) := by
              rw [asgD, if_neg (by omega)]; rfl
            rw [ea]
            exact ihk (d + 1) st2 c3 (by omega) (by omega) (by omega) hF2 u0 u6 hfr
          · rw [ed, e10] at g2
            have ea : asgD n (asg n lo k ts) z ld (kk + 1) d = (asg n lo k ts (pt ld d (ld d + z))).map (fun q => d :: q) ++ asgD n (asg n lo k ts) z ld kk (d + 1) := by
              rw [asgD, if_pos (by omega)]
            rw [ea, List.foldl_append, fold_mapC, ed]
            rw [show (i : Int) + 1 = ((i + 1 : Nat) : Int) by omega]
            have r2 : 0 ≤ ((asg n lo k ts (pt ld d (ld d + z))).foldl (stC (p ++ [d]) (sum + d)) st2).1 ∧ ((asg n lo k ts (pt ld d (ld d + z))).foldl (stC (p ++ [d]) (sum + d)) st2).1 ≤ 1000000 := by
              have gen : ∀ (l : List (List Int)) (s2 : Int × List Int), (∀ q ∈ l, 0 ≤ sumL q) → 0 ≤ s2.1 → s2.1 ≤ 1000000 → 0 ≤ (l.foldl (stC (p ++ [d]) (sum + d)) s2).1 ∧ (l.foldl (stC (p ++ [d]) (sum + d)) s2).1 ≤ 1000000 := by
                intro l
                induction l with
                | nil => intro s2 _ h0 h1; exact ⟨h0, h1⟩
                | cons q l ihl =>
                  intro s2 hl h0 h1
                  rw [List.foldl_cons]
                  have hq := hl q List.mem_cons_self
                  refine ihl _ (fun r hr => hl r (List.mem_cons_of_mem _ hr)) ?_ ?_
                  · unfold stC
                    split
                    · show 0 ≤ sum + d + sumL q; omega
                    · exact h0
                  · unfold stC
                    split
                    · show sum + d + sumL q ≤ 1000000; omega
                    · exact h1
              refine gen _ _ (fun q hq => ?_) u0 u6
              obtain ⟨m1, m2⟩ := mem_asg ts _ q hq
              have := (sumL_ge (lo := 0) (hi := 7) q (fun x hx => by have := m2 x hx; omega)).1
              omega
            refine ca_X0_spreadFrom_147 (d2 := dd - 1) (by omega) (ih (dd - 1) (i + 1) (sum + d) (p ++ [d]) (pt ld d (ld d + z)) st2 _ (by omega) hs' (by omega) (by rw [List.length_append, hp]; rfl) (hI.of (fun j hj => by rw [up2_k (by decide), up2_k (by decide)]; exact hfr.2.1 j hj) (by rw [up2_k (by decide), up2_k (by decide)]; exact hfr.1 148 (by decide) (by decide) (by decide) (by decide)) (by rw [up2_k (by decide), up2_k (by decide)]; exact hfr.1 150 (by decide) (by decide) (by decide) (by decide))) (fun x x0 x7 => ?_) (fun x x0 x7 => ?_) (fun j hj => ?_) ⟨by rw [up2_k (by decide), up2_k (by decide)]; exact hF2.1, fun q j hj => by rw [up2_k (by decide), up2_k (by decide)]; exact hF2.2 q j hj⟩ (by omega) (by omega) u0 u6) (fun c4 h4 => sg_X0_spreadFrom_150 (by omega) ?_)
            · rw [up2_k (by decide)]
              unfold pt
              by_cases cx : x = d
              · subst cx; rw [up2_same, if_pos rfl]
              · rw [up2_j cx, if_neg cx]; exact e49 x x0 x7
            · have hx := hldt x x0 x7
              unfold pt
              by_cases cx : x = d
              · subst cx; rw [if_pos rfl]; omega
              · rw [if_neg cx]; omega
            · by_cases cj : j = i
              · subst cj
                rw [up2_same, List.getD_eq_getElem?_getD, List.getElem?_append_right (by omega), hp, Nat.sub_self]
                rfl
              · rw [up2_j (by omega), up2_k (by decide), hfr.2.2.2 j (by omega), h151 j (by omega), List.getD_eq_getElem?_getD, List.getD_eq_getElem?_getD, List.getElem?_append_left (by omega)]
            · obtain ⟨g4, g5, g6, g7, g8⟩ := h4
              refine ihk (d + 1) _ _ (by omega) (by omega) (by omega) ⟨by rw [up2_k (by decide)]; exact g4.1, fun q j hj => by rw [up2_k (by decide)]; exact g4.2 q j hj⟩ r2.1 r2.2 ⟨fun q q1 q2 q3 q4 => ?_, fun j hj => ?_, fun x => ?_, fun j hj => ?_⟩
              · rw [up2_k q2, g5 q q1 q2 q3 q4, up2_k q3, up2_k q2]; exact hfr.1 q q1 q2 q3 q4
              · rw [up2_k (by decide), g6 j hj, up2_k (by decide), up2_k (by decide)]; exact hfr.2.1 j hj
              · by_cases cx : x = d
                · subst cx
                  rw [up2_same, g7, up2_k (by decide), up2_same, ← ed, hfr.2.2.1 x]; omega
                · rw [up2_j cx, g7, up2_k (by decide), up2_j cx, hfr.2.2.1 x]
              · rw [up2_k (by decide), g8 j (by omega), up2_j (by omega), up2_k (by decide)]; exact hfr.2.2.2 j hj
      exact key k lo st c2 (Nat.le_refl _) (by omega) (Int.le_refl _) hF f0 f6 SpFr.rf
    · rw [ew, F7] at g
      have : (asg n lo k (t :: ts) ld).foldl (stC p sum) st = st := fold_id _ (fun q hq => by
        obtain ⟨m1, m2⟩ := mem_asg (t :: ts) ld q hq
        have := (sumL_ge (lo := lo) (hi := lo + k) q (fun x hx => by have := m2 x hx; omega)).1
        rw [m1, List.length_cons] at this
        unfold stC
        rw [if_neg]
        have e1 : ((ts.length + 1 : Nat) : Int) = (ts.length : Int) + 1 := by omega
        rw [e1] at this
        omega)
      rw [this]
      exact hF
