/-! week -/
def weekR (a : Mem) : Int → Int := fun b => if b < 96 then (if a 178 b = 0 then 0 else 1) else 0
theorem ct_binsOf {E : Nat × (Nat → Int32)} {c a : Mem} {s : Int} (rs : RI s) (hC : CTown c a) (hT : WTown a) : K_X10_binsOf E [.ref 9, vi s] c (fun z c' => c' = c ∧ Small z ∧ ∀ h : Int, 0 ≤ h → h < 16 → tb z h = decide (0 ≤ s ∧ s < a 169 3 ∧ a 178 (16 * s + h) ≠ 0)) := by
  have e := hC.1
  have n0 := hT.1
  have n6 := hT.2.1
  refine en_X10_binsOf (sg_X10_binsOf_0 (by omega) rs (fun p => ?_) (fun p => ⟨_, rfl, rfl, small_0, fun h _ _ => by rw [tb_0]; simp; omega⟩))
  have m := streetMem s.toNat (by omega)
  have w := (hC.s p.1 (by omega) n6).2.2.2.2.2.2.2
  refine ca_X10_binsOf_15 m (ct_bins m (fun h h0 h1 => ?_)) (fun z c2 hz => sg_X10_binsOf_18 m ⟨_, rfl, hz.1, hz.2.1, fun h h0 h1 => ?_⟩)
  · have := hT.w (b := 16 * s + h) (by omega) (by omega)
    rw [w h h0 h1]; constructor <;> omega
  · rw [hz.2.2 h h0 h1, w h h0 h1]
    have : s < a 169 3 := by omega
    simp [p.1, this]
/-- a street's bins are put out -/
def putR (r : Int → Int) (s z : Int) : Int → Int := fun b => if 16 * s ≤ b ∧ b < 16 * s + 16 then (if tb z (b - 16 * s) = true then 1 else 0) else r b
theorem putR_in {r : Int → Int} {s z k : Int} (k0 : 0 ≤ k) (k1 : k < 16) : putR r s z (16 * s + k) = if tb z k = true then 1 else 0 := by
  unfold putR
  rw [if_pos ⟨by omega, by omega⟩, show 16 * s + k - 16 * s = k by omega]
theorem putR_out {r : Int → Int} {s z b : Int} (h : b < 16 * s ∨ 16 * s + 16 ≤ b) : putR r s z b = r b := if_neg (by omega)
theorem ct_putOut {E : Nat × (Nat → Int32)} {c : Mem} {o : Nat} {r : Int → Int} {s z : Int} (ho : o ∈ stateL) (h : StRel c o r) (s0 : 0 ≤ s) (s6 : s < 6) (hz : Small z) : K_X7_putOut E [.ref o, vi s, vi z] c (fun c' => StRel c' o (putR r s z) ∧ ∀ k, k ≠ o + 1 → k ≠ o + 2 → k ≠ o + 3 → c' k = c k) := by
  refine en_X7_putOut (sg_X7_putOut_0 ho ⟨by omega, by omega⟩ (by omega) (by omega) (fun _ _ => ⟨rfl, ?_, fun k k1 k2 k3 => by rw [up2_k k3, up2_k k2, up2_k k1]⟩))
  generalize hM : up2 (up2 (up2 c (o + 1) s z) (o + 2) s 0) (o + 3) s 0 = M
  have M1 : M (o + 1) = up2 c (o + 1) s z (o + 1) := by rw [← hM, up2_k (by omega), up2_k (by omega)]
  have M2 : M (o + 2) = up2 c (o + 2) s 0 (o + 2) := by
    rw [← hM, up2_k (by omega)]
    funext x
    unfold up2
    simp
  have M3 : M (o + 3) = up2 c (o + 3) s 0 (o + 3) := by
    rw [← hM]
    funext x
    unfold up2
    simp
  have M0 : M o = c o := by rw [← hM, up2_k (by omega), up2_k (by omega), up2_k (by omega)]
  clear hM
  refine ⟨fun t t0 t6 => ?_, ?_, ?_, ?_⟩
  · rw [M1, M2, M3]
    by_cases e : t = s
    · subst e
      rw [up2_same, up2_same, up2_same]
      refine ⟨hz, small_0, small_0, fun k k0 k1 => ?_⟩
      rw [putR_in k0 k1, tb_0]
      unfold stv
      simp
    · rw [up2_j e, up2_j e, up2_j e]
      obtain ⟨a1, a2, a3, a4⟩ := h.1 t t0 t6
      refine ⟨a1, a2, a3, fun k k0 k1 => ?_⟩
      rw [putR_out (by omega)]
      exact a4 k k0 k1
  · rw [M0, putR_out (by omega)]; exact h.2.1
  · rw [M0, putR_out (by omega)]; exact h.2.2.1
  · rw [M0, putR_out (by omega)]; exact h.2.2.2
theorem cnt_rng {r : Int → Int} {q : Int} : 0 ≤ cnt r q 96 ∧ cnt r q 96 ≤ 96 := by
  have := sumI_bound (f := fun b => b01 (r b == q)) (c := 1) (n := 96) (fun i _ _ => b01_rng _)
  unfold cnt
  omega
theorem cnt_congr {r r' : Int → Int} {q : Int} (e : ∀ b : Int, 0 ≤ b → b < 96 → r b = r' b) : cnt r q 96 = cnt r' q 96 := sumI_congr (fun b b0 b1 => by rw [e b b0 b1])
theorem weekR_ok {B : Int} {a : Mem} (hB : 0 ≤ B) : StOK B a (weekR a) := by
  refine ⟨fun b b0 b1 => ?_, ?_, ?_, ?_, ?_, ?_, ?_⟩
  · unfold weekR
    rw [if_pos b1]
    split
    · exact ⟨by omega, by omega, fun g => absurd rfl g⟩
    · rename_i g; exact ⟨by omega, by omega, fun _ => g⟩
  all_goals show _ ≤ _
  all_goals unfold weekR
  all_goals rw [if_neg (by decide)]
  all_goals omega
theorem ct_week {E : Nat × (Nat → Int32)} {c a : Mem} {B : Int} (h : CR0 c a) (w : W0 B a) : K_X11_week E [.ref 0] c (fun z c' => z = cnt (weekR a) 1 96 ∧ CR0 c' (actU a (weekR a) (a 169 1) (a 170)) ∧ RF c c' ∧ HighEq c c') := by
  have n0 := w.town.1
  have n6 := w.town.2.1
  have T := w.town
  refine en_X11_week (sg_X11_week_0 (ca_X11_week_8 (ct_note h.now) (fun c1 hc => sg_X11_week_11 ?_)))
  obtain ⟨b1, n1⟩ := hc
  refine up_loop (i0 := 0) (n := a 169 3) (fun s c2 => GM E _ _ 13 [.ref 0, vi s] [] c2) (fun s c2 => StRel c2 23 (fun b => if b < 16 * s then weekR a b else a 180 b) ∧ ∀ k, k ≠ 24 → k ≠ 25 → k ≠ 26 → c2 k = c1 k) (fun c2 hc => ?_) (fun s c2 a0 a1 hc k => ?_) (i := 0) (s := c1) (by omega) n0 ⟨(note_rel h.now n1).ext (fun k k0 k1 => if_neg (by omega)), fun _ _ _ _ => rfl⟩
  · obtain ⟨st, f⟩ := hc
    have e9 : c2 9 1 = a 169 3 := by rw [f 9 (by decide) (by decide) (by decide), n1 9 (by decide) (by decide) (by decide) (by decide)]; exact h.town.1
    refine sg_X11_week_13 ⟨by omega, by omega⟩ (by rw [e9]; constructor <;> omega) (fun _ => ?_) (by omega)
    have st2 : StRel (up2 (up2 (up2 c2 23 3 0) 23 4 0) 23 5 0) 23 (weekR a) := by
      refine (st_lorry (l := 0) (p := 0) (w := 0) st (by rw [up2_k (by decide), up2_k (by decide), up2_k (by decide)]) (by rw [up2_k (by decide), up2_k (by decide), up2_k (by decide)]) (by rw [up2_k (by decide), up2_k (by decide), up2_k (by decide)]) (by rw [up2_j (by decide), up2_j (by decide), up2_same]) (by rw [up2_j (by decide), up2_same]) (by rw [up2_same])).ext (fun b b0 b1 => ?_)
      by_cases c : b < 96
      · rw [lorry_b c]
        by_cases c2 : b < 16 * a 169 3
        · rw [if_pos c2]
        · rw [if_neg c2]
          have hw := (w.town.2.2.2 (b / 16) (b % 16) (by omega) (by omega) (by omega) (by omega)).2.2
          have hb := (w.town.2.2.1 (b / 16) (by omega) (by omega)).2.2.2.2.2.2.2.2.2.2
          rw [show 16 * (b / 16) + b % 16 = b by omega] at hw
          have e8 : a 178 b = 0 := hw (by have := (hb.2 (by omega)).1; omega)
          have en := (w.now.1 b b0 c).2.2
          have e18 : a 180 b = 0 := by
            rcases Int.decEq (a 180 b) 0 with g | g
            · exact absurd e8 (en g)
            · exact g
          rw [e18]
          unfold weekR
          rw [if_pos c, if_pos e8]
      · have : weekR a b = 0 := if_neg c
        rw [this]
        have h3 : b = 96 ∨ b = 97 ∨ b = 98 := by omega
        rcases h3 with rfl | rfl | rfl
        · exact lorry_l.symm
        · exact lorry_p.symm
        · exact lorry_w.symm
    have f3 : AF c1 (up2 (up2 (up2 c2 23 3 0) 23 4 0) 23 5 0) := ⟨fun k h _ _ _ => by rw [up2_k (by omega), up2_k (by omega), up2_k (by omega), f k (by omega) (by omega) (by omega)], fun x _ => by rw [up2_k (by decide), up2_k (by decide), up2_k (by decide), f 5 (by decide) (by decide) (by decide)]⟩
    refine ca_X11_week_76 m23 (ct_countOf m23 (Or.inl rfl) st2) (fun z c4 hz => sg_X11_week_79 ?_)
    obtain ⟨e4, ez⟩ := hz
    subst e4
    have cr := cnt_rng (r := weekR a) (q := 1)
    refine ca_X11_week_79 (ct_remember (b := pushU a) ⟨by rw [ez]; omega, by rw [ez]; omega⟩ (f3.hist (note_hist h.hist n1)) w.hist.1 (f3.before b1) (fun _ => pushU_pushed w.hist.1 w.hist.2.1)) (fun z' c5 h5 => sg_X11_week_82 ⟨_, rfl, ?_⟩)
    obtain ⟨e5, g1, g2, g3⟩ := h5
    have rr := row_stays h n1 f3 g3
    exact ⟨e5.trans ez, act_rel h n1 f3 st2 (g2 (by rw [ez]; omega)) g3 (fun _ _ _ => rfl) rr.1 rr.2⟩
  · obtain ⟨st, f⟩ := hc
    have e9 : c2 9 1 = a 169 3 := by rw [f 9 (by decide) (by decide) (by decide), n1 9 (by decide) (by decide) (by decide) (by decide)]; exact h.town.1
    have hC2 : CTown c2 a := (note_town h.town n1).fr (f 9 (by decide) (by decide) (by decide)) (fun s hs => ⟨f _ (by omega) (by omega) (by omega), f _ (by omega) (by omega) (by omega)⟩)
    refine sg_X11_week_13 ⟨by omega, by omega⟩ (by rw [e9]; constructor <;> omega) (by omega) (fun _ => ?_)
    refine ca_X11_week_34 (ct_binsOf ⟨by omega, by omega⟩ hC2 w.town) (fun z c3 hz => sg_X11_week_37 ?_)
    obtain ⟨rfl, z2, z3⟩ := hz
    refine ca_X11_week_37 m23 (ct_putOut m23 st a0 (by omega) z2) (fun c4 h4 => sg_X11_week_40 (k _ ⟨h4.1.ext (fun b b0 b1 => ?_), fun k k1 k2 k3 => (h4.2 k k1 k2 k3).trans (f k k1 k2 k3)⟩))
    by_cases c : 16 * s ≤ b ∧ b < 16 * s + 16
    · have ep : putR (fun b => if b < 16 * s then weekR a b else a 180 b) s z b = if tb z (b - 16 * s) = true then 1 else 0 := if_pos c
      have hw : weekR a b = if a 178 b = 0 then 0 else 1 := if_pos (by omega)
      have ez := z3 (b - 16 * s) (by omega) (by omega)
      rw [show 16 * s + (b - 16 * s) = b by omega] at ez
      rw [if_pos (by omega), ep, hw, ez]
      by_cases g : a 178 b = 0
      · simp [g]
      · simp [g, a0, a1]
    · rw [putR_out (by omega)]
      by_cases c2 : b < 16 * s
      · rw [if_pos c2, if_pos (by omega)]
      · rw [if_neg c2, if_neg (by omega)]
theorem mt_week {E : Nat × (Nat → Int32)} {m a : Mem} {B : Int} (hm : HighEq a m) (w : W0 B a) : K_X12_week E [.ref 169] m (fun z m' => z = cnt (weekR a) 1 96 ∧ PEq m' (actU m (weekR a) (a 169 1) (a 170)) ∧ LowEq m m') := by
  have e9 := hm 169 (by decide)
  have u0 := w.hist.1
  have u1 := w.hist.2.1
  refine en_X12_week (sg_X12_week_0 ?_)
  refine ca_X12_week_6 (ct_putsBy (by rw [up2_j (by decide), e9]; exact u0) (by rw [up2_j (by decide), e9]; exact u1)) (fun m1 h1 => sg_X12_week_9 ?_)
  have k1 : ∀ k, k ≠ 169 → k ≠ 190 → m1 k = m k := fun k h h2 => by rw [h1]; exact by_k h h2
  have f1 : ∀ j : Int, j ≠ 0 → m1 169 j = m 169 j := fun j h => by rw [h1]; exact by_f h
  have x1 : m1 190 = mv m 180 0 190 (99 * m 169 40) 99 190 := by rw [h1]; exact by_190
  clear h1
  refine up_loop (i0 := 0) (n := 96) (fun i m2 => GM E _ _ 11 [.ref 169, vi i] [] m2) (fun i m2 => (∀ b : Int, 0 ≤ b → b < i → m2 180 b = weekR a b) ∧ ∀ k, k ≠ 180 → m2 k = m1 k) (fun m2 h => ?_) (fun i m2 a0 a1 h k => ?_) (i := 0) (s := m1) (by omega) (by omega) ⟨fun b b0 b1 => by omega, fun _ _ => rfl⟩
  · obtain ⟨q1, q2⟩ := h
    refine sg_X12_week_11 (by decide) (by omega) (by omega) (by omega) (by omega) (fun _ => ?_) (by omega) (by omega)
    generalize hM : up2 (up2 (up2 m2 180 96 0) 180 97 0) 180 98 0 = M
    have M1 : ∀ k, k ≠ 180 → M k = m1 k := fun k hk => by rw [← hM, up2_k hk, up2_k hk, up2_k hk, q2 k hk]
    have M2 : ∀ b : Int, 0 ≤ b → b < 99 → M 180 b = weekR a b := fun b b0 b1 => by
      rw [← hM]
      by_cases c : b = 98
      · subst c; rw [up2_same]; rfl
      · rw [up2_j c]
        by_cases c2 : b = 97
        · subst c2; rw [up2_same]; rfl
        · rw [up2_j c2]
          by_cases c3 : b = 96
          · subst c3; rw [up2_same]; rfl
          · rw [up2_j c3]; exact q1 b b0 (by omega)
    clear hM
    have wk := weekR_ok (a := a) (B := 0) (by omega)
    refine ca_X12_week_70 (ct_allBy (by decide) (fun b b0 b1 => by rw [M2 b b0 (by omega)]; exact wk.ri b0 b1)) (fun z m3 hz => sg_X12_week_73 ?_)
    obtain ⟨e3, ez⟩ := hz
    subst e3
    have e40 : m3 169 40 = m 169 40 := by rw [M1 169 (by decide), f1 40 (by decide)]
    refine ca_X12_week_73 (ct_adds (by rw [e40, e9]; exact u0) (by rw [e40, e9]; exact u1)) (fun z m4 hz => sg_X12_week_76 ⟨_, rfl, ?_⟩)
    obtain ⟨e5, e6⟩ := hz
    subst e6
    refine ⟨(e5.trans ez).trans (cnt_congr (fun b b0 b1 => M2 b b0 (by omega))), act_peq (by rw [M1 190 (by decide), x1]) e40 M2 (fun k hk h9 h0 h8 h19 => by rw [M1 k h8, k1 k h9 h19]) (fun j hj h1 h40 => by rw [M1 169 (by decide), f1 j hj.not.1]) (by rw [M1 169 (by decide), f1 1 (by decide), e9]) (fun j j0 j1 => by rw [M1 170 (by decide), k1 170 (by decide) (by decide), hm 170 (by decide)]), fun k hk => by rw [addU_low hk, M1 k (by omega), k1 k (by omega) (by omega)]⟩
  · obtain ⟨q1, q2⟩ := h
    have e8 : m2 178 i = a 178 i := by rw [q2 178 (by decide), k1 178 (by decide) (by decide), hm 178 (by decide)]
    have hw := w.town.w a0 a1
    refine sg_X12_week_11 ⟨by omega, by omega⟩ (fun _ => ⟨a0, a1⟩) (fun _ => by rw [e8]; constructor <;> omega) (fun _ _ => ⟨a0, by omega⟩) (fun _ _ => ⟨a0, by omega⟩) (by omega) (fun _ g => k _ ⟨fun b b0 b1 => ?_, fun k hk => by rw [up2_k hk, q2 k hk]⟩) (fun _ g => k _ ⟨fun b b0 b1 => ?_, fun k hk => by rw [up2_k hk, q2 k hk]⟩)
    all_goals rw [e8] at g
    all_goals by_cases c : b = i
    · subst c
      rw [up2_same]
      unfold weekR
      rw [if_pos a1, if_pos (by omega)]
    · rw [up2_j c]; exact q1 b b0 (by omega)
    · subst c
      rw [up2_same]
      unfold weekR
      rw [if_pos a1, if_neg (by omega)]
    · rw [up2_j c]; exact q1 b b0 (by omega)
