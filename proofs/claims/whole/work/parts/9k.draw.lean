/-! weeks: what is drawn -/
def tenth (c : Int) : Int := remI (ushrI c 16) 10
def chN (a : Mem) (x : Int) : Nat → Int
  | 0 => x
  | k + 1 => if a 178 k ≤ 0 then chN a x k else chN a x k * 1103515245 + 12345
def dRow (a : Mem) (p x : Int) : Int → Int := fun b => if (0 ≤ b ∧ b < 96) ∧ ¬ a 178 b ≤ 0 ∧ ¬ p ≤ tenth (chN a x b.toNat * 1103515245 + 12345) then 1 else 0
theorem tenth_rng (c : Int) : RI (tenth c) := iI_rng _
theorem dRow_01 {a : Mem} {p x b : Int} : dRow a p x b = 0 ∨ dRow a p x b = 1 := by
  unfold dRow
  split
  · exact Or.inr rfl
  · exact Or.inl rfl
theorem dRow_hi {a : Mem} {p x b : Int} (h : 96 ≤ b) : dRow a p x b = 0 := by
  unfold dRow
  rw [if_neg (by omega)]
theorem dRow_ok {a : Mem} {p x : Int} : StOK 0 a (dRow a p x) := by
  refine ⟨fun b b0 b1 => ?_, ?_, ?_, ?_, ?_, ?_, ?_⟩
  · have e := dRow_01 (a := a) (p := p) (x := x) (b := b)
    refine ⟨by omega, by omega, fun h o => ?_⟩
    apply h
    unfold dRow
    rw [if_neg (by omega)]
  all_goals rw [dRow_hi (by decide)]
  all_goals decide
theorem chN_stop {a : Mem} {x : Int} (hT : WTown a) : ∀ k : Nat, (a 169 3).toNat * 16 + k ≤ 96 → chN a x ((a 169 3).toNat * 16 + k) = chN a x ((a 169 3).toNat * 16)
  | 0, _ => rfl
  | k + 1, hk => by
    have n0 := hT.1
    rw [← Nat.add_assoc, chN, chN_stop hT k (by omega), if_pos]
    have s6 : (((a 169 3).toNat * 16 + k : Nat) : Int) / 16 < 6 := by omega
    have t := hT.2.2.1 ((((a 169 3).toNat * 16 + k : Nat) : Int) / 16) (by omega) s6
    have z := (hT.2.2.2 ((((a 169 3).toNat * 16 + k : Nat) : Int) / 16) ((((a 169 3).toNat * 16 + k : Nat) : Int) % 16) (by omega) s6 (by omega) (by omega)).2.2 (by omega)
    rw [show 16 * ((((a 169 3).toNat * 16 + k : Nat) : Int) / 16) + (((a 169 3).toNat * 16 + k : Nat) : Int) % 16 = (((a 169 3).toNat * 16 + k : Nat) : Int) by omega] at z
    rw [z]
    decide
theorem ct_drawTenth {E : Nat × (Nat → Int32)} {c : Mem} : K_X11_drawTenth E [.ref 0] c (fun z c' => z = tenth (c 0 15 * 1103515245 + 12345) ∧ c' = up2 c 0 15 (c 0 15 * 1103515245 + 12345)) :=
  en_X11_drawTenth (sg_X11_drawTenth_0 ⟨_, rfl, rfl, rfl⟩)
theorem ct_drawOut {E : Nat × (Nat → Int32)} {c a : Mem} {p : Int} (rp : RI p) (hC : CTown c a) (hT : WTown a) : K_X11_drawOut E [.ref 0, vi p] c (fun z c' => z = .ref 108 ∧ c' 0 15 = chN a (c 0 15) 96 ∧ (∀ s h : Int, 0 ≤ s → s < a 169 3 → 0 ≤ h → h < 16 → (dRow a p (c 0 15) (16 * s + h) = 1 ↔ tb (c' 108 s) h = true)) ∧ (∀ k, k ≠ 0 → k ≠ 108 → c' k = c k) ∧ ∀ j : Int, j ≠ 15 → c' 0 j = c 0 j) := by
  have n0 := hT.1
  have n6 := hT.2.1
  generalize hx : c 0 15 = x
  refine en_X11_drawOut (sg_X11_drawOut_0 ?_)
  refine up_loop (i0 := 0) (n := a 169 3) (fun s c2 => GM E _ _ 10 [.ref 0, vi p, .ref 108, vi s, un, un, un] [] c2) (fun s c2 => c2 0 15 = chN a x (s.toNat * 16) ∧ (∀ u h : Int, 0 ≤ u → u < s → 0 ≤ h → h < 16 → (dRow a p x (16 * u + h) = 1 ↔ tb (c2 108 u) h = true)) ∧ (∀ k, k ≠ 0 → k ≠ 108 → c2 k = c k) ∧ ∀ j : Int, j ≠ 15 → c2 0 j = c 0 j) (fun c2 h => ?_) (fun s c2 s0 s1 h k => ?_) (i := 0) (s := c) (by omega) (by omega) ⟨hx, fun u h u0 u1 => by omega, fun _ _ _ => rfl, fun _ _ => rfl⟩
  · obtain ⟨h1, h2, h3, h4⟩ := h
    have e : c2 9 1 = a 169 3 := by rw [h3 9 (by decide) (by decide)]; exact hC.1
    refine sg_X11_drawOut_10 ⟨by omega, by omega⟩ (by rw [e]; constructor <;> omega) (fun _ => ⟨_, rfl, rfl, ?_, h2, h3, h4⟩) (by rw [e]; omega) (by rw [e]; omega)
    have := chN_stop (x := x) hT (96 - (a 169 3).toNat * 16) (by omega)
    rw [show (a 169 3).toNat * 16 + (96 - (a 169 3).toNat * 16) = 96 by omega] at this
    rw [h1, this]
  · obtain ⟨h1, h2, h3, h4⟩ := h
    have hC2 : CTown c2 a := hC.fr (h3 9 (by decide) (by decide)) (fun s _ => ⟨h3 _ (by omega) (by omega), h3 _ (by omega) (by omega)⟩)
    have e : c2 9 1 = a 169 3 := hC2.1
    refine sg_X11_drawOut_10 ⟨by omega, by omega⟩ (by rw [e]; constructor <;> omega) (by rw [e]; omega) (by omega) (fun _ _ => ?_)
    refine ca_X11_drawOut_32 (ct_binsOf ⟨by omega, by omega⟩ hC2 hT) (fun z c3 hz => sg_X11_drawOut_35 ?_)
    obtain ⟨rfl, -, zb⟩ := hz
    have key : ∀ (d : Nat) (h : Int) (o : Int) (c4 : Mem), 0 ≤ h → h + d = 16 → c4 0 15 = chN a x (s.toNat * 16 + h.toNat) → (∀ i : Int, 0 ≤ i → i < 16 → (tb o i = true ↔ (i < h ∧ dRow a p x (16 * s + i) = 1))) → (∀ k, k ≠ 0 → c4 k = c3 k) → (∀ j : Int, j ≠ 15 → c4 0 j = c3 0 j) → GM E (m_X11_drawOut 2) (Pr fun z c' => z = .ref 108 ∧ c' 0 15 = chN a x 96 ∧ (∀ s h : Int, 0 ≤ s → s < a 169 3 → 0 ≤ h → h < 16 → (dRow a p x (16 * s + h) = 1 ↔ tb (c' 108 s) h = true)) ∧ (∀ k, k ≠ 0 → k ≠ 108 → c' k = c k) ∧ ∀ j : Int, j ≠ 15 → c' 0 j = c 0 j) 43 [.ref 0, vi p, .ref 108, vi s, vi z, vi o, vi h] [] c4 := by
      intro d
      induction d with
      | zero =>
        intro h o c4 h0 hd q1 q2 q3 q4
        refine sg_X11_drawOut_43 ⟨by omega, by omega⟩ (fun _ => by omega) (fun _ => ?_) (by omega) (by omega)
        refine k _ ⟨?_, fun u i u0 u1 i0 i1 => ?_, fun k k1 k2 => by rw [up2_k k2, q3 k k1, h3 k k1 k2], fun j hj => by rw [up2_k (by decide), q4 j hj, h4 j hj]⟩
        · rw [up2_k (by decide), q1]
          congr 1
          omega
        · by_cases cu : u = s
          · subst cu
            rw [up2_same, q2 i i0 i1]
            exact ⟨fun g => ⟨by omega, g⟩, fun g => g.2⟩
          · rw [up2_j cu, q3 108 (by decide)]
            exact h2 u i u0 (by omega) i0 i1
      | succ d ih =>
        intro h o c4 h0 hd q1 q2 q3 q4
        have h16 : h < 16 := by omega
        have zb' := zb h h0 h16
        have eb : ((s.toNat * 16 + h.toNat : Nat) : Int) = 16 * s + h := by omega
        have en : (16 * s + h).toNat = s.toNat * 16 + h.toNat := by omega
        have wt := hT.2.2.2 s h s0 (by omega) h0 h16
        have step : chN a x (s.toNat * 16 + (h + 1).toNat) = if a 178 (16 * s + h) ≤ 0 then chN a x (s.toNat * 16 + h.toNat) else chN a x (s.toNat * 16 + h.toNat) * 1103515245 + 12345 := by
          rw [show s.toNat * 16 + (h + 1).toNat = (s.toNat * 16 + h.toNat) + 1 by omega, chN, eb]
        refine sg_X11_drawOut_43 ⟨by omega, by omega⟩ (by omega) (by omega) (fun _ g => ?_) (fun _ g => ?_)
        · rw [bit_0 h0 (by omega), zb'] at g
          have z0 : a 178 (16 * s + h) = 0 := by
            have := of_decide_eq_false g
            omega
          rw [if_pos (by omega)] at step
          refine ih (h + 1) o c4 (by omega) (by omega) (by rw [step, q1]) (fun i i0 i1 => ?_) q3 q4
          rw [q2 i i0 i1]
          refine ⟨fun g => ⟨by omega, g.2⟩, fun g => ⟨?_, g.2⟩⟩
          by_cases c : i = h
          · subst c
            have g2 := g.2
            unfold dRow at g2
            rw [if_neg (by omega)] at g2
            cases g2
          · omega
        · rw [bit_0 h0 (by omega), zb'] at g
          have z1 : a 178 (16 * s + h) ≠ 0 := by
            intro o
            apply g
            exact decide_eq_false (fun x => x.2.2 o)
          rw [if_neg (by omega)] at step
          refine ca_X11_drawOut_61 ct_drawTenth (fun y c5 hy => ?_)
          obtain ⟨ey, e5⟩ := hy
          rw [q1] at ey e5
          have et : dRow a p x (16 * s + h) = if p ≤ y then 0 else 1 := by
            unfold dRow
            rw [en, ey]
            by_cases c : p ≤ tenth (chN a x (s.toNat * 16 + h.toNat) * 1103515245 + 12345)
            · rw [if_neg (fun o => o.2.2 c), if_pos c]
            · rw [if_pos ⟨⟨by omega, by omega⟩, by omega, c⟩, if_neg c]
          refine sg_X11_drawOut_64 (by rw [ey]; exact tenth_rng _) rp ?_
          refine ih (h + 1) _ c5 (by omega) (by omega) (by rw [e5, up2_same, step]) (fun i i0 i1 => ?_) (fun k hk => by rw [e5, up2_k hk, q3 k hk]) (fun j hj => by rw [e5, up2_j hj, q4 j hj])
          have q := q2 i i0 i1
          by_cases c : p ≤ y
          · rw [if_pos c]
            rw [if_pos c] at et
            rw [q]
            refine ⟨fun g => ⟨by omega, g.2⟩, fun g => ⟨?_, g.2⟩⟩
            by_cases ci : i = h
            · subst ci; have := g.2; omega
            · omega
          · rw [if_neg c]
            rw [if_neg c] at et
            rw [tb_or, tb_one h0 (by omega) i0 (by omega)]
            by_cases ci : i = h
            · subst ci
              simp [et]
              omega
            · simp [ci]
              rw [q]
              refine ⟨fun g => ⟨by omega, g.2⟩, fun g => ⟨by omega, g.2⟩⟩
    exact key 16 0 0 c3 (by decide) (by decide) (by rw [h1]; rfl) (fun i i0 i1 => by rw [tb_0]; exact ⟨fun g => absurd g (by decide), fun g => by omega⟩) (fun _ _ => rfl) (fun _ _ => rfl)
