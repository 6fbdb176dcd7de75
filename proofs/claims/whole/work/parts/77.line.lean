/-! line -/
def posN (h : Int) : Int := 2 * (h % 8) + h / 8
def lineQ (r : Int → Int) (s : Int) (i : Int) : Bool := r (16 * s + (8 * (i % 2) + i / 2)) == 1
def lineC (r : Int → Int) (s : Int) (i : Nat) : Int := sumI (fun j => b01 (lineQ r s j)) i
def nearR (r : Int → Int) (s i : Int) : Int → Int := fun b => if (16 * s ≤ b ∧ b < 16 * s + 16) ∧ r b = 1 ∧ i ≤ posN (b - 16 * s) then 0 else r b
def lineT (a : Mem) (v : (Int → Int) → Int) (r : Int → Int) (s i how : Int) : Int := secN a v (emptyRow (nearR r s i)) s how (a 173 s) (a 179 1)
def lineG (T : Int → Int → Int) (q : Int → Bool) : Nat → Int → Int → Int × Int × Int
  | 0, _, k => (k, -1, -1)
  | d + 1, i, k => if q i = true then (if T (i + 1) 2 ≤ min (T (i + 1) 0) (T (i + 1) 1) then lineG T q d (i + 1) (k + 1) else (k, min (T (i + 1) 0) (T (i + 1) 1), T (i + 1) 2)) else lineG T q d (i + 1) k
def lineA (a : Mem) (v : (Int → Int) → Int) (r : Int → Int) (s : Int) : Int × Int × Int := lineG (lineT a v r s) (lineQ r s) (2 * a 172 s).toNat 0 0
theorem lineC_step {r : Int → Int} {s : Int} {i : Nat} : lineC r s (i + 1) = lineC r s i + b01 (lineQ r s i) := by
  unfold lineC
  rw [sumI]
theorem lineC_rng {r : Int → Int} {s : Int} {i : Nat} : 0 ≤ lineC r s i ∧ lineC r s i ≤ i := by
  have := sumI_bound (f := fun j => b01 (lineQ r s j)) (c := 1) (n := i) (fun j _ _ => b01_rng _)
  unfold lineC
  omega
theorem lineC_mono {r : Int → Int} {s : Int} {i : Nat} : ∀ d : Nat, lineC r s i ≤ lineC r s (i + d)
  | 0 => Int.le_refl _
  | d + 1 => by
    have := lineC_mono (r := r) (s := s) (i := i) d
    have b := b01_rng (lineQ r s ((i + d : Nat) : Int))
    rw [← Nat.add_assoc, lineC_step]
    omega
theorem nearR_r3 {r : Int → Int} {s i : Int} (h : ∀ b : Int, 0 ≤ b → b < 96 → 0 ≤ r b ∧ r b ≤ 3) : ∀ b : Int, 0 ≤ b → b < 96 → 0 ≤ nearR r s i b ∧ nearR r s i b ≤ 3 := fun b b0 b1 => by
  unfold nearR
  split
  · omega
  · exact h b b0 b1
theorem nearR_1 {r : Int → Int} {s i h : Int} (h0 : 0 ≤ h) (h1 : h < 16) : nearR r s i (16 * s + h) = 1 ↔ r (16 * s + h) = 1 ∧ posN h < i := by
  unfold nearR
  rw [show 16 * s + h - 16 * s = h by omega]
  split
  · rename_i g
    constructor
    · intro e; omega
    · intro e; omega
  · rename_i g
    constructor
    · intro e; omega
    · intro e; exact e.1
theorem lineT_rng {a : Mem} {v : (Int → Int) → Int} {r : Int → Int} {s i how : Int} (hT : WTown a) (hS : WSet a) (s0 : 0 ≤ s) (s6 : s < 6) (hr : ∀ b : Int, 0 ≤ b → b < 96 → 0 ≤ r b ∧ r b ≤ 3) : 0 ≤ lineT a v r s i how ∧ lineT a v r s i how ≤ 17712 :=
  BT_rng (r := nearR r s i) hT hS s0 s6 (nearR_r3 hr)
theorem lineG_rng {T : Int → Int → Int} {q : Int → Bool} (hT : ∀ i how, 0 ≤ T i how ∧ T i how ≤ 17712) : ∀ (d : Nat) (i k : Int), 0 ≤ k → k ≤ (lineG T q d i k).1 ∧ (lineG T q d i k).1 ≤ k + d ∧ -1 ≤ (lineG T q d i k).2.1 ∧ (lineG T q d i k).2.1 ≤ 17712 ∧ -1 ≤ (lineG T q d i k).2.2 ∧ (lineG T q d i k).2.2 ≤ 17712
  | 0, i, k, _ => by
    show k ≤ k ∧ k ≤ k + 0 ∧ -1 ≤ (-1 : Int) ∧ (-1 : Int) ≤ 17712 ∧ -1 ≤ (-1 : Int) ∧ (-1 : Int) ≤ 17712
    omega
  | d + 1, i, k, hk => by
    rw [lineG]
    have h0 := hT (i + 1) 0
    have h1 := hT (i + 1) 1
    have h2 := hT (i + 1) 2
    split
    · split
      · have := lineG_rng (q := q) hT d (i + 1) (k + 1) (by omega)
        omega
      · show k ≤ k ∧ k ≤ k + ((d + 1 : Nat) : Int) ∧ -1 ≤ min (T (i + 1) 0) (T (i + 1) 1) ∧ min (T (i + 1) 0) (T (i + 1) 1) ≤ 17712 ∧ -1 ≤ T (i + 1) 2 ∧ T (i + 1) 2 ≤ 17712
        omega
    · have := lineG_rng (q := q) hT d (i + 1) k hk
      omega
/-- the class -/
theorem ct_line {E : Nat × (Nat → Int32)} {c a : Mem} {v : (Int → Int) → Int} {s B : Int} (rs : RI s) (h : CR0 c a) (hR : RuleC c v) (hT : WTown a) (hS : WSet a) (hn : StOK B a (a 180)) : K_X11_line E [.ref 0, vi s] c (fun z c' => ((0 ≤ s ∧ s < a 169 3) ∧ z = (lineA a v (a 180) s).1 ∧ CQ c c' 2 (rwL [(lineA a v (a 180) s).2.1, (lineA a v (a 180) s).2.2])) ∨ (¬ (0 ≤ s ∧ s < a 169 3) ∧ z = -1 ∧ c' = c)) := by
  have e := h.town.1
  have n0 := hT.1
  have n6 := hT.2.1
  have e41 := h.set 1 (by decide) (by decide)
  have m1 := hS.2.2.1
  have m4 := hS.2.2.2.1
  refine en_X11_line (sg_X11_line_0 (by omega) rs (fun _ => by constructor <;> omega) (fun p => ?_) (fun p => ⟨_, rfl, Or.inr ⟨by omega, rfl, rfl⟩⟩))
  have m := streetMem s.toNat (by omega)
  have sr := streetR1 m
  have t := hT.2.2.1 s p.1 (by omega)
  have s1 : s < a 169 3 := by omega
  have emax : max 1 (c 4 1) = a 179 1 := by omega
  have e4 := (h.town.s p.1 s1 n6).2.2.1
  rw [emax, e4]
  have T := fun i how => lineT_rng (v := v) (i := i) (how := how) hT hS p.1 (by omega : s < 6) hn.r3
  have key : ∀ (d : Nat) (i : Int) (k near : Int) (c2 : Mem), 0 ≤ i → i + d = 2 * a 172 s → 0 ≤ k → k ≤ i → Small near → (∀ h : Int, 0 ≤ h → h < 16 → (tb near h = true ↔ a 180 (16 * s + h) = 1 ∧ posN h < i)) → JobFr 100 c c2 → c2 100 8 = a 173 s → c2 100 7 = a 179 1 → GM E (m_X11_line 6) (Pi fun z c' => ((0 ≤ s ∧ s < a 169 3) ∧ z = (lineG (lineT a v (a 180) s) (lineQ (a 180) s) d i k).1 ∧ CQ c c' 2 (rwL [(lineG (lineT a v (a 180) s) (lineQ (a 180) s) d i k).2.1, (lineG (lineT a v (a 180) s) (lineQ (a 180) s) d i k).2.2])) ∨ (¬ (0 ≤ s ∧ s < a 169 3) ∧ z = -1 ∧ c' = c)) 42 [.ref 0, vi s, .ref (11 + 2 * s.toNat), vi k, vi near, vi i, un, un] [] c2 := by
    intro d
    induction d with
    | zero =>
      intro i k near c2 i0 id k0 ki sn hnear f e8 e7
      have e3 : c2 (11 + 2 * s.toNat) 3 = a 172 s := ((f.town (by decide) h.town).s p.1 s1 n6).2.1
      refine sg_X11_line_42 m ⟨by omega, by omega⟩ (by rw [e3]; constructor <;> omega) (by rw [e3]; omega) (fun _ => ⟨_, rfl, Or.inl ⟨⟨p.1, s1⟩, rfl, ?_⟩⟩) (by rw [e3]; omega) (by rw [e3]; omega)
      exact CQ.job (by decide) f CQ.two
    | succ d ih =>
      intro i k near c2 i0 id k0 ki sn hnear f e8 e7
      have hC2 := f.town (by decide) h.town
      have e3 : c2 (11 + 2 * s.toNat) 3 = a 172 s := (hC2.s p.1 s1 n6).2.1
      have e24 : c2 24 = c 24 := f.1 24 (by decide) (by decide) (by decide)
      have er : remI i 2 * 8 + divI i 2 = 8 * (i % 2) + i / 2 := by rw [remI_nn ⟨by omega, by omega⟩ (by omega), divI_nn ⟨by omega, by omega⟩ (by omega)]; omega
      have hh0 : 0 ≤ 8 * (i % 2) + i / 2 := by omega
      have hh1 : 8 * (i % 2) + i / 2 < 16 := by omega
      have ep : posN (8 * (i % 2) + i / 2) = i := by unfold posN; omega
      have pinj : ∀ x : Int, 0 ≤ x → x < 16 → posN x = i → x = 8 * (i % 2) + i / 2 := fun x x0 x1 hx => by unfold posN at hx; omega
      have hout := h.now.out1 p.1 (by omega : s < 6) hh0 hh1
      refine sg_X11_line_42 m ⟨by omega, by omega⟩ (by rw [e3]; constructor <;> omega) (by omega) (by rw [e3]; omega) (fun _ g => ?_) (fun _ g => ?_)
      all_goals rw [er, e24] at g
      · have q : lineQ (a 180) s i = false := by
          have g := (bandI_bit hh0 (by omega)).1 g
          unfold lineQ
          rw [beq_eq_false_iff_ne]
          intro e
          have := hout.1 e
          exact absurd (this.symm.trans g) (by decide)
        have el : lineG (lineT a v (a 180) s) (lineQ (a 180) s) (d + 1) i k = lineG (lineT a v (a 180) s) (lineQ (a 180) s) d (i + 1) k := by
          rw [lineG, if_neg (by rw [q]; decide)]
        rw [el]
        refine ih (i + 1) k near c2 (by omega) (by omega) k0 (by omega) sn (fun x x0 x1 => ?_) f e8 e7
        rw [hnear x x0 x1]
        constructor
        · intro o; exact ⟨o.1, by omega⟩
        · intro o
          refine ⟨o.1, ?_⟩
          by_cases c : posN x = i
          · have := pinj x x0 x1 c
            rw [this] at o
            unfold lineQ at q
            rw [beq_eq_false_iff_ne] at q
            exact absurd o.1 q
          · omega
      · have g := (bandI_bit' hh0 (by omega)).1 g
        have q : lineQ (a 180) s i = true := by
          unfold lineQ
          rw [beq_iff_eq]
          exact hout.2 g
        rw [er]
        have hn2 : ∀ x : Int, 0 ≤ x → x < 16 → (tb (borI near (shlI 1 (8 * (i % 2) + i / 2))) x = true ↔ a 180 (16 * s + x) = 1 ∧ posN x < i + 1) := fun x x0 x1 => by
          rw [tb_or, tb_one hh0 (by omega) x0 (by omega), Bool.or_eq_true, hnear x x0 x1, decide_eq_true_eq]
          constructor
          · rintro (o | o)
            · exact ⟨o.1, by omega⟩
            · rw [o]; exact ⟨hout.2 g, by omega⟩
          · intro o
            by_cases c : posN x = i
            · exact Or.inr (pinj x x0 x1 c)
            · exact Or.inl ⟨o.1, by omega⟩
        have sn2 := small_or sn (small_one hh0 hh1)
        refine ca_X11_line_97 m100 (ct_chooseHow (r := emptyRow (nearR (a 180) s (i + 1))) (hill := a 173 s) (men := a 179 1) m100 hC2 (f.set (by decide) h.set) (f.rule (by decide) hR) hT hS p.1 s1 e8 e7 ⟨by omega, by omega⟩ ⟨by omega, by omega⟩ (er3 (nearR_r3 hn.r3)) (er1 (by omega) (fun x x0 x1 => by rw [hn2 x x0 x1]; exact nearR_1 x0 x1)) emptyRow_96) (fun z c3 hz => ?_)
        obtain ⟨-, -, z3, z4, z5⟩ := hz
        have y0 : c3 105 0 = lineT a v (a 180) s (i + 1) 0 := z3 0 (by decide) (by decide)
        have y1 : c3 105 1 = lineT a v (a 180) s (i + 1) 1 := z3 1 (by decide) (by decide)
        have y2 : c3 105 2 = lineT a v (a 180) s (i + 1) 2 := z3 2 (by decide) (by decide)
        have t0 := T (i + 1) 0
        have t1 := T (i + 1) 1
        have t2 := T (i + 1) 2
        have el : lineG (lineT a v (a 180) s) (lineQ (a 180) s) (d + 1) i k = if lineT a v (a 180) s (i + 1) 2 ≤ min (lineT a v (a 180) s (i + 1) 0) (lineT a v (a 180) s (i + 1) 1) then lineG (lineT a v (a 180) s) (lineQ (a 180) s) d (i + 1) (k + 1) else (k, min (lineT a v (a 180) s (i + 1) 0) (lineT a v (a 180) s (i + 1) 1), lineT a v (a 180) s (i + 1) 2) := by
          rw [lineG, if_pos q]
        rw [el]
        refine sg_X11_line_100 m (by rw [y0]; constructor <;> omega) (by rw [y1]; constructor <;> omega) (by rw [y2]; constructor <;> omega) (by rw [y0, y1]; constructor <;> omega) (fun g2 => ?_) (fun g2 => ⟨_, rfl, Or.inl ⟨⟨p.1, s1⟩, ?_⟩⟩)
        all_goals rw [y0, y1, y2] at g2
        · rw [if_pos g2]
          exact ih (i + 1) (k + 1) _ c3 (by omega) (by omega) (by omega) (by omega) sn2 hn2 (f.trans z5) z4.2.1 z4.1
        · rw [if_neg g2, y0, y1, y2]
          exact ⟨rfl, CQ.job (by decide) (f.trans z5) CQ.two⟩
  exact key (2 * a 172 s).toNat 0 0 0 _ (by omega) (by omega) (by omega) (by omega) small_0 (fun x x0 x1 => by rw [tb_0]; exact ⟨fun o => absurd o (by decide), fun o => by have := o.2; unfold posN at this; omega⟩) thinkFr (up2_same _ _ _ _) (by rw [up2_j (by decide), up2_same])
