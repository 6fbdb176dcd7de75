/-! share -/
def shS (a : Mem) (v : (Int → Int) → Int) (t : Int) : Int := sumI (fun s => if tb t s = true then secS a v s else 0) 6
def sub (t u : Int) : Prop := bandI u (bxorI t (-1)) = 0
theorem sub_iff {t u : Int} : sub t u ↔ ∀ i : Int, 0 ≤ i → i < 32 → tb u i = true → tb t i = true := by
  unfold sub
  constructor
  · intro h i i0 i1 hu
    have h2 := tb_and u (bxorI t (-1)) i
    rw [h, tb_0, tb_xor, tb_m1 i1, hu] at h2
    rcases x : tb t i with _ | _
    · rw [x] at h2; exact absurd h2 (by decide)
    · rfl
  · intro h
    refine tb_ext (iI_rng _) (by decide) (fun i i0 i1 => ?_)
    rw [tb_and, tb_xor, tb_m1 i1, tb_0]
    rcases x : tb u i with _ | _
    · rfl
    · rw [h i i0 i1 x]; rfl
theorem sub_le_nat : ∀ t, t < 64 → ∀ u, u < 64 → (∀ i, i < 6 → u.testBit i = true → t.testBit i = true) → u ≤ t := by decide +kernel
theorem sub_le {t u : Int} (t0 : 0 ≤ t) (t6 : t < 64) (u0 : 0 ≤ u) (u6 : u < 64) (h : sub t u) : u ≤ t := by
  have hs := sub_iff.1 h
  have := sub_le_nat t.toNat (by omega) u.toNat (by omega) (fun i hi hu => by
    have := hs (i : Int) (by omega) (by omega)
    rw [← Int.toNat_of_nonneg t0, ← Int.toNat_of_nonneg u0, tb_nat (by omega), tb_nat (by omega)] at this
    simpa using this (by simpa using hu))
  omega
theorem secS_rng {a : Mem} {v : (Int → Int) → Int} {s B : Int} (hT : WTown a) (hS : WSet a) (hn : StOK B a (a 180)) (s0 : 0 ≤ s) (s6 : s < 6) : 0 ≤ secS a v s ∧ secS a v s ≤ 17712 := by
  have := bestS_rng (v := v) hT hS hn s0 s6
  unfold secS
  split <;> omega
theorem shS_rng {a : Mem} {v : (Int → Int) → Int} {t B : Int} (hT : WTown a) (hS : WSet a) (hn : StOK B a (a 180)) : 0 ≤ shS a v t ∧ shS a v t ≤ 106272 := by
  have := sumI_bound (f := fun s => if tb t s = true then secS a v s else 0) (c := 17712) (n := 6) (fun i i0 i1 => by
    have := secS_rng (v := v) hT hS hn i0 i1
    show 0 ≤ (if tb t i = true then secS a v i else 0) ∧ (if tb t i = true then secS a v i else 0) ≤ 17712
    split <;> omega)
  unfold shS
  omega
theorem shS_rest {a : Mem} {v : (Int → Int) → Int} {t u : Int} (h : sub t u) : shS a v (bandI t (bxorI u (-1))) = shS a v t - shS a v u := by
  have hs := sub_iff.1 h
  have e : shS a v t = sumI (fun s => (if tb (bandI t (bxorI u (-1))) s = true then secS a v s else 0) + (if tb u s = true then secS a v s else 0)) 6 := sumI_congr (fun i i0 i1 => by
    show (if tb t i = true then secS a v i else 0) = (if tb (bandI t (bxorI u (-1))) i = true then secS a v i else 0) + (if tb u i = true then secS a v i else 0)
    rw [tb_and, tb_xor, tb_m1 (by omega)]
    rcases x : tb u i with _ | _
    · rcases y : tb t i with _ | _ <;> simp
    · rw [hs i i0 (by omega) x]; simp)
  rw [sumI_add] at e
  unfold shS at e ⊢
  omega
def shG (a : Mem) (v : (Int → Int) → Int) (t : Int) : Nat → Int × Int
  | 0 => (shS a v t, 0)
  | k + 1 => if bandI ((k : Int) + 1) (bxorI t (-1)) ≠ 0 then shG a v t k else (if (shG a v t k).1 ≤ max (shS a v (k + 1)) (shS a v t - shS a v (k + 1)) then shG a v t k else (max (shS a v (k + 1)) (shS a v t - shS a v (k + 1)), k + 1))
theorem shG_rng {a : Mem} {v : (Int → Int) → Int} {t B : Int} (hT : WTown a) (hS : WSet a) (hn : StOK B a (a 180)) : ∀ k : Nat, -106272 ≤ (shG a v t k).1 ∧ (shG a v t k).1 ≤ 106272 ∧ 0 ≤ (shG a v t k).2 ∧ (shG a v t k).2 ≤ k
  | 0 => by
    have := shS_rng (v := v) (t := t) hT hS hn
    show -106272 ≤ shS a v t ∧ shS a v t ≤ 106272 ∧ 0 ≤ (0 : Int) ∧ (0 : Int) ≤ ((0 : Nat) : Int)
    omega
  | k + 1 => by
    have ih := shG_rng (v := v) (t := t) hT hS hn k
    have r1 := shS_rng (v := v) (t := t) hT hS hn
    have r2 := shS_rng (v := v) (t := (k : Int) + 1) hT hS hn
    rw [shG]
    split
    · omega
    · split
      · omega
      · show -106272 ≤ max (shS a v (k + 1)) (shS a v t - shS a v (k + 1)) ∧ max (shS a v (k + 1)) (shS a v t - shS a v (k + 1)) ≤ 106272 ∧ 0 ≤ (k : Int) + 1 ∧ (k : Int) + 1 ≤ ((k + 1 : Nat) : Int)
        omega
theorem shG_end {a : Mem} {v : (Int → Int) → Int} {t : Int} (t0 : 0 ≤ t) (t6 : t < 64) : ∀ d : Nat, t.toNat + d ≤ 63 → shG a v t (t.toNat + d) = shG a v t t.toNat
  | 0, _ => rfl
  | d + 1, h => by
    rw [← Nat.add_assoc, shG, if_pos, shG_end t0 t6 d (by omega)]
    intro e
    have := sub_le t0 t6 (show (0 : Int) ≤ ((t.toNat + d : Nat) : Int) + 1 by omega) (by omega) e
    omega
def shR (a : Mem) (v : (Int → Int) → Int) (t : Int) : Int × Int := shG a v t 63
theorem ct_secondsOf {E : Nat × (Nat → Int32)} {c a : Mem} {v : (Int → Int) → Int} {t : Int} (hd : DaysOK a v (a 169 3) c) : K_X0_secondsOf E [.ref 147, vi t] c (fun z c' => z = shS a v t ∧ c' = c) := by
  refine en_X0_secondsOf (sg_X0_secondsOf_0 ?_)
  refine up_loop (i0 := 0) (n := 6) (fun i (x : Int) => GM E _ _ 4 [.ref 147, vi t, vi x, vi i] [] c) (fun i x => x = sumI (fun s => if tb t s = true then secS a v s else 0) i.toNat) (fun x h => ?_) (fun i x i0 i1 h k => ?_) (i := 0) (s := 0) (by omega) (by omega) rfl
  · exact sg_X0_secondsOf_4 (by decide) (by omega) (fun _ => ⟨_, rfl, h, rfl⟩) (by omega)
  · refine sg_X0_secondsOf_4 ⟨by omega, by omega⟩ (fun _ _ => ⟨i0, i1⟩) (by omega) (fun _ => k _ ?_)
    have e : c 148 i = secS a v i := hd.1 i i0 i1
    rw [sumI_step i0, ← h, e]
    by_cases b : tb t i = true
    · rw [if_neg (fun e => by rw [bit_0 i0 (by omega), b] at e; exact absurd e (by decide)), if_pos b]
    · rw [if_pos ((bit_0 i0 (by omega)).2 (by simpa using b)), if_neg b]; omega
theorem ct_share {E : Nat × (Nat → Int32)} {c a : Mem} {v : (Int → Int) → Int} {t B : Int} (rt : RI t) (h : CR0 c a) (hR : RuleC c v) (hT : WTown a) (hS : WSet a) (hn : StOK B a (a 180)) : K_X11_share E [.ref 0, vi t] c (fun z c' => (setOf (a 169 3) t ∧ z = (shR a v t).1 ∧ CQ c c' 2 (rwL [(shR a v t).2, shS a v t - (shR a v t).1])) ∨ (¬ setOf (a 169 3) t ∧ z = -1 ∧ c' = c)) := by
  have n0 := hT.1
  have n6 := hT.2.1
  have e91 := h.town.1
  have hi := hasAll_iff n0 n6 rt
  refine en_X11_share (sg_X11_share_0 (fun p => ?_) (fun p => ⟨_, rfl, Or.inr ⟨fun o => p (by rw [e91]; exact hi.2 o), rfl, rfl⟩⟩))
  rw [e91] at p
  have P := hi.1 p
  refine ca_X11_share_14 (ct_measureDays h hR hT hS hn) (fun c2 h2 => sg_X11_share_17 ?_)
  obtain ⟨hd, f⟩ := h2
  refine ca_X11_share_22 (ct_secondsOf hd) (fun z c3 hz => sg_X11_share_25 ?_)
  obtain ⟨ez, e3⟩ := hz
  subst e3
  subst ez
  have r1 := shS_rng (v := v) (t := t) hT hS hn
  have key : ∀ (d k : Nat), k + d = 63 → GM E (m_X11_share 7) (Pi fun z c' => (setOf (a 169 3) t ∧ z = (shR a v t).1 ∧ CQ c c' 2 (rwL [(shR a v t).2, shS a v t - (shR a v t).1])) ∨ (¬ setOf (a 169 3) t ∧ z = -1 ∧ c' = c)) 34 [.ref 0, vi t, vi (shS a v t), vi (shG a v t k).1, vi (shG a v t k).2, vi ((k : Int) + 1), un, un] [] c3 := by
    intro d
    induction d with
    | zero =>
      intro k hk
      have e : k = 63 := by omega
      subst e
      have g := shG_rng (v := v) (t := t) hT hS hn 63
      exact sg_X11_share_34 (by decide) ⟨by omega, by omega⟩ (fun _ => ⟨by omega, by omega⟩) (fun _ => ⟨_, rfl, Or.inl ⟨P, rfl, CQ.days f CQ.two⟩⟩) (fun q => absurd (by decide) q)
    | succ d ih =>
      intro k hk
      have g := shG_rng (v := v) (t := t) hT hS hn k
      have r2 := shS_rng (v := v) (t := (k : Int) + 1) hT hS hn
      refine sg_X11_share_34 ⟨by omega, by omega⟩ ⟨by omega, by omega⟩ (by omega) (by omega) (fun _ => ?_)
      refine ca_X11_share_47 (ct_secondsOf hd) (fun z c4 hz => ?_)
      obtain ⟨ez, e4⟩ := hz
      subst e4
      subst ez
      refine sg_X11_share_50 ⟨by omega, by omega⟩ ⟨by omega, by omega⟩ (fun _ => ⟨by omega, by omega⟩) ⟨by omega, by omega⟩ ?_
      have := ih (k + 1) (by omega)
      rw [shG] at this
      by_cases c1 : bandI ((k : Int) + 1) (bxorI t (-1)) ≠ 0
      · rw [if_pos c1] at this
        rw [if_pos c1, if_pos c1]
        exact this
      · rw [if_neg c1] at this
        rw [if_neg c1, if_neg c1]
        by_cases c2 : (shG a v t k).1 ≤ max (shS a v (k + 1)) (shS a v t - shS a v (k + 1))
        · rw [if_pos c2] at this
          rw [if_pos c2, if_pos c2]
          exact this
        · rw [if_neg c2] at this
          rw [if_neg c2, if_neg c2]
          exact this
  exact key 63 0 (by omega)
theorem shS_n {a : Mem} {v : (Int → Int) → Int} {t : Int} (n0 : 0 ≤ a 169 3) (n6 : a 169 3 ≤ 6) : shS a v t = sumI (fun s => if tb t s = true then bestS a v (a 180) s else 0) (a 169 3).toNat := by
  unfold shS
  have := sumI_split (f := fun s => if tb t s = true then secS a v s else 0) (p := (a 169 3).toNat) (6 - (a 169 3).toNat)
  rw [show (a 169 3).toNat + (6 - (a 169 3).toNat) = 6 by omega] at this
  rw [this, sumI_0 (f := fun i => if tb t (((a 169 3).toNat : Nat) + i) = true then secS a v (((a 169 3).toNat : Nat) + i) else 0) (fun i i0 i1 => by
    show (if tb t (((a 169 3).toNat : Nat) + i) = true then secS a v (((a 169 3).toNat : Nat) + i) else 0) = 0
    unfold secS
    rw [if_neg (show ¬ (((a 169 3).toNat : Nat) : Int) + i < a 169 3 by omega)]
    split <;> rfl), Int.add_zero]
  refine sumI_congr (fun i i0 i1 => ?_)
  show (if tb t i = true then secS a v i else 0) = if tb t i = true then bestS a v (a 180) i else 0
  have e : secS a v i = bestS a v (a 180) i := if_pos (by omega)
  rw [e]
theorem mt_sumOf {E : Nat × (Nat → Int32)} {m a : Mem} {v : (Int → Int) → Int} {t B : Int} (b : MB a m) (e180 : m 180 = a 180) (hR : RuleM a v) (hT : WTown a) (hS : WSet a) (hn : StOK B a (a 180)) : K_X12_sumOf E [.ref 169, vi t] m (fun z m' => z = shS a v t ∧ SF m m') := by
  have n0 := hT.1
  have n6 := hT.2.1
  refine en_X12_sumOf (sg_X12_sumOf_0 ?_)
  have key : ∀ (d : Nat) (s : Int) (m2 : Mem), 0 ≤ s → s + d = a 169 3 → SF m m2 → GM E (m_X12_sumOf 9) (Pi fun z m' => z = shS a v t ∧ SF m m') 4 [.ref 169, vi t, vi (sumI (fun s => if tb t s = true then bestS a v (a 180) s else 0) s.toNat), vi s] [] m2 := by
    intro d
    induction d with
    | zero =>
      intro s m2 s0 sd f
      have e3 : m2 169 3 = a 169 3 := (b.trans f.mb).1
      exact sg_X12_sumOf_4 ⟨by omega, by omega⟩ (by rw [e3]; constructor <;> omega) (fun _ => ⟨_, rfl, by rw [shS_n n0 n6, show s = a 169 3 by omega], f⟩) (by rw [e3]; omega) (by rw [e3]; omega)
    | succ d ih =>
      intro s m2 s0 sd f
      have e3 : m2 169 3 = a 169 3 := (b.trans f.mb).1
      have ss : sumI (fun s => if tb t s = true then bestS a v (a 180) s else 0) (s + 1).toNat = sumI (fun s => if tb t s = true then bestS a v (a 180) s else 0) s.toNat + if tb t s = true then bestS a v (a 180) s else 0 := sumI_step s0
      refine sg_X12_sumOf_4 ⟨by omega, by omega⟩ (by rw [e3]; constructor <;> omega) (by rw [e3]; omega) (fun _ g => ?_) (fun _ g => ?_)
      · have tt := (bit_1 s0 (by omega)).1 g
        refine ca_X12_sumOf_23 (mt_bestNow (r0 := a 180) (b.trans f.mb) hR hT hS s0 (by omega) (fun c _ _ => by rw [f.1 180 (by decide) (by decide) (by decide) (by decide), e180]) hn.r3) (fun z m3 hz => sg_X12_sumOf_26 ?_)
        rw [if_pos tt] at ss
        rw [hz.1, ← ss]
        exact ih (s + 1) m3 (by omega) (by omega) (f.trans hz.2.2.1)
      · have tt : ¬ tb t s = true := fun o => g ((bit_1 s0 (by omega)).2 o)
        rw [if_neg tt] at ss
        rw [← ss]
        exact ih (s + 1) m2 (by omega) (by omega) f
  exact key (a 169 3).toNat 0 m (by omega) (by omega) SF.rf
theorem shG_0 {a : Mem} {v : (Int → Int) → Int} {t : Int} : shG a v t 0 = (shS a v t, 0) := rfl
theorem mt_share {E : Nat × (Nat → Int32)} {m a : Mem} {v : (Int → Int) → Int} {t B : Int} (rt : RI t) (hm : HighEq a m) (hR : RuleM a v) (hT : WTown a) (hS : WSet a) (hn : StOK B a (a 180)) : K_X12_share E [.ref 169, vi t] m (fun z m' => (setOf (a 169 3) t ∧ z = (shR a v t).1 ∧ PEq m' (rowU m 2 (rwL [(shR a v t).2, shS a v t - (shR a v t).1])) ∧ LowEq m m') ∨ (¬ setOf (a 169 3) t ∧ z = -1 ∧ PEq m' m ∧ LowEq m m')) := by
  have n0 := hT.1
  have n6 := hT.2.1
  have e9 := hm 169 (by decide)
  have es := shlN n0 n6
  have p6 := pow6 (k := (a 169 3).toNat) (by omega)
  have := rt.1; have := rt.2
  have k0 : ∀ k, k ≠ 169 → up2 m 169 0 0 k = m k := fun k h => up2_k h
  have b0 : MB a (up2 m 169 0 0) := hm.mb.trans ⟨up2_j (by decide), up2_j (by decide), fun k _ _ => k0 k (by omega), k0 185 (by decide)⟩
  have e180 : up2 m 169 0 0 180 = a 180 := by rw [k0 180 (by decide), hm 180 (by decide)]
  refine en_X12_share (sg_X12_share_0 rt (by rw [e9]; constructor <;> omega) ⟨by omega, by omega⟩ (by rw [e9]; constructor <;> omega) (fun p => ?_) (fun p => ⟨_, rfl, Or.inr ⟨fun o => p (by rw [e9]; exact o), rfl, PEq.field npf0, fun k hk => up2_k (by omega)⟩⟩))
  rw [e9] at p
  have P : setOf (a 169 3) t := p
  have t64 := setOf_64 n0 n6 P
  have r1 := shS_rng (v := v) (t := t) hT hS hn
  refine ca_X12_share_25 (mt_sumOf b0 e180 hR hT hS hn) (fun z m2 hz => sg_X12_share_28 ?_)
  obtain ⟨ez, f⟩ := hz
  subst ez
  have key : ∀ (d k : Nat) (m3 : Mem), k + d = t.toNat → SF (up2 m 169 0 0) m3 → GM E (m_X12_share 10) (Pi fun z m' => (setOf (a 169 3) t ∧ z = (shR a v t).1 ∧ PEq m' (rowU m 2 (rwL [(shR a v t).2, shS a v t - (shR a v t).1])) ∧ LowEq m m') ∨ (¬ setOf (a 169 3) t ∧ z = -1 ∧ PEq m' m ∧ LowEq m m')) 35 [.ref 169, vi t, vi (shG a v t k).2, vi (shG a v t k).1, vi (shS a v t - (shG a v t k).1), vi ((k : Int) + 1), un, un] [] m3 := by
    intro d
    induction d with
    | zero =>
      intro k m3 hk f3
      have e : k = t.toNat := by omega
      subst e
      have g := shG_rng (v := v) (t := t) hT hS hn t.toNat
      have eR : shG a v t t.toNat = shR a v t := by
        have := shG_end (a := a) (v := v) t64.1 t64.2 (63 - t.toNat) (by omega)
        rw [show t.toNat + (63 - t.toNat) = 63 by omega] at this
        exact this.symm
      rw [eR] at g ⊢
      refine sg_X12_share_35 ⟨by omega, by omega⟩ rt ⟨by omega, by omega⟩ ⟨by omega, by omega⟩ (fun _ => ⟨_, rfl, Or.inl ⟨P, rfl, PEq.two (f3.peq.trans (PEq.field npf0)), fun k hk => ?_⟩⟩) (by omega) (by omega)
      rw [up2_k (by omega), up2_k (by omega), up2_k (by omega), up2_k (by omega), up2_k (by omega), f3.low k hk, k0 k (by omega)]
    | succ d ih =>
      intro k m3 hk f3
      have g := shG_rng (v := v) (t := t) hT hS hn k
      have r2 := shS_rng (v := v) (t := (k : Int) + 1) hT hS hn
      have e180' : ∀ m4 : Mem, SF (up2 m 169 0 0) m4 → m4 180 = a 180 := fun m4 f4 => by rw [f4.1 180 (by decide) (by decide) (by decide) (by decide), e180]
      refine sg_X12_share_35 ⟨by omega, by omega⟩ rt ⟨by omega, by omega⟩ ⟨by omega, by omega⟩ (by omega) (fun _ c1 => ?_) (fun _ c1 => ?_)
      · have := ih (k + 1) m3 (by omega) f3
        rw [shG, if_pos c1] at this
        exact this
      · refine ca_X12_share_53 (mt_sumOf (b0.trans f3.mb) (e180' m3 f3) hR hT hS hn) (fun z m4 hz => sg_X12_share_56 ?_)
        obtain ⟨ez, f4⟩ := hz
        subst ez
        have f34 := f3.trans f4
        refine ca_X12_share_65 (mt_sumOf (b0.trans f34.mb) (e180' m4 f34) hR hT hS hn) (fun z m5 hz => ?_)
        obtain ⟨ez, f5⟩ := hz
        have er := shS_rest (a := a) (v := v) (t := t) (u := (k : Int) + 1) c1
        rw [er] at ez
        subst ez
        refine sg_X12_share_68 ⟨by omega, by omega⟩ ⟨by omega, by omega⟩ ⟨by omega, by omega⟩ ⟨by omega, by omega⟩ ?_
        have := ih (k + 1) m5 (by omega) (f34.trans f5)
        rw [shG, if_neg (fun o => o c1)] at this
        by_cases c2 : (shG a v t k).1 ≤ max (shS a v (k + 1)) (shS a v t - shS a v (k + 1))
        · rw [if_pos c2] at this
          rw [if_pos c2, if_pos c2, if_pos c2]
          exact this
        · rw [if_neg c2] at this
          rw [if_neg c2, if_neg c2, if_neg c2, show min (shS a v (k + 1)) (shS a v t - shS a v (k + 1)) = shS a v t - max (shS a v (k + 1)) (shS a v t - shS a v (k + 1)) by omega]
          exact this
  have h0 := key t.toNat 0 m2 (by omega) f
  rw [shG_0, show shS a v t - (shS a v t, (0 : Int)).1 = 0 from Int.sub_self _] at h0
  exact h0
