/-! sheet -/
def nrm (z : Int) : Int := (iI z).toInt
theorem nrm_rng (z : Int) : RI (nrm z) := iI_rng _
theorem iI_nrm (z : Int) : iI (nrm z) = iI z := iI_of _
theorem vi_nrm (z : Int) : vi (nrm z) = vi z := by
  show Value.int (iI (nrm z)) = Value.int (iI z)
  rw [iI_nrm]
theorem nrm_ext {x y : Int} (h : iI x = iI y) : nrm x = nrm y := by unfold nrm; rw [h]
def ent (k z : Int) : Int := if k ≠ 0 then (if k ≠ 1 then z else shortI z) else byteI z
theorem ent_rng {k z : Int} (hz : RI z) : RI (ent k z) := by
  unfold ent
  split
  · split
    · exact hz
    · exact iI_rng _
  · exact iI_rng _
def sheetX (kind n f step s : Int) : Int := if kind = 3 then 0 else if s < n then max 0 (min 99 (ent kind (nrm (f + s * step)))) else 0
theorem sheetX_rng {kind n f step s : Int} : 0 ≤ sheetX kind n f step s ∧ sheetX kind n f step s ≤ 99 := by
  unfold sheetX
  split
  · omega
  · split <;> omega
def sheetU (a : Mem) (kind n f step : Int) : Mem := upr a 171 (fun s => if 0 ≤ s ∧ s < a 169 3 then sheetX kind n f step s else a 171 s)
def sheetS (a : Mem) (kind n f step : Int) : Int := sumI (sheetX kind n f step) (a 169 3).toNat
theorem sheetS_rng {a : Mem} {kind n f step : Int} (h0 : 0 ≤ a 169 3) (h6 : a 169 3 ≤ 6) {k : Nat} (hk : (k : Int) ≤ a 169 3) : 0 ≤ sumI (sheetX kind n f step) k ∧ sumI (sheetX kind n f step) k ≤ 594 := by
  have := sumI_bound (f := sheetX kind n f step) (c := 99) (n := k) (fun _ _ _ => sheetX_rng)
  omega
theorem ct_placeAll {E : Nat × (Nat → Int32)} {c a : Mem} {kind n f step n' : Int} (hC : CTown c a) (hT : WTown a) (k0 : 0 ≤ kind) (k3 : kind ≤ 3) (rn : RI n) (hn : kind = 3 → n' = 0) (hn2 : kind ≠ 3 → n' = n) : K_X10_placeAll E [.ref 9, vi kind, vi n', vi f, vi step] c (fun z c' => z = sheetS a kind n f step ∧ CTown c' (sheetU a kind n f step) ∧ ∀ k, (k < 11 ∨ 22 < k) → c' k = c k) := by
  have e := hC.1
  have n0 := hT.1
  have n6 := hT.2.1
  have rn' : RI n' := by
    by_cases c : kind = 3
    · rw [hn c]; decide
    · rw [hn2 c]; exact rn
  have eX : ∀ s : Int, 0 ≤ s → (n' ≤ s → sheetX kind n f step s = 0) ∧ (¬ n' ≤ s → sheetX kind n f step s = max 0 (min 99 (ent kind (nrm (f + s * step))))) := fun s s0 => by
    unfold sheetX
    by_cases c : kind = 3
    · have := hn c
      exact ⟨fun _ => by rw [if_pos c], fun g => by omega⟩
    · have := hn2 c
      exact ⟨fun g => by rw [if_neg c, if_neg (by omega)], fun g => by rw [if_neg c, if_pos (by omega)]⟩
  refine en_X10_placeAll (sg_X10_placeAll_0 ?_)
  have key : ∀ (d : Nat) (s : Int) (m : Mem), 0 ≤ s → s + d = a 169 3 → (∀ (k : Nat) (j : Int), m k j = if j = 2 ∧ 11 ≤ k ∧ k % 2 = 1 ∧ (k : Int) < 11 + 2 * s then sheetX kind n f step (((k : Int) - 11) / 2) else c k j) → GM E (m_X10_placeAll 1) (Pi fun z c' => z = sheetS a kind n f step ∧ CTown c' (sheetU a kind n f step) ∧ ∀ k, (k < 11 ∨ 22 < k) → c' k = c k) 6 [.ref 9, vi kind, vi n', vi f, vi step, vi (sumI (sheetX kind n f step) s.toNat), vi s, un] [] m := by
    intro d
    induction d with
    | zero =>
      intro s m s0 sd hm
      have e91 : m 9 1 = a 169 3 := by rw [hm, if_neg (by omega)]; exact e
      refine sg_X10_placeAll_6 ⟨by omega, by omega⟩ (by rw [e91]; constructor <;> omega) rn' (by rw [e91]; omega) (by rw [e91]; omega) (fun _ => ⟨_, rfl, ?_, ⟨?_, fun t ht => ?_⟩, fun k hk => ?_⟩) (by rw [e91]; omega) (by rw [e91]; omega) (by rw [e91]; omega)
      · unfold sheetS; rw [show s = a 169 3 by omega]
      · show m 9 1 = upr a 171 _ 169 3
        rw [upr_k (by decide), e91]
      · have r : ∀ k, k ≠ 171 → sheetU a kind n f step k = a k := fun k hk => upr_k hk
        obtain ⟨g1, g2, g3⟩ := hC.2 t ht
        have om : ∀ j : Int, j ≠ 2 → m (11 + 2 * t) j = c (11 + 2 * t) j := fun j hj => by rw [hm, if_neg (fun o => hj o.1)]
        have om2 : ∀ j : Int, m (11 + 2 * t + 1) j = c (11 + 2 * t + 1) j := fun j => by rw [hm, if_neg (by omega)]
        rw [om 0 (by decide), om 6 (by decide), om 3 (by decide), om 4 (by decide), om 5 (by decide), om 7 (by decide), om 8 (by decide), r 169 (by decide), r 175 (by decide), r 172 (by decide), r 173 (by decide), r 174 (by decide), r 176 (by decide), r 177 (by decide), r 178 (by decide)]
        refine ⟨g1, g2, fun h => ?_⟩
        obtain ⟨h1, h2⟩ := g3 h
        refine ⟨?_, h2.1, h2.2.1, h2.2.2.1, h2.2.2.2.1, h2.2.2.2.2.1, fun x x0 x1 => by rw [om2]; exact h2.2.2.2.2.2 x x0 x1⟩
        show m (11 + 2 * t) 2 = upr a 171 _ 171 (t : Int)
        rw [upr_same, if_pos ⟨by omega, h⟩, hm, if_pos ⟨rfl, by omega, by omega, by omega⟩]
        congr 1
        omega
      · funext j
        rw [hm, if_neg (by omega)]
    | succ d ih =>
      intro s m s0 sd hm
      have e91 : m 9 1 = a 169 3 := by rw [hm, if_neg (by omega)]; exact e
      have ss : sumI (sheetX kind n f step) (s + 1).toNat = sumI (sheetX kind n f step) s.toNat + sheetX kind n f step s := sumI_step s0
      have upd : ∀ z : Int, z = sheetX kind n f step s → ∀ (k : Nat) (j : Int), up2 m (11 + 2 * s.toNat) 2 z k j = if j = 2 ∧ 11 ≤ k ∧ k % 2 = 1 ∧ (k : Int) < 11 + 2 * (s + 1) then sheetX kind n f step (((k : Int) - 11) / 2) else c k j := fun z ez k j => by
        by_cases ck : k = 11 + 2 * s.toNat ∧ j = 2
        · obtain ⟨rfl, rfl⟩ := ck
          rw [up2_same, if_pos ⟨rfl, by omega, by omega, by omega⟩, ez]
          congr 1
          omega
        · have : up2 m (11 + 2 * s.toNat) 2 z k j = m k j := if_neg ck
          rw [this, hm]
          by_cases c2 : j = 2 ∧ 11 ≤ k ∧ k % 2 = 1 ∧ (k : Int) < 11 + 2 * s
          · rw [if_pos c2, if_pos ⟨c2.1, c2.2.1, c2.2.2.1, by omega⟩]
          · rw [if_neg c2, if_neg (by omega)]
      obtain ⟨x1, x2⟩ := eX s s0
      refine sg_X10_placeAll_6 ⟨by omega, by omega⟩ (by rw [e91]; constructor <;> omega) rn' (fun _ _ _ => by omega) (fun _ _ _ => by decide) (by rw [e91]; omega) (by rw [e91]; omega) (fun _ _ g => ?_) (fun _ _ g => ?_)
      · have ez : (max 0 (min 99 0) : Int) = sheetX kind n f step s := (x1 g).symm
        rw [ez, ← ss]
        exact ih (s + 1) _ (by omega) (by omega) (upd _ rfl)
      · rw [← vi_nrm (f + s * step)]
        have en : K_X10_entryOf E [.ref 9, vi kind, vi (nrm (f + s * step))] m (fun z m' => z = ent kind (nrm (f + s * step)) ∧ m' = m) := by
          refine en_X10_entryOf (sg_X10_entryOf_0 ⟨by omega, by omega⟩ (fun q => ⟨_, rfl, ?_, rfl⟩) (fun q => ⟨_, rfl, ?_, rfl⟩))
          · unfold ent; rw [if_pos q]
          · unfold ent; rw [if_neg (fun o => o q)]
        refine ca_X10_placeAll_40 en (fun z m2 hz => ?_)
        obtain ⟨rfl, rfl⟩ := hz
        have rz := ent_rng (k := kind) (nrm_rng (f + s * step))
        have := rz.1
        have := rz.2
        refine sg_X10_placeAll_43 ⟨by omega, by omega⟩ rz ⟨by omega, by omega⟩ ?_
        have ez := (x2 g).symm
        rw [ez, ← ss]
        exact ih (s + 1) _ (by omega) (by omega) (upd _ rfl)
  exact key (a 169 3).toNat 0 c (by omega) (by omega) (fun k j => by rw [if_neg (by omega)])
def sheetP (kind n : Int) : Prop := (0 ≤ kind ∧ kind ≤ 3) ∧ n ≤ 6 ∧ (kind ≠ 3 → 0 ≤ n)
def sheetZ (kind n : Int) : Int := if (0 ≤ kind ∧ kind ≤ 3) ∧ n ≤ 6 then -2 else -1
theorem ct_sheet {E : Nat × (Nat → Int32)} {c a : Mem} {kind n f step : Int} (rk : RI kind) (rn : RI n) (hC : CTown c a) (hT : WTown a) : K_X11_sheet E [.ref 0, vi kind, vi n, vi f, vi step] c (fun z c' => (sheetP kind n ∧ z = (if kind ≠ 3 then sheetS a kind n f step else -3) ∧ CTown c' (sheetU a kind n f step) ∧ ∀ k, (k < 11 ∨ 22 < k) → c' k = c k) ∨ (¬ sheetP kind n ∧ z = sheetZ kind n ∧ c' = c)) := by
  refine en_X11_sheet (sg_X11_sheet_0 rk rn (fun p => ⟨_, rfl, Or.inr ⟨fun o => by have := o.1; omega, by unfold sheetZ; rw [if_neg (by omega)], rfl⟩⟩) (fun p q => ⟨_, rfl, Or.inr ⟨fun o => by have := o.1; omega, by unfold sheetZ; rw [if_neg (by omega)], rfl⟩⟩) (fun p q g g2 g3 => ?_) (fun p q g g2 g3 => ⟨_, rfl, Or.inr ⟨fun o => g3 (o.2.2 g2), by unfold sheetZ; rw [if_pos (by omega)], rfl⟩⟩) (fun p q g g2 => ?_) (fun p q g => ⟨_, rfl, Or.inr ⟨fun o => g o.2.1, by unfold sheetZ; rw [if_neg (by omega)], rfl⟩⟩))
  · refine ca_X11_sheet_54 (ct_placeAll hC hT (by omega) (by omega) rn (fun x => absurd x g2) (fun _ => rfl)) (fun z c2 hz => sg_X11_sheet_57 ⟨_, rfl, Or.inl ⟨⟨by omega, g, fun _ => g3⟩, by rw [if_pos g2]; exact hz.1, hz.2⟩⟩)
  · refine ca_X11_sheet_31 (ct_placeAll hC hT (by omega) (by omega) rn (fun _ => rfl) (fun x => absurd g2 x)) (fun z c2 hz => sg_X11_sheet_34 ⟨_, rfl, Or.inl ⟨⟨by omega, g, fun x => absurd g2 x⟩, by rw [if_neg (fun x => x g2)], hz.2⟩⟩)
theorem mt_sheet {E : Nat × (Nat → Int32)} {m a : Mem} {kind n f step : Int} (rk : RI kind) (rn : RI n) (hm : HighEq a m) (hT : WTown a) : K_X12_sheet E [.ref 169, vi kind, vi n, vi f, vi step] m (fun z m' => (sheetP kind n ∧ z = (if kind ≠ 3 then sheetS a kind n f step else -3) ∧ PEq m' (sheetU m kind n f step) ∧ LowEq m m') ∨ (¬ sheetP kind n ∧ z = sheetZ kind n ∧ PEq m' m ∧ LowEq m m')) := by
  have n0 := hT.1
  have n6 := hT.2.1
  have e9 := hm 169 (by decide)
  have e71 := hm 171 (by decide)
  have := rk.1; have := rk.2
  have loop : sheetP kind n → GM E (m_X12_sheet 1) (Pi fun z m' => (sheetP kind n ∧ z = (if kind ≠ 3 then sheetS a kind n f step else -3) ∧ PEq m' (sheetU m kind n f step) ∧ LowEq m m') ∨ (¬ sheetP kind n ∧ z = sheetZ kind n ∧ PEq m' m ∧ LowEq m m')) 46 [.ref 169, vi kind, vi n, vi f, vi step, vi 0, vi f, vi 0, un] [] (up2 m 169 0 0) := by
    intro P
    have key : ∀ (d : Nat) (s : Int) (m2 : Mem), 0 ≤ s → s + d = a 169 3 → (∀ j : Int, m2 171 j = if 0 ≤ j ∧ j < s then sheetX kind n f step j else a 171 j) → (∀ k, k ≠ 171 → m2 k = up2 m 169 0 0 k) → GM E (m_X12_sheet 1) (Pi fun z m' => (sheetP kind n ∧ z = (if kind ≠ 3 then sheetS a kind n f step else -3) ∧ PEq m' (sheetU m kind n f step) ∧ LowEq m m') ∨ (¬ sheetP kind n ∧ z = sheetZ kind n ∧ PEq m' m ∧ LowEq m m')) 46 [.ref 169, vi kind, vi n, vi f, vi step, vi (sumI (sheetX kind n f step) s.toNat), vi (nrm (f + s * step)), vi s, un] [] m2 := by
      intro d
      induction d with
      | zero =>
        intro s m2 s0 sd h1 h2
        have e3 : m2 169 3 = a 169 3 := by rw [h2 169 (by decide), up2_j (by decide), e9]
        refine sg_X12_sheet_46 ⟨by omega, by omega⟩ (by rw [e3]; constructor <;> omega) rk rn (by rw [e3]; omega) (by rw [e3]; omega) (by rw [e3]; omega) (fun _ => ⟨_, rfl, Or.inl ⟨P, ?_, ?_, fun k hk => by rw [h2 k (by omega), up2_k (by omega)]⟩⟩) (by rw [e3]; omega)
        · unfold sheetS; rw [show s = a 169 3 by omega]
        · have r : ∀ k, k ≠ 171 → sheetU m kind n f step k = m k := fun k hk => upr_k hk
          refine PEq.of (fun k hk h9 => ?_) (fun j hj => ?_)
          · by_cases c : k = 171
            · subst c
              funext j
              show _ = upr m 171 _ 171 j
              rw [upr_same, h1, e9, e71, show s = a 169 3 by omega]
            · rw [h2 k c, r k c, up2_k h9]
          · rw [h2 169 (by decide), r 169 (by decide), up2_j hj.not.1]
      | succ d ih =>
        intro s m2 s0 sd h1 h2
        have e3 : m2 169 3 = a 169 3 := by rw [h2 169 (by decide), up2_j (by decide), e9]
        have ss : sumI (sheetX kind n f step) (s + 1).toNat = sumI (sheetX kind n f step) s.toNat + sheetX kind n f step s := sumI_step s0
        have rz := ent_rng (k := kind) (nrm_rng (f + s * step))
        have rz1 := rz.1
        have rz2 := rz.2
        have eX : (if kind = 3 then (0 : Int) else (if s < n then (max 0 (min 99 (if kind ≠ 0 then (if kind ≠ 1 then nrm (f + s * step) else (shortI (nrm (f + s * step)))) else (byteI (nrm (f + s * step)))))) else (0 : Int))) = sheetX kind n f step s := rfl
        refine sg_X12_sheet_46 ⟨by omega, by omega⟩ (by rw [e3]; constructor <;> omega) rk rn (fun _ _ _ => rz) (fun _ _ _ => ?_) (fun _ => by omega) (by rw [e3]; omega) (fun _ => ?_)
        · show RI (min 99 (ent kind (nrm (f + s * step))))
          constructor <;> omega
        · rw [eX, ← ss]
          have ev : vi (nrm (f + s * step) + step) = vi (nrm (f + (s + 1) * step)) := by
            show Value.int (iI (nrm (f + s * step) + step)) = Value.int (iI (nrm (f + (s + 1) * step)))
            rw [iI_add, iI_nrm, iI_nrm, ← iI_add, Int.add_mul, Int.one_mul, Int.add_assoc]
          rw [ev]
          refine ih (s + 1) _ (by omega) (by omega) (fun j => ?_) (fun k hk => by rw [up2_k hk, h2 k hk])
          by_cases c : j = s
          · subst c
            rw [up2_same, if_pos (by omega)]
          · rw [up2_j c, h1]
            by_cases c2 : 0 ≤ j ∧ j < s
            · rw [if_pos c2, if_pos (by omega)]
            · rw [if_neg c2, if_neg (by omega)]
    have g := key (a 169 3).toNat 0 (up2 m 169 0 0) (by omega) (by omega) (fun j => by rw [up2_k (by decide), e71, if_neg (by omega)]) (fun _ _ => rfl)
    rw [Int.zero_mul, Int.add_zero, vi_nrm] at g
    exact g
  refine en_X12_sheet (sg_X12_sheet_0 rk ⟨by omega, by omega⟩ rn (fun p q g => loop ⟨p, q, fun x => absurd g x⟩) (fun p q g g2 => loop ⟨p, q, fun _ => g2⟩) (fun p q g g2 => ⟨_, rfl, Or.inr ⟨fun o => g2 (o.2.2 g), by unfold sheetZ; rw [if_pos ⟨p, q⟩], PEq.field npf0, fun k hk => up2_k (by omega)⟩⟩) (fun p q => ⟨_, rfl, Or.inr ⟨fun o => q o.2.1, by unfold sheetZ; rw [if_neg (by omega)], PEq.field npf0, fun k hk => up2_k (by omega)⟩⟩) (fun p => ⟨_, rfl, Or.inr ⟨fun o => p o.1, by unfold sheetZ; rw [if_neg (by omega)], PEq.field npf0, fun k hk => up2_k (by omega)⟩⟩))
