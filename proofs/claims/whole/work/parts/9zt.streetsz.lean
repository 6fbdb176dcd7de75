/-! streets: the reference to its end; the last step -/
def fldK (m : Mem) (l : List LnT) (k : Int) (r : Nat) (t j : Int) : Int := if m 169 3 ≤ j ∧ j < m 169 3 + k then lnOf (m 169 3) l j t else m r j
def wK (m : Mem) (l : List LnT) (k b : Int) : Int := if 16 * m 169 3 ≤ b ∧ b < 16 * (m 169 3 + k) then lnOf (m 169 3) l (b / 16) (16 + b % 16) else m 178 b
def nwK (m : Mem) (l : List LnT) (k b : Int) : Int := if 16 * m 169 3 ≤ b ∧ b < 16 * (m 169 3 + k) then (if wK m l k b = 0 then 0 else 1) else m 180 b
theorem fldK_at {m : Mem} {l : List LnT} {k t j : Int} {r : Nat} (k0 : 0 ≤ k) (h : j = m 169 3 + k) : fldK m l (k + 1) r t j = lnOf (m 169 3) l j t := if_pos ⟨by omega, by omega⟩
theorem fldK_ne {m : Mem} {l : List LnT} {k t j : Int} {r : Nat} (h : j ≠ m 169 3 + k) : fldK m l (k + 1) r t j = fldK m l k r t j := by
  unfold fldK
  by_cases c : m 169 3 ≤ j ∧ j < m 169 3 + k
  · rw [if_pos c]; exact if_pos (by omega)
  · rw [if_neg c]; exact if_neg (by omega)
def LayQ (m : Mem) (l : List LnT) (M : Mem) (k : Int) (M2 : Mem) : Prop := (∀ q, (q < 171 ∨ 178 < q) → q ≠ 180 → M2 q = M q) ∧ (∀ j : Int, 0 ≤ j → j < 6 → M2 171 j = fldK m l k 171 0 j ∧ M2 172 j = fldK m l k 172 1 j ∧ M2 173 j = fldK m l k 173 2 j ∧ M2 174 j = fldK m l k 174 3 j ∧ M2 175 j = m 175 j ∧ M2 176 j = fldK m l k 176 4 j ∧ M2 177 j = fldK m l k 177 5 j) ∧ ∀ b : Int, 0 ≤ b → b < 99 → M2 178 b = wK m l k b ∧ M2 180 b = nwK m l k b
theorem lay_step {m M M2 M3 : Mem} {l : List LnT} {k : Int} {B : Int} (hT : WTown m) (hn : StOK B m (m 180)) (k0 : 0 ≤ k) (k1 : k < (l.length : Int)) (h6 : m 169 3 + (l.length : Int) ≤ 6) (hl : ∀ r ∈ l, LnOK r) (h : LayQ m l M k M2) (g : LayP (m 169 3 + k) (lnOf (m 169 3) l (m 169 3 + k)) M2 M3) : LayQ m l M (k + 1) M3 := by
  obtain ⟨h1, h2, h3⟩ := h
  obtain ⟨g1, g2, g3, g4, g5⟩ := g
  have t0 := hT.1
  have ro := hl _ (lnOf_mem (n0 := m 169 3) (l := l) (s := m 169 3 + k) (by omega) (by omega))
  have z5 : m 175 (m 169 3 + k) = 0 := ((hT.2.2.1 (m 169 3 + k) (by omega) (by omega)).2.2.2.2.2.2.2.2.2.2.2 (by omega)).2
  have z2 : m 172 (m 169 3 + k) = 0 := ((hT.2.2.1 (m 169 3 + k) (by omega) (by omega)).2.2.2.2.2.2.2.2.2.2.2 (by omega)).1
  refine ⟨fun q hq h8 => (g1 q hq h8).trans (h1 q hq h8), fun j j0 j6 => ?_, fun b b0 b9 => ?_⟩
  · have o := h2 j j0 j6
    by_cases e : j = m 169 3 + k
    · rw [fldK_at k0 e, fldK_at k0 e, fldK_at k0 e, fldK_at k0 e, fldK_at k0 e, fldK_at k0 e, e, z5]
      exact g3
    · obtain ⟨u1, u2, u3, u4, u5, u6, u7⟩ := g2 j e
      rw [fldK_ne e, fldK_ne e, fldK_ne e, fldK_ne e, fldK_ne e, fldK_ne e, u1, u2, u3, u4, u5, u6, u7]
      exact o
  · have o := h3 b b0 b9
    by_cases c : 16 * (m 169 3 + k) ≤ b ∧ b < 16 * (m 169 3 + k) + 16
    · have ed : b / 16 = m 169 3 + k := by omega
      have em : b % 16 = b - 16 * (m 169 3 + k) := by omega
      have wk : wK m l (k + 1) b = lnOf (m 169 3) l (m 169 3 + k) (16 + (b - 16 * (m 169 3 + k))) := by
        unfold wK
        rw [if_pos ⟨by omega, by omega⟩, ed, em]
      have nk : nwK m l (k + 1) b = if lnOf (m 169 3) l (m 169 3 + k) (16 + (b - 16 * (m 169 3 + k))) = 0 then 0 else 1 := by
        unfold nwK
        rw [if_pos ⟨by omega, by omega⟩, wk]
      have wo : wK m l k b = m 178 b := if_neg (by omega)
      have no : nwK m l k b = m 180 b := if_neg (by omega)
      rw [wk, nk, g4 b, g5 b]
      by_cases c2 : (b - 16 * (m 169 3 + k)) % 8 < lnOf (m 169 3) l (m 169 3 + k) 1
      · rw [if_pos ⟨c.1, c.2, c2⟩, if_pos ⟨c.1, c.2, c2⟩]
        exact ⟨rfl, rfl⟩
      · rw [if_neg (fun o => c2 o.2.2), if_neg (fun o => c2 o.2.2)]
        have rz := (ro.2.2.2.2.2 (b - 16 * (m 169 3 + k)) (by omega) (by omega)).2.2 (by omega)
        have wz := (hT.2.2.2 (m 169 3 + k) (b - 16 * (m 169 3 + k)) (by omega) (by omega) (by omega) (by omega)).2.2 (by omega)
        rw [show 16 * (m 169 3 + k) + (b - 16 * (m 169 3 + k)) = b by omega] at wz
        have nz : m 180 b = 0 := by
          rcases Int.decEq (m 180 b) 0 with g | g
          · exact absurd wz ((hn.1 b b0 (by omega)).2.2 g)
          · exact g
        rw [o.1, o.2, wo, no, rz, wz, nz, if_pos rfl]
        exact ⟨rfl, rfl⟩
    · rw [g4 b, g5 b, if_neg (fun o => c ⟨o.1, o.2.1⟩), if_neg (fun o => c ⟨o.1, o.2.1⟩), o.1, o.2]
      have wk : wK m l (k + 1) b = wK m l k b := by
        unfold wK
        by_cases c2 : 16 * m 169 3 ≤ b ∧ b < 16 * (m 169 3 + k)
        · rw [if_pos c2]; exact if_pos (by omega)
        · rw [if_neg c2]; exact if_neg (by omega)
      have nk : nwK m l (k + 1) b = nwK m l k b := by
        unfold nwK
        rw [wk]
        by_cases c2 : 16 * m 169 3 ≤ b ∧ b < 16 * (m 169 3 + k)
        · rw [if_pos c2]; exact if_pos (by omega)
        · rw [if_neg c2]; exact if_neg (by omega)
      rw [wk, nk]
      exact ⟨rfl, rfl⟩
theorem mt_streetsM {E : Nat × (Nat → Int32)} {m a : Mem} {B : Int} (hm : HighEq a m) (w : W0 B a) : K_X12_streets E [.ref 169] m (fun z m' => LowEq m m' ∧ (((slA a).2.2 = false ∧ z = -1 - (slA a).1 ∧ PEq m' (textU m 0 (textN m))) ∨ ((slA a).2.2 = true ∧ a 169 17 ≤ 0 ∧ z = 0 ∧ PEq m' (textU m 0 (textN m))) ∨ ((slA a).2.2 = true ∧ 0 < a 169 17 ∧ z = ((slA a).2.1.length : Int) ∧ PEq m' (textU (stU m (slA a).2.1) 0 (textN m))))) := by
  have wm := w.peq hm.peq
  have hT := wm.town
  have x1 := w.text.1
  have x2 := w.text.2.1
  have t0 := hT.1
  have t6 := hT.2.1
  have e17 : m 169 17 = a 169 17 := by rw [hm 169 (by decide)]
  have e3 : m 169 3 = a 169 3 := by rw [hm 169 (by decide)]
  obtain ⟨n0, en⟩ : ∃ n0 : Nat, m 169 3 = (n0 : Int) := ⟨(m 169 3).toNat, by omega⟩
  have so := slA_ok w.town
  have sp : 0 ≤ (slA a).1 ∨ (slA a).2.2 = true ∨ True := Or.inr (Or.inr trivial)
  have K : ∀ (s : Int) (M : Mem), FrT m M → RdT (slA a) (a 169 17) s M → ((slA a).2.2 = true → a 169 17 ≤ 0 → (slA a).2.1.length = 0) → GM E (m_X12_streets 8) (Pi fun z m' => LowEq m m' ∧ (((slA a).2.2 = false ∧ z = -1 - (slA a).1 ∧ PEq m' (textU m 0 (textN m))) ∨ ((slA a).2.2 = true ∧ a 169 17 ≤ 0 ∧ z = 0 ∧ PEq m' (textU m 0 (textN m))) ∨ ((slA a).2.2 = true ∧ 0 < a 169 17 ∧ z = ((slA a).2.1.length : Int) ∧ PEq m' (textU (stU m (slA a).2.1) 0 (textN m))))) 65 [.ref 169, vi (a 169 17), vi s, vi 0, un, un] [vi s, vi 76, vi (a 169 17), .ref 169] M := fun s M F S he => by
    obtain ⟨S, h19, p0, p1, rs⟩ := S
    refine ca_X12_streets_65 (mt_faultOf (p := M 169 18) rfl h19 p0 p1 x2 (by decide) rs) (fun z m2 hz => ?_)
    obtain ⟨ez, em⟩ := hz
    rw [em]
    rcases S with ⟨ok, s0, h18, A⟩ | ⟨ok, nf, h18⟩
    · rw [if_pos ⟨s0, h18⟩] at ez
      subst ez
      refine sg_X12_streets_68 (by decide) (fun _ => ?_) (fun g => absurd (by decide : (0 : Int) ≤ 0) g)
      generalize hl : (slA a).2.1 = l at *
      obtain ⟨h23, hL⟩ := A
      have M3 : M 169 3 = m 169 3 := F.2.2.2 3 (by decide) (by decide) (by decide) (by decide) (by decide) (by decide)
      refine up_loop (i0 := 0) (n := (l.length : Int)) (fun k M2 => GM E (m_X12_streets 8) _ 81 [.ref 169, vi (a 169 17), vi s, vi 0, vi 0, vi k] [] M2) (fun k M2 => LayQ m l M k M2) (fun M2 h => ?_) (fun k M2 k0 k1 h kk => ?_) (i := 0) (s := M) (by omega) (by omega) ⟨fun _ _ _ => rfl, fun j j0 j6 => ?_, fun b b0 b9 => ?_⟩
      · obtain ⟨i1, i2, i3⟩ := h
        have g23 : M2 169 23 = (l.length : Int) := by rw [i1 169 (by omega) (by decide)]; exact h23
        have f9 : ∀ j : Int, j ≠ 0 → j ≠ 17 → j ≠ 18 → j ≠ 19 → j ≠ 20 → j ≠ 23 → M2 169 j = m 169 j := fun j j0 j1 j2 j3 j4 j5 => by rw [i1 169 (by omega) (by decide)]; exact F.2.2.2 j j0 j1 j2 j3 j4 j5
        have f17 : M2 169 17 = 0 := by rw [i1 169 (by omega) (by decide)]; exact F.2.2.1
        have fk : ∀ q, (q < 169 ∨ q = 170 ∨ q = 179 ∨ (184 < q ∧ q < 209)) → M2 q = m q := fun q hq => by
          rw [i1 q (by omega) (by omega)]
          exact F.1 q (by omega) (by omega) (by omega) (by omega)
        refine sg_X12_streets_81 ⟨by omega, by omega⟩ (by rw [g23]; constructor <;> omega) ⟨by omega, by omega⟩ (fun _ gn => ?_) (fun _ gn => ?_) (fun g => by rw [g23] at g; omega)
        · have l0 := he ok gn
          rw [g23]
          refine ⟨_, rfl, fun k hk => by rw [up2_k (by omega)]; exact fk k (by omega), Or.inr (Or.inl ⟨ok, gn, by omega, ?_⟩)⟩
          have zk : ∀ (r : Nat) (t j : Int), fldK m l (l.length : Int) r t j = m r j := fun r t j => if_neg (by omega)
          have tk : ∀ k, k ≠ 169 → k ≠ 182 → textU m 0 (textN m) k = m k := fun k h1 h2 => tx0_k h1 h2
          have t9 : ∀ j : Int, j ≠ 17 → textU m 0 (textN m) 169 j = m 169 j := fun j hj => textU_f hj
          have u9 : ∀ j : Int, j ≠ 3 → up2 M2 169 3 (M2 169 3 + (l.length : Int)) 169 j = M2 169 j := fun j hj => up2_j hj
          have uk : ∀ q, q ≠ 169 → up2 M2 169 3 (M2 169 3 + (l.length : Int)) q = M2 q := fun q hq => up2_k hq
          refine ⟨⟨?_, ?_, ?_, ?_, ?_, ?_, ?_⟩, fun j j0 j6 => ?_, fun j j0 j1 => ?_, fun j _ _ => ?_, fun j j0 j1 => ?_, fun j _ _ => ?_, fun j j0 j1 => ?_, fun j _ _ => ?_, fun j _ _ => ?_, fun j _ _ => ?_, fun j _ _ => ?_, fun j _ _ => ?_⟩
          · rw [u9 1 (by decide), t9 1 (by decide), f9 1 (by decide) (by decide) (by decide) (by decide) (by decide) (by decide)]
          · rw [up2_same, t9 3 (by decide), f9 3 (by decide) (by decide) (by decide) (by decide) (by decide) (by decide)]; omega
          · rw [u9 4 (by decide), t9 4 (by decide), f9 4 (by decide) (by decide) (by decide) (by decide) (by decide) (by decide)]
          · rw [u9 17 (by decide), textU_n, f17]
          · rw [u9 26 (by decide), t9 26 (by decide), f9 26 (by decide) (by decide) (by decide) (by decide) (by decide) (by decide)]
          · rw [u9 40 (by decide), t9 40 (by decide), f9 40 (by decide) (by decide) (by decide) (by decide) (by decide) (by decide)]
          · rw [u9 62 (by decide), t9 62 (by decide), f9 62 (by decide) (by decide) (by decide) (by decide) (by decide) (by decide)]
          · have o := i2 j j0 j6
            rw [zk, zk, zk, zk, zk, zk] at o
            rw [uk 171 (by decide), uk 172 (by decide), uk 173 (by decide), uk 174 (by decide), uk 175 (by decide), uk 176 (by decide), uk 177 (by decide), tk 171 (by decide) (by decide), tk 172 (by decide) (by decide), tk 173 (by decide) (by decide), tk 174 (by decide) (by decide), tk 175 (by decide) (by decide), tk 176 (by decide) (by decide), tk 177 (by decide) (by decide)]
            exact o
          · rw [uk 178 (by decide), tk 178 (by decide) (by decide), (i3 j j0 (by omega)).1]
            exact if_neg (by omega)
          · rw [uk 179 (by decide), tk 179 (by decide) (by decide), fk 179 (by omega)]
          · rw [uk 180 (by decide), tk 180 (by decide) (by decide), (i3 j j0 j1).2]
            exact if_neg (by omega)
          · rw [uk 170 (by decide), tk 170 (by decide) (by decide), fk 170 (by omega)]
          · rw [textU_n] at j1; omega
          · rw [uk 185 (by decide), tk 185 (by decide) (by decide), fk 185 (by omega)]
          · rw [uk 190 (by decide), tk 190 (by decide) (by decide), fk 190 (by omega)]
          · rw [uk 201 (by decide), tk 201 (by decide) (by decide), fk 201 (by omega), uk 202 (by decide), tk 202 (by decide) (by decide), fk 202 (by omega)]; exact ⟨rfl, rfl⟩
          · rw [uk 205 (by decide), tk 205 (by decide) (by decide), fk 205 (by omega), uk 206 (by decide), tk 206 (by decide) (by decide), fk 206 (by omega)]; exact ⟨rfl, rfl⟩
          · rw [uk 207 (by decide), tk 207 (by decide) (by decide), fk 207 (by omega)]
        · rw [g23]
          refine ⟨_, rfl, fun k hk => by rw [up2_k (by omega), up2_k (by omega), up2_k (by omega)]; exact fk k (by omega), Or.inr (Or.inr ⟨ok, by omega, rfl, ?_⟩)⟩
          have tk : ∀ k, k ≠ 169 → k ≠ 182 → textU (stU m l) 0 (textN m) k = stU m l k := fun k h1 h2 => textU_k h1 h2
          have t9 : ∀ j : Int, j ≠ 17 → textU (stU m l) 0 (textN m) 169 j = stU m l 169 j := fun j hj => textU_f hj
          generalize hM' : up2 (up2 (up2 M2 169 3 (M2 169 3 + (l.length : Int))) 169 40 0) 169 4 _ = M'
          have uk : ∀ q, q ≠ 169 → M' q = M2 q := fun q hq => by rw [← hM', up2_k hq, up2_k hq, up2_k hq]
          have u9 : ∀ j : Int, j ≠ 3 → j ≠ 40 → j ≠ 4 → M' 169 j = M2 169 j := fun j h1 h2 h3 => by rw [← hM', up2_j h3, up2_j h2, up2_j h1]
          have v3 : M' 169 3 = M2 169 3 + (l.length : Int) := by rw [← hM', up2_j (by decide), up2_j (by decide), up2_same]
          have v40 : M' 169 40 = 0 := by rw [← hM', up2_j (by decide), up2_same]
          have v4 : M' 169 4 = M2 169 4 + 1 := by rw [← hM', up2_same]
          clear hM'
          refine ⟨⟨?_, ?_, ?_, ?_, ?_, ?_, ?_⟩, fun j j0 j6 => ?_, fun j j0 j1 => ?_, fun j _ _ => ?_, fun j j0 j1 => ?_, fun j _ _ => ?_, fun j j0 j1 => ?_, fun j _ _ => ?_, fun j j0 j1 => ?_, fun j _ _ => ?_, fun j _ _ => ?_, fun j _ _ => ?_⟩
          · rw [u9 1 (by decide) (by decide) (by decide), t9 1 (by decide), stU_f (by decide) (by decide) (by decide), f9 1 (by decide) (by decide) (by decide) (by decide) (by decide) (by decide)]
          · rw [v3, t9 3 (by decide), stU_3, f9 3 (by decide) (by decide) (by decide) (by decide) (by decide) (by decide)]
          · rw [v4, t9 4 (by decide), stU_4, f9 4 (by decide) (by decide) (by decide) (by decide) (by decide) (by decide)]
          · rw [u9 17 (by decide) (by decide) (by decide), textU_n, f17]
          · rw [u9 26 (by decide) (by decide) (by decide), t9 26 (by decide), stU_f (by decide) (by decide) (by decide), f9 26 (by decide) (by decide) (by decide) (by decide) (by decide) (by decide)]
          · rw [v40, t9 40 (by decide), stU_40]
          · rw [u9 62 (by decide) (by decide) (by decide), t9 62 (by decide), stU_f (by decide) (by decide) (by decide), f9 62 (by decide) (by decide) (by decide) (by decide) (by decide) (by decide)]
          · rw [uk 171 (by decide), uk 172 (by decide), uk 173 (by decide), uk 174 (by decide), uk 175 (by decide), uk 176 (by decide), uk 177 (by decide), tk 171 (by decide) (by decide), tk 172 (by decide) (by decide), tk 173 (by decide) (by decide), tk 174 (by decide) (by decide), tk 175 (by decide) (by decide), tk 176 (by decide) (by decide), tk 177 (by decide) (by decide), stU_171, stU_172, stU_173, stU_174, stU_176, stU_177, stU_k (k := 175) (by decide)]
            exact i2 j j0 j6
          · rw [uk 178 (by decide), tk 178 (by decide) (by decide), stU_178]
            exact (i3 j j0 (by omega)).1
          · rw [uk 179 (by decide), tk 179 (by decide) (by decide), fk 179 (by omega), stU_k (k := 179) (by decide)]
          · rw [uk 180 (by decide), tk 180 (by decide) (by decide), stU_180]
            exact (i3 j j0 j1).2
          · rw [uk 170 (by decide), tk 170 (by decide) (by decide), fk 170 (by omega), stU_k (k := 170) (by decide)]
          · rw [textU_n] at j1; omega
          · rw [uk 185 (by decide), tk 185 (by decide) (by decide), fk 185 (by omega), stU_k (k := 185) (by decide)]
          · rw [t9 40 (by decide), stU_40] at j1; omega
          · rw [uk 201 (by decide), tk 201 (by decide) (by decide), fk 201 (by omega), uk 202 (by decide), tk 202 (by decide) (by decide), fk 202 (by omega), stU_k (k := 201) (by decide), stU_k (k := 202) (by decide)]; exact ⟨rfl, rfl⟩
          · rw [uk 205 (by decide), tk 205 (by decide) (by decide), fk 205 (by omega), uk 206 (by decide), tk 206 (by decide) (by decide), fk 206 (by omega), stU_k (k := 205) (by decide), stU_k (k := 206) (by decide)]; exact ⟨rfl, rfl⟩
          · rw [uk 207 (by decide), tk 207 (by decide) (by decide), fk 207 (by omega), stU_k (k := 207) (by decide)]
      · have i1 := h.1
        have g23 : M2 169 23 = (l.length : Int) := by rw [i1 169 (by omega) (by decide)]; exact h23
        have g3 : M2 169 3 = m 169 3 := by rw [i1 169 (by omega) (by decide)]; exact M3
        have o := hL k.toNat (by omega)
        rw [show (k.toNat : Int) = k by omega] at o
        have el : lnOf (m 169 3) l (m 169 3 + k) = l.getD k.toNat zL := by
          unfold lnOf
          rw [show m 169 3 + k - m 169 3 = k by omega]
        refine sg_X12_streets_81 ⟨by omega, by omega⟩ (by rw [g23]; constructor <;> omega) ⟨by omega, by omega⟩ (fun g => by rw [g23] at g; omega) (fun g => by rw [g23] at g; omega) (fun _ => ?_)
        rw [g3]
        refine ca_X12_streets_100 (mt_lays (r := lnOf (m 169 3) l (m 169 3 + k)) (by omega) (by omega) k0 (by omega) (so.1 _ (lnOf_mem (by omega) (by omega))) ?_) (fun M5 h5 => sg_X12_streets_103 (kk _ (lay_step hT wm.now k0 k1 (by omega) so.1 h h5)))
        rw [el]
        unfold LnM at o ⊢
        rw [i1 183 (by omega) (by decide), i1 184 (by omega) (by decide)]
        exact o
      · have zk : ∀ (r : Nat) (t j : Int), fldK m l 0 r t j = m r j := fun r t j => if_neg (by omega)
        rw [zk, zk, zk, zk, zk, zk, F.1 171 (by decide) (by decide) (by decide) (by decide), F.1 172 (by decide) (by decide) (by decide) (by decide), F.1 173 (by decide) (by decide) (by decide) (by decide), F.1 174 (by decide) (by decide) (by decide) (by decide), F.1 175 (by decide) (by decide) (by decide) (by decide), F.1 176 (by decide) (by decide) (by decide) (by decide), F.1 177 (by decide) (by decide) (by decide) (by decide)]
        exact ⟨rfl, rfl, rfl, rfl, rfl, rfl, rfl⟩
      · rw [F.1 178 (by decide) (by decide) (by decide) (by decide), F.1 180 (by decide) (by decide) (by decide) (by decide)]
        exact ⟨(if_neg (by omega)).symm, (if_neg (by omega)).symm⟩
    · rw [h18, if_neg nf] at ez
      have p0 : 0 ≤ (slA a).1 := by rw [← h18]; exact p0
      have p1 : (slA a).1 ≤ min (a 169 17) 76 := by rw [← h18]; exact p1
      refine sg_X12_streets_68 (by constructor <;> omega) (fun g => by omega) (fun _ => ⟨_, rfl, F.low, Or.inl ⟨ok, ez, F.peq⟩⟩)
  have nl : (slA a).2.2 = true → a 169 17 ≤ 0 → (slA a).2.1.length = 0 := fun _ g => by
    have e : slA a = (0, [], true) := if_pos g
    rw [e]; rfl
  refine en_X12_streets (sg_X12_streets_0 (by rw [e17]; constructor <;> omega) (fun g => ?_) (fun g => ?_))
  · rw [e17] at g ⊢
    refine GM_beg (n := a 169 17) (most := 76) (k := 23) ?_
    have z0 : a 169 17 = 0 := by omega
    have e : slA a = (0, [], true) := if_pos g
    have T := begR_tx (k := 23) hm w.text rfl (show (0 : Int) ≤ 76 by decide) (by decide) (by decide)
    refine sg_X12_streets_29 (by decide) (fun _ => K 1 _ FrT.beg ⟨Or.inl ⟨by rw [e], by decide, by rw [T.p, z0], by rw [e]; exact ⟨begR_own, fun j hj => absurd hj (Nat.not_lt_zero j)⟩⟩, T.l, by rw [T.p]; decide, by rw [T.p]; omega, by decide⟩ nl) (fun g => absurd rfl g)
  · rw [e17] at g ⊢
    refine GM_beg (n := a 169 17) (most := 76) (k := 23) ?_
    have T := begR_tx (k := 23) hm w.text rfl (show (0 : Int) ≤ 76 by decide) (by decide) (by decide)
    have es : slA a = rdS (lkA a (min (a 169 17) 76)) (a 169 17) (6 - a 169 3).toNat 0 [] := if_neg g
    exact mt_streets_read (a := a) (R := slA a) (n0 := n0) x2 en (fun s M F S => K s M F S nl) (6 - a 169 3).toNat 0 [] 1 _ (by show n0 + 0 + _ = 6; omega) T ⟨begR_own, fun j hj => absurd hj (Nat.not_lt_zero j)⟩ FrT.beg es
theorem hi_stU {a m : Mem} {l : List LnT} (h : HighEq a m) : HighEq (stU a l) (stU m l) := fun k hk => by
  have e9 := h 169 (by decide)
  have e1 := h 171 (by decide)
  have e2 := h 172 (by decide)
  have e3 := h 173 (by decide)
  have e4 := h 174 (by decide)
  have e6 := h 176 (by decide)
  have e7 := h 177 (by decide)
  have e8 := h 178 (by decide)
  have e0 := h 180 (by decide)
  unfold stU fldU nwU wU
  rw [e9, e1, e2, e3, e4, e6, e7, e8, e0, h k hk]
theorem step_streets {E E2 : Nat × (Nat → Int32)} {m : Mem} {v : (Int → Int) → Int} {B : Int} (h : Rel v B m) : K_X11_streets E [.ref 0] m (fun z m1 => K_X12_streets E2 [.ref 169] m1 (fun z' m2 => z' = z ∧ Rel v (B + 600000) m2)) := by
  have w := h.2.2.2
  refine (ct_streetsC h.1 h.2.1 w).mono (fun o m1 hz => ?_)
  obtain ⟨z, rfl, hi, rc, hz⟩ := hz
  refine ⟨z, rfl, ?_⟩
  refine (mt_streetsM (a := m) hi w).mono (fun o m2 hy => ?_)
  obtain ⟨y, rfl, lw, hy⟩ := hy
  refine ⟨y, rfl, ?_⟩
  have eN : textN m1 = textN m := by unfold textN; rw [hi 182 (by decide)]
  have pe : HighEq (textU m 0 (textN m)) (textU m1 0 (textN m1)) := by rw [eN]; exact hi_textU hi
  have w0 : W0 B (textU m 0 (textN m)) := w.text' (by decide) (by decide) (fun j j0 j1 => by omega)
  have rm : RuleM (textU m 0 (textN m)) v := h.2.2.1.of (textU_f (by decide)) (textU_k (by decide) (by decide))
  have so := slA_ok w.town
  rcases hz with ⟨ok, ez, q⟩ | ⟨ok, gn, ez, q⟩ | ⟨ok, gn, ez, q⟩
  · rcases hy with ⟨-, ey, p⟩ | ⟨ok', -⟩ | ⟨ok', -⟩
    · exact ⟨by rw [ez, ey], (Rel.fin q rc rm w0 (p.trans pe.peq) lw).mono (by omega)⟩
    · rw [ok] at ok'; cases ok'
    · rw [ok] at ok'; cases ok'
  · rcases hy with ⟨ok', -⟩ | ⟨-, -, ey, p⟩ | ⟨-, gn', -⟩
    · rw [ok] at ok'; cases ok'
    · exact ⟨by rw [ez, ey], (Rel.fin q rc rm w0 (p.trans pe.peq) lw).mono (by omega)⟩
    · omega
  · rcases hy with ⟨ok', -⟩ | ⟨-, gn', -⟩ | ⟨-, -, ey, p⟩
    · rw [ok] at ok'; cases ok'
    · omega
    · have pe2 : HighEq (textU (stU m (slA m).2.1) 0 (textN m)) (textU (stU m1 (slA m).2.1) 0 (textN m1)) := by rw [eN]; exact hi_textU (hi_stU hi)
      have w2 : W0 (B + 600000) (textU (stU m (slA m).2.1) 0 (textN m)) := ((w.stu so.1 so.2.1).text' (by decide) (by decide) (fun j j0 j1 => by omega)).mono (by omega)
      have rm2 : RuleM (textU (stU m (slA m).2.1) 0 (textN m)) v := h.2.2.1.of (by rw [textU_f (by decide), stU_f (by decide) (by decide) (by decide)]) (by rw [textU_k (by decide) (by decide), stU_k (by decide)])
      exact ⟨by rw [ez, ey], Rel.fin q rc rm2 w2 (p.trans pe2.peq) lw⟩
