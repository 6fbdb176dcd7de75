/-! streets: the reference -/
def FrT (m M : Mem) : Prop := (∀ q, q ≠ 169 → q ≠ 182 → q ≠ 183 → q ≠ 184 → M q = m q) ∧ M 182 = textN m ∧ M 169 17 = 0 ∧ ∀ j : Int, j ≠ 0 → j ≠ 17 → j ≠ 18 → j ≠ 19 → j ≠ 20 → j ≠ 23 → M 169 j = m 169 j
theorem FrT.then {m M M' : Mem} {i : Int} (h : FrT m M) (g : FrS i M M') : FrT m M' := ⟨fun q q1 q2 q3 q4 => (g.1 q q1 q3 q4).trans (h.1 q q1 q2 q3 q4), (g.1 182 (by decide) (by decide) (by decide)).trans h.2.1, (g.2.1 17 (by decide) (by decide)).trans h.2.2.1, fun j j0 j1 j2 j3 j4 j5 => (g.2.1 j j2 j5).trans (h.2.2.2 j j0 j1 j2 j3 j4 j5)⟩
theorem FrT.up {m M : Mem} {z : Int} (h : FrT m M) : FrT m (up2 M 169 18 z) := h.then (i := 0) (FrS.pos PosR.up)
theorem FrT.beg {m : Mem} {n most : Int} : FrT m (begR m n most 23) := ⟨fun q q1 q2 _ _ => begR_k q1 q2, begR_t, begR_17 (by decide), fun j j0 j1 j2 j3 j4 j5 => begR_f j0 j1 j2 j3 j4 j5⟩
theorem FrT.peq {m M : Mem} (h : FrT m M) : PEq M (textU m 0 (textN m)) := PEq.of (fun k hk h9 => by
    have q := hk.not
    by_cases c : k = 182
    · subst c; rw [h.2.1, tx0_t]
    · rw [h.1 k h9 c (by omega) (by omega), tx0_k h9 c]) (fun j hj => by
    have q := hj.not
    by_cases c : j = 17
    · subst c; rw [h.2.2.1, textU_n]
    · rw [h.2.2.2 j q.1 c (by omega) (by omega) (by omega) (by omega), textU_f c])
theorem FrT.low {m M : Mem} (h : FrT m M) : LowEq m M := fun k hk => h.1 k (by omega) (by omega) (by omega) (by omega)
def LnsM (l : List LnT) (M : Mem) : Prop := M 169 23 = (l.length : Int) ∧ ∀ k : Nat, k < l.length → LnM (k : Int) (l.getD k zL) M
def RdT (R : Int × List LnT × Bool) (n s : Int) (M : Mem) : Prop := ((R.2.2 = true ∧ s ≠ 0 ∧ M 169 18 = n ∧ LnsM R.2.1 M) ∨ (R.2.2 = false ∧ ¬ (s ≠ 0 ∧ R.1 = n) ∧ M 169 18 = R.1)) ∧ M 169 19 = min n 76 ∧ 0 ≤ M 169 18 ∧ M 169 18 ≤ min n 76 ∧ RI s
theorem mt_streets_read {E : Nat × (Nat → Int32)} {P : Option Value → Mem → Prop} {m a : Mem} {n : Int} {n0 : Nat} {R : Int × List LnT × Bool} (n80 : n ≤ 80) (h3 : m 169 3 = (n0 : Int)) (K : ∀ (s : Int) (M : Mem), FrT m M → RdT R n s M → GM E (m_X12_streets 8) P 65 [.ref 169, vi n, vi s, vi 0, un, un] [vi s, vi 76, vi n, .ref 169] M) : ∀ (f : Nat) (p : Int) (l : List LnT) (s0 : Int) (M : Mem), n0 + l.length + f = 6 → TxR a (min n 76) p M → LnsM l M → FrT m M → R = rdS (lkA a (min n 76)) n f p l → GM E (m_X12_streets 8) P 29 [.ref 169, vi n, vi s0, vi 1, un, un] [] M := by
  have ex : ∀ (s : Int) (M : Mem), FrT m M → RdT R n s M → GM E (m_X12_streets 8) P 29 [.ref 169, vi n, vi s, vi 0, un, un] [] M := fun s M F S => sg_X12_streets_29 (by decide) (fun _ => K s M F S) (fun g => absurd rfl g)
  generalize hL : min n 76 = L at *
  have L76 : L ≤ 76 ∧ L ≤ n := by omega
  intro f
  induction f with
  | zero =>
    intro p l s0 M hl T A F eR
    have eR : R = (p, l, false) := eR
    have b := T.2.1
    have e3 : M 169 3 = (n0 : Int) := by rw [F.2.2.2 3 (by decide) (by decide) (by decide) (by decide) (by decide) (by decide)]; exact h3
    refine sg_X12_streets_29 (by decide) (fun g => absurd g (by decide)) (fun _ => ca_X12_streets_34 (mt_readsStreet T A.1 (by omega) (by omega) (by omega)) (fun z m2 hz => ?_))
    rcases hz with ⟨-, ez, em⟩ | ⟨g, -⟩
    · subst ez
      rw [em]
      refine sg_X12_streets_37 (by decide) (fun g => absurd rfl g) (fun g => absurd rfl g) (fun _ => ex _ _ F ⟨Or.inr ⟨by rw [eR], fun o => o.1 rfl, by rw [eR]; exact T.p⟩, T.l.trans hL.symm, ?_, ?_, by decide⟩) (fun g => absurd rfl g) (fun g => absurd rfl g)
      · rw [T.p]; exact b.1
      · rw [T.p]; show p ≤ min n 76; omega
    · omega
  | succ f ih =>
    intro p l s0 M hl T A F eR
    have b := T.2.1
    have e3 : M 169 3 = (n0 : Int) := by rw [F.2.2.2 3 (by decide) (by decide) (by decide) (by decide) (by decide) (by decide)]; exact h3
    refine sg_X12_streets_29 (by decide) (fun g => absurd g (by decide)) (fun _ => ca_X12_streets_34 (mt_readsStreet T A.1 (by omega) (by omega) (by omega)) (fun z m2 hz => ?_))
    rcases hz with ⟨g, -⟩ | ⟨-, T2, FS, hz⟩
    · omega
    · have F2 := F.then FS
      have b2 := T2.2.1
      rcases hz with ⟨r1, ez⟩ | ⟨r, r1, ez, h23, hr⟩
      · rw [rdS_no r1] at eR
        subst ez
        refine sg_X12_streets_37 (by decide) (fun g => absurd rfl g) (fun g => absurd rfl g) (fun _ => ex _ _ F2 ⟨Or.inr ⟨by rw [eR], fun o => o.1 rfl, by rw [eR]; exact T2.p⟩, T2.l.trans hL.symm, ?_, ?_, by decide⟩) (fun g => absurd rfl g) (fun g => absurd rfl g)
        · rw [T2.p]; omega
        · rw [T2.p]; omega
      · rw [rdS_so r1] at eR
        subst ez
        generalize hq : (lnG (lkA a L) p).2 = q at *
        have l1 : (l ++ [r]).length = l.length + 1 := by rw [List.length_append]; rfl
        have A2 : ∀ z : Int, LnsM (l ++ [r]) (up2 m2 169 18 z) := fun z => by
          refine ⟨by rw [up2_j (by decide), h23, l1]; omega, fun k hk => ?_⟩
          rw [l1] at hk
          unfold LnM
          rw [up2_k (by decide), up2_k (by decide), getD_appL]
          by_cases ck : k < l.length
          · rw [if_pos ck]
            have o := A.2 k ck
            exact ⟨fun t t0 t6 => by rw [FS.2.2.1 _ (by omega)]; exact o.1 t t0 t6, fun h h0 h6 hh => by rw [FS.2.2.2 _ (by omega)]; exact o.2 h h0 h6 hh⟩
          · rw [if_neg ck, if_pos (by omega), show k = l.length by omega]
            exact hr
        refine sg_X12_streets_37 (by decide) (fun _ => T2.q) (fun _ => T2.2.2.1 _) (fun g => absurd g (by decide)) (fun _ g => ?_) (fun _ g => ?_)
        · have g := (T2.next (by decide)).1 g
          have qL := (lk_pos (show 0 ≤ lkA a L q by omega)).1
          rw [if_neg (by omega), if_pos g] at eR
          exact ih (q + 1) (l ++ [r]) _ _ (by rw [l1]; omega) (T2.pass qL (by rw [T2.p])) (A2 _) F2.up eR
        · have g : ¬ lkA a L q = 59 := fun o => g ((T2.next (by decide)).2 o)
          have e18 : up2 m2 169 18 (m2 169 18 + 0) 169 18 = q := by rw [up2_same, T2.p]; omega
          have e19 : up2 m2 169 18 (m2 169 18 + 0) 169 19 = min n 76 := by rw [up2_j (by decide), hL]; exact T2.l
          by_cases cn : n ≤ q
          · rw [if_pos cn] at eR
            refine ex _ _ F2.up ⟨Or.inl ⟨by rw [eR], by decide, by rw [e18]; omega, by rw [eR]; exact A2 _⟩, e19, ?_, ?_, by decide⟩
            · rw [e18]; omega
            · rw [e18]; omega
          · rw [if_neg cn, if_neg g] at eR
            refine ex _ _ F2.up ⟨Or.inr ⟨by rw [eR], fun o => by rw [eR] at o; have := o.2; dsimp only at this; omega, by rw [eR]; exact e18⟩, e19, ?_, ?_, by decide⟩
            · rw [e18]; omega
            · rw [e18]; omega
/-- a street is laid -/
def LayP (s : Int) (r : LnT) (M M' : Mem) : Prop := (∀ q, (q < 171 ∨ 178 < q) → q ≠ 180 → M' q = M q) ∧ (∀ j : Int, j ≠ s → M' 171 j = M 171 j ∧ M' 172 j = M 172 j ∧ M' 173 j = M 173 j ∧ M' 174 j = M 174 j ∧ M' 175 j = M 175 j ∧ M' 176 j = M 176 j ∧ M' 177 j = M 177 j) ∧ (M' 171 s = r 0 ∧ M' 172 s = r 1 ∧ M' 173 s = r 2 ∧ M' 174 s = r 3 ∧ M' 175 s = 0 ∧ M' 176 s = r 4 ∧ M' 177 s = r 5) ∧ (∀ x : Int, M' 178 x = if 16 * s ≤ x ∧ x < 16 * s + 16 ∧ (x - 16 * s) % 8 < r 1 then r (16 + (x - 16 * s)) else M 178 x) ∧ ∀ x : Int, M' 180 x = if 16 * s ≤ x ∧ x < 16 * s + 16 ∧ (x - 16 * s) % 8 < r 1 then (if r (16 + (x - 16 * s)) = 0 then 0 else 1) else M 180 x
theorem mt_lays {E : Nat × (Nat → Int32)} {M : Mem} {s k : Int} {r : LnT} (s0 : 0 ≤ s) (s6 : s < 6) (k0 : 0 ≤ k) (k6 : k < 6) (hr : LnOK r) (hM : LnM k r M) : K_X12_laysStreet E [.ref 169, vi s, vi k] M (fun M' => LayP s r M M') := by
  obtain ⟨r0, r1, r2, r3, r4, r5⟩ := hr
  obtain ⟨h1, h2⟩ := hM
  have e3 := h1 3 (by decide) (by decide)
  have e0 := h1 0 (by decide) (by decide)
  rw [Int.add_zero] at e0
  generalize hC : up2 (up2 (up2 (up2 (up2 (up2 (up2 M 171 s (r 0)) 172 s (r 1)) 173 s (r 2)) 174 s (r 3)) 176 s (r 4)) 177 s (r 5)) 175 s 0 = C
  have C1 : ∀ q, (q < 171 ∨ 177 < q) → C q = M q := fun q hq => by rw [← hC, up2_k (by omega), up2_k (by omega), up2_k (by omega), up2_k (by omega), up2_k (by omega), up2_k (by omega), up2_k (by omega)]
  have C2 : ∀ j : Int, j ≠ s → C 171 j = M 171 j ∧ C 172 j = M 172 j ∧ C 173 j = M 173 j ∧ C 174 j = M 174 j ∧ C 175 j = M 175 j ∧ C 176 j = M 176 j ∧ C 177 j = M 177 j := fun j hj => by
    rw [← hC]
    refine ⟨?_, ?_, ?_, ?_, ?_, ?_, ?_⟩ <;> simp [up2, hj]
  have C3 : C 171 s = r 0 ∧ C 172 s = r 1 ∧ C 173 s = r 2 ∧ C 174 s = r 3 ∧ C 175 s = 0 ∧ C 176 s = r 4 ∧ C 177 s = r 5 := by
    rw [← hC]
    refine ⟨?_, ?_, ?_, ?_, ?_, ?_, ?_⟩ <;> simp [up2]
  have body : ∀ M2 : Mem, M2 = C → GM E (m_X12_laysStreet 1) (Pv (LayP s r M)) 118 [.ref 169, vi s, vi k, vi 0, un, un] [] M2 := fun M2 eM => by
    rw [eM]
    clear eM M2
    -- which cells are written
    have inner : ∀ (d : Int) (Q : Mem → Prop), (d = 0 ∨ d = 1) → (∀ M3 : Mem, (∀ q, q ≠ 178 → q ≠ 180 → M3 q = C q) → (∀ x : Int, M3 178 x = if 16 * s ≤ x ∧ x < 16 * s + 8 * d + 8 ∧ (x - 16 * s) % 8 < r 1 then r (16 + (x - 16 * s)) else M 178 x) → (∀ x : Int, M3 180 x = if 16 * s ≤ x ∧ x < 16 * s + 8 * d + 8 ∧ (x - 16 * s) % 8 < r 1 then (if r (16 + (x - 16 * s)) = 0 then 0 else 1) else M 180 x) → GM E (m_X12_laysStreet 1) (Pv Q) 118 [.ref 169, vi s, vi k, vi (d + 1), un, un] [] M3) → ∀ M2 : Mem, (∀ q, q ≠ 178 → q ≠ 180 → M2 q = C q) → (∀ x : Int, M2 178 x = if 16 * s ≤ x ∧ x < 16 * s + 8 * d ∧ (x - 16 * s) % 8 < r 1 then r (16 + (x - 16 * s)) else M 178 x) → (∀ x : Int, M2 180 x = if 16 * s ≤ x ∧ x < 16 * s + 8 * d ∧ (x - 16 * s) % 8 < r 1 then (if r (16 + (x - 16 * s)) = 0 then 0 else 1) else M 180 x) → GM E (m_X12_laysStreet 1) (Pv Q) 126 [.ref 169, vi s, vi k, vi d, vi 0, un] [] M2 := fun d Q hd kk M2 q1 q2 q3 => by
      have dd : 0 ≤ d ∧ d ≤ 1 := by omega
      refine up_loop (i0 := 0) (n := r 1) (fun b M3 => GM E (m_X12_laysStreet 1) (Pv Q) 126 [.ref 169, vi s, vi k, vi d, vi b, un] [] M3) (fun b M3 => (∀ q, q ≠ 178 → q ≠ 180 → M3 q = C q) ∧ (∀ x : Int, M3 178 x = if 16 * s ≤ x ∧ ((x < 16 * s + 8 * d ∧ (x - 16 * s) % 8 < r 1) ∨ (16 * s + 8 * d ≤ x ∧ x < 16 * s + 8 * d + b)) then r (16 + (x - 16 * s)) else M 178 x) ∧ ∀ x : Int, M3 180 x = if 16 * s ≤ x ∧ ((x < 16 * s + 8 * d ∧ (x - 16 * s) % 8 < r 1) ∨ (16 * s + 8 * d ≤ x ∧ x < 16 * s + 8 * d + b)) then (if r (16 + (x - 16 * s)) = 0 then 0 else 1) else M 180 x) (fun M3 h => ?_) (fun b M3 b0 b1 h k' => ?_) (i := 0) (s := M2) (by omega) (by omega) ⟨q1, fun x => ?_, fun x => ?_⟩
      · obtain ⟨p1, p2, p3⟩ := h
        have g72 : M3 172 s = r 1 := by rw [p1 172 (by decide) (by decide)]; exact C3.2.1
        refine sg_X12_laysStreet_126 ⟨s0, s6⟩ ⟨by omega, by omega⟩ (by rw [g72]; constructor <;> omega) (fun g => by rw [g72] at g; omega) (fun g => by rw [g72] at g; omega) (fun g => by rw [g72] at g; omega) (fun g => by rw [g72] at g; omega) (fun g => by rw [g72] at g; omega) (fun _ => kk M3 p1 (fun x => ?_) (fun x => ?_)) (fun g => by rw [g72] at g; omega) (fun g => by rw [g72] at g; omega)
        · rw [p2 x]
          by_cases c : 16 * s ≤ x ∧ x < 16 * s + 8 * d + 8 ∧ (x - 16 * s) % 8 < r 1
          · rw [if_pos c]; exact if_pos (by omega)
          · rw [if_neg c, if_neg (by omega)]
        · rw [p3 x]
          by_cases c : 16 * s ≤ x ∧ x < 16 * s + 8 * d + 8 ∧ (x - 16 * s) % 8 < r 1
          · rw [if_pos c]; exact if_pos (by omega)
          · rw [if_neg c, if_neg (by omega)]
      · obtain ⟨p1, p2, p3⟩ := h
        have g72 : M3 172 s = r 1 := by rw [p1 172 (by decide) (by decide)]; exact C3.2.1
        have g84 : M3 184 (16 * k + 8 * d + b) = r (16 + (8 * d + b)) := by
          rw [p1 184 (by decide) (by decide), C1 184 (by omega), show 16 * k + 8 * d + b = 16 * k + (8 * d + b) by omega]
          exact h2 _ (by omega) (by omega) (by omega)
        have wr := r5 (8 * d + b) (by omega) (by omega)
        have nx : ∀ (w : Int), w = (if r (16 + (8 * d + b)) = 0 then 0 else 1) → GM E (m_X12_laysStreet 1) (Pv Q) 126 [.ref 169, vi s, vi k, vi d, vi (b + 1), un] [] (up2 (up2 M3 178 (16 * s + 8 * d + b) (r (16 + (8 * d + b)))) 180 (16 * s + 8 * d + b) w) := fun w ew => by
          refine k' _ ⟨fun q h7 h8 => by rw [up2_k h8, up2_k h7]; exact p1 q h7 h8, fun x => ?_, fun x => ?_⟩
          · rw [up2_k (by decide)]
            by_cases c : x = 16 * s + 8 * d + b
            · rw [c, up2_same, if_pos (by omega), show 16 * s + 8 * d + b - 16 * s = 8 * d + b by omega]
            · rw [up2_j c, p2 x]
              by_cases c2 : 16 * s ≤ x ∧ ((x < 16 * s + 8 * d ∧ (x - 16 * s) % 8 < r 1) ∨ (16 * s + 8 * d ≤ x ∧ x < 16 * s + 8 * d + b))
              · rw [if_pos c2]; exact (if_pos (by omega)).symm
              · rw [if_neg c2, if_neg (by omega)]
          · by_cases c : x = 16 * s + 8 * d + b
            · rw [c, up2_same, if_pos (by omega), show 16 * s + 8 * d + b - 16 * s = 8 * d + b by omega, ew]
            · rw [up2_j c, up2_k (by decide), p3 x]
              by_cases c2 : 16 * s ≤ x ∧ ((x < 16 * s + 8 * d ∧ (x - 16 * s) % 8 < r 1) ∨ (16 * s + 8 * d ≤ x ∧ x < 16 * s + 8 * d + b))
              · rw [if_pos c2]; exact (if_pos (by omega)).symm
              · rw [if_neg c2, if_neg (by omega)]
        refine sg_X12_laysStreet_126 ⟨s0, s6⟩ ⟨by omega, by omega⟩ (by rw [g72]; constructor <;> omega) (fun _ => by omega) (fun _ => by omega) (fun _ => by rw [g84]; constructor <;> omega) (fun _ _ => by omega) (fun _ _ => by omega) (fun g => by rw [g72] at g; omega) (fun _ g => ?_) (fun _ g => ?_)
        · rw [g84] at g ⊢
          exact nx 0 (by rw [if_pos (by omega)])
        · rw [g84] at g ⊢
          exact nx 1 (by rw [if_neg (by omega)])
      · rw [q2 x]
        by_cases c : 16 * s ≤ x ∧ x < 16 * s + 8 * d ∧ (x - 16 * s) % 8 < r 1
        · rw [if_pos c]; exact (if_pos (by omega)).symm
        · rw [if_neg c, if_neg (by omega)]
      · rw [q3 x]
        by_cases c : 16 * s ≤ x ∧ x < 16 * s + 8 * d ∧ (x - 16 * s) % 8 < r 1
        · rw [if_pos c]; exact (if_pos (by omega)).symm
        · rw [if_neg c, if_neg (by omega)]
    refine sg_X12_laysStreet_118 (by decide) (fun g => absurd g (by decide)) (fun _ => inner 0 _ (Or.inl rfl) (fun M3 p1 p2 p3 => ?_) C (fun _ _ _ => rfl) (fun x => ?_) (fun x => ?_))
    · refine sg_X12_laysStreet_118 (by decide) (fun g => absurd g (by decide)) (fun _ => inner 1 _ (Or.inr rfl) (fun M4 u1 u2 u3 => ?_) M3 p1 (fun x => ?_) (fun x => ?_))
      · refine sg_X12_laysStreet_118 (by decide) (fun _ => ⟨rfl, fun q hq h8 => ?_, fun j hj => ?_, ?_, fun x => ?_, fun x => ?_⟩) (fun g => absurd (by decide) g)
        · rw [u1 q (by omega) h8]; exact C1 q (by omega)
        · rw [u1 171 (by decide) (by decide), u1 172 (by decide) (by decide), u1 173 (by decide) (by decide), u1 174 (by decide) (by decide), u1 175 (by decide) (by decide), u1 176 (by decide) (by decide), u1 177 (by decide) (by decide)]
          exact C2 j hj
        · rw [u1 171 (by decide) (by decide), u1 172 (by decide) (by decide), u1 173 (by decide) (by decide), u1 174 (by decide) (by decide), u1 175 (by decide) (by decide), u1 176 (by decide) (by decide), u1 177 (by decide) (by decide)]
          exact C3
        · rw [u2 x]
          by_cases c : 16 * s ≤ x ∧ x < 16 * s + 16 ∧ (x - 16 * s) % 8 < r 1
          · rw [if_pos c]; exact if_pos (by omega)
          · rw [if_neg c, if_neg (by omega)]
        · rw [u3 x]
          by_cases c : 16 * s ≤ x ∧ x < 16 * s + 16 ∧ (x - 16 * s) % 8 < r 1
          · rw [if_pos c]; exact if_pos (by omega)
          · rw [if_neg c, if_neg (by omega)]
      · rw [p2 x]
        by_cases c : 16 * s ≤ x ∧ x < 16 * s + 8 * 0 + 8 ∧ (x - 16 * s) % 8 < r 1
        · rw [if_pos c]; exact (if_pos (by omega)).symm
        · rw [if_neg c, if_neg (by omega)]
      · rw [p3 x]
        by_cases c : 16 * s ≤ x ∧ x < 16 * s + 8 * 0 + 8 ∧ (x - 16 * s) % 8 < r 1
        · rw [if_pos c]; exact (if_pos (by omega)).symm
        · rw [if_neg c, if_neg (by omega)]
    · rw [if_neg (by omega), C1 178 (by omega)]
    · rw [if_neg (by omega), C1 180 (by omega)]
  refine en_X12_laysStreet (sg_X12_laysStreet_0 (by omega) (by omega) (by omega) (by omega) (by omega) (by rw [e3]; constructor <;> omega) (fun _ => by omega) (fun _ => by omega) (fun _ => by omega) (fun _ => by omega) (fun g => body _ ?_) (fun g => body _ ?_))
  all_goals rw [e3] at g
  all_goals rw [← hC, e0, h1 1 (by decide) (by decide), h1 2 (by decide) (by decide), h1 4 (by decide) (by decide), h1 5 (by decide) (by decide)]
  · rw [show r 3 = 0 by omega]
  · rw [g]
