/-! streets: what they make of all that is told -/
def rdS (lk : Int → Int) (n : Int) : Nat → Int → List LnT → Int × List LnT × Bool
  | 0, p, l => (p, l, false)
  | f + 1, p, l => match (lnG lk p).1 with
    | none => ((lnG lk p).2, l, false)
    | some r => if n ≤ (lnG lk p).2 then ((lnG lk p).2, l ++ [r], true) else if lk (lnG lk p).2 = 59 then rdS lk n f ((lnG lk p).2 + 1) (l ++ [r]) else ((lnG lk p).2, l ++ [r], false)
theorem rdS_no {lk : Int → Int} {n p : Int} {f : Nat} {l : List LnT} (h : (lnG lk p).1 = none) : rdS lk n (f + 1) p l = ((lnG lk p).2, l, false) := by rw [rdS, h]
theorem rdS_so {lk : Int → Int} {n p : Int} {f : Nat} {l : List LnT} {r : LnT} (h : (lnG lk p).1 = some r) : rdS lk n (f + 1) p l = if n ≤ (lnG lk p).2 then ((lnG lk p).2, l ++ [r], true) else if lk (lnG lk p).2 = 59 then rdS lk n f ((lnG lk p).2 + 1) (l ++ [r]) else ((lnG lk p).2, l ++ [r], false) := by rw [rdS, h]
def slA (a : Mem) : Int × List LnT × Bool := if a 169 17 ≤ 0 then (0, [], true) else rdS (lkA a (min (a 169 17) 76)) (a 169 17) (6 - a 169 3).toNat 0 []
def zL : LnT := fun _ => 0
def lnOf (n0 : Int) (l : List LnT) (s : Int) : LnT := l.getD (s - n0).toNat zL
def fldU (a : Mem) (l : List LnT) (k : Nat) (t : Int) : Int → Int := fun j => if a 169 3 ≤ j ∧ j < a 169 3 + (l.length : Int) then lnOf (a 169 3) l j t else a k j
def wU (a : Mem) (l : List LnT) : Int → Int := fun b => if 16 * a 169 3 ≤ b ∧ b < 16 * (a 169 3 + (l.length : Int)) then lnOf (a 169 3) l (b / 16) (16 + b % 16) else a 178 b
def nwU (a : Mem) (l : List LnT) : Int → Int := fun b => if 16 * a 169 3 ≤ b ∧ b < 16 * (a 169 3 + (l.length : Int)) then (if wU a l b = 0 then 0 else 1) else a 180 b
def stU (a : Mem) (l : List LnT) : Mem := fun k =>
  if k = 169 then (fun j => if j = 3 then a 169 3 + (l.length : Int) else if j = 4 then a 169 4 + 1 else if j = 40 then 0 else a 169 j)
  else if k = 171 then fldU a l 171 0 else if k = 172 then fldU a l 172 1 else if k = 173 then fldU a l 173 2 else if k = 174 then fldU a l 174 3
  else if k = 176 then fldU a l 176 4 else if k = 177 then fldU a l 177 5 else if k = 178 then wU a l else if k = 180 then nwU a l else a k
theorem stU_k {a : Mem} {l : List LnT} {k : Nat} (h : k < 169 ∨ k = 170 ∨ k = 175 ∨ k = 179 ∨ 180 < k) : stU a l k = a k := by
  unfold stU
  rw [if_neg (by omega), if_neg (by omega), if_neg (by omega), if_neg (by omega), if_neg (by omega), if_neg (by omega), if_neg (by omega), if_neg (by omega), if_neg (by omega)]
theorem stU_169 {a : Mem} {l : List LnT} {j : Int} : stU a l 169 j = if j = 3 then a 169 3 + (l.length : Int) else if j = 4 then a 169 4 + 1 else if j = 40 then 0 else a 169 j := by unfold stU; rw [if_pos rfl]
theorem stU_f {a : Mem} {l : List LnT} {j : Int} (h : j ≠ 3) (h2 : j ≠ 4) (h3 : j ≠ 40) : stU a l 169 j = a 169 j := by rw [stU_169, if_neg h, if_neg h2, if_neg h3]
theorem stU_3 {a : Mem} {l : List LnT} : stU a l 169 3 = a 169 3 + (l.length : Int) := by rw [stU_169, if_pos rfl]
theorem stU_4 {a : Mem} {l : List LnT} : stU a l 169 4 = a 169 4 + 1 := by rw [stU_169, if_neg (by decide), if_pos rfl]
theorem stU_40 {a : Mem} {l : List LnT} : stU a l 169 40 = 0 := by rw [stU_169, if_neg (by decide), if_neg (by decide), if_pos rfl]
theorem stU_171 {a : Mem} {l : List LnT} : stU a l 171 = fldU a l 171 0 := rfl
theorem stU_172 {a : Mem} {l : List LnT} : stU a l 172 = fldU a l 172 1 := rfl
theorem stU_173 {a : Mem} {l : List LnT} : stU a l 173 = fldU a l 173 2 := rfl
theorem stU_174 {a : Mem} {l : List LnT} : stU a l 174 = fldU a l 174 3 := rfl
theorem stU_176 {a : Mem} {l : List LnT} : stU a l 176 = fldU a l 176 4 := rfl
theorem stU_177 {a : Mem} {l : List LnT} : stU a l 177 = fldU a l 177 5 := rfl
theorem stU_178 {a : Mem} {l : List LnT} : stU a l 178 = wU a l := rfl
theorem stU_180 {a : Mem} {l : List LnT} : stU a l 180 = nwU a l := rfl
theorem fld_old {a : Mem} {l : List LnT} {k : Nat} {t j : Int} (h : j < a 169 3) : fldU a l k t j = a k j := if_neg (by omega)
theorem fld_out {a : Mem} {l : List LnT} {k : Nat} {t j : Int} (h : a 169 3 + (l.length : Int) ≤ j) : fldU a l k t j = a k j := if_neg (by omega)
theorem fld_new {a : Mem} {l : List LnT} {k : Nat} {t j : Int} (h : a 169 3 ≤ j) (h2 : j < a 169 3 + (l.length : Int)) : fldU a l k t j = lnOf (a 169 3) l j t := if_pos ⟨h, h2⟩
theorem wU_old {a : Mem} {l : List LnT} {b : Int} (h : b < 16 * a 169 3 ∨ 16 * (a 169 3 + (l.length : Int)) ≤ b) : wU a l b = a 178 b := if_neg (by omega)
theorem wU_new {a : Mem} {l : List LnT} {s h : Int} (h1 : a 169 3 ≤ s) (h2 : s < a 169 3 + (l.length : Int)) (h3 : 0 ≤ h) (h4 : h < 16) : wU a l (16 * s + h) = lnOf (a 169 3) l s (16 + h) := by
  unfold wU
  rw [if_pos ⟨by omega, by omega⟩, show (16 * s + h) / 16 = s by omega, show (16 * s + h) % 16 = h by omega]
theorem nwU_old {a : Mem} {l : List LnT} {b : Int} (h : b < 16 * a 169 3 ∨ 16 * (a 169 3 + (l.length : Int)) ≤ b) : nwU a l b = a 180 b := if_neg (by omega)
theorem nwU_new {a : Mem} {l : List LnT} {b : Int} (h : 16 * a 169 3 ≤ b) (h2 : b < 16 * (a 169 3 + (l.length : Int))) : nwU a l b = if wU a l b = 0 then 0 else 1 := if_pos ⟨h, h2⟩
theorem lnOf_mem {n0 : Int} {l : List LnT} {s : Int} (h : n0 ≤ s) (h2 : s < n0 + (l.length : Int)) : lnOf n0 l s ∈ l := by
  unfold lnOf
  rw [List.getD_eq_getElem?_getD, List.getElem?_eq_getElem (by omega)]
  exact List.getElem_mem _
theorem WTown.stu {a : Mem} {l : List LnT} (hT : WTown a) (hl : ∀ r ∈ l, LnOK r) (h6 : a 169 3 + (l.length : Int) ≤ 6) : WTown (stU a l) := by
  obtain ⟨t0, t6, t1, t2⟩ := hT
  refine ⟨by rw [stU_3]; omega, by rw [stU_3]; exact h6, fun s s0 s6 => ?_, fun s h s0 s6 h0 h16 => ?_⟩
  · rw [stU_3, stU_171, stU_172, stU_173, stU_174, stU_k (k := 175) (by decide), stU_176, stU_177]
    have o := t1 s s0 s6
    obtain ⟨o1, o2, o3, o4, o5, o6, o7, o8, o9, o10, o11, o12⟩ := o
    by_cases c : a 169 3 ≤ s ∧ s < a 169 3 + (l.length : Int)
    · rw [fld_new c.1 c.2, fld_new c.1 c.2, fld_new c.1 c.2, fld_new c.1 c.2, fld_new c.1 c.2, fld_new c.1 c.2]
      obtain ⟨r1, r2, r3, r4, r5, r6⟩ := hl _ (lnOf_mem c.1 c.2)
      exact ⟨r1.1, r1.2, by omega, r2.2, r3.1, r3.2, r4, o8, o9, r5, fun _ => r2.1, fun g => by omega⟩
    · by_cases c2 : s < a 169 3
      · rw [fld_old c2, fld_old c2, fld_old c2, fld_old c2, fld_old c2, fld_old c2]
        exact ⟨o1, o2, o3, o4, o5, o6, o7, o8, o9, o10, fun _ => o11 c2, fun g => by omega⟩
      · have c3 : a 169 3 + (l.length : Int) ≤ s := by omega
        rw [fld_out c3, fld_out c3, fld_out c3, fld_out c3, fld_out c3, fld_out c3]
        exact ⟨o1, o2, o3, o4, o5, o6, o7, o8, o9, o10, fun g => by omega, fun _ => o12 (by omega)⟩
  · rw [stU_178, stU_172]
    by_cases c : a 169 3 ≤ s ∧ s < a 169 3 + (l.length : Int)
    · rw [wU_new c.1 c.2 h0 h16, fld_new c.1 c.2]
      exact (hl _ (lnOf_mem c.1 c.2)).2.2.2.2.2 h h0 h16
    · rw [wU_old (by omega)]
      have o := t2 s h s0 s6 h0 h16
      by_cases c2 : s < a 169 3
      · rw [fld_old c2]; exact o
      · rw [fld_out (by omega)]; exact o
/-- a row of states stays good -/
theorem StOK.stu {B : Int} {a : Mem} {l : List LnT} {r : Int → Int} (hT : WTown a) (h : StOK B a r) : StOK B (stU a l) r := by
  obtain ⟨h1, h2⟩ := h
  refine ⟨fun b b0 b1 => ?_, h2⟩
  obtain ⟨g1, g2, g3⟩ := h1 b b0 b1
  refine ⟨g1, g2, fun g => ?_⟩
  rw [stU_178]
  by_cases c : 16 * a 169 3 ≤ b
  · have hb := (hT.2.2.1 (b / 16) (by omega) (by omega)).2.2.2.2.2.2.2.2.2.2
    have hw := (hT.2.2.2 (b / 16) (b % 16) (by omega) (by omega) (by omega) (by omega)).2.2
    rw [show 16 * (b / 16) + b % 16 = b by omega] at hw
    have e8 : a 178 b = 0 := hw (by have := (hb.2 (by omega)).1; omega)
    exact absurd e8 (g3 g)
  · rw [wU_old (by omega)]; exact g3 g
theorem nwU_ok {B : Int} {a : Mem} {l : List LnT} (hT : WTown a) (h6 : a 169 3 + (l.length : Int) ≤ 6) (h : StOK B a (a 180)) : StOK B (stU a l) (nwU a l) := by
  obtain ⟨h1, h2⟩ := h.stu (l := l) hT
  refine ⟨fun b b0 b1 => ?_, ?_⟩
  · by_cases c : 16 * a 169 3 ≤ b ∧ b < 16 * (a 169 3 + (l.length : Int))
    · rw [nwU_new c.1 c.2, stU_178]
      split
      · exact ⟨by decide, by decide, fun g => absurd rfl g⟩
      · rename_i g; exact ⟨by decide, by decide, fun _ => g⟩
    · rw [nwU_old (by omega)]; exact h1 b b0 b1
  · rw [nwU_old (Or.inr (by omega)), nwU_old (Or.inr (by omega)), nwU_old (Or.inr (by omega))]
    exact h2
theorem W0.stu {B : Int} {a : Mem} {l : List LnT} (h : W0 B a) (hl : ∀ r ∈ l, LnOK r) (h6 : a 169 3 + (l.length : Int) ≤ 6) : W0 (B + 1) (stU a l) := by
  have hT := h.town
  have h' := h.mono (show B ≤ B + 1 by omega)
  have so : ∀ r : Int → Int, StOK (B + 1) a r → StOK (B + 1) (stU a l) r := fun r h => h.stu hT
  refine ⟨hT.stu hl h6, ?_, ?_, ?_, ?_, ?_, ?_, ?_⟩
  · exact h.set.of (stU_k (by decide))
  · unfold WText; rw [stU_f (by decide) (by decide) (by decide), stU_k (k := 182) (by decide)]; exact h.text
  · rw [stU_180]; exact nwU_ok hT h6 h'.now
  · unfold WHist; rw [stU_40]; exact ⟨by decide, by decide, fun i i0 i1 => by omega⟩
  · unfold WLoads; rw [stU_f (by decide) (by decide) (by decide), stU_3, stU_k (k := 201) (by decide), stU_k (k := 202) (by decide)]
    have w := h.loads
    refine ⟨w.1, w.2.1, fun j j0 j1 => ?_⟩
    obtain ⟨q1, q2, q3, q4, q5⟩ := w.2.2 j j0 j1
    exact ⟨q1, q2, q3, q4, fun x hx => q5 x (by omega)⟩
  · unfold WKept; rw [stU_4, stU_k (k := 205) (by decide), stU_k (k := 206) (by decide), stU_k (k := 207) (by decide)]
    have w := h.kept
    refine ⟨by have := w.1; omega, by have := w.2.1; omega, fun i i0 i1 => ?_⟩
    rcases h'.kept.2.2 i i0 i1 with g | ⟨g1, g2, g3, g4⟩
    · exact Or.inl g
    · exact Or.inr ⟨g1, g2, by omega, so _ g4⟩
  · unfold WRow; rw [stU_f (by decide) (by decide) (by decide), stU_k (k := 170) (by decide)]; exact h.row
theorem CR0.join {c c' a b : Mem} (h : CR0 c a) (t : CTown c' b) (x : CText c' b) (n : StRel c' 23 (b 180)) (hh : CHist c' b) (kk : CKept c' b) (e4 : c' 4 = c 4) (b179 : b 179 = a 179) (e93 : c' 93 4 = c 93 4) (e94 : c' 94 = c 94) (e95 : c' 95 = c 95) (b62 : b 169 62 = a 169 62) (b201 : b 201 = a 201) (b202 : b 202 = a 202) (e0 : c' 0 14 = c 0 14) (e168 : c' 168 = c 168) (b1 : b 169 1 = a 169 1) (b170 : b 170 = a 170) : CR0 c' b := by
  refine ⟨t, ?_, x, n, hh, ?_, kk, ?_⟩
  · unfold CSet; rw [b179]; exact h.set.fr e4
  · unfold CLoads; rw [b62, b201, b202]; exact h.loads.fr e93 e94 e95
  · unfold CRow; rw [b1, b170]; exact h.row.fr e0 e168
theorem rdS_ok {a : Mem} {L n : Int} : ∀ (f : Nat) (p : Int) (l : List LnT), p ≤ L → (∀ r ∈ l, LnOK r) → (∀ r ∈ (rdS (lkA a L) n f p l).2.1, LnOK r) ∧ (rdS (lkA a L) n f p l).2.1.length ≤ l.length + f ∧ ((rdS (lkA a L) n f p l).2.2 = true → l.length < (rdS (lkA a L) n f p l).2.1.length)
  | 0, p, l, hp, hl => ⟨hl, Nat.le_refl _, fun o => by cases o⟩
  | f + 1, p, l, hp, hl => by
    rcases hr : (lnG (lkA a L) p).1 with _ | r
    · rw [rdS_no hr]
      exact ⟨hl, Nat.le_add_right _ _, fun o => by cases o⟩
    · have ro := ln_ok hp hr
      have l1 : (l ++ [r]).length = l.length + 1 := by rw [List.length_append]; rfl
      have m4 : ∀ x ∈ l ++ [r], LnOK x := fun x hx => by
        rcases List.mem_append.1 hx with o | o
        · exact hl x o
        · rw [List.mem_singleton] at o
          rw [o]; exact ro
      rw [rdS_so hr]
      split
      · exact ⟨m4, by dsimp only; omega, fun _ => by dsimp only; omega⟩
      · split
        · rename_i g
          have qL := (lk_pos (show 0 ≤ lkA a L (lnG (lkA a L) p).2 by omega)).1
          have := rdS_ok (a := a) (L := L) (n := n) f ((lnG (lkA a L) p).2 + 1) (l ++ [r]) (by omega) m4
          exact ⟨this.1, by have := this.2.1; omega, fun o => by have := this.2.2 o; omega⟩
        · exact ⟨m4, by dsimp only; omega, fun o => by cases o⟩
theorem slA_ok {a : Mem} (hT : WTown a) : (∀ r ∈ (slA a).2.1, LnOK r) ∧ a 169 3 + ((slA a).2.1.length : Int) ≤ 6 ∧ ((slA a).2.2 = true → 0 < a 169 17 → 0 < (slA a).2.1.length) := by
  have t0 := hT.1
  have t6 := hT.2.1
  unfold slA
  split
  · exact ⟨fun r hr => absurd hr List.not_mem_nil, by show a 169 3 + ((0 : Nat) : Int) ≤ 6; omega, fun _ g => by omega⟩
  · have := rdS_ok (a := a) (L := min (a 169 17) 76) (n := a 169 17) (6 - a 169 3).toNat 0 [] (by omega) (fun r hr => absurd hr List.not_mem_nil)
    have l0 : ([] : List LnT).length = 0 := rfl
    exact ⟨this.1, by have := this.2.1; omega, fun o _ => by have := this.2.2 o; omega⟩
