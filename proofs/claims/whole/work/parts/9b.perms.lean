/-! orders: sets of streets, and all their ways -/
def clr (q s : Int) : Int := bandI q (bxorI (shlI 1 s) (-1))
def inc (q s : Int) : Int := borI q (shlI 1 s)
theorem tb_clr {q s i : Int} (s0 : 0 ≤ s) (s6 : s < 6) (i0 : 0 ≤ i) (i1 : i < 32) : tb (clr q s) i = (tb q i && decide (i ≠ s)) := by
  unfold clr
  rw [tb_and, tb_xor, tb_one s0 (by omega) i0 i1, tb_m1 i1]
  by_cases c : i = s <;> simp [c]
theorem tb_inc {q s i : Int} (s0 : 0 ≤ s) (s6 : s < 6) (i0 : 0 ≤ i) (i1 : i < 32) : tb (inc q s) i = (tb q i || decide (i = s)) := by
  unfold inc
  rw [tb_or, tb_one s0 (by omega) i0 i1]
theorem hi64 {q i : Int} (h0 : 0 ≤ q) (h1 : q < 64) (hi : 6 ≤ i) : tb q i = false := tb_of_lt (n := 6) (by decide) h0 h1 hi
theorem range64 {z : Int} (hz : RI z) (h : ∀ i : Int, 6 ≤ i → i < 32 → tb z i = false) : 0 ≤ z ∧ z < 64 := by
  have e : bandI z (-(shlI 1 6)) = 0 := by
    refine tb_ext (bandI_rng _ _) (by decide) (fun i i0 i1 => ?_)
    rw [tb_and, tb_0]
    by_cases c : 6 ≤ i
    · rw [h i c i1]; rfl
    · have : i = 0 ∨ i = 1 ∨ i = 2 ∨ i = 3 ∨ i = 4 ∨ i = 5 := by omega
      rcases this with e | e | e | e | e | e <;> rw [e] <;> exact Bool.and_false _
  exact setOf_64 (n := 6) (by decide) (by decide) ((hasAll_iff (by decide) (by decide) hz).1 e)
theorem clr64 {q s : Int} (h0 : 0 ≤ q) (h1 : q < 64) (s0 : 0 ≤ s) (s6 : s < 6) : 0 ≤ clr q s ∧ clr q s < 64 := range64 (bandI_rng _ _) (fun i i0 i1 => by rw [tb_clr s0 s6 (by omega) i1, hi64 h0 h1 i0]; rfl)
theorem inc64 {q s : Int} (h0 : 0 ≤ q) (h1 : q < 64) (s0 : 0 ≤ s) (s6 : s < 6) : 0 ≤ inc q s ∧ inc q s < 64 := range64 (borI_rng _ _) (fun i i0 i1 => by rw [tb_inc s0 s6 (by omega) i1, hi64 h0 h1 i0]; simp; omega)
theorem ext64 {p q : Int} (p0 : 0 ≤ p) (p1 : p < 64) (q0 : 0 ≤ q) (q1 : q < 64) (h : ∀ i : Int, 0 ≤ i → i < 6 → tb p i = tb q i) : p = q := by
  refine tb_ext ⟨by omega, by omega⟩ ⟨by omega, by omega⟩ (fun i i0 i1 => ?_)
  by_cases c : i < 6
  · exact h i i0 c
  · rw [hi64 p0 p1 (by omega), hi64 q0 q1 (by omega)]
theorem inc_clr {q s : Int} (h0 : 0 ≤ q) (h1 : q < 64) (s0 : 0 ≤ s) (s6 : s < 6) (t : tb q s = true) : inc (clr q s) s = q := by
  have c := clr64 h0 h1 s0 s6
  have d := inc64 c.1 c.2 s0 s6
  refine ext64 d.1 d.2 h0 h1 (fun i i0 i1 => ?_)
  rw [tb_inc s0 s6 i0 (by omega), tb_clr s0 s6 i0 (by omega)]
  by_cases e : i = s
  · subst e; rw [t]; simp
  · simp [e]
theorem pop_clr {q s : Int} (h0 : 0 ≤ q) (h1 : q < 64) (s0 : 0 ≤ s) (s6 : s < 6) (t : tb q s = true) : pop q = pop (clr q s) + 1 := by
  have e := pop_add (b := clr q s) (h := s) s0 (by omega) (by rw [tb_clr s0 s6 s0 (by omega)]; simp)
  have : inc (clr q s) s = q := inc_clr h0 h1 s0 s6 t
  unfold inc at this
  rw [this] at e
  exact e
theorem pop_0' : ∀ q : Fin 64, pop (q.val : Int) = 0 → q.val = 0 := by decide +kernel
theorem pop_zero {q : Int} (h0 : 0 ≤ q) (h1 : q < 64) (h : pop q = 0) : q = 0 := by
  have := pop_0' ⟨q.toNat, by omega⟩
  have e : ((q.toNat : Nat) : Int) = q := Int.toNat_of_nonneg h0
  have := this (by show pop ((q.toNat : Nat) : Int) = 0; rw [e]; exact h)
  have this : q.toNat = 0 := this
  omega
theorem has_' : ∀ q : Fin 64, ∀ s : Fin 6, (bandI (shrI (q.val : Int) (s.val : Int)) 1 = 1 ↔ tb (q.val : Int) (s.val : Int) = true) := by decide +kernel
theorem has_tb {q s : Int} (h0 : 0 ≤ q) (h1 : q < 64) (s0 : 0 ≤ s) (s6 : s < 6) : bandI (shrI q s) 1 = 1 ↔ tb q s = true := by
  have := has_' ⟨q.toNat, by omega⟩ ⟨s.toNat, by omega⟩
  have e : ((q.toNat : Nat) : Int) = q := Int.toNat_of_nonneg h0
  have e2 : ((s.toNat : Nat) : Int) = s := Int.toNat_of_nonneg s0
  have this : bandI (shrI ((q.toNat : Nat) : Int) ((s.toNat : Nat) : Int)) 1 = 1 ↔ tb ((q.toNat : Nat) : Int) ((s.toNat : Nat) : Int) = true := this
  rw [e, e2] at this
  exact this
def kids (q : Int) (rest : Int → List (List Int)) : Int → Nat → List (List Int)
  | _, 0 => []
  | s, k + 1 => (if tb q s = true then (rest s).map (fun p => s :: p) else []) ++ kids q rest (s + 1) k
def oPerms (n : Nat) : Nat → Int → List (List Int)
  | 0, _ => [[]]
  | f + 1, q => kids q (fun s => oPerms n f (clr q s)) 0 n
def stQ (a : Mem) (v : (Int → Int) → Int) (r : Int → Int) (st : Int × List Int) (p : List Int) : Int × List Int :=
  match oEnd a v r p (trow r) with
  | none => st
  | some t' => if st.1 < 0 ∨ t'.2.2 - r 98 < st.1 then (t'.2.2 - r 98, p) else st
theorem oWait_ge {a : Mem} {s w : Int} (w0 : 0 ≤ w) (w1 : w ≤ 2000000000) : w ≤ oWait a s w := by
  unfold oWait
  split
  · rename_i h
    rw [divI_nn ⟨by omega, by omega⟩ ⟨by decide, by decide⟩] at h
    omega
  · omega
theorem oVisit_mono {B W : Int} {a : Mem} {v : (Int → Int) → Int} {r : Int → Int} {s : Int} {t t' : Tr} (hT : WTown a) (hS : WSet a) (hn : StOK B a r) (s0 : 0 ≤ s) (s6 : s < 6) (h : trOK W t) (hW : W ≤ 1990000000) (e : oVisit a v r s t = some t') : t.2.2 ≤ t'.2.2 := by
  have ts := hT.2.2.1 s s0 s6
  have mv := movesR_rng (how := oHow a v r s) hT s0 s6
  have go : ∀ t2 : Tr, trOK (W + 1290) t2 → t2.2.2 ≤ (oGo a v r s t2).2.2 := fun t2 h2 => by
    obtain ⟨h1, h2, h3, h4, h5, h6⟩ := h2
    have X := oX_rng (v := v) hT hS hn s0 s6 h1 h2
    have d := dist_rng h3 h4 ts.1 ts.2.1
    have w := oWait_ge (a := a) (s := s) (w := oCome a s t2) (by unfold oCome; omega) (by unfold oCome; omega)
    show t2.2.2 ≤ oWait a s (oCome a s t2) + (handsP (a 179 1) (oX a v r s t2.1 132) + movesR a s (oHow a v r s))
    have : oCome a s t2 = t2.2.2 + dist t2.2.1 (a 171 s) := rfl
    omega
  obtain ⟨h1, h2, h3, h4, h5, h6⟩ := h
  unfold oVisit oSt at e
  split at e
  · split at e
    · cases e
      have g := go (oTip a t) (oTip_ok hS ⟨h1, h2, h3, h4, h5, h6⟩).1
      have d := dist_rng h3 h4 hS.2.2.2.2.2.2.2.2.2.2.1 hS.2.2.2.2.2.2.2.2.2.2.2.1
      have : (oTip a t).2.2 = t.2.2 + dist t.2.1 (a 179 5) + 300 := rfl
      omega
    · cases e
  · cases e
    exact go t ⟨h1, h2, h3, h4, h5, by omega⟩
theorem oEnd_rng {B : Int} {a : Mem} {v : (Int → Int) → Int} {r : Int → Int} (hT : WTown a) (hS : WSet a) (hn : StOK B a r) : ∀ (p : List Int) (t t' : Tr) (W : Int), (∀ s ∈ p, 0 ≤ s ∧ s < 6) → trOK W t → W + 80290 * p.length ≤ 1990000000 → oEnd a v r p t = some t' → t.2.2 ≤ t'.2.2 ∧ t'.2.2 ≤ W + 80290 * p.length + 1290
  | [], t, t', W, _, h, hW, e => by
    have e : (if oOpen a t then some (oTip a t) else none) = some t' := e
    obtain ⟨h1, h2, h3, h4, h5, h6⟩ := h
    split at e
    · cases e
      have d := dist_rng h3 h4 hS.2.2.2.2.2.2.2.2.2.2.1 hS.2.2.2.2.2.2.2.2.2.2.2.1
      have : (oTip a t).2.2 = t.2.2 + dist t.2.1 (a 179 5) + 300 := rfl
      have : (([] : List Int).length : Int) = 0 := rfl
      omega
    · cases e
  | s :: p, t, t', W, hp, h, hW, e => by
    have hl : ((s :: p).length : Int) = p.length + 1 := by rw [List.length_cons]; omega
    rw [hl] at hW ⊢
    have s6 := hp s List.mem_cons_self
    unfold oEnd at e
    rw [oPath] at e
    cases c : oVisit a v r s t with
    | none => rw [c] at e; cases e
    | some t2 =>
      rw [c] at e
      have m := oVisit_mono hT hS hn s6.1 s6.2 h (by omega) c
      have o := oVisit_ok hT hS hn s6.1 s6.2 h c
      have g := oEnd_rng hT hS hn p t2 t' (W + 80290) (fun x hx => hp x (List.mem_cons_of_mem _ hx)) o (by omega) e
      omega
