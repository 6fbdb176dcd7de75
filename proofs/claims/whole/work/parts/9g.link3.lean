/-! orders: the best of a set -/
/-- with and without what was before -/
def RelA (x : Int) (A Q : Int × List Int) : Prop := (A.1 < 0 ∧ Q.1 = -2) ∨ (0 ≤ Q.1 ∧ A.1 = Q.1 + x ∧ A.2 = Q.2)
theorem relA_fold {B : Int} {a : Mem} {v : (Int → Int) → Int} {r : Int → Int} (hT : WTown a) (hS : WSet a) (hn : StOK B a r) (hB : B ≤ 1000000000) : ∀ (l : List (List Int)) (A Q : Int × List Int), (∀ p ∈ l, p.length ≤ 6 ∧ ∀ s ∈ p, 0 ≤ s ∧ s < 6) → RelA (r 98) A Q → RelA (r 98) (l.foldl (stA a v r) A) (l.foldl (stQ a v r) Q)
  | [], A, Q, _, h => h
  | p :: l, A, Q, hl, h => by
    rw [List.foldl_cons, List.foldl_cons]
    refine relA_fold hT hS hn hB l _ _ (fun p hp => hl p (List.mem_cons_of_mem _ hp)) ?_
    have hp := hl p List.mem_cons_self
    have r98 := hn.2.2.2.2.2.1
    unfold stA stQ
    cases c : oEnd a v r p (trow r) with
    | none => exact h
    | some t' =>
      have rng := (oEnd_rng hT hS hn p (trow r) t' B hp.2 ⟨hn.2.1, hn.2.2.1, hn.2.2.2.1, hn.2.2.2.2.1, hn.2.2.2.2.2.1, hn.2.2.2.2.2.2⟩ (by omega) c).1
      have rng : r 98 ≤ t'.2.2 := rng
      dsimp only
      unfold RelA at h
      by_cases d : Q.1 < 0 ∨ t'.2.2 - r 98 < Q.1
      · rw [if_pos d, if_pos (by omega)]
        exact Or.inr ⟨by show 0 ≤ t'.2.2 - r 98; omega, by show t'.2.2 = t'.2.2 - r 98 + r 98; omega, rfl⟩
      · rw [if_neg d, if_neg (by omega)]
        exact h
theorem kids_mem {q : Int} {rest : Int → List (List Int)} {p : List Int} : ∀ (k : Nat) (s : Int), p ∈ kids q rest s k → ∃ x y, p = x :: y ∧ s ≤ x ∧ x < s + k ∧ y ∈ rest x
  | 0, s, h => by cases h
  | k + 1, s, h => by
    rw [kids] at h
    rcases List.mem_append.1 h with h | h
    · split at h
      · obtain ⟨y, hy, e⟩ := List.mem_map.1 h
        exact ⟨s, y, e.symm, Int.le_refl _, by omega, hy⟩
      · cases h
    · obtain ⟨x, y, e, h1, h2, h3⟩ := kids_mem k (s + 1) h
      exact ⟨x, y, e, by omega, by omega, h3⟩
theorem perms_mem {n : Nat} (n6 : n ≤ 6) : ∀ (f : Nat) (q : Int) (p : List Int), p ∈ oPerms n f q → p.length = f ∧ ∀ s ∈ p, 0 ≤ s ∧ s < 6
  | 0, q, p, h => by
    have h : p ∈ [[]] := h
    rw [List.mem_singleton] at h
    subst h
    exact ⟨rfl, fun s hs => by cases hs⟩
  | f + 1, q, p, h => by
    rw [oPerms] at h
    obtain ⟨x, y, e, h1, h2, h3⟩ := kids_mem _ _ h
    subst e
    have g := perms_mem n6 f _ y h3
    refine ⟨by rw [List.length_cons, g.1], fun s hs => ?_⟩
    rcases List.mem_cons.1 hs with hs | hs
    · omega
    · exact g.2 s hs
theorem pop_6' : ∀ q : Fin 64, pop (q.val : Int) ≤ 6 := by decide +kernel
theorem pop_6 {q : Int} (h0 : 0 ≤ q) (h1 : q < 64) : pop q ≤ 6 := by
  have := pop_6' ⟨q.toNat, by omega⟩
  have e : ((q.toNat : Nat) : Int) = q := Int.toNat_of_nonneg h0
  have this : pop ((q.toNat : Nat) : Int) ≤ 6 := this
  rw [e] at this
  exact this
/-- the class' best of a set among all its nodes -/
def oSoon (a : Mem) (v : (Int → Int) → Int) (r : Int → Int) (S T : Int) : Int × List Int := (oNodes a v r S 6 0 [] (trow r)).foldl (jS a T) (-1, [])
theorem soon_best {B S T : Int} {a : Mem} {v : (Int → Int) → Int} {r : Int → Int} (hT : WTown a) (hS : WSet a) (hn : StOK B a r) (hB : B ≤ 1000000000) (T0 : 0 < T) (T1 : T < 64) (TS : ∀ i : Int, 0 ≤ i → i < 6 → tb T i = true → tb S i = true) (TN : ∀ i : Int, a 169 3 ≤ i → i < 6 → tb T i = false) : RelA (r 98) (oSoon a v r S T) (oBest a v r T) := by
  have n0 := hT.1
  have n6 := hT.2.1
  have p6 := pop_6 (by omega : 0 ≤ T) T1
  have pr := pop_rng T
  have := link_in (a := a) (v := v) (r := r) (S := S) n0 n6 T0 T1 TS TN 6 (pop T).toNat 0 T [] (trow r) (-1, []) (by omega) (by decide) (by decide) (by omega) T1 (by omega) (fun i _ _ => by rw [tb_0]; simp) (fun i _ _ h => by rw [tb_0] at h; cases h) rfl
  unfold oSoon oBest
  rw [this]
  have eF : (fun (st : Int × List Int) x => stA a v r st ([] ++ x)) = stA a v r := by
    funext st x
    rw [List.nil_append]
  rw [eF]
  refine relA_fold hT hS hn hB _ _ _ (fun p hp => ?_) (Or.inl ⟨by decide, rfl⟩)
  have := perms_mem (n := (a 169 3).toNat) (by omega) _ _ p hp
  exact ⟨by omega, this.2⟩
