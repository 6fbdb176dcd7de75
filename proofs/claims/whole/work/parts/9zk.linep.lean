/-! streets: what a line tells -/
def dgN (lk : Int → Int) : Nat → Int → Nat
  | 0, _ => 0
  | k + 1, i => if 48 ≤ lk i ∧ lk i ≤ 57 then dgN lk k (i + 1) + 1 else 0
theorem dgN_y {lk : Int → Int} {k : Nat} {i : Int} (h : 48 ≤ lk i ∧ lk i ≤ 57) : dgN lk (k + 1) i = dgN lk k (i + 1) + 1 := by rw [dgN, if_pos h]
theorem dgN_n {lk : Int → Int} {k : Nat} {i : Int} (h : ¬ (48 ≤ lk i ∧ lk i ≤ 57)) : dgN lk k i = 0 := by
  cases k with
  | zero => rfl
  | succ k => rw [dgN, if_neg h]
theorem dgN_le {lk : Int → Int} : ∀ (k : Nat) (i : Int), dgN lk k i ≤ k
  | 0, _ => Nat.le_refl _
  | k + 1, i => by
    rw [dgN]
    split
    · have := dgN_le (lk := lk) k (i + 1); omega
    · omega
theorem dgN_L {a : Mem} {L : Int} : ∀ (k : Nat) (i : Int), i ≤ L → i + (dgN (lkA a L) k i : Int) ≤ L
  | 0, i, h => by show i + ((0 : Nat) : Int) ≤ L; omega
  | k + 1, i, h => by
    rw [dgN]
    split
    · rename_i g
      have q := (lk_pos (show 0 ≤ lkA a L i by omega)).1
      have := dgN_L (a := a) (L := L) k (i + 1) (by omega)
      omega
    · omega
theorem dgN_dig {lk : Int → Int} : ∀ (k : Nat) (i : Int) (t : Int), 0 ≤ t → t < dgN lk k i → 48 ≤ lk (i + t) ∧ lk (i + t) ≤ 57
  | 0, i, t, t0, h => by have h : t < ((0 : Nat) : Int) := h; omega
  | k + 1, i, t, t0, h => by
    rw [dgN] at h
    split at h
    · rename_i g
      by_cases e : t = 0
      · subst e; rw [Int.add_zero]; exact g
      · have := dgN_dig (lk := lk) k (i + 1) (t - 1) (by omega) (by omega)
        rw [show i + 1 + (t - 1) = i + t by omega] at this
        exact this
    · omega
def wtG (lk : Int → Int) (p n h : Int) : Int := if h < 8 then (if h < n then lk (p + h) - 48 else 0) else (if h - 8 < n then lk (p + n + 1 + (h - 8)) - 48 else 0)
abbrev LnT : Type := Int → Int
def sdG (lk : Int → Int) (p : Int) : Option Nat × Int :=
  if dgN lk 8 p = 0 ∨ lk (p + (dgN lk 8 p : Int)) ≠ 47 then (none, p + (dgN lk 8 p : Int))
  else if dgN lk (dgN lk 8 p) (p + (dgN lk 8 p : Int) + 1) ≠ dgN lk 8 p then (none, p + (dgN lk 8 p : Int) + 1 + (dgN lk (dgN lk 8 p) (p + (dgN lk 8 p : Int) + 1) : Int))
  else (some (dgN lk 8 p), p + (dgN lk 8 p : Int) + 1 + (dgN lk 8 p : Int))
theorem sd_1 {lk : Int → Int} {p : Int} (h : dgN lk 8 p = 0 ∨ lk (p + (dgN lk 8 p : Int)) ≠ 47) : sdG lk p = (none, p + (dgN lk 8 p : Int)) := if_pos h
theorem sd_2 {lk : Int → Int} {p : Int} (h : ¬ (dgN lk 8 p = 0 ∨ lk (p + (dgN lk 8 p : Int)) ≠ 47)) (g : dgN lk (dgN lk 8 p) (p + (dgN lk 8 p : Int) + 1) ≠ dgN lk 8 p) : sdG lk p = (none, p + (dgN lk 8 p : Int) + 1 + (dgN lk (dgN lk 8 p) (p + (dgN lk 8 p : Int) + 1) : Int)) := by unfold sdG; rw [if_neg h, if_pos g]
theorem sd_3 {lk : Int → Int} {p : Int} (h : ¬ (dgN lk 8 p = 0 ∨ lk (p + (dgN lk 8 p : Int)) ≠ 47)) (g : dgN lk (dgN lk 8 p) (p + (dgN lk 8 p : Int) + 1) = dgN lk 8 p) : sdG lk p = (some (dgN lk 8 p), p + (dgN lk 8 p : Int) + 1 + (dgN lk 8 p : Int)) := by unfold sdG; rw [if_neg h, if_neg (fun o => o g)]
def dG (c : Int) : Int := if c = 33 then 1 else 0
def slG (c : Int) : Int := if c = 117 then 1 else if c = 100 then -1 else 0
def mkD (lk : Int → Int) (q : Int) : Int := dG (lk q)
def mkS (lk : Int → Int) (q : Int) : Int := slG (lk (q + mkD lk q))
def mkQ (lk : Int → Int) (q : Int) : Int := q + mkD lk q + (if mkS lk q = 0 then 0 else 1)
def brG (lk : Int → Int) (p : Int) : Option (Int × Int) × Int :=
  if lk p ≠ 120 then (some (-1, -1), p)
  else if (num lk 3 (p + 1)).1 < 0 ∨ lk (num lk 3 (p + 1)).2 ≠ 45 then (none, (num lk 3 (p + 1)).2)
  else if (num lk 3 ((num lk 3 (p + 1)).2 + 1)).1 < 0 then (none, (num lk 3 ((num lk 3 (p + 1)).2 + 1)).2)
  else if (num lk 3 ((num lk 3 (p + 1)).2 + 1)).1 < (num lk 3 (p + 1)).1 then (none, (num lk 3 ((num lk 3 (p + 1)).2 + 1)).2 - 1)
  else (some ((num lk 3 (p + 1)).1, (num lk 3 ((num lk 3 (p + 1)).2 + 1)).1), (num lk 3 ((num lk 3 (p + 1)).2 + 1)).2)
theorem br_0 {lk : Int → Int} {p : Int} (h : lk p ≠ 120) : brG lk p = (some (-1, -1), p) := if_pos h
theorem br_1 {lk : Int → Int} {p : Int} (h : lk p = 120) (g : (num lk 3 (p + 1)).1 < 0 ∨ lk (num lk 3 (p + 1)).2 ≠ 45) : brG lk p = (none, (num lk 3 (p + 1)).2) := by unfold brG; rw [if_neg (fun o => o h), if_pos g]
theorem br_2 {lk : Int → Int} {p : Int} (h : lk p = 120) (g : ¬ ((num lk 3 (p + 1)).1 < 0 ∨ lk (num lk 3 (p + 1)).2 ≠ 45)) (k : (num lk 3 ((num lk 3 (p + 1)).2 + 1)).1 < 0) : brG lk p = (none, (num lk 3 ((num lk 3 (p + 1)).2 + 1)).2) := by unfold brG; rw [if_neg (fun o => o h), if_neg g, if_pos k]
theorem br_3 {lk : Int → Int} {p : Int} (h : lk p = 120) (g : ¬ ((num lk 3 (p + 1)).1 < 0 ∨ lk (num lk 3 (p + 1)).2 ≠ 45)) (k : ¬ (num lk 3 ((num lk 3 (p + 1)).2 + 1)).1 < 0) (k2 : (num lk 3 ((num lk 3 (p + 1)).2 + 1)).1 < (num lk 3 (p + 1)).1) : brG lk p = (none, (num lk 3 ((num lk 3 (p + 1)).2 + 1)).2 - 1) := by unfold brG; rw [if_neg (fun o => o h), if_neg g, if_neg k, if_pos k2]
theorem br_4 {lk : Int → Int} {p : Int} (h : lk p = 120) (g : ¬ ((num lk 3 (p + 1)).1 < 0 ∨ lk (num lk 3 (p + 1)).2 ≠ 45)) (k : ¬ (num lk 3 ((num lk 3 (p + 1)).2 + 1)).1 < 0) (k2 : ¬ (num lk 3 ((num lk 3 (p + 1)).2 + 1)).1 < (num lk 3 (p + 1)).1) : brG lk p = (some ((num lk 3 (p + 1)).1, (num lk 3 ((num lk 3 (p + 1)).2 + 1)).1), (num lk 3 ((num lk 3 (p + 1)).2 + 1)).2) := by unfold brG; rw [if_neg (fun o => o h), if_neg g, if_neg k, if_neg k2]
def mkL (lk : Int → Int) (x : Int) (p n q : Int) (ft : Int × Int) : LnT := fun j => if j = 0 then x else if j = 1 then n else if j = 2 then mkS lk q else if j = 3 then mkD lk q else if j = 4 then ft.1 else if j = 5 then ft.2 else wtG lk p n (j - 16)
theorem mkL_w {lk : Int → Int} {x p n q h : Int} {ft : Int × Int} (h0 : 0 ≤ h) : mkL lk x p n q ft (16 + h) = wtG lk p n h := by
  unfold mkL
  rw [if_neg (by omega), if_neg (by omega), if_neg (by omega), if_neg (by omega), if_neg (by omega), if_neg (by omega), show 16 + h - 16 = h by omega]
def lnG (lk : Int → Int) (p : Int) : Option LnT × Int :=
  if lk p ≠ 115 then (none, p)
  else if (num lk 2 (p + 1)).1 < 0 ∨ lk (num lk 2 (p + 1)).2 ≠ 58 then (none, (num lk 2 (p + 1)).2)
  else match (sdG lk ((num lk 2 (p + 1)).2 + 1)).1 with
    | none => (none, (sdG lk ((num lk 2 (p + 1)).2 + 1)).2)
    | some n => match (brG lk (mkQ lk (sdG lk ((num lk 2 (p + 1)).2 + 1)).2)).1 with
      | none => (none, (brG lk (mkQ lk (sdG lk ((num lk 2 (p + 1)).2 + 1)).2)).2)
      | some ft => (some (mkL lk (num lk 2 (p + 1)).1 ((num lk 2 (p + 1)).2 + 1) n (sdG lk ((num lk 2 (p + 1)).2 + 1)).2 ft), (brG lk (mkQ lk (sdG lk ((num lk 2 (p + 1)).2 + 1)).2)).2)
theorem ln_0 {lk : Int → Int} {p : Int} (h : lk p ≠ 115) : lnG lk p = (none, p) := if_pos h
theorem ln_1 {lk : Int → Int} {p : Int} (h : lk p = 115) (g : (num lk 2 (p + 1)).1 < 0 ∨ lk (num lk 2 (p + 1)).2 ≠ 58) : lnG lk p = (none, (num lk 2 (p + 1)).2) := by unfold lnG; rw [if_neg (fun o => o h), if_pos g]
theorem ln_2 {lk : Int → Int} {p : Int} (h : lk p = 115) (g : ¬ ((num lk 2 (p + 1)).1 < 0 ∨ lk (num lk 2 (p + 1)).2 ≠ 58)) (k : (sdG lk ((num lk 2 (p + 1)).2 + 1)).1 = none) : lnG lk p = (none, (sdG lk ((num lk 2 (p + 1)).2 + 1)).2) := by unfold lnG; rw [if_neg (fun o => o h), if_neg g, k]
theorem ln_3 {lk : Int → Int} {p : Int} {n : Nat} (h : lk p = 115) (g : ¬ ((num lk 2 (p + 1)).1 < 0 ∨ lk (num lk 2 (p + 1)).2 ≠ 58)) (k : (sdG lk ((num lk 2 (p + 1)).2 + 1)).1 = some n) (k2 : (brG lk (mkQ lk (sdG lk ((num lk 2 (p + 1)).2 + 1)).2)).1 = none) : lnG lk p = (none, (brG lk (mkQ lk (sdG lk ((num lk 2 (p + 1)).2 + 1)).2)).2) := by
  unfold lnG
  rw [if_neg (fun o => o h), if_neg g, k]
  show (match (brG lk (mkQ lk (sdG lk ((num lk 2 (p + 1)).2 + 1)).2)).1 with
      | none => (none, (brG lk (mkQ lk (sdG lk ((num lk 2 (p + 1)).2 + 1)).2)).2)
      | some ft => (some (mkL lk (num lk 2 (p + 1)).1 ((num lk 2 (p + 1)).2 + 1) n (sdG lk ((num lk 2 (p + 1)).2 + 1)).2 ft), (brG lk (mkQ lk (sdG lk ((num lk 2 (p + 1)).2 + 1)).2)).2) : Option LnT × Int) = _
  rw [k2]
theorem ln_4 {lk : Int → Int} {p : Int} {n : Nat} {ft : Int × Int} (h : lk p = 115) (g : ¬ ((num lk 2 (p + 1)).1 < 0 ∨ lk (num lk 2 (p + 1)).2 ≠ 58)) (k : (sdG lk ((num lk 2 (p + 1)).2 + 1)).1 = some n) (k2 : (brG lk (mkQ lk (sdG lk ((num lk 2 (p + 1)).2 + 1)).2)).1 = some ft) : lnG lk p = (some (mkL lk (num lk 2 (p + 1)).1 ((num lk 2 (p + 1)).2 + 1) n (sdG lk ((num lk 2 (p + 1)).2 + 1)).2 ft), (brG lk (mkQ lk (sdG lk ((num lk 2 (p + 1)).2 + 1)).2)).2) := by
  unfold lnG
  rw [if_neg (fun o => o h), if_neg g, k]
  show (match (brG lk (mkQ lk (sdG lk ((num lk 2 (p + 1)).2 + 1)).2)).1 with
      | none => (none, (brG lk (mkQ lk (sdG lk ((num lk 2 (p + 1)).2 + 1)).2)).2)
      | some ft => (some (mkL lk (num lk 2 (p + 1)).1 ((num lk 2 (p + 1)).2 + 1) n (sdG lk ((num lk 2 (p + 1)).2 + 1)).2 ft), (brG lk (mkQ lk (sdG lk ((num lk 2 (p + 1)).2 + 1)).2)).2) : Option LnT × Int) = _
  rw [k2]
def LnOK (r : LnT) : Prop := (0 ≤ r 0 ∧ r 0 ≤ 99) ∧ (1 ≤ r 1 ∧ r 1 ≤ 8) ∧ (-1 ≤ r 2 ∧ r 2 ≤ 1) ∧ (r 3 = 0 ∨ r 3 = 1) ∧ barOK (r 4) (r 5) ∧ ∀ h : Int, 0 ≤ h → h < 16 → 0 ≤ r (16 + h) ∧ r (16 + h) ≤ 9 ∧ (r 1 ≤ h % 8 → r (16 + h) = 0)
theorem slG_rng (c : Int) : -1 ≤ slG c ∧ slG c ≤ 1 := by
  unfold slG
  split
  · decide
  split <;> decide
theorem dG_rng (c : Int) : dG c = 0 ∨ dG c = 1 := by
  unfold dG
  split
  · exact Or.inr rfl
  · exact Or.inl rfl
theorem sd_ok {lk : Int → Int} {p : Int} {n : Nat} (h : (sdG lk p).1 = some n) : 1 ≤ n ∧ n ≤ 8 ∧ ∀ t : Int, 0 ≤ t → t < 16 → 0 ≤ wtG lk p n t ∧ wtG lk p n t ≤ 9 ∧ ((n : Int) ≤ t % 8 → wtG lk p n t = 0) := by
  by_cases c1 : dgN lk 8 p = 0 ∨ lk (p + (dgN lk 8 p : Int)) ≠ 47
  · rw [sd_1 c1] at h; cases h
  · by_cases c2 : dgN lk (dgN lk 8 p) (p + (dgN lk 8 p : Int) + 1) = dgN lk 8 p
    · rw [sd_3 c1 c2] at h
      have h := Option.some.inj h
      have l8 := dgN_le (lk := lk) 8 p
      have d1 := dgN_dig (lk := lk) 8 p
      have d2 := dgN_dig (lk := lk) (dgN lk 8 p) (p + (dgN lk 8 p : Int) + 1)
      rw [c2] at d2
      rw [h] at c1 l8 d1 d2
      refine ⟨by omega, l8, fun t t0 t1 => ?_⟩
      unfold wtG
      by_cases e : t < 8
      · rw [if_pos e]
        by_cases e2 : t < n
        · rw [if_pos e2]
          have := d1 t t0 e2
          omega
        · rw [if_neg e2]; omega
      · rw [if_neg e]
        by_cases e2 : t - 8 < n
        · rw [if_pos e2]
          have := d2 (t - 8) (by omega) e2
          omega
        · rw [if_neg e2]; omega
    · rw [sd_2 c1 c2] at h; cases h
theorem br_ok {a : Mem} {L p : Int} {ft : Int × Int} (hp : p ≤ L) (h : (brG (lkA a L) p).1 = some ft) : barOK ft.1 ft.2 := by
  by_cases c0 : lkA a L p = 120
  · have pL := (lk_pos (show 0 ≤ lkA a L p by omega)).1
    by_cases c1 : (num (lkA a L) 3 (p + 1)).1 < 0 ∨ lkA a L (num (lkA a L) 3 (p + 1)).2 ≠ 45
    · rw [br_1 c0 c1] at h; cases h
    · have g45 : lkA a L (num (lkA a L) 3 (p + 1)).2 = 45 := by omega
      have qL := (lk_pos (show 0 ≤ lkA a L (num (lkA a L) 3 (p + 1)).2 by omega)).1
      have n1 := (num_ok (a := a) (L := L) (k := 3) (i := p + 1) (by decide) (by omega)).2.1
      have n2 := (num_ok (a := a) (L := L) (k := 3) (i := (num (lkA a L) 3 (p + 1)).2 + 1) (by decide) (by omega)).2.1
      have e3 : (10 : Int) ^ 3 = 1000 := by decide
      by_cases c2 : (num (lkA a L) 3 ((num (lkA a L) 3 (p + 1)).2 + 1)).1 < 0
      · rw [br_2 c0 c1 c2] at h; cases h
      · by_cases c3 : (num (lkA a L) 3 ((num (lkA a L) 3 (p + 1)).2 + 1)).1 < (num (lkA a L) 3 (p + 1)).1
        · rw [br_3 c0 c1 c2 c3] at h; cases h
        · rw [br_4 c0 c1 c2 c3] at h
          have h := Option.some.inj h
          rw [← h]
          exact Or.inr ⟨by dsimp only; omega, by dsimp only; omega, by dsimp only; omega⟩
  · rw [br_0 c0] at h
    have h := Option.some.inj h
    rw [← h]
    exact Or.inl ⟨rfl, rfl⟩
theorem sd_pos {a : Mem} {L p : Int} (hp : p ≤ L) : p ≤ (sdG (lkA a L) p).2 ∧ (sdG (lkA a L) p).2 ≤ L := by
  have d1 := dgN_L (a := a) (L := L) 8 p hp
  by_cases c1 : dgN (lkA a L) 8 p = 0 ∨ lkA a L (p + (dgN (lkA a L) 8 p : Int)) ≠ 47
  · rw [sd_1 c1]
    exact ⟨by dsimp only; omega, d1⟩
  · have q := (lk_pos (show 0 ≤ lkA a L (p + (dgN (lkA a L) 8 p : Int)) by omega)).1
    have d2 := dgN_L (a := a) (L := L) (dgN (lkA a L) 8 p) (p + (dgN (lkA a L) 8 p : Int) + 1) (by omega)
    by_cases c2 : dgN (lkA a L) (dgN (lkA a L) 8 p) (p + (dgN (lkA a L) 8 p : Int) + 1) = dgN (lkA a L) 8 p
    · rw [sd_3 c1 c2]
      rw [c2] at d2
      exact ⟨by dsimp only; omega, d2⟩
    · rw [sd_2 c1 c2]
      exact ⟨by dsimp only; omega, d2⟩
theorem mkQ_pos {a : Mem} {L q : Int} (hq : q ≤ L) : q ≤ q + mkD (lkA a L) q ∧ q + mkD (lkA a L) q ≤ L ∧ q ≤ mkQ (lkA a L) q ∧ mkQ (lkA a L) q ≤ L := by
  have e1 : 0 ≤ mkD (lkA a L) q ∧ q + mkD (lkA a L) q ≤ L := by
    unfold mkD dG
    split
    · rename_i g
      have := (lk_pos (show 0 ≤ lkA a L q by omega)).1
      omega
    · omega
  have e2 : q + mkD (lkA a L) q + (if mkS (lkA a L) q = 0 then 0 else 1) ≤ L := by
    split
    · omega
    · rename_i g
      have : lkA a L (q + mkD (lkA a L) q) = 117 ∨ lkA a L (q + mkD (lkA a L) q) = 100 := by
        unfold mkS slG at g
        split at g
        · rename_i c; exact Or.inl c
        · split at g
          · rename_i c; exact Or.inr c
          · exact absurd rfl g
      have := (lk_pos (show 0 ≤ lkA a L (q + mkD (lkA a L) q) by omega)).1
      omega
  have e3 : 0 ≤ (if mkS (lkA a L) q = 0 then (0 : Int) else 1) := by split <;> decide
  unfold mkQ
  omega
theorem ln_ok {a : Mem} {L p : Int} {r : LnT} (hp : p ≤ L) (h : (lnG (lkA a L) p).1 = some r) : LnOK r := by
  by_cases c0 : lkA a L p = 115
  · have pL := (lk_pos (show 0 ≤ lkA a L p by omega)).1
    by_cases c1 : (num (lkA a L) 2 (p + 1)).1 < 0 ∨ lkA a L (num (lkA a L) 2 (p + 1)).2 ≠ 58
    · rw [ln_1 c0 c1] at h; cases h
    · have nx := num_ok (a := a) (L := L) (k := 2) (i := p + 1) (by decide) (by omega)
      have e3 : (10 : Int) ^ 2 = 100 := by decide
      have qL := (lk_pos (show 0 ≤ lkA a L (num (lkA a L) 2 (p + 1)).2 by omega)).1
      rcases hs : (sdG (lkA a L) ((num (lkA a L) 2 (p + 1)).2 + 1)).1 with _ | n
      · rw [ln_2 c0 c1 hs] at h; cases h
      · have sp := sd_pos (a := a) (L := L) (p := (num (lkA a L) 2 (p + 1)).2 + 1) (by omega)
        have mq := mkQ_pos (a := a) (L := L) (q := (sdG (lkA a L) ((num (lkA a L) 2 (p + 1)).2 + 1)).2) sp.2
        rcases hb : (brG (lkA a L) (mkQ (lkA a L) (sdG (lkA a L) ((num (lkA a L) 2 (p + 1)).2 + 1)).2)).1 with _ | ft
        · rw [ln_3 c0 c1 hs hb] at h; cases h
        · rw [ln_4 c0 c1 hs hb] at h
          have h := Option.some.inj h
          have so := sd_ok hs
          have bo := br_ok mq.2.2.2 hb
          rw [← h]
          refine ⟨?_, ?_, slG_rng _, dG_rng _, bo, fun t t0 t1 => ?_⟩
          · show 0 ≤ (num (lkA a L) 2 (p + 1)).1 ∧ (num (lkA a L) 2 (p + 1)).1 ≤ 99
            omega
          · show 1 ≤ (n : Int) ∧ (n : Int) ≤ 8
            omega
          · rw [mkL_w t0]
            exact so.2.2 t t0 t1
  · rw [ln_0 c0] at h; cases h
