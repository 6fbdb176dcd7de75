/-! THE FRAME: one world for all (class, reference, law), its cells numbered in the order in which they are made; memory as numbers -/
abbrev Mem : Type := Nat → Int → Int
def iI (z : Int) : Int32 := Int32.ofInt z
def iL (z : Int) : Int64 := Int64.ofInt z
abbrev vi (z : Int) : Value := .int (iI z)
abbrev vl (z : Int) : Value := .long (iL z)
abbrev un : Value := .retAddr 0
def cv (A : Nat → Nat) : Value → Value
  | .ref k => .ref (A k)
  | .int x => .int x
  | .long x => .long x
  | .float x => .float x
  | .double x => .double x
  | .null => .null
  | .retAddr x => .retAddr x
def kn : Value → Bool
  | .retAddr _ => false
  | _ => true
theorem cv_cat (A : Nat → Nat) (v : Value) : (cv A v).category = v.category := by cases v <;> rfl
theorem cv_cats (A : Nat → Nat) (st : List Value) : ((st.map (cv A)).map fun v => v.category).sum = (st.map fun v => v.category).sum := by
  induction st with
  | nil => rfl
  | cons v st ih => simp only [List.map_cons, List.sum_cons, ih, cv_cat]
/-! numbers -/
theorem iI_toInt {z : Int} (h1 : -2147483648 ≤ z) (h2 : z < 2147483648) : (iI z).toInt = z := Int32.toInt_ofInt_of_le (by omega) (by omega)
theorem iI_add (a b : Int) : iI (a + b) = iI a + iI b := Int32.ofInt_add a b
theorem iI_sub (a b : Int) : iI (a - b) = iI a - iI b := Int32.ofInt_sub a b
theorem iI_mul (a b : Int) : iI (a * b) = iI a * iI b := Int32.ofInt_mul a b
theorem iI_neg (a : Int) : iI (-a) = -iI a := Int32.ofInt_neg a
theorem iI_of (x : Int32) : iI x.toInt = x := Int32.ofInt_toInt x
theorem iI_rng (x : Int32) : -2147483648 ≤ x.toInt ∧ x.toInt < 2147483648 := ⟨Int32.le_toInt x, Int32.toInt_lt x⟩
theorem iI_lt {a b : Int} (ha : -2147483648 ≤ a ∧ a < 2147483648) (hb : -2147483648 ≤ b ∧ b < 2147483648) : iI a < iI b ↔ a < b := by
  rw [Int32.lt_iff_toInt_lt, iI_toInt ha.1 ha.2, iI_toInt hb.1 hb.2]
theorem iI_le {a b : Int} (ha : -2147483648 ≤ a ∧ a < 2147483648) (hb : -2147483648 ≤ b ∧ b < 2147483648) : iI a ≤ iI b ↔ a ≤ b := by
  rw [Int32.le_iff_toInt_le, iI_toInt ha.1 ha.2, iI_toInt hb.1 hb.2]
theorem iI_eq {a b : Int} (ha : -2147483648 ≤ a ∧ a < 2147483648) (hb : -2147483648 ≤ b ∧ b < 2147483648) : iI a = iI b ↔ a = b := by
  constructor
  · intro h
    have := congrArg Int32.toInt h
    rwa [iI_toInt ha.1 ha.2, iI_toInt hb.1 hb.2] at this
  · rintro rfl; rfl
theorem iL_toInt {z : Int} (h1 : -9223372036854775808 ≤ z) (h2 : z < 9223372036854775808) : (iL z).toInt = z := Int64.toInt_ofInt_of_le (by omega) (by omega)
theorem iL_add (a b : Int) : iL (a + b) = iL a + iL b := Int64.ofInt_add a b
theorem iL_sub (a b : Int) : iL (a - b) = iL a - iL b := Int64.ofInt_sub a b
theorem iL_mul (a b : Int) : iL (a * b) = iL a * iL b := Int64.ofInt_mul a b
theorem iI_clamp {z : Int} (h0 : 0 ≤ z) (h1 : z < 2147483648) : (iI z).toNatClampNeg = z.toNat := by
  rw [Int32.toNatClampNeg, iI_toInt (by omega) h1]
theorem iI_in {z : Int} {n : Nat} (h0 : 0 ≤ z) (h1 : z < n) (hn : n < 2147483648) : vp_in (iI z) n := by
  rw [vp_in_iff, iI_toInt (by omega) (by omega)]
  exact ⟨h0, h1⟩
/-! locals: a list by places; 'un' at a place of which nothing is said -/
def lvs (A : Nat → Nat) (lv : List Value) : List (Nat × Value) := (List.range lv.length).filterMap (fun i => match lv[i]? with
  | some v => if kn v = true then some (i, cv A v) else none
  | none => none)
theorem mem_lvs {A : Nat → Nat} {lv : List Value} {i : Nat} {w : Value} : (i, w) ∈ lvs A lv ↔ ∃ v, lv[i]? = some v ∧ kn v = true ∧ w = cv A v := by
  unfold lvs
  rw [List.mem_filterMap]
  constructor
  · rintro ⟨j, hj, h⟩
    rcases hv : lv[j]? with _ | v
    · rw [hv] at h; cases h
    · rw [hv] at h
      by_cases hk : kn v = true
      · simp only [hk, if_true, Option.some.injEq, Prod.mk.injEq] at h
        obtain ⟨rfl, rfl⟩ := h
        exact ⟨v, hv, hk, rfl⟩
      · simp only [hk] at h
        cases h
  · rintro ⟨v, hv, hk, rfl⟩
    refine ⟨i, List.mem_range.mpr (List.getElem?_eq_some_iff.mp hv).1, ?_⟩
    rw [hv]
    simp only [hk, if_true]
theorem lvs_get {A : Nat → Nat} {ls : Array Slot} {n : Nat} {lv : List Value} {i : Nat} {v : Value} (h : lv_has ls n (lvs A lv)) (hi : lv[i]? = some v) (hk : kn v = true) : ls[i]? = some (.val (cv A v)) :=
  h.2.2 (i, cv A v) (mem_lvs.mpr ⟨v, hi, hk, rfl⟩)
def isL : Value → Bool
  | .long _ => true
  | _ => false
def lkill (lv : List Value) (i : Nat) : List Value := match i with
  | 0 => lv
  | j + 1 => match lv[j]? with
    | some w => if w.category = 2 then lv.set j un else lv
    | none => lv
def lset (lv : List Value) (i : Nat) (v : Value) : List Value := if v.category = 2 then ((lkill lv i).set i v).set (i + 1) un else (lkill lv i).set i v
theorem lkill_get {lv : List Value} {i j : Nat} {w : Value} (h : (lkill lv i)[j]? = some w) (hk : kn w = true) : lv[j]? = some w ∧ ¬ (j + 1 = i ∧ w.category = 2) := by
  unfold lkill at h
  match i, h with
  | 0, h => exact ⟨h, by omega⟩
  | k + 1, h =>
    simp only at h
    rcases hv : lv[k]? with _ | x
    · rw [hv] at h
      refine ⟨h, ?_⟩
      rintro ⟨e, -⟩
      have : j = k := by omega
      subst this
      simp only at h
      rw [hv] at h; cases h
    · rw [hv] at h
      by_cases hc : x.category = 2
      · simp only [hc, if_true] at h
        rw [List.getElem?_set] at h
        by_cases e : k = j
        · subst e
          simp only [if_true] at h
          split at h
          · cases h; cases hk
          · cases h
        · rw [if_neg e] at h
          exact ⟨h, by omega⟩
      · simp only [hc, if_false] at h
        refine ⟨h, ?_⟩
        rintro ⟨e, he⟩
        have : j = k := by omega
        subst this
        rw [hv] at h
        cases h
        exact hc he
theorem lv_has.mono {ls : Array Slot} {n : Nat} {l l' : List (Nat × Value)} (h : lv_has ls n l) (hs : ∀ q ∈ l', q ∈ l) : lv_has ls n l' := ⟨h.1, h.2.1, fun q hq => h.2.2 q (hs q hq)⟩
theorem lset_1 {A : Nat → Nat} {lv : List Value} {i : Nat} {v : Value} (hc : v.category = 1) : ∀ q ∈ lvs A (lset lv i v), q ∈ (i, cv A v) :: (lvs A lv).filter (fun q => !(q.1 == i) && !(q.1 + 1 == i && q.2.category == 2)) := by
  rintro ⟨j, w⟩ hq
  obtain ⟨x, hx, hk, rfl⟩ := mem_lvs.mp hq
  unfold lset at hx
  rw [if_neg (by omega), List.getElem?_set] at hx
  by_cases e : i = j
  · subst e
    simp only [if_true] at hx
    split at hx
    · cases hx; exact List.mem_cons_self
    · cases hx
  · rw [if_neg e] at hx
    obtain ⟨h1, h2⟩ := lkill_get hx hk
    refine List.mem_cons_of_mem _ (List.mem_filter.mpr ⟨mem_lvs.mpr ⟨x, h1, hk, rfl⟩, ?_⟩)
    simp only [cv_cat, Bool.and_eq_true, Bool.not_eq_true', beq_eq_false_iff_ne, ne_eq, Bool.and_eq_false_iff]
    refine ⟨fun h => e h.symm, ?_⟩
    by_cases h3 : j + 1 = i
    · exact Or.inr (fun h => h2 ⟨h3, h⟩)
    · exact Or.inl h3
theorem lset_2 {A : Nat → Nat} {lv : List Value} {i : Nat} {v : Value} (hc : v.category = 2) : ∀ q ∈ lvs A (lset lv i v), q ∈ (i, cv A v) :: (lvs A lv).filter (fun q => !(q.1 == i) && (!(q.1 == i + 1) && !(q.1 + 1 == i && q.2.category == 2))) := by
  rintro ⟨j, w⟩ hq
  obtain ⟨x, hx, hk, rfl⟩ := mem_lvs.mp hq
  unfold lset at hx
  rw [if_pos hc, List.getElem?_set] at hx
  by_cases e2 : i + 1 = j
  · rw [if_pos e2] at hx
    split at hx
    · cases hx; cases hk
    · cases hx
  rw [if_neg e2, List.getElem?_set] at hx
  by_cases e : i = j
  · subst e
    simp only [if_true] at hx
    split at hx
    · cases hx; exact List.mem_cons_self
    · cases hx
  · rw [if_neg e] at hx
    obtain ⟨h1, h2⟩ := lkill_get hx hk
    refine List.mem_cons_of_mem _ (List.mem_filter.mpr ⟨mem_lvs.mpr ⟨x, h1, hk, rfl⟩, ?_⟩)
    simp only [cv_cat, Bool.and_eq_true, Bool.not_eq_true', beq_eq_false_iff_ne, ne_eq, Bool.and_eq_false_iff]
    refine ⟨fun h => e h.symm, fun h => e2 h.symm, ?_⟩
    by_cases h3 : j + 1 = i
    · exact Or.inr (fun h => h2 ⟨h3, h⟩)
    · exact Or.inl h3
/-! the cells -/
def kdOf (d : String) : Nat := if d = "I" ∨ d = "Z" then 0 else if d = "J" then 1 else 2
def NFc (ci : Nat) : Nat := match vwCl[ci]? with
  | some r => r.2.2
  | none => 0
def kd (ci j : Nat) : Nat := match vwCl[ci]? with
  | some r => kdOf (r.2.1 j).2.2.1
  | none => 2
abbrev Rho : Type := Nat → Int → Option Nat
def rfv (ρ : Rho) (A : Nat → Nat) (mem : Mem) (k : Nat) (j : Int) : Option Nat := match ρ k j with
  | some t => some (A t)
  | none => if mem k j < 0 then none else some (A (mem k j).toNat)
def fv (ρ : Rho) (A : Nat → Nat) (q : Nat) (mem : Mem) (k : Nat) (j : Int) : Value := match q with
  | 0 => .int (iI (mem k j))
  | 1 => .long (iL (mem k j))
  | _ => va_rf (rfv ρ A mem k j)
def ar (ρ : Rho) (A : Nat → Nat) (t : Nat) (mem : Mem) (k : Nat) : (Nat → Int32) ⊕ (Nat → Int64) ⊕ (Nat → UInt32) ⊕ (Nat → UInt64) ⊕ (Nat → Option Nat) := match t with
  | 0 => .inl fun j => iI (mem k j)
  | 1 => .inl fun j => iI (mem k j)
  | 2 => .inr (.inl fun j => iL (mem k j))
  | _ => .inr (.inr (.inr (.inr fun j => rfv ρ A mem k j)))
abbrev Shp : Type := Nat ⊕ (Nat × Nat)
def cel (ρ : Rho) (A : Nat → Nat) (cA : Nat → ClassId) (mem : Mem) (k : Nat) : Shp → va_E
  | .inl ci => .inr (ci, (List.range (NFc ci)).map (fun j => fv ρ A (kd ci j) mem k (j : Int)))
  | .inr tn => .inl (cA tn.1, tn.2, ar ρ A tn.1 mem k)
/-- which kinds of arrays there are: int, boolean, long, and of references -/
def aty : List FieldType := [.int, .boolean, .long, .object "BinsBothSides$Street", .object "BinsBothSides$State", .object "BinsBothSides$Job"]
def tyc (cA : Nat → ClassId) : List (ClassId × FieldType) := [(cA 0, .int), (cA 1, .boolean), (cA 2, .long), (cA 3, .object "BinsBothSides$Street"), (cA 4, .object "BinsBothSides$State"), (cA 5, .object "BinsBothSides$Job")]
/-- all cells, in the order in which they are made: an object (which class), or an array (of what kind, how long) -/
def SH : List Shp := [.inl 11, .inl 9, .inr (0, 80), .inl 6, .inr (0, 7), .inl 5, .inr (0, 40), .inr (0, 40), .inr (0, 40), .inl 10, .inr (3, 6), .inl 8, .inr (0, 16), .inl 8, .inr (0, 16), .inl 8, .inr (0, 16), .inl 8, .inr (0, 16), .inl 8, .inr (0, 16), .inl 8, .inr (0, 16), .inl 7, .inr (0, 6), .inr (0, 6), .inr (0, 6), .inl 1, .inr (4, 15), .inl 7, .inr (0, 6), .inr (0, 6), .inr (0, 6), .inl 7, .inr (0, 6), .inr (0, 6), .inr (0, 6), .inl 7, .inr (0, 6), .inr (0, 6), .inr (0, 6), .inl 7, .inr (0, 6), .inr (0, 6), .inr (0, 6), .inl 7, .inr (0, 6), .inr (0, 6), .inr (0, 6), .inl 7, .inr (0, 6), .inr (0, 6), .inr (0, 6), .inl 7, .inr (0, 6), .inr (0, 6), .inr (0, 6), .inl 7, .inr (0, 6), .inr (0, 6), .inr (0, 6), .inl 7, .inr (0, 6), .inr (0, 6), .inr (0, 6), .inl 7, .inr (0, 6), .inr (0, 6), .inr (0, 6), .inl 7, .inr (0, 6), .inr (0, 6), .inr (0, 6), .inl 7, .inr (0, 6), .inr (0, 6), .inr (0, 6), .inl 7, .inr (0, 6), .inr (0, 6), .inr (0, 6), .inl 7, .inr (0, 6), .inr (0, 6), .inr (0, 6), .inl 7, .inr (0, 6), .inr (0, 6), .inr (0, 6), .inl 7, .inr (0, 6), .inr (0, 6), .inr (0, 6), .inl 3, .inr (0, 10), .inr (0, 10), .inr (0, 6), .inr (0, 10), .inr (0, 6), .inr (0, 6), .inl 2, .inr (0, 8), .inr (0, 16), .inr (0, 16), .inr (0, 16), .inr (0, 3), .inl 4, .inr (5, 6), .inr (0, 6), .inr (0, 6), .inr (0, 6), .inl 2, .inr (0, 8), .inr (0, 16), .inr (0, 16), .inr (0, 16), .inr (0, 3), .inl 2, .inr (0, 8), .inr (0, 16), .inr (0, 16), .inr (0, 16), .inr (0, 3), .inl 2, .inr (0, 8), .inr (0, 16), .inr (0, 16), .inr (0, 16), .inr (0, 3), .inl 2, .inr (0, 8), .inr (0, 16), .inr (0, 16), .inr (0, 16), .inr (0, 3), .inl 2, .inr (0, 8), .inr (0, 16), .inr (0, 16), .inr (0, 16), .inr (0, 3), .inl 2, .inr (0, 8), .inr (0, 16), .inr (0, 16), .inr (0, 16), .inr (0, 3), .inl 0, .inr (0, 6), .inr (0, 7), .inr (0, 6), .inr (0, 6), .inr (0, 6), .inr (4, 3), .inl 7, .inr (0, 6), .inr (0, 6), .inr (0, 6), .inl 7, .inr (0, 6), .inr (0, 6), .inr (0, 6), .inl 7, .inr (0, 6), .inr (0, 6), .inr (0, 6), .inr (0, 3), .inr (0, 30), .inr (2, 6), .inl 12, .inr (2, 24), .inr (0, 6), .inr (0, 6), .inr (0, 6), .inr (1, 6), .inr (0, 6), .inr (0, 6), .inr (0, 6), .inr (0, 96), .inr (0, 7), .inr (0, 99), .inr (0, 99), .inr (0, 80), .inr (0, 36), .inr (0, 96), .inr (0, 80), .inr (0, 80), .inr (0, 80), .inr (0, 8), .inr (0, 99), .inr (0, 1584), .inr (0, 60), .inr (0, 60), .inr (0, 60), .inr (0, 16), .inr (0, 6), .inr (0, 6), .inr (0, 7), .inr (0, 6), .inr (0, 6), .inr (0, 6), .inr (0, 10), .inr (0, 10), .inr (0, 6), .inr (0, 6), .inr (1, 3), .inr (0, 3), .inr (0, 297), .inr (2, 1)]
def Ws (ρ : Rho) (A : Nat → Nat) (cA : Nat → ClassId) (mem : Mem) (nw : Nat) : va_W := (List.range nw).map (fun k => (A k, cel ρ A cA mem k (SH.getD k (.inl 0))))
theorem Ws_get {ρ : Rho} {A : Nat → Nat} {cA : Nat → ClassId} {mem : Mem} {nw k : Nat} {e : Shp} (hk : k < nw) (hs : SH[k]? = some e) : (Ws ρ A cA mem nw)[k]? = some (A k, cel ρ A cA mem k e) := by
  unfold Ws
  rw [List.getElem?_map, List.getElem?_range hk]
  simp only [Option.map_some, List.getD_eq_getElem?_getD, hs, Option.getD_some]
def up2 (mem : Mem) (k : Nat) (j z : Int) : Mem := fun a b => if a = k ∧ b = j then z else mem a b
theorem up2_same (mem : Mem) (k : Nat) (j z : Int) : up2 mem k j z k j = z := by simp [up2]
theorem up2_k {mem : Mem} {k a : Nat} {j z : Int} (h : a ≠ k) : up2 mem k j z a = mem a := by
  funext b; simp [up2, h]
theorem up2_j {mem : Mem} {k a : Nat} {j b z : Int} (h : b ≠ j) : up2 mem k j z a b = mem a b := by
  simp [up2, h]
theorem cel_k {ρ : Rho} {A : Nat → Nat} {cA : Nat → ClassId} {mem mem' : Mem} {k : Nat} (h : mem' k = mem k) (e : Shp) : cel ρ A cA mem' k e = cel ρ A cA mem k e := by
  have h1 : ∀ j, rfv ρ A mem' k j = rfv ρ A mem k j := fun j => by unfold rfv; rw [h]
  cases e with
  | inl ci =>
    simp only [cel]
    congr 2
    refine List.map_congr_left fun j _ => ?_
    unfold fv
    split <;> simp only [h, h1]
  | inr tn =>
    simp only [cel]
    congr 3
    unfold ar
    split <;> simp only [h, h1]
theorem Ws_set {ρ : Rho} {A : Nat → Nat} {cA : Nat → ClassId} {mem mem' : Mem} {nw k : Nat} {e : Shp} {x : va_E} (hs : SH[k]? = some e) (ho : ∀ a, a ≠ k → mem' a = mem a) (hx : x = cel ρ A cA mem' k e) : (Ws ρ A cA mem nw).set k (A k, x) = Ws ρ A cA mem' nw := by
  apply List.ext_getElem?
  intro a
  rw [List.getElem?_set]
  unfold Ws
  by_cases e1 : k = a
  · subst e1
    simp only [List.length_map, List.length_range, if_true]
    split
    · rename_i h
      rw [List.getElem?_map, List.getElem?_range h]
      simp only [Option.map_some, List.getD_eq_getElem?_getD, hs, Option.getD_some, hx]
    · rename_i h
      rw [List.getElem?_eq_none (by simp; omega)]
  · rw [if_neg e1, List.getElem?_map, List.getElem?_map]
    rcases h : (List.range nw)[a]? with _ | b
    · rfl
    · simp only [Option.map_some]
      have : b = a := by
        rw [List.getElem?_eq_some_iff] at h
        obtain ⟨h1, h2⟩ := h
        simpa using h2.symm
      subst this
      rw [cel_k (ho _ (fun z => e1 z.symm))]
theorem fv_v {ρ : Rho} {A : Nat → Nat} {q : Nat} {mem : Mem} {k : Nat} {j : Int} : fv ρ A q mem k j = fv ρ A q mem k j := rfl
/-- the fields, one of them changed -/
theorem cel_put {ρ : Rho} {A : Nat → Nat} {cA : Nat → ClassId} {mem : Mem} {k ci j : Nat} {z : Int} {v : Value} (hv : v = fv ρ A (kd ci j) (up2 mem k j z) k (j : Int)) : (Sum.inr (ci, ((List.range (NFc ci)).map (fun j => fv ρ A (kd ci j) mem k (j : Int))).set j v) : va_E) = cel ρ A cA (up2 mem k j z) k (.inl ci) := by
  simp only [cel]
  congr 2
  apply List.ext_getElem?
  intro i
  rw [List.getElem?_set]
  by_cases e : j = i
  · subst e
    simp only [if_true, List.length_map, List.length_range]
    split
    · rename_i h
      rw [List.getElem?_map, List.getElem?_range h]
      simp only [Option.map_some, hv]
    · rename_i h
      rw [List.getElem?_eq_none (by simp; omega)]
  · rw [if_neg e, List.getElem?_map, List.getElem?_map]
    rcases h : (List.range (NFc ci))[i]? with _ | b
    · rfl
    · have : b = i := by
        rw [List.getElem?_eq_some_iff] at h
        obtain ⟨h1, h2⟩ := h
        simpa using h2.symm
      subst this
      simp only [Option.map_some, Option.some.injEq]
      have hne : (b : Int) ≠ (j : Int) := by omega
      have h1 : rfv ρ A (up2 mem k j z) k b = rfv ρ A mem k b := by unfold rfv; rw [up2_j hne]
      unfold fv
      split <;> simp only [h1, up2_j hne]
/-- is that place a reference? -/
def rsl (k : Nat) (j : Int) : Bool := match SH[k]? with
  | some (.inl ci) => kd ci j.toNat == 2
  | some (.inr tn) => decide (3 ≤ tn.1)
  | none => false
/-- references that the memory tells are of cells that are there -/
def WFm (ρ : Rho) (nw : Nat) (mem : Mem) : Prop := ∀ (k : Nat) (j : Int), k < nw → ρ k j = none → rsl k j = true → mem k j < nw
theorem WFm.put {ρ : Rho} {nw k : Nat} {mem : Mem} {j z : Int} (h : WFm ρ nw mem) (hz : rsl k j = false ∨ z < nw) : WFm ρ nw (up2 mem k j z) := by
  intro a b ha hr hb
  unfold up2
  split
  · rename_i e
    obtain ⟨rfl, rfl⟩ := e
    rcases hz with hz | hz
    · rw [hz] at hb; cases hb
    · exact hz
  · exact h a b ha hr hb
theorem rsl_obj {k ci : Nat} {j : Nat} (hs : SH[k]? = some (.inl ci)) (hk : kd ci j ≠ 2) : rsl k (j : Int) = false := by
  unfold rsl
  rw [hs]
  simpa using hk
theorem rsl_arr {k t n : Nat} {j : Int} (hs : SH[k]? = some (.inr (t, n))) (hk : t < 3) : rsl k j = false := by
  unfold rsl
  rw [hs]
  simpa using hk
def Wp (ρ : Rho) (D : va_G) (cA : Nat → ClassId) (A : Nat → Nat) (nw : Nat) (mem : Mem) (H : Heap) : Prop := va_P D vwCl (Ws ρ A cA mem nw) H ∧ WFm ρ nw mem
