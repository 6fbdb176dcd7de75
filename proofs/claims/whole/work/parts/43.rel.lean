/-! what the class holds against what the reference holds; sg: the reference's cells (rows 169 and on) -/
theorem up_loop {S : Type} {i0 n : Int} (Gp : Int → S → Prop) (I : Int → S → Prop) (hx : ∀ s, I n s → Gp n s) (hs : ∀ i s, i0 ≤ i → i < n → I i s → (∀ s', I (i + 1) s' → Gp (i + 1) s') → Gp i s) {i : Int} {s : S} (h0 : i0 ≤ i) (h1 : i ≤ n) (h : I i s) : Gp i s := by
  have key : ∀ (d : Nat) (i : Int) (s : S), i0 ≤ i → i + d = n → I i s → Gp i s := by
    intro d
    induction d with
    | zero => intro i s h0 h1 h; have e : i = n := by omega
              subst e; exact hx s h
    | succ d ih => intro i s h0 h1 h; exact hs i s h0 (by omega) h (fun s' h' => ih (i + 1) s' (by omega) (by omega) h')
  exact key (n - i).toNat i s h0 (by omega) h
theorem dn_loop {S : Type} {i1 : Int} (Gp : Int → S → Prop) (I : Int → S → Prop) (hx : ∀ s, I (-1) s → Gp (-1) s) (hs : ∀ i s, 0 ≤ i → i ≤ i1 → I i s → (∀ s', I (i - 1) s' → Gp (i - 1) s') → Gp i s) {i : Int} {s : S} (h0 : -1 ≤ i) (h1 : i ≤ i1) (h : I i s) : Gp i s := by
  have key : ∀ (d : Nat) (i : Int) (s : S), i ≤ i1 → i - d = -1 → I i s → Gp i s := by
    intro d
    induction d with
    | zero => intro i s h0 h1 h; have e : i = -1 := by omega
              subst e; exact hx s h
    | succ d ih => intro i s h0 h1 h; exact hs i s (by omega) h0 h (fun s' h' => ih (i - 1) s' (by omega) (by omega) h')
  exact key (i + 1).toNat i s h1 (by omega) h
/-- the reference's cells alone -/
def pj (m : Mem) : Mem := fun k => if 169 ≤ k then m k else fun _ => 0
theorem pj_hi {m : Mem} {k : Nat} (h : 169 ≤ k) : pj m k = m k := if_pos h
def HighEq (m m' : Mem) : Prop := ∀ k, 169 ≤ k → m' k = m k
def LowEq (m m' : Mem) : Prop := ∀ k, k < 169 → m' k = m k
theorem pj_of_high {m m' : Mem} (h : HighEq m m') : pj m' = pj m := by
  funext k
  unfold pj
  split
  · rename_i c; exact h k c
  · rfl
/-- cells that change -/
def Fr (L : List Nat) (m m' : Mem) : Prop := ∀ k, k ∉ L → m' k = m k
theorem Fr.rf {L : List Nat} {m : Mem} : Fr L m m := fun _ _ => rfl
theorem Fr.trans {L : List Nat} {m m1 m2 : Mem} (h : Fr L m m1) (h2 : Fr L m1 m2) : Fr L m m2 := fun k hk => (h2 k hk).trans (h k hk)
theorem Fr.mono {L L2 : List Nat} {m m1 : Mem} (h : Fr L m m1) (hs : ∀ k ∈ L, k ∈ L2) : Fr L2 m m1 := fun k hk => h k (fun z => hk (hs k z))
theorem Fr.up {L : List Nat} {m m1 : Mem} {k : Nat} {j z : Int} (h : Fr L m m1) (hk : k ∈ L) : Fr L m (up2 m1 k j z) := fun a ha => by
  rw [up2_k (fun e => ha (by rw [e]; exact hk))]
  exact h a ha
theorem Fr.row {L : List Nat} {m m1 : Mem} {k : Nat} {f : Int → Int} (h : Fr L m m1) (hk : k ∈ L) : Fr L m (upr m1 k f) := fun a ha => by
  rw [upr_k (fun e => ha (by rw [e]; exact hk))]
  exact h a ha
theorem Fr.high {L : List Nat} {m m1 : Mem} (h : Fr L m m1) (hL : ∀ k ∈ L, k < 169) : HighEq m m1 := fun k hk => h k (fun z => by have := hL k z; omega)
theorem Fr.low {L : List Nat} {m m1 : Mem} (h : Fr L m m1) (hL : ∀ k ∈ L, 169 ≤ k) : LowEq m m1 := fun k hk => h k (fun z => by have := hL k z; omega)
/-- a row of the bins' states, with load, place, now -/
def StOK (B : Int) (sg : Mem) (r : Int → Int) : Prop :=
  (∀ b : Int, 0 ≤ b → b < 96 → 0 ≤ r b ∧ r b ≤ 3 ∧ (r b ≠ 0 → sg 178 b ≠ 0)) ∧ 0 ≤ r 96 ∧ r 96 ≤ 999 ∧ 0 ≤ r 97 ∧ r 97 ≤ 99 ∧ 0 ≤ r 98 ∧ r 98 ≤ B
def barOK (f t : Int) : Prop := (f = -1 ∧ t = -1) ∨ (0 ≤ f ∧ f ≤ t ∧ t ≤ 999)
/-- streets -/
def WTown (sg : Mem) : Prop := 0 ≤ sg 169 3 ∧ sg 169 3 ≤ 6 ∧
  (∀ s : Int, 0 ≤ s → s < 6 → 0 ≤ sg 171 s ∧ sg 171 s ≤ 99 ∧ 0 ≤ sg 172 s ∧ sg 172 s ≤ 8 ∧ -1 ≤ sg 173 s ∧ sg 173 s ≤ 1 ∧ (sg 174 s = 0 ∨ sg 174 s = 1) ∧ 0 ≤ sg 175 s ∧ sg 175 s ≤ 6 ∧ barOK (sg 176 s) (sg 177 s) ∧ (s < sg 169 3 → 1 ≤ sg 172 s) ∧ (sg 169 3 ≤ s → sg 172 s = 0 ∧ sg 175 s = 0)) ∧
  (∀ s h : Int, 0 ≤ s → s < 6 → 0 ≤ h → h < 16 → 0 ≤ sg 178 (16 * s + h) ∧ sg 178 (16 * s + h) ≤ 9 ∧ (sg 172 s ≤ h % 8 → sg 178 (16 * s + h) = 0))
def WSet (sg : Mem) : Prop := 1 ≤ sg 179 0 ∧ sg 179 0 ≤ 999 ∧ 1 ≤ sg 179 1 ∧ sg 179 1 ≤ 4 ∧ 0 ≤ sg 179 2 ∧ sg 179 2 ≤ 9 ∧ 1 ≤ sg 179 3 ∧ sg 179 3 ≤ 2 ∧ 1 ≤ sg 179 4 ∧ sg 179 4 ≤ 99 ∧ 0 ≤ sg 179 5 ∧ sg 179 5 ≤ 99 ∧ 0 ≤ sg 179 6 ∧ sg 179 6 ≤ 999
def WText (sg : Mem) : Prop := 0 ≤ sg 169 17 ∧ sg 169 17 ≤ 80 ∧ ∀ j : Int, 0 ≤ j → j < sg 169 17 → 0 ≤ sg 182 j ∧ sg 182 j < 256
def WHist (B : Int) (sg : Mem) : Prop := 0 ≤ sg 169 40 ∧ sg 169 40 ≤ 15 ∧ ∀ i : Int, 0 ≤ i → i < sg 169 40 → StOK B sg (fun j => sg 190 (99 * i + j))
def WLoads (sg : Mem) : Prop := 0 ≤ sg 169 62 ∧ sg 169 62 ≤ 10 ∧ ∀ j : Int, 0 ≤ j → j < sg 169 62 → 0 ≤ sg 201 j ∧ sg 201 j < 64 ∧ 0 ≤ sg 202 j ∧ sg 202 j ≤ 9999 ∧ ∀ h : Int, sg 169 3 ≤ h → tb (sg 201 j) h = false
def WKept (B : Int) (sg : Mem) : Prop := 0 ≤ sg 169 4 ∧ sg 169 4 ≤ B ∧ ∀ i : Int, 0 ≤ i → i < 3 → (sg 205 i = 0 ∨ (sg 205 i = 1 ∧ 0 ≤ sg 206 i ∧ sg 206 i ≤ sg 169 4 ∧ StOK B sg (fun j => sg 207 (99 * i + j))))
def WRow (sg : Mem) : Prop := 0 ≤ sg 169 1 ∧ sg 169 1 ≤ 6 ∧ ∀ j : Int, 0 ≤ j → j < sg 169 1 → -9223372036854775808 ≤ sg 170 j ∧ sg 170 j < 9223372036854775808
/-- the class' side -/
def CTown (c sg : Mem) : Prop := c 9 1 = sg 169 3 ∧ ∀ s : Nat, s < 6 → c (11 + 2 * s) 0 = s ∧ c (11 + 2 * s) 6 = sg 175 s ∧ ((s : Int) < sg 169 3 → c (11 + 2 * s) 2 = sg 171 s ∧ c (11 + 2 * s) 3 = sg 172 s ∧ c (11 + 2 * s) 4 = sg 173 s ∧ c (11 + 2 * s) 5 = sg 174 s ∧ c (11 + 2 * s) 7 = sg 176 s ∧ c (11 + 2 * s) 8 = sg 177 s ∧ ∀ h : Int, 0 ≤ h → h < 16 → c (11 + 2 * s + 1) h = sg 178 (16 * s + h))
def CSet (c sg : Mem) : Prop := ∀ i : Int, 0 ≤ i → i < 7 → c 4 i = sg 179 i
def CText (c sg : Mem) : Prop := TextOK c ∧ c 1 1 = sg 169 17 ∧ ∀ j : Int, 0 ≤ j → j < sg 169 17 → c 2 j = sg 182 j
def CHist (c sg : Mem) : Prop := c 27 2 = sg 169 40 ∧ ∃ f : Nat → Nat, (∀ i, i < 15 → f i < 15) ∧ (∀ i j, i < 15 → j < 15 → f i = f j → i = j) ∧ (∀ i : Nat, i < 15 → c 28 i = ((33 + 4 * f i : Nat) : Int)) ∧ ∀ i : Nat, i < 15 → (i : Int) < sg 169 40 → StRel c (33 + 4 * f i) (fun j => sg 190 (99 * i + j))
def CLoads (c sg : Mem) : Prop := c 93 4 = sg 169 62 ∧ ∀ j : Int, 0 ≤ j → j < sg 169 62 → c 94 j = sg 201 j ∧ c 95 j = sg 202 j
def CKept (c sg : Mem) : Prop := ∀ i : Nat, i < 3 → (sg 205 i = 0 ∧ c 166 i = -1) ∨ (sg 205 i = 1 ∧ 0 ≤ c 166 i ∧ c 166 i ≤ sg 169 3 ∧ (c 166 i = sg 169 3 ↔ sg 206 i = sg 169 4) ∧ StRel c (154 + 4 * i) (fun j => sg 207 (99 * i + j)))
def CRow (c sg : Mem) : Prop := c 0 14 = sg 169 1 ∧ ∀ j : Int, 0 ≤ j → j < sg 169 1 → c 168 j = sg 170 j
theorem StOK.congr {B : Int} {sg sg' : Mem} {r r' : Int → Int} (h : StOK B sg r) (e : ∀ k : Int, 0 ≤ k → k < 99 → r' k = r k) (e2 : ∀ b : Int, 0 ≤ b → b < 96 → sg' 178 b = sg 178 b) : StOK B sg' r' := by
  obtain ⟨h1, h2⟩ := h
  unfold StOK
  rw [e 96 (by omega) (by omega), e 97 (by omega) (by omega), e 98 (by omega) (by omega)]
  refine ⟨fun b b0 b1 => ?_, h2⟩
  rw [e b b0 (by omega), e2 b b0 b1]
  exact h1 b b0 b1
theorem StOK.mono {B B2 : Int} {sg : Mem} {r : Int → Int} (h : StOK B sg r) (hB : B ≤ B2) : StOK B2 sg r := by
  obtain ⟨h1, h2, h3, h4, h5, h6, h7⟩ := h
  exact ⟨h1, h2, h3, h4, h5, h6, by omega⟩
/-- what the reference holds on from call to call is the same -/
def PEq (a b : Mem) : Prop :=
  (a 169 1 = b 169 1 ∧ a 169 3 = b 169 3 ∧ a 169 4 = b 169 4 ∧ a 169 17 = b 169 17 ∧ a 169 26 = b 169 26 ∧ a 169 40 = b 169 40 ∧ a 169 62 = b 169 62) ∧
  (∀ j : Int, 0 ≤ j → j < 6 → a 171 j = b 171 j ∧ a 172 j = b 172 j ∧ a 173 j = b 173 j ∧ a 174 j = b 174 j ∧ a 175 j = b 175 j ∧ a 176 j = b 176 j ∧ a 177 j = b 177 j) ∧
  (∀ j : Int, 0 ≤ j → j < 96 → a 178 j = b 178 j) ∧ (∀ j : Int, 0 ≤ j → j < 7 → a 179 j = b 179 j) ∧ (∀ j : Int, 0 ≤ j → j < 99 → a 180 j = b 180 j) ∧
  (∀ j : Int, 0 ≤ j → j < b 169 1 → a 170 j = b 170 j) ∧ (∀ j : Int, 0 ≤ j → j < b 169 17 → a 182 j = b 182 j) ∧ (∀ j : Int, 0 ≤ j → j < b 169 26 → a 185 j = b 185 j) ∧
  (∀ j : Int, 0 ≤ j → j < 99 * b 169 40 → a 190 j = b 190 j) ∧ (∀ j : Int, 0 ≤ j → j < b 169 62 → a 201 j = b 201 j ∧ a 202 j = b 202 j) ∧
  (∀ j : Int, 0 ≤ j → j < 3 → a 205 j = b 205 j ∧ a 206 j = b 206 j) ∧ ∀ j : Int, 0 ≤ j → j < 297 → a 207 j = b 207 j
theorem PEq.rf {a : Mem} : PEq a a := ⟨⟨rfl, rfl, rfl, rfl, rfl, rfl, rfl⟩, fun _ _ _ => ⟨rfl, rfl, rfl, rfl, rfl, rfl, rfl⟩, fun _ _ _ => rfl, fun _ _ _ => rfl, fun _ _ _ => rfl, fun _ _ _ => rfl, fun _ _ _ => rfl, fun _ _ _ => rfl, fun _ _ _ => rfl, fun _ _ _ => ⟨rfl, rfl⟩, fun _ _ _ => ⟨rfl, rfl⟩, fun _ _ _ => rfl⟩
theorem CTown.peq {c a b : Mem} (h : CTown c b) (e : PEq a b) (hW : WTown b) : CTown c a := by
  obtain ⟨⟨-, e3, -⟩, e6, e96, -⟩ := e
  obtain ⟨h1, h2⟩ := h
  refine ⟨h1.trans e3.symm, fun s hs => ?_⟩
  obtain ⟨a1, a2, a3, a4, a5, a6, a7⟩ := e6 s (by omega) (by omega)
  obtain ⟨g1, g2, g3⟩ := h2 s hs
  rw [a5, e3, a1, a2, a3, a4, a6, a7]
  refine ⟨g1, g2, fun c => ?_⟩
  obtain ⟨k1, k2, k3, k4, k5, k6, k7⟩ := g3 c
  exact ⟨k1, k2, k3, k4, k5, k6, fun h h0 h1 => by rw [e96 _ (by omega) (by omega)]; exact k7 h h0 h1⟩
theorem CSet.peq {c a b : Mem} (h : CSet c b) (e : PEq a b) : CSet c a := fun i h0 h1 => (h i h0 h1).trans (e.2.2.2.1 i h0 h1).symm
theorem CText.peq {c a b : Mem} (h : CText c b) (e : PEq a b) : CText c a := by
  obtain ⟨⟨-, -, -, e17, -⟩, -, -, -, -, -, e182, -⟩ := e
  obtain ⟨h1, h2, h3⟩ := h
  refine ⟨h1, h2.trans e17.symm, fun j h0 hj => ?_⟩
  rw [e17] at hj
  exact (h3 j h0 hj).trans (e182 j h0 hj).symm
theorem CHist.peq {c a b : Mem} (h : CHist c b) (e : PEq a b) : CHist c a := by
  obtain ⟨⟨-, -, -, -, -, e40, -⟩, -, -, -, -, -, -, -, e190, -⟩ := e
  obtain ⟨h1, f, h2, h3, h4, h5⟩ := h
  refine ⟨h1.trans e40.symm, f, h2, h3, h4, fun i i15 hi => ?_⟩
  rw [e40] at hi
  exact (h5 i i15 hi).ext (fun k k0 k1 => e190 _ (by omega) (by omega))
theorem CLoads.peq {c a b : Mem} (h : CLoads c b) (e : PEq a b) : CLoads c a := by
  obtain ⟨⟨-, -, -, -, -, -, e62⟩, -, -, -, -, -, -, -, -, e201, -⟩ := e
  obtain ⟨h1, h2⟩ := h
  refine ⟨h1.trans e62.symm, fun j h0 hj => ?_⟩
  rw [e62] at hj
  rw [(e201 j h0 hj).1, (e201 j h0 hj).2]
  exact h2 j h0 hj
theorem CKept.peq {c a b : Mem} (h : CKept c b) (e : PEq a b) : CKept c a := by
  obtain ⟨⟨-, e3, e4, -⟩, -, -, -, -, -, -, -, -, -, e205, e207⟩ := e
  intro i hi
  obtain ⟨a1, a2⟩ := e205 i (by omega) (by omega)
  rw [a1, a2, e3, e4]
  rcases h i hi with g | ⟨g1, g2, g3, g4, g5⟩
  · exact Or.inl g
  · exact Or.inr ⟨g1, g2, g3, g4, g5.ext (fun k k0 k1 => e207 _ (by omega) (by omega))⟩
theorem CRow.peq {c a b : Mem} (h : CRow c b) (e : PEq a b) : CRow c a := by
  obtain ⟨⟨e1, -⟩, -, -, -, -, e170, -⟩ := e
  obtain ⟨h1, h2⟩ := h
  refine ⟨h1.trans e1.symm, fun j h0 hj => ?_⟩
  rw [e1] at hj
  rw [e170 j h0 hj]
  exact h2 j h0 hj
/-! the class' side stays where its cells stay -/
theorem CTown.fr {c c' sg : Mem} (h : CTown c sg) (h9 : c' 9 = c 9) (hs : ∀ s : Nat, s < 6 → c' (11 + 2 * s) = c (11 + 2 * s) ∧ c' (11 + 2 * s + 1) = c (11 + 2 * s + 1)) : CTown c' sg := by
  refine ⟨by rw [h9]; exact h.1, fun s h6 => ?_⟩
  rw [(hs s h6).1, (hs s h6).2]
  exact h.2 s h6
theorem CSet.fr {c c' sg : Mem} (h : CSet c sg) (h4 : c' 4 = c 4) : CSet c' sg := by unfold CSet; rw [h4]; exact h
theorem CText.fr {c c' sg : Mem} (h : CText c sg) (h1 : c' 1 = c 1) (h2 : c' 2 = c 2) : CText c' sg := by
  unfold CText TextOK
  rw [h1, h2]
  exact h
theorem CHist.fr {c c' sg : Mem} (h : CHist c sg) (h27 : c' 27 2 = c 27 2) (h28 : c' 28 = c 28) (hs : ∀ k, 33 ≤ k → k < 93 → c' k = c k) : CHist c' sg := by
  obtain ⟨a1, f, a2, a3, a4, a5⟩ := h
  refine ⟨h27.trans a1, f, a2, a3, by rw [h28]; exact a4, fun i i15 hi => ?_⟩
  have := a2 i i15
  exact (a5 i i15 hi).congr (hs _ (by omega) (by omega)) (hs _ (by omega) (by omega)) (hs _ (by omega) (by omega)) (hs _ (by omega) (by omega))
theorem CLoads.fr {c c' sg : Mem} (h : CLoads c sg) (h1 : c' 93 4 = c 93 4) (h2 : c' 94 = c 94) (h3 : c' 95 = c 95) : CLoads c' sg := by unfold CLoads; rw [h1, h2, h3]; exact h
theorem CKept.fr {c c' sg : Mem} (h : CKept c sg) (h1 : c' 166 = c 166) (hs : ∀ k, 154 ≤ k → k < 166 → c' k = c k) : CKept c' sg := by
  intro i hi
  rw [h1]
  rcases h i hi with g | ⟨g1, g2, g3, g4, g5⟩
  · exact Or.inl g
  · exact Or.inr ⟨g1, g2, g3, g4, g5.congr (hs _ (by omega) (by omega)) (hs _ (by omega) (by omega)) (hs _ (by omega) (by omega)) (hs _ (by omega) (by omega))⟩
theorem CRow.fr {c c' sg : Mem} (h : CRow c sg) (h1 : c' 0 14 = c 0 14) (h2 : c' 168 = c 168) : CRow c' sg := by unfold CRow; rw [h1, h2]; exact h
