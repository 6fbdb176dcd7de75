/-! the whole relation, but for the rule -/
def CR0 (c a : Mem) : Prop := CTown c a ∧ CSet c a ∧ CText c a ∧ StRel c 23 (a 180) ∧ CHist c a ∧ CLoads c a ∧ CKept c a ∧ CRow c a
theorem CR0.town {c a : Mem} (h : CR0 c a) : CTown c a := h.1
theorem CR0.set {c a : Mem} (h : CR0 c a) : CSet c a := h.2.1
theorem CR0.text {c a : Mem} (h : CR0 c a) : CText c a := h.2.2.1
theorem CR0.now {c a : Mem} (h : CR0 c a) : StRel c 23 (a 180) := h.2.2.2.1
theorem CR0.hist {c a : Mem} (h : CR0 c a) : CHist c a := h.2.2.2.2.1
theorem CR0.loads {c a : Mem} (h : CR0 c a) : CLoads c a := h.2.2.2.2.2.1
theorem CR0.kept {c a : Mem} (h : CR0 c a) : CKept c a := h.2.2.2.2.2.2.1
theorem CR0.row {c a : Mem} (h : CR0 c a) : CRow c a := h.2.2.2.2.2.2.2
def W0 (B : Int) (a : Mem) : Prop := WTown a ∧ WSet a ∧ WText a ∧ StOK B a (a 180) ∧ WHist B a ∧ WLoads a ∧ WKept B a ∧ WRow a
theorem W0.town {B : Int} {a : Mem} (h : W0 B a) : WTown a := h.1
theorem W0.set {B : Int} {a : Mem} (h : W0 B a) : WSet a := h.2.1
theorem W0.text {B : Int} {a : Mem} (h : W0 B a) : WText a := h.2.2.1
theorem W0.now {B : Int} {a : Mem} (h : W0 B a) : StOK B a (a 180) := h.2.2.2.1
theorem W0.hist {B : Int} {a : Mem} (h : W0 B a) : WHist B a := h.2.2.2.2.1
theorem W0.loads {B : Int} {a : Mem} (h : W0 B a) : WLoads a := h.2.2.2.2.2.1
theorem W0.kept {B : Int} {a : Mem} (h : W0 B a) : WKept B a := h.2.2.2.2.2.2.1
theorem W0.row {B : Int} {a : Mem} (h : W0 B a) : WRow a := h.2.2.2.2.2.2.2
theorem CR0.peq {c a b : Mem} (h : CR0 c b) (e : PEq a b) (hW : WTown b) : CR0 c a :=
  ⟨h.town.peq e hW, h.set.peq e, h.text.peq e, h.now.ext (fun k k0 k1 => e.2.2.2.2.1 k k0 k1), h.hist.peq e, h.loads.peq e, h.kept.peq e, h.row.peq e⟩
/-- cells that the relation reads -/
def Told (k : Nat) : Prop := (k ≠ 0 ∧ k < 5) ∨ (9 ≤ k ∧ k < 29) ∨ (33 ≤ k ∧ k < 93) ∨ k = 94 ∨ k = 95 ∨ (154 ≤ k ∧ k < 167) ∨ k = 168
theorem CR0.fr {c c' a : Mem} (h : CR0 c a) (e : ∀ k, Told k → c' k = c k) (e0 : c' 0 14 = c 0 14) (e93 : c' 93 4 = c 93 4) : CR0 c' a := by
  have e : ∀ k, ((k ≠ 0 ∧ k < 5) ∨ (9 ≤ k ∧ k < 29) ∨ (33 ≤ k ∧ k < 93) ∨ k = 94 ∨ k = 95 ∨ (154 ≤ k ∧ k < 167) ∨ k = 168) → c' k = c k := e
  exact ⟨h.town.fr (e 9 (by omega)) (fun s hs => ⟨e _ (by omega), e _ (by omega)⟩), h.set.fr (e 4 (by omega)), h.text.fr (e 1 (by omega)) (e 2 (by omega)), h.now.congr (e _ (by omega)) (e _ (by omega)) (e _ (by omega)) (e _ (by omega)), h.hist.fr (by rw [e 27 (by omega)]) (e 28 (by omega)) (fun k _ _ => e k (by omega)), h.loads.fr e93 (e 94 (by omega)) (e 95 (by omega)), h.kept.fr (e 166 (by omega)) (fun k _ _ => e k (by omega)), h.row.fr e0 (e 168 (by omega))⟩
theorem WTown.peq {a b : Mem} (h : WTown b) (e : PEq a b) : WTown a := by
  obtain ⟨⟨-, e3, -⟩, e6, e96, -⟩ := e
  obtain ⟨h0, h1, h2, h3⟩ := h
  refine ⟨by omega, by omega, fun s s0 s6 => ?_, fun s k s0 s6 k0 k1 => ?_⟩
  · obtain ⟨a1, a2, a3, a4, a5, a6, a7⟩ := e6 s s0 s6
    rw [a1, a2, a3, a4, a5, a6, a7, e3]
    exact h2 s s0 s6
  · rw [e96 _ (by omega) (by omega), (e6 s s0 s6).2.1]
    exact h3 s k s0 s6 k0 k1
theorem WSet.peq {a b : Mem} (h : WSet b) (e : PEq a b) : WSet a := by
  have e := e.2.2.2.1
  unfold WSet
  rw [e 0 (by omega) (by omega), e 1 (by omega) (by omega), e 2 (by omega) (by omega), e 3 (by omega) (by omega), e 4 (by omega) (by omega), e 5 (by omega) (by omega), e 6 (by omega) (by omega)]
  exact h
theorem WText.peq {a b : Mem} (h : WText b) (e : PEq a b) : WText a := by
  obtain ⟨⟨-, -, -, e17, -⟩, -, -, -, -, -, e182, -⟩ := e
  unfold WText
  rw [e17]
  refine ⟨h.1, h.2.1, fun j j0 j1 => ?_⟩
  rw [e182 j j0 j1]
  exact h.2.2 j j0 j1
theorem StOK.peq {B : Int} {a b : Mem} {r r' : Int → Int} (h : StOK B b r) (e : PEq a b) (er : ∀ k : Int, 0 ≤ k → k < 99 → r' k = r k) : StOK B a r' := h.congr er (fun k k0 k1 => e.2.2.1 k k0 k1)
theorem WHist.peq {B : Int} {a b : Mem} (h : WHist B b) (e : PEq a b) : WHist B a := by
  have e' := e
  obtain ⟨⟨-, -, -, -, -, e40, -⟩, -, -, -, -, -, -, -, e190, -⟩ := e'
  unfold WHist
  rw [e40]
  exact ⟨h.1, h.2.1, fun i i0 i1 => (h.2.2 i i0 i1).peq e (fun k k0 k1 => e190 _ (by omega) (by omega))⟩
theorem WLoads.peq {a b : Mem} (h : WLoads b) (e : PEq a b) : WLoads a := by
  obtain ⟨⟨-, e3, -, -, -, -, e62⟩, -, -, -, -, -, -, -, -, e201, -⟩ := e
  unfold WLoads
  rw [e62, e3]
  refine ⟨h.1, h.2.1, fun j j0 j1 => ?_⟩
  rw [(e201 j j0 j1).1, (e201 j j0 j1).2]
  exact h.2.2 j j0 j1
theorem WKept.peq {B : Int} {a b : Mem} (h : WKept B b) (e : PEq a b) : WKept B a := by
  have e' := e
  obtain ⟨⟨-, -, e4, -⟩, -, -, -, -, -, -, -, -, -, e205, e207⟩ := e'
  unfold WKept
  rw [e4]
  refine ⟨h.1, h.2.1, fun i i0 i1 => ?_⟩
  rw [(e205 i i0 i1).1, (e205 i i0 i1).2]
  rcases h.2.2 i i0 i1 with g | ⟨g1, g2, g3, g4⟩
  · exact Or.inl g
  · exact Or.inr ⟨g1, g2, g3, g4.peq e (fun k k0 k1 => e207 _ (by omega) (by omega))⟩
theorem WRow.peq {a b : Mem} (h : WRow b) (e : PEq a b) : WRow a := by
  obtain ⟨⟨e1, -⟩, -, -, -, -, e170, -⟩ := e
  unfold WRow
  rw [e1]
  refine ⟨h.1, h.2.1, fun j j0 j1 => ?_⟩
  rw [e170 j j0 j1]
  exact h.2.2 j j0 j1
theorem W0.peq {B : Int} {a b : Mem} (h : W0 B b) (e : PEq a b) : W0 B a :=
  ⟨h.town.peq e, h.set.peq e, h.text.peq e, h.now.peq e (fun k k0 k1 => e.2.2.2.2.1 k k0 k1), h.hist.peq e, h.loads.peq e, h.kept.peq e, h.row.peq e⟩
theorem W0.mono {B B2 : Int} {a : Mem} (h : W0 B a) (hB : B ≤ B2) : W0 B2 a :=
  ⟨h.town, h.set, h.text, h.now.mono hB, ⟨h.hist.1, h.hist.2.1, fun i i0 i1 => (h.hist.2.2 i i0 i1).mono hB⟩, h.loads, ⟨h.kept.1, by have := h.kept.2.1; omega, fun i i0 i1 => by
    rcases h.kept.2.2 i i0 i1 with g | ⟨g1, g2, g3, g4⟩
    · exact Or.inl g
    · exact Or.inr ⟨g1, g2, g3, g4.mono hB⟩⟩, h.row⟩
theorem StOK.ri {B : Int} {a : Mem} {r : Int → Int} (h : StOK B a r) {b : Int} (h0 : 0 ≤ b) (h1 : b < 96) : RI (r b) := by
  have := h.1 b h0 h1
  constructor <;> omega
/-- scratch of the reference -/
theorem PEq.trans {a b d : Mem} (h : PEq a b) (g : PEq b d) : PEq a d := by
  obtain ⟨⟨a1, a2, a3, a4, a5, a6, a7⟩, a8, a9, a10, a11, a12, a13, a14, a15, a16, a17, a18⟩ := h
  obtain ⟨⟨b1, b2, b3, b4, b5, b6, b7⟩, b8, b9, b10, b11, b12, b13, b14, b15, b16, b17, b18⟩ := g
  refine ⟨⟨a1.trans b1, a2.trans b2, a3.trans b3, a4.trans b4, a5.trans b5, a6.trans b6, a7.trans b7⟩, fun j j0 j1 => ?_, fun j j0 j1 => (a9 j j0 j1).trans (b9 j j0 j1), fun j j0 j1 => (a10 j j0 j1).trans (b10 j j0 j1), fun j j0 j1 => (a11 j j0 j1).trans (b11 j j0 j1), fun j j0 j1 => (a12 j j0 (by omega)).trans (b12 j j0 j1), fun j j0 j1 => (a13 j j0 (by omega)).trans (b13 j j0 j1), fun j j0 j1 => (a14 j j0 (by omega)).trans (b14 j j0 j1), fun j j0 j1 => (a15 j j0 (by omega)).trans (b15 j j0 j1), fun j j0 j1 => ?_, fun j j0 j1 => ?_, fun j j0 j1 => (a18 j j0 j1).trans (b18 j j0 j1)⟩
  · obtain ⟨p1, p2, p3, p4, p5, p6, p7⟩ := a8 j j0 j1
    obtain ⟨q1, q2, q3, q4, q5, q6, q7⟩ := b8 j j0 j1
    exact ⟨p1.trans q1, p2.trans q2, p3.trans q3, p4.trans q4, p5.trans q5, p6.trans q6, p7.trans q7⟩
  · exact ⟨(a16 j j0 (by omega)).1.trans (b16 j j0 j1).1, (a16 j j0 (by omega)).2.trans (b16 j j0 j1).2⟩
  · exact ⟨(a17 j j0 j1).1.trans (b17 j j0 j1).1, (a17 j j0 j1).2.trans (b17 j j0 j1).2⟩
/-- fields of row 169 that last -/
def PF (j : Int) : Prop := j = 1 ∨ j = 3 ∨ j = 4 ∨ j = 17 ∨ j = 26 ∨ j = 40 ∨ j = 62
/-- rows that last -/
def PR (k : Nat) : Prop := (169 ≤ k ∧ k < 181) ∨ k = 182 ∨ k = 185 ∨ k = 190 ∨ k = 201 ∨ k = 202 ∨ (205 ≤ k ∧ k < 208)
theorem PEq.of {a b : Mem} (hr : ∀ k, PR k → k ≠ 169 → a k = b k) (hf : ∀ j, PF j → a 169 j = b 169 j) : PEq a b := by
  have hr : ∀ k, ((169 ≤ k ∧ k < 181) ∨ k = 182 ∨ k = 185 ∨ k = 190 ∨ k = 201 ∨ k = 202 ∨ (205 ≤ k ∧ k < 208)) → k ≠ 169 → a k = b k := hr
  have hf : ∀ j : Int, (j = 1 ∨ j = 3 ∨ j = 4 ∨ j = 17 ∨ j = 26 ∨ j = 40 ∨ j = 62) → a 169 j = b 169 j := hf
  refine ⟨⟨hf 1 (by omega), hf 3 (by omega), hf 4 (by omega), hf 17 (by omega), hf 26 (by omega), hf 40 (by omega), hf 62 (by omega)⟩, fun j _ _ => ?_, fun j _ _ => ?_, fun j _ _ => ?_, fun j _ _ => ?_, fun j _ _ => ?_, fun j _ _ => ?_, fun j _ _ => ?_, fun j _ _ => ?_, fun j _ _ => ?_, fun j _ _ => ?_, fun j _ _ => ?_⟩
  · rw [hr 171 (by omega) (by omega), hr 172 (by omega) (by omega), hr 173 (by omega) (by omega), hr 174 (by omega) (by omega), hr 175 (by omega) (by omega), hr 176 (by omega) (by omega), hr 177 (by omega) (by omega)]
    exact ⟨rfl, rfl, rfl, rfl, rfl, rfl, rfl⟩
  · rw [hr 178 (by omega) (by omega)]
  · rw [hr 179 (by omega) (by omega)]
  · rw [hr 180 (by omega) (by omega)]
  · rw [hr 170 (by omega) (by omega)]
  · rw [hr 182 (by omega) (by omega)]
  · rw [hr 185 (by omega) (by omega)]
  · rw [hr 190 (by omega) (by omega)]
  · rw [hr 201 (by omega) (by omega), hr 202 (by omega) (by omega)]
    exact ⟨rfl, rfl⟩
  · rw [hr 205 (by omega) (by omega), hr 206 (by omega) (by omega)]
    exact ⟨rfl, rfl⟩
  · rw [hr 207 (by omega) (by omega)]
theorem PEq.field {m : Mem} {j z : Int} (h : ¬ PF j) : PEq (up2 m 169 j z) m := PEq.of (fun _ _ hk => up2_k hk) (fun i hi => up2_j (fun e => h (e ▸ hi)))
theorem PEq.scr {m : Mem} {k : Nat} {j z : Int} (h : ¬ PR k) : PEq (up2 m k j z) m := PEq.of (fun a ha _ => up2_k (fun e => h (e ▸ ha))) (fun i _ => by rw [up2_k (fun e => h (by rw [← e]; exact Or.inl ⟨by omega, by omega⟩))])
theorem PEq.pj {m : Mem} : PEq (pj m) m := PEq.of (fun k hk _ => pj_hi (by have : (169 ≤ k ∧ k < 181) ∨ k = 182 ∨ k = 185 ∨ k = 190 ∨ k = 201 ∨ k = 202 ∨ (205 ≤ k ∧ k < 208) := hk; omega)) (fun j _ => by rw [pj_hi (by omega)])
theorem npf0 : ¬ PF 0 := by unfold PF; omega
