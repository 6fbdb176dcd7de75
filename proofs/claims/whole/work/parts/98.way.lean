/-! orders: the way of a list -/
def oPath (a : Mem) (v : (Int → Int) → Int) (r : Int → Int) : List Int → Tr → Option Tr
  | [], t => some t
  | s :: p, t => (oVisit a v r s t).bind (oPath a v r p)
def oTips (a : Mem) (v : (Int → Int) → Int) (r : Int → Int) : List Int → Tr → Int
  | [], _ => 0
  | s :: p, t => oTipped a r s t + (match oVisit a v r s t with | some t' => oTips a v r p t' | none => 0)
def oStays (a : Mem) (v : (Int → Int) → Int) (r : Int → Int) : List Int → Tr → Int
  | [], _ => 0
  | s :: p, t => oStay a v r s t + (match oVisit a v r s t with | some t' => oStays a v r p t' | none => 0)
def oLast (a : Mem) (t : Tr) : Option Tr := if oOpen a t then some (oTip a t) else none
def oEnd (a : Mem) (v : (Int → Int) → Int) (r : Int → Int) (p : List Int) (t : Tr) : Option Tr := (oPath a v r p t).bind (oLast a)
theorem oPath_ok {B : Int} {a : Mem} {v : (Int → Int) → Int} {r : Int → Int} (hT : WTown a) (hS : WSet a) (hn : StOK B a r) : ∀ (p : List Int) (t t' : Tr) (W : Int), (∀ s ∈ p, 0 ≤ s ∧ s < 6) → trOK W t → oPath a v r p t = some t' → trOK (W + 80290 * p.length) t'
  | [], t, t', W, _, h, e => by
    have e : some t = some t' := e
    cases e
    obtain ⟨h1, h2, h3, h4, h5, h6⟩ := h
    exact ⟨h1, h2, h3, h4, h5, by show t.2.2 ≤ W + 80290 * ((0 : Nat) : Int); omega⟩
  | s :: p, t, t', W, hp, h, e => by
    rw [oPath] at e
    cases c : oVisit a v r s t with
    | none => rw [c] at e; cases e
    | some t2 =>
      rw [c] at e
      have s6 := hp s List.mem_cons_self
      have g := oPath_ok hT hS hn p t2 t' _ (fun x hx => hp x (List.mem_cons_of_mem _ hx)) (oVisit_ok hT hS hn s6.1 s6.2 h c) e
      obtain ⟨h1, h2, h3, h4, h5, h6⟩ := g
      exact ⟨h1, h2, h3, h4, h5, by rw [List.length_cons]; omega⟩
theorem drop_cons {p : List Int} {s : Int} {q : List Int} {i : Nat} (h : p.drop i = s :: q) : p.getD i 0 = s ∧ p.drop (i + 1) = q ∧ i < p.length := by
  have hl : i < p.length := by
    by_cases c : i < p.length
    · exact c
    · rw [List.drop_eq_nil_of_le (by omega)] at h; cases h
  rw [List.drop_eq_getElem_cons hl] at h
  have h1 := (List.cons.inj h).1
  have h2 := (List.cons.inj h).2
  refine ⟨?_, h2, hl⟩
  rw [List.getD_eq_getElem?_getD, List.getElem?_eq_getElem hl]
  exact h1
theorem ct_followPath {E : Nat × (Nat → Int32)} {c a : Mem} {v : (Int → Int) → Int} {r : Int → Int} {bits : Int → Int} {B W : Int} {t : Tr} {p : List Int} (hC : CTown c a) (hCS : CSet c a) (hT : WTown a) (hS : WSet a) (hn : StOK B a r) (hb : ∀ s h : Int, 0 ≤ s → s < a 169 3 → 0 ≤ h → h < 16 → (r (16 * s + h) = 1 ↔ tb (bits s) h = true)) (hO : OP a v r bits (a 169 3) c) (ht : trOK W t) (hW : W ≤ 1000000000) (h : TrC c t) (hp : ∀ s ∈ p, 0 ≤ s ∧ s < a 169 3) (hl : p.length ≤ 6) (e5 : c 106 5 = p.length) (e109 : ∀ j : Nat, j < p.length → c 109 j = p.getD j 0) : K_X4_followPath E [.ref 106] c (fun z c' => ((∃ t', oEnd a v r p t = some t' ∧ z = 1 ∧ TrC c' t' ∧ c' 106 9 = c 106 9 + oTips a v r p t + 1 ∧ c' 106 10 = c 106 10 + oStays a v r p t) ∨ (oEnd a v r p t = none ∧ z = 0)) ∧ OV c c' ∧ OP a v r bits (a 169 3) c') := by
  have n6 := hT.2.1
  refine en_X4_followPath (sg_X4_followPath_0 ?_)
  have key : ∀ (q : List Int) (i : Nat) (t2 : Tr) (c2 : Mem) (x y : Int), p.drop i = q → i + q.length = p.length → trOK (W + 80290 * i) t2 → TrC c2 t2 → oEnd a v r p t = oEnd a v r q t2 → oTips a v r p t = x + oTips a v r q t2 → oStays a v r p t = y + oStays a v r q t2 → c2 106 9 = c 106 9 + x → c2 106 10 = c 106 10 + y → OV c c2 → OP a v r bits (a 169 3) c2 → GM E (m_X4_followPath 4) (Pi fun z c' => ((∃ t', oEnd a v r p t = some t' ∧ z = 1 ∧ TrC c' t' ∧ c' 106 9 = c 106 9 + oTips a v r p t + 1 ∧ c' 106 10 = c 106 10 + oStays a v r p t) ∨ (oEnd a v r p t = none ∧ z = 0)) ∧ OV c c' ∧ OP a v r bits (a 169 3) c') 2 [.ref 106, vi (i : Int)] [] c2 := by
    intro q
    induction q with
    | nil =>
      intro i t2 c2 x y hd hi ht2 h2 e1 e2 e3 u9 u10 V O2
      have hi : i + 0 = p.length := hi
      have e52 : c2 106 5 = p.length := by rw [V.1 5 (by omega), e5]
      refine sg_X4_followPath_2 ⟨by omega, by omega⟩ (by rw [e52]; constructor <;> omega) (by rw [e52]; omega) (fun _ => ?_) (by rw [e52]; omega) (by rw [e52]; omega)
      have eE : oEnd a v r [] t2 = oLast a t2 := rfl
      rw [eE] at e1
      have e2 : oTips a v r p t = x + 0 := e2
      have e3 : oStays a v r p t = y + 0 := e3
      refine ca_X4_followPath_41 (ct_oTip (V.ofr.set hCS) hS ht2 h2) (fun z c3 hz => ?_)
      rcases hz with ⟨o, ez, g1, g9, gj, gq⟩ | ⟨o, ez, rfl⟩
      · refine sg_X4_followPath_44 (Or.inr ez) ⟨_, rfl, Or.inl ⟨_, ?_, ez, g1, ?_, ?_⟩, V.trans ⟨fun j hj => gj j (by omega), fun q hq => gq q (by omega)⟩, fun s s0 s1 => (O2 s s0 s1).fr (fun x _ _ => by rw [gq _ (by omega)]) (fun q q0 _ => gq q (by omega))⟩
        · rw [e1]; unfold oLast; rw [if_pos o]
        · rw [g9, u9, e2]; omega
        · rw [gj 10 (by omega), u10, e3]; omega
      · exact sg_X4_followPath_44 (Or.inl ez) ⟨_, rfl, Or.inr ⟨by rw [e1]; unfold oLast; rw [if_neg o], ez⟩, V, O2⟩
    | cons s q ih =>
      intro i t2 c2 x y hd hi ht2 h2 e1 e2 e3 u9 u10 V O2
      have hi : i + (q.length + 1) = p.length := hi
      obtain ⟨d1, d2, d3⟩ := drop_cons hd
      have e52 : c2 106 5 = p.length := by rw [V.1 5 (by omega), e5]
      have e92 : c2 109 i = s := by rw [V.2 109 (by omega), e109 i d3, d1]
      have hs : 0 ≤ s ∧ s < a 169 3 := hp s (by rw [← d1]; exact getD_mem0 d3)
      refine sg_X4_followPath_2 ⟨by omega, by omega⟩ (by rw [e52]; constructor <;> omega) (fun _ _ => by omega) (by rw [e52]; omega) (by omega) (fun _ _ => ?_)
      rw [e92]
      refine ca_X4_followPath_26 (ct_visit (v := v) ⟨by omega, by omega⟩ (V.ofr.town hC) (V.ofr.set hCS) hT hS hn hb O2 ht2 (by omega) h2) (fun z c3 hz => ?_)
      rcases hz with ⟨-, t3, w1, ez, w2, w3, w4, w5, w6⟩ | ⟨w, ez, rfl⟩
      · refine sg_X4_followPath_29 (by rw [ez]; decide) (fun _ => ?_) (fun g => by rw [ez] at g; omega)
        rw [show (i : Int) + 1 = ((i + 1 : Nat) : Int) by omega]
        refine ih (i + 1) t3 c3 (x + oTipped a r s t2) (y + oStay a v r s t2) d2 (by omega) ?_ w2 ?_ ?_ ?_ ?_ ?_ (V.trans w5) w6
        · have := oVisit_ok hT hS hn hs.1 (by omega) ht2 w1
          rw [show W + 80290 * ((i + 1 : Nat) : Int) = W + 80290 * i + 80290 by omega]
          exact this
        · rw [e1]
          unfold oEnd
          rw [oPath, w1]
          rfl
        · rw [e2, oTips, w1]; dsimp only; omega
        · rw [e3, oStays, w1]; dsimp only; omega
        · rw [w3, u9]; omega
        · rw [w4, u10]; omega
      · refine sg_X4_followPath_29 (by rw [ez]; decide) (fun g => absurd ez g) (fun _ => ⟨_, rfl, Or.inr ⟨?_, rfl⟩, V, O2⟩)
        rw [e1]
        unfold oEnd
        rw [oPath]
        cases c : oVisit a v r s t2 with
        | none => rfl
        | some t3 => exact absurd ⟨hs, t3, c⟩ w
  refine key p 0 t c 0 0 rfl (by omega) ?_ h rfl (by omega) (by omega) (by omega) (by omega) OV.rf hO
  obtain ⟨h1, h2, h3, h4, h5, h6⟩ := ht
  exact ⟨h1, h2, h3, h4, h5, by omega⟩
