/-! order: the class' side -/
theorem oTips_rng {a : Mem} {v : (Int → Int) → Int} {r : Int → Int} : ∀ (p : List Int) (t : Tr), (0 ≤ oTips a v r p t ∧ oTips a v r p t ≤ p.length) ∧ 0 ≤ oStays a v r p t ∧ oStays a v r p t ≤ 16 * p.length
  | [], t => ⟨⟨Int.le_refl _, Int.le_refl _⟩, Int.le_refl _, Int.le_refl _⟩
  | s :: p, t => by
    rw [oTips, oStays, List.length_cons]
    have h1 : 0 ≤ oTipped a r s t ∧ oTipped a r s t ≤ 1 := by
      unfold oTipped
      split <;> omega
    have h2 : 0 ≤ oStay a v r s t ∧ oStay a v r s t ≤ 16 := rO_rng
    cases oVisit a v r s t with
    | none => dsimp only; omega
    | some t' =>
      have g := oTips_rng (a := a) (v := v) (r := r) p t'
      dsimp only
      omega
def TX (c a c1 : Mem) : Prop := CR0 c1 (textU a 0 (a 182)) ∧ (∀ k, k ≠ 1 → c1 k = c k)
theorem ct_order {E : Nat × (Nat → Int32)} {c a : Mem} {v : (Int → Int) → Int} {B : Int} (h : CR0 c a) (hR : RuleC c v) (hT : WTown a) (hS : WSet a) (hn : StOK B a (a 180)) (hB : B ≤ 1000000000) : K_X11_order E [.ref 0] c (fun z c' => ∃ c1, TX c a c1 ∧ ((¬ ordP a ∧ z = -1 - (ordL a).length ∧ CQ c1 c' (a 169 1) (a 170)) ∨ (ordP a ∧ (∃ t', oEnd a v (a 180) (ordL a) (trow (a 180)) = some t' ∧ z = t'.2.2 - a 180 98) ∧ CQ c1 c' 2 (rwL [oTips a v (a 180) (ordL a) (trow (a 180)) + 1, oStays a v (a 180) (ordL a) (trow (a 180))])) ∨ (ordP a ∧ oEnd a v (a 180) (ordL a) (trow (a 180)) = none ∧ z = -200 ∧ CQ c1 c' (a 169 1) (a 170)))) := by
  have n0 := hT.1
  have n6 := hT.2.1
  have oL := ordL_ok (a := a)
  refine en_X11_order (sg_X11_order_0 ?_)
  refine ca_X11_order_8 (ct_readPath h.town h.text hT) (fun z c2 hz => ?_)
  obtain ⟨hz, F2, X2⟩ := hz
  generalize hM : up2 c2 1 1 0 = M
  have Mk : ∀ k, k ≠ 1 → M k = c2 k := fun k hk => by rw [← hM, up2_k hk]
  have M1 : M 1 1 = 0 := by rw [← hM, up2_same]
  have XM : TextOK M := by
    obtain ⟨x1, x2, x3, x4, x5, x6, x7⟩ := X2
    refine ⟨by rw [M1]; omega, by rw [M1]; decide, ?_, ?_, ?_, ?_, by rw [Mk 2 (by decide)]; exact x7⟩
    · rw [← hM, up2_j (by decide)]; exact x3
    · rw [← hM, up2_j (by decide)]; exact x4
    · rw [← hM, up2_j (by decide)]; exact x5
    · rw [← hM, up2_j (by decide)]; exact x6
  have eM : ∀ k, k ≠ 1 → k ≠ 106 → k ≠ 109 → M k = c k := fun k k1 k2 k3 => by rw [Mk k k1, F2.1 k k1 k2 k3]
  have M5 : M 106 5 = c2 106 5 := by rw [Mk 106 (by decide)]
  have M109 : ∀ j : Int, M 109 j = c2 109 j := fun j => by rw [Mk 109 (by decide)]
  have T1 : TX c a (upr c 1 (M 1)) := by
    refine ⟨h.text' ⟨?_, ?_, ?_⟩ (fun k k1 _ => upr_k k1), fun k hk => upr_k hk⟩
    · obtain ⟨x1, x2, x3, x4, x5, x6, x7⟩ := XM
      rw [eM 2 (by decide) (by decide) (by decide)] at x7
      refine ⟨?_, ?_, ?_, ?_, ?_, ?_, ?_⟩
      · rw [upr_same]; exact x1
      · rw [upr_same]; exact x2
      · rw [upr_same]; exact x3
      · rw [upr_same]; exact x4
      · rw [upr_same]; exact x5
      · rw [upr_same]; exact x6
      · rw [upr_k (by decide)]; exact x7
    · rw [upr_same, textU_n]; exact M1
    · intro j j0 j1
      rw [textU_n] at j1
      omega
  have FM : OFr (upr c 1 (M 1)) M := ⟨fun q q1 _ _ => by
    by_cases e : q = 1
    · subst e; funext j; exact (upr_same _ _ _ _).symm
    · rw [upr_k e, eM q e (by omega) (by omega)], fun x _ => by rw [upr_k (by decide), eM 5 (by decide) (by decide) (by decide)]⟩
  have row1 : textU a 0 (a 182) 169 1 = a 169 1 := textU_f (by decide)
  have row2 : textU a 0 (a 182) 170 = a 170 := textU_k (by decide) (by decide)
  have stayQ : ∀ m : Mem, OFr (upr c 1 (M 1)) m → CQ (upr c 1 (M 1)) m (a 169 1) (a 170) := fun m f => by
    have := CQ.ordS T1.1 f
    rw [row1, row2] at this
    exact this
  rcases hz with ⟨P, ez, e5, e109⟩ | ⟨P, ez⟩
  · refine sg_X11_order_11 (by rw [ez]; decide) (fun _ => ?_) (by rw [ez]; omega)
    rw [hM]
    have e24 : M 24 = c 24 := eM 24 (by decide) (by decide) (by decide)
    have tC : CTown M a := h.town.fr (eM 9 (by decide) (by decide) (by decide)) (fun s hs => ⟨eM _ (by omega) (by omega) (by omega), eM _ (by omega) (by omega) (by omega)⟩)
    have tS : CSet M a := h.set.fr (eM 4 (by decide) (by decide) (by decide))
    have tR : RuleC M v := hR.fr (fun x _ => by rw [eM 5 (by decide) (by decide) (by decide)]) (eM 6 (by decide) (by decide) (by decide)) (eM 7 (by decide) (by decide) (by decide))
    have tN : StRel M 23 (a 180) := h.now.congr (eM 23 (by decide) (by decide) (by decide)) (eM 24 (by decide) (by decide) (by decide)) (eM 25 (by decide) (by decide) (by decide)) (eM 26 (by decide) (by decide) (by decide))
    clear hM
    refine ca_X11_order_36 (ct_prepare tC tS tN tR hT hS hn) (fun c3 h3 => sg_X11_order_39 ?_)
    obtain ⟨O3, F3, L3⟩ := h3
    have e23 : c3 23 = M 23 := L3 23 (by decide) (by decide) (by decide)
    rw [e23]
    generalize hN : up2 (up2 (up2 (up2 (up2 c3 106 6 (M 23 3)) 106 7 (M 23 4)) 106 8 (M 23 5)) 106 9 0) 106 10 0 = N
    have Nk : ∀ k, k ≠ 106 → N k = c3 k := fun k hk => by rw [← hN, up2_k hk, up2_k hk, up2_k hk, up2_k hk, up2_k hk]
    have Nj : ∀ j : Int, j < 6 ∨ 10 < j → N 106 j = c3 106 j := fun j hj => by rw [← hN, up2_j (by omega), up2_j (by omega), up2_j (by omega), up2_j (by omega), up2_j (by omega)]
    have N9 : N 106 9 = 0 := by rw [← hN, up2_j (by decide), up2_same]
    have N10 : N 106 10 = 0 := by rw [← hN, up2_same]
    have NT : TrC N (trow (a 180)) := ⟨by rw [← hN, up2_j (by decide), up2_j (by decide), up2_j (by decide), up2_j (by decide), up2_same]; exact tN.2.1, by rw [← hN, up2_j (by decide), up2_j (by decide), up2_j (by decide), up2_same]; exact tN.2.2.1, by rw [← hN, up2_j (by decide), up2_j (by decide), up2_same]; exact tN.2.2.2⟩
    clear hN
    have FN : OFr M N := F3.trans ⟨fun q q1 _ _ => Nk q (by omega), fun x _ => by rw [Nk 5 (by decide)]⟩
    refine ca_X11_order_71 (ct_followPath (v := v) (r := a 180) (bits := M 24) (W := B) (t := trow (a 180)) (p := ordL a) (FN.town tC) (FN.set tS) hT hS hn (fun s k s0 s1 k0 k1 => tN.out1 s0 (by omega) k0 k1) (O3.fr (fun q hq => Nk q (by omega))) ⟨hn.2.1, hn.2.2.1, hn.2.2.2.1, hn.2.2.2.2.1, hn.2.2.2.2.2.1, hn.2.2.2.2.2.2⟩ hB NT oL.1 oL.2.2 (by rw [Nj 5 (by omega), L3 106 (by decide) (by decide) (by decide), M5, e5]) (fun j hj => by rw [Nk 109 (by decide), L3 109 (by decide) (by decide) (by decide), M109, e109 j hj])) (fun y c4 hy => ?_)
    obtain ⟨hy, V4, -⟩ := hy
    have F4 : OFr (upr c 1 (M 1)) c4 := FM.trans (FN.trans V4.ofr)
    have tr := oTips_rng (a := a) (v := v) (r := a 180) (ordL a) (trow (a 180))
    have l6 := oL.2.2
    rcases hy with ⟨t', w1, ey, w2, w3, w4⟩ | ⟨w1, ey⟩
    · rw [N9] at w3
      rw [N10] at w4
      have e235 : c4 23 5 = a 180 98 := by rw [V4.2 23 (by omega), Nk 23 (by decide), e23]; exact tN.2.2.2
      refine sg_X11_order_74 (by rw [ey]; decide) (fun _ => by rw [w3]; constructor <;> omega) (fun _ => by rw [w4]; constructor <;> omega) (fun _ => ⟨_, rfl, _, T1, Or.inr (Or.inl ⟨P, ⟨t', w1, by rw [w2.2.2, e235]⟩, ?_⟩)⟩) (by rw [ey]; omega)
      rw [w3, w4, show 0 + oTips a v (a 180) (ordL a) (trow (a 180)) + 1 = oTips a v (a 180) (ordL a) (trow (a 180)) + 1 by omega, show 0 + oStays a v (a 180) (ordL a) (trow (a 180)) = oStays a v (a 180) (ordL a) (trow (a 180)) by omega]
      exact CQ.ord F4 CQ.two
    · exact sg_X11_order_74 (by rw [ey]; decide) (fun g => absurd ey g) (fun g => absurd ey g) (fun g => absurd ey g) (fun _ => ⟨_, rfl, _, T1, Or.inr (Or.inr ⟨P, w1, rfl, stayQ _ F4⟩)⟩)
  · have l6 := oL.2.2
    refine sg_X11_order_11 (by rw [ez]; constructor <;> omega) (by rw [ez]; omega) (fun _ => ⟨_, rfl, _, T1, Or.inl ⟨P, ez, ?_⟩⟩)
    rw [hM]
    exact stayQ _ FM
