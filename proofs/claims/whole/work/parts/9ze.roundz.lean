/-! round: both sides -/
theorem FrL.peq {m M : Mem} (h : FrL m M) : PEq M (textU m 0 (textN m)) := PEq.of (fun k hk h9 => by
    have q := hk.not
    by_cases c : k = 182
    · subst c; rw [h.2.1, tx0_t]
    · rw [h.1 k h9 c (by omega) (by omega) (by omega), tx0_k h9 c]) (fun j hj => by
    have q := hj.not
    by_cases c : j = 17
    · subst c; rw [h.2.2.1, textU_n]
    · rw [h.2.2.2 j q.1 c (by omega) (by omega) (by omega) (by omega), textU_f c])
theorem FrL.low {m M : Mem} (h : FrL m M) : LowEq m M := fun k hk => h.1 k (by omega) (by omega) (by omega) (by omega) (by omega)
theorem rdG_in {lk : Int → Int} {n : Int} : ∀ (f : Nat) (i : Int) (l : List Int), (∀ x ∈ l, 0 ≤ x ∧ x < 40000) → (∀ i, (actG lk i).1 < 40000) → ((l.length : Int) + f ≤ 30) → (∀ x ∈ (rdG lk n f i l).2.1, 0 ≤ x ∧ x < 40000) ∧ ((rdG lk n f i l).2.1.length : Int) ≤ 30
  | 0, i, l, h, _, hl => ⟨h, by show (l.length : Int) ≤ 30; omega⟩
  | f + 1, i, l, h, g, hl => by
    have l1 : (l ++ [(actG lk i).1]).length = l.length + 1 := by rw [List.length_append]; rfl
    rw [rdG]
    split
    · exact ⟨h, by dsimp only; omega⟩
    · rename_i c
      have m4 : ∀ x ∈ l ++ [(actG lk i).1], 0 ≤ x ∧ x < 40000 := fun x hx => by
        rcases List.mem_append.1 hx with o | o
        · exact h x o
        · rw [List.mem_singleton] at o
          have := g i
          rw [o]; omega
      split
      · exact ⟨m4, by dsimp only; rw [l1]; omega⟩
      · split
        · exact rdG_in f _ _ m4 g (by rw [l1]; omega)
        · exact ⟨m4, by dsimp only; rw [l1]; omega⟩
theorem rdA_in {a : Mem} : (∀ x ∈ (rdA a).2.1, 0 ≤ x ∧ x < 40000) ∧ ((rdA a).2.1.length : Int) ≤ 30 := by
  unfold rdA
  split
  · exact ⟨(fun x hx => absurd hx List.not_mem_nil), (by decide : (([] : List Int).length : Int) ≤ 30)⟩
  · refine rdG_in 30 0 [] (fun x hx => absurd hx List.not_mem_nil) (fun i => ?_) (by decide)
    by_cases c : i ≤ min (a 169 17) 60
    · have := (actG_ok (a := a) c).1
      omega
    · rw [actG_end (by omega)]
      exact (by decide : (-1 : Int) < 40000)
theorem mt_round {E : Nat × (Nat → Int32)} {m a : Mem} {v : (Int → Int) → Int} {B : Int} (hm : HighEq a m) (hR : RuleM a v) (w : W0 B a) (hB : B ≤ 800000000) : K_X12_round E [.ref 169] m (fun z m' => LowEq m m' ∧ (((rdA a).2.2 = false ∧ z = -1 - (rdA a).1 ∧ PEq m' (textU m 0 (textN m))) ∨ ((rdA a).2.2 = true ∧ (doG a v (rdA a).2.1 (a 180)).1 = 0 ∧ z = 0 ∧ PEq m' (rowU (textU m 0 (textN m)) 3 (rndL a v))) ∨ ((rdA a).2.2 = true ∧ (doG a v (rdA a).2.1 (a 180)).1 ≠ 0 ∧ z = (doG a v (rdA a).2.1 (a 180)).1 ∧ PEq m' (actU (textU m 0 (textN m)) (doG a v (rdA a).2.1 (a 180)).2 3 (rndL a v))))) := by
  have x1 := w.text.1
  have x2 := w.text.2.1
  have e17 : m 169 17 = a 169 17 := by rw [hm 169 (by decide)]
  have rp := rdA_pos (a := a)
  have ri := rdA_in (a := a)
  have K : ∀ (s : Int) (M : Mem), FrL m M → RdR (rdA a) (a 169 17) s M → GM E (m_X12_round 8) (Pi fun z m' => LowEq m m' ∧ (((rdA a).2.2 = false ∧ z = -1 - (rdA a).1 ∧ PEq m' (textU m 0 (textN m))) ∨ ((rdA a).2.2 = true ∧ (doG a v (rdA a).2.1 (a 180)).1 = 0 ∧ z = 0 ∧ PEq m' (rowU (textU m 0 (textN m)) 3 (rndL a v))) ∨ ((rdA a).2.2 = true ∧ (doG a v (rdA a).2.1 (a 180)).1 ≠ 0 ∧ z = (doG a v (rdA a).2.1 (a 180)).1 ∧ PEq m' (actU (textU m 0 (textN m)) (doG a v (rdA a).2.1 (a 180)).2 3 (rndL a v))))) 65 [.ref 169, vi (a 169 17), vi s, vi 0, un, un, un] [vi s, vi 60, vi (a 169 17), .ref 169] M := fun s M F S => by
    obtain ⟨S, h19, p0, p1, rs⟩ := S
    refine ca_X12_round_65 (mt_faultOf (p := M 169 18) rfl h19 p0 p1 x2 (by decide) rs) (fun z m2 hz => ?_)
    obtain ⟨ez, em⟩ := hz
    rw [em]
    rcases S with ⟨ok, s0, h18, A⟩ | ⟨ok, nf, h18⟩
    · rw [if_pos ⟨s0, h18⟩] at ez
      subst ez
      refine sg_X12_round_68 (by decide) (fun _ => ?_) (fun g => absurd (by decide : (0 : Int) ≤ 0) g)
      exact mt_round_do hm hR w hB F A ri.2 ri.1 rfl (fun d0 m' p lw => ⟨_, rfl, lw, Or.inr (Or.inl ⟨ok, d0, rfl, p⟩)⟩) (fun d0 m' p lw => ⟨_, rfl, lw, Or.inr (Or.inr ⟨ok, d0, rfl, p⟩)⟩)
    · rw [h18, if_neg nf] at ez
      refine sg_X12_round_68 (by constructor <;> omega) (fun g => by omega) (fun _ => ⟨_, rfl, F.low, Or.inl ⟨ok, ez, F.peq⟩⟩)
  refine en_X12_round (sg_X12_round_0 (by rw [e17]; constructor <;> omega) (fun g => ?_) (fun g => ?_))
  · rw [e17] at g ⊢
    refine GM_beg (n := a 169 17) (most := 60) (k := 46) ?_
    have n0 : a 169 17 = 0 := by omega
    have e : rdA a = (0, [], true) := if_pos g
    have T := begR_tx (k := 46) hm w.text rfl (show (0 : Int) ≤ 60 by decide) (by decide) (by decide)
    refine sg_X12_round_29 (by decide) (fun _ => K 1 _ FrL.beg ⟨Or.inl ⟨by rw [e], by decide, by rw [T.p, n0], by rw [e]; exact ⟨begR_own, fun j hj => by have hj : j < 0 := hj; omega⟩⟩, T.l, by rw [T.p]; decide, by rw [T.p]; omega, by decide⟩) (fun g => absurd rfl g)
  · rw [e17] at g ⊢
    refine GM_beg (n := a 169 17) (most := 60) (k := 46) ?_
    have T := begR_tx (k := 46) hm w.text rfl (show (0 : Int) ≤ 60 by decide) (by decide) (by decide)
    exact mt_round_read (a := a) (R := rdA a) x2 K 30 0 [] 1 _ rfl (by decide) T ⟨begR_own, fun j hj => by have hj : j < 0 := hj; omega⟩ FrL.beg (if_neg g)
theorem doG_0 {a : Mem} {v : (Int → Int) → Int} {l : List Int} {r : Int → Int} (h : (doG a v l r).1 = 0) : (doG a v l r).2 = r := by
  cases l with
  | nil => rfl
  | cons x l =>
    rw [doG] at h ⊢
    split
    · rfl
    · rename_i r' e
      rw [e] at h
      exact absurd h (Nat.succ_ne_zero _)
theorem step_round {E E2 : Nat × (Nat → Int32)} {m : Mem} {v : (Int → Int) → Int} {B : Int} (h : Rel v B m) (hB : B ≤ 800000000) : K_X11_round E [.ref 0] m (fun z m1 => K_X12_round E2 [.ref 169] m1 (fun z' m2 => z' = z ∧ Rel v (B + 600000) m2)) := by
  have w := h.2.2.2
  refine (ct_round (v := v) h.1 h.2.1 w (by omega)).mono (fun o m1 hz => ?_)
  obtain ⟨z, rfl, c0, ⟨hc0, e0⟩, hz⟩ := hz
  refine ⟨z, rfl, ?_⟩
  have hi0 : HighEq m c0 := fun k hk => e0 k (by omega) (by omega)
  have hi : HighEq m m1 := by
    rcases hz with ⟨-, -, q⟩ | ⟨-, -, -, q⟩ | ⟨-, -, -, -, -, q, -⟩
    · exact hi0.trans q.2.2.2.2.2.2.2
    · exact hi0.trans q.2.2.2.2.2.2.2
    · exact hi0.trans q
  refine (mt_round (a := m) (v := v) hi h.2.2.1 w hB).mono (fun o m2 hy => ?_)
  obtain ⟨y, rfl, lw, hy⟩ := hy
  refine ⟨y, rfl, ?_⟩
  have eN : textN m1 = textN m := by unfold textN; rw [hi 182 (by decide)]
  have pe : HighEq (textU m 0 (textN m)) (textU m1 0 (textN m1)) := by rw [eN]; exact hi_textU hi
  have r1 : RuleC c0 v := h.2.1.fr (fun x _ => by rw [e0 5 (by decide) (by decide)]) (e0 6 (by decide) (by decide)) (e0 7 (by decide) (by decide))
  have w0 : W0 B (textU m 0 (textN m)) := w.text' (by decide) (by decide) (fun j j0 j1 => by omega)
  have rm : RuleM (textU m 0 (textN m)) v := h.2.2.1.of (textU_f (by decide)) (textU_k (by decide) (by decide))
  have rl := w.rowL
  have cr : ∀ r : Int → Int, -96 ≤ cnt r 2 96 - cnt (m 180) 2 96 ∧ cnt r 2 96 - cnt (m 180) 2 96 ≤ 96 := fun r => by
    have q1 := cnt_rng (r := r) (q := 2)
    have q2 := cnt_rng (r := m 180) (q := 2)
    omega
  have n98 := w.now.2.2.2.2.2
  have rr : ∀ D : Nat × (Int → Int), D = doG m v (rdA m).2.1 (m 180) → 0 ≤ D.2 98 → D.2 98 ≤ B + 600000 → ∀ j : Int, LR (rndL m v j) := fun D eD d0 d1 j => by
    unfold rndL
    rw [← eD]
    have c := cr D.2
    exact rwL_3 (LR.of (by split <;> decide)) (LR.of (by omega)) (LR.of (by omega)) j
  rcases hz with ⟨ok, ez, q⟩ | ⟨ok, d0, ez, q⟩ | ⟨ok, d0, ez, q, rf, -, so⟩
  · rcases hy with ⟨-, ey, p⟩ | ⟨ok', -⟩ | ⟨ok', -⟩
    · have p2 := (p.trans pe.peq).stay
      rw [textU_f (by decide), textU_k (a := m) (k := 170) (by decide) (by decide)] at p2
      exact ⟨by rw [ez, ey], (Rel.fin (q.rel hc0) (q.rule r1) (rm.of (rowU_f (by decide)) (rowU_k (by decide) (by decide))) (w0.rowC rl.1 rl.2.1 rl.2.2) p2 lw).mono (by omega)⟩
    · rw [ok] at ok'; cases ok'
    · rw [ok] at ok'; cases ok'
  · rcases hy with ⟨ok', -⟩ | ⟨-, -, ey, p⟩ | ⟨-, d1, -⟩
    · rw [ok] at ok'; cases ok'
    · have e := doG_0 d0
      have R := rr _ rfl (by rw [e]; omega) (by rw [e]; omega)
      exact ⟨by rw [ez, ey], (Rel.fin (q.rel hc0) (q.rule r1) (rm.of (rowU_f (by decide)) (rowU_k (by decide) (by decide))) (w0.rowC (by decide) (by decide) (fun j _ _ => R j)) (p.trans pe.peq.rowC) lw).mono (by omega)⟩
    · exact absurd d0 d1
  · rcases hy with ⟨ok', -⟩ | ⟨-, d1, -⟩ | ⟨-, -, ey, p⟩
    · rw [ok] at ok'; cases ok'
    · exact absurd d1 d0
    · have R := rr _ rfl so.2.2.2.2.2.1 so.2.2.2.2.2.2
      have so2 : StOK (B + 600000) (textU m 0 (textN m)) (doG m v (rdA m).2.1 (m 180)).2 := so.congr (fun _ _ _ => rfl) (fun b _ _ => by rw [textU_k (by decide) (by decide)])
      exact ⟨by rw [ez, ey], Rel.fin q (r1.fr rf.1 rf.2.1 rf.2.2) (rm.of (actU_f (by decide) (by decide)) (actU_k (by decide) (by decide) (by decide) (by decide))) (w0.act (by omega) so2 (by decide) (by decide) (fun j _ _ => R j)) (p.trans (hi_actU pe).peq) lw⟩
