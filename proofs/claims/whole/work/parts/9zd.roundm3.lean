/-! round: the reference does its acts; the last step -/
theorem doA_ok {B : Int} {a : Mem} {v : (Int → Int) → Int} {x : Int} {r r' : Int → Int} (hT : WTown a) (hS : WSet a) (hn : StOK B a r) (h : doA a v x r = some r') (x1 : x < 40000) : StOK (B + 20000) a r' := by
  have t6 := hT.2.1
  unfold doA at h
  split at h
  · split at h
    · rename_i g
      obtain rfl := Option.some.inj h
      exact (driveR_ok hT hn g.1 (by omega)).1
    · cases h
  · split at h
    · split at h
      · rename_i g
        obtain rfl := Option.some.inj h
        have q := g.1.1
        exact emptyR_ok hT hS hn q.1 (by omega) (by omega)
      · cases h
    · split at h
      · split at h
        · obtain rfl := Option.some.inj h
          exact (tipR_ok hS hn).1
        · cases h
      · obtain rfl := Option.some.inj h
        exact pauseR_ok hn (by omega) (by omega)
def rowR (m : Mem) (x y z : Int) : Mem := up2 (up2 (up2 (up2 (up2 (up2 (up2 m 169 1 0) 170 0 x) 169 1 1) 170 1 y) 169 1 2) 170 2 z) 169 1 3
theorem rowR_k {m : Mem} {x y z : Int} {k : Nat} (h : k ≠ 169) (h2 : k ≠ 170) : rowR m x y z k = m k := by unfold rowR; rw [up2_k h, up2_k h2, up2_k h, up2_k h2, up2_k h, up2_k h2, up2_k h]
theorem rowR_f {m : Mem} {x y z j : Int} (h : j ≠ 1) : rowR m x y z 169 j = m 169 j := by unfold rowR; rw [up2_j h, up2_k (by decide), up2_j h, up2_k (by decide), up2_j h, up2_k (by decide), up2_j h]
theorem rowR_1 {m : Mem} {x y z : Int} : rowR m x y z 169 1 = 3 := by unfold rowR; rw [up2_same]
theorem rowR_r {m : Mem} {x y z : Int} (j : Int) (j0 : 0 ≤ j) (j1 : j < 3) : rowR m x y z 170 j = rwL [x, y, z] j := by
  have : j = 0 ∨ j = 1 ∨ j = 2 := by omega
  unfold rowR
  rcases this with rfl | rfl | rfl
  · rw [up2_k (by decide), up2_j (by decide), up2_k (by decide), up2_j (by decide), up2_k (by decide), up2_same]; rfl
  · rw [up2_k (by decide), up2_j (by decide), up2_k (by decide), up2_same]; rfl
  · rw [up2_k (by decide), up2_same]; rfl
theorem mt_round_do {E : Nat × (Nat → Int32)} {P : Option Value → Mem → Prop} {m a M : Mem} {v : (Int → Int) → Int} {B s1 s2 s3 s4 : Int} {l : List Int} {D : Nat × (Int → Int)} (hm : HighEq a m) (hR : RuleM a v) (w : W0 B a) (hB : B ≤ 800000000) (F : FrL m M) (A : ActsR l M) (l30 : (l.length : Int) ≤ 30) (lx : ∀ x ∈ l, 0 ≤ x ∧ x < 40000) (eD : D = doG a v l (a 180))
    (hP0 : D.1 = 0 → ∀ m', PEq m' (rowU (textU m 0 (textN m)) 3 (rwL [if (D.1 : Int) < l.length then 1 else 0, cnt D.2 2 96 - cnt (a 180) 2 96, D.2 98 - a 180 98])) → LowEq m m' → P (some (vi 0)) m')
    (hP1 : D.1 ≠ 0 → ∀ m', PEq m' (actU (textU m 0 (textN m)) D.2 3 (rwL [if (D.1 : Int) < l.length then 1 else 0, cnt D.2 2 96 - cnt (a 180) 2 96, D.2 98 - a 180 98])) → LowEq m m' → P (some (vi (D.1 : Int))) m') :
    GM E (m_X12_round 8) P 79 [.ref 169, vi s1, vi s2, vi s3, vi s4, un, un] [.ref 169] M := by
  have hT := w.town
  have hS := w.set
  have hn := w.now
  have hn98 := hn.2.2.2.2.2
  have u0 := w.hist.1
  have u1 := w.hist.2.1
  have e9 : ∀ j : Int, m 169 j = a 169 j := fun j => by rw [hm 169 (by decide)]
  have M40 : M 169 40 = m 169 40 := F.2.2.2 40 (by decide) (by decide) (by decide) (by decide) (by decide) (by decide)
  refine ca_X12_round_79 (ct_putsBy (by rw [M40, e9]; exact u0) (by rw [M40, e9]; exact u1)) (fun m1 h1 => sg_X12_round_82 ?_)
  have k1 : ∀ k, k ≠ 190 → m1 k = M k := fun k h => by rw [h1]; exact mv_k h
  have x1 : m1 190 = mv (textU m 0 (textN m)) 180 0 190 (99 * textU m 0 (textN m) 169 40) 99 190 := by
    rw [h1]
    funext j
    unfold mv
    rw [upr_same, upr_same, M40, F.1 180 (by decide) (by decide) (by decide) (by decide) (by decide), F.1 190 (by decide) (by decide) (by decide) (by decide) (by decide), textU_f (by decide), textU_k (by decide) (by decide), textU_k (by decide) (by decide)]
  clear h1
  have e80 : m1 180 = a 180 := by rw [k1 180 (by decide), F.1 180 (by decide) (by decide) (by decide) (by decide) (by decide), hm 180 (by decide)]
  rw [e80]
  generalize hM2 : up2 m1 169 47 0 = M2
  have K2 : ∀ k, k ≠ 169 → k ≠ 190 → M2 k = M k := fun k h h2 => by rw [← hM2, up2_k h, k1 k h2]
  have F2 : ∀ j : Int, j ≠ 47 → M2 169 j = M 169 j := fun j h => by rw [← hM2, up2_j h, k1 169 (by decide)]
  have M47 : M2 169 47 = 0 := by rw [← hM2, up2_same]
  have M90 : M2 190 = mv (textU m 0 (textN m)) 180 0 190 (99 * textU m 0 (textN m) 169 40) 99 190 := by rw [← hM2, up2_k (by decide), x1]
  clear hM2
  -- what a memory behind some acts tells
  have fk : ∀ m2 : Mem, DoF M2 m2 → ∀ k, PR k → k ≠ 169 → k ≠ 180 → k ≠ 190 → m2 k = textU m 0 (textN m) k := fun m2 G k hk h9 h8 h19 => by
    have q := hk.not
    rw [G.1 k h8 h9 (by omega) (by omega), K2 k h9 h19]
    by_cases c : k = 182
    · subst c; rw [F.2.1, tx0_t]
    · rw [F.1 k h9 c (by omega) (by omega) (by omega), tx0_k h9 c]
  have ff : ∀ m2 : Mem, DoF M2 m2 → ∀ j, PF j → m2 169 j = textU m 0 (textN m) 169 j := fun m2 G j hj => by
    have q := hj.not
    rw [G.2 j (by omega) (by omega) (by omega), F2 j (by omega)]
    by_cases c : j = 17
    · subst c; rw [F.2.2.1, textU_n]
    · rw [F.2.2.2 j q.1 c (by omega) (by omega) (by omega) (by omega), textU_f c]
  have flow : ∀ m2 : Mem, DoF M2 m2 → LowEq m m2 := fun m2 G k hk => by
    rw [G.1 k (by omega) (by omega) (by omega) (by omega), K2 k (by omega) (by omega), F.1 k (by omega) (by omega) (by omega) (by omega) (by omega)]
  have fmb : ∀ m2 : Mem, DoF M2 m2 → MB a m2 := fun m2 G => by
    refine ⟨?_, ?_, fun k k0 k9 => ?_, ?_⟩
    · rw [ff m2 G 3 (by unfold PF; omega), textU_f (by decide), e9]
    · rw [ff m2 G 26 (by unfold PF; omega), textU_f (by decide), e9]
    · rw [fk m2 G k (by unfold PR; omega) (by omega) (by omega) (by omega), textU_k (by omega) (by omega), hm k (by omega)]
    · rw [fk m2 G 185 (by unfold PR; omega) (by decide) (by decide) (by decide), textU_k (by decide) (by decide), hm 185 (by decide)]
  have facts : ∀ m2 : Mem, DoF M2 m2 → ActsR l m2 := fun m2 G => by
    refine ⟨?_, fun j hj => ?_⟩
    · rw [G.2 46 (by omega) (by decide) (by decide), F2 46 (by decide)]; exact A.1
    · rw [G.1 191 (by decide) (by decide) (by decide) (by decide), G.1 192 (by decide) (by decide) (by decide) (by decide), G.1 193 (by decide) (by decide) (by decide) (by decide), K2 191 (by decide) (by decide), K2 192 (by decide) (by decide), K2 193 (by decide) (by decide)]
      exact A.2 j hj
  have f190 : ∀ m2 : Mem, DoF M2 m2 → m2 190 = mv (textU m 0 (textN m)) 180 0 190 (99 * textU m 0 (textN m) 169 40) 99 190 := fun m2 G => by rw [G.1 190 (by decide) (by decide) (by decide) (by decide), M90]
  have fin0 : ∀ (r : Int → Int) (m2 : Mem) (fl : Int), DoF M2 m2 → (∀ b : Int, 0 ≤ b → b < 99 → m2 180 b = r b) → m2 169 47 = cnt r 2 96 - cnt (a 180) 2 96 → D = (0, r) → (r = a 180) → fl = (if (D.1 : Int) < l.length then 1 else 0) → P (some (vi 0)) (rowR m2 fl (m2 169 47) (m2 180 98 - a 180 98)) := fun r m2 fl G er e47 e ra hf => by
    have d1 : D.1 = 0 := by rw [e]
    have d2 : D.2 = r := by rw [e]
    have q := hP0 d1
    rw [d2, ← hf] at q
    rw [e47, er 98 (by decide) (by decide)]
    refine q _ (PEq.gen (fun k hk h9 h0 h8 h19 => ?_) (fun j hj => ?_) (fun j j0 j1 => ?_) (fun j j0 j1 => ?_) (fun j j0 j1 => ?_)) (fun k hk => ?_)
    · rw [rowR_k h9 h0, rowU_k h9 h0]; exact fk m2 G k hk h9 h8 h19
    · by_cases c : j = 1
      · subst c; rw [rowR_1, rowU_1]
      · rw [rowR_f c, rowU_f c]; exact ff m2 G j hj
    · rw [rowU_1] at j1
      rw [rowU_r]; exact rowR_r j j0 j1
    · rw [rowR_k (by decide) (by decide), rowU_k (by decide) (by decide), textU_k (by decide) (by decide), er j j0 j1, ra, hm 180 (by decide)]
    · rw [rowU_f (by decide)] at j1
      rw [rowR_k (by decide) (by decide), rowU_k (by decide) (by decide), f190 m2 G, mv_out (by omega)]
    · rw [rowR_k (by omega) (by omega)]; exact flow m2 G k hk
  have fin1 : ∀ (r : Int → Int) (i : Nat) (m2 : Mem) (fl : Int), DoF M2 m2 → (∀ b : Int, 0 ≤ b → b < 99 → m2 180 b = r b) → m2 169 47 = cnt r 2 96 - cnt (a 180) 2 96 → D = (i, r) → i ≠ 0 → fl = (if (D.1 : Int) < l.length then 1 else 0) → GM E (m_X12_round 8) P 182 [.ref 169, vi s1, vi s2, vi s3, vi s4, vi (a 180 98), vi (i : Int)] [vi (i : Int), .ref 169] (rowR m2 fl (m2 169 47) (m2 180 98 - a 180 98)) := fun r i m2 fl G er e47 e i0 hf => by
    have d1 : D.1 = i := by rw [e]
    have d2 : D.2 = r := by rw [e]
    have q := hP1 (by omega)
    rw [d2, ← hf, d1] at q
    rw [e47, er 98 (by decide) (by decide)]
    have x40 : rowR m2 fl (cnt r 2 96 - cnt (a 180) 2 96) (r 98 - a 180 98) 169 40 = textU m 0 (textN m) 169 40 := by rw [rowR_f (by decide)]; exact ff m2 G 40 (by unfold PF; omega)
    have y40 : textU m 0 (textN m) 169 40 = a 169 40 := by rw [textU_f (by decide), e9]
    refine ca_X12_round_182 (ct_adds (by rw [x40, y40]; exact u0) (by rw [x40, y40]; exact u1)) (fun z m3 hz => sg_X12_round_185 ?_)
    obtain ⟨ez, em⟩ := hz
    rw [ez, em]
    refine q _ (act_peq ?_ x40 (fun b b0 b1 => ?_) (fun k hk h9 h0 h8 h19 => ?_) (fun j hj h1 h40 => ?_) rowR_1 (fun j j0 j1 => rowR_r j j0 j1)) (fun k hk => ?_)
    · rw [rowR_k (by decide) (by decide)]; exact f190 m2 G
    · rw [rowR_k (by decide) (by decide)]; exact er b b0 b1
    · rw [rowR_k h9 h0]; exact fk m2 G k hk h9 h8 h19
    · rw [rowR_f h1]; exact ff m2 G j hj
    · rw [addU_low hk, rowR_k (by omega) (by omega)]; exact flow m2 G k hk
  have rng : ∀ (r : Int → Int) (i : Nat), i ≤ 30 → StOK (B + 20000 * i) a r → RI (cnt r 2 96 - cnt (a 180) 2 96) ∧ RI (r 98 - a 180 98) := fun r i hi ho => by
    have q1 := cnt_rng (r := r) (q := 2)
    have q2 := cnt_rng (r := a 180) (q := 2)
    obtain ⟨-, -, -, -, -, n6, n7⟩ := ho
    exact ⟨by constructor <;> omega, by constructor <;> omega⟩
  have key : ∀ (d i : Nat) (r : Int → Int) (m2 : Mem), i + d = l.length → DoF M2 m2 → (∀ b : Int, 0 ≤ b → b < 99 → m2 180 b = r b) → m2 169 47 = cnt r 2 96 - cnt (a 180) 2 96 → StOK (B + 20000 * i) a r → (i = 0 → r = a 180) → D = (i + (doG a v (l.drop i) r).1, (doG a v (l.drop i) r).2) → GM E (m_X12_round 8) P 99 [.ref 169, vi s1, vi s2, vi s3, vi s4, vi (a 180 98), vi (i : Int)] [] m2 := by
    intro d
    induction d with
    | zero =>
      intro i r m2 hi G er e47 ho ra eD
      rw [List.drop_eq_nil_of_le (by omega)] at eD
      have eD : D = (i, r) := eD
      have q := rng r i (by omega) ho
      have a46 := (facts m2 G).1
      have hf : (0 : Int) = (if (D.1 : Int) < l.length then 1 else 0) := by rw [eD, if_neg (by dsimp only; omega)]
      refine sg_X12_round_99 ⟨by omega, by omega⟩ (by rw [a46]; constructor <;> omega) (fun _ _ => by rw [e47]; exact q.1) (fun _ _ => by rw [er 98 (by decide) (by decide)]; exact q.2) (fun g g2 => absurd g g2) (fun g g2 => absurd g g2) (fun _ _ g => ?_) (fun _ _ g => ?_) (fun g g2 => absurd g g2) (fun g g2 => absurd g g2) (fun g => by rw [a46] at g; omega)
      · have i0 : i = 0 := by omega
        subst i0
        exact fin0 r m2 0 G er e47 eD (ra rfl) hf
      · exact fin1 r i m2 0 G er e47 eD (by omega) hf
    | succ d ih =>
      intro i r m2 hi G er e47 ho ra eD
      have hd : l.drop i = l.getD i 0 :: l.drop (i + 1) := by
        rw [List.drop_eq_getElem_cons (show i < l.length by omega), List.getD_eq_getElem?_getD, List.getElem?_eq_getElem (show i < l.length by omega)]
        rfl
      have hx := lx _ (getD_mem0 (l := l) (j := i) (by omega))
      have a46 := (facts m2 G).1
      have aA := (facts m2 G).2 i (by omega)
      rw [hd] at eD
      have q := rng r i (by omega) ho
      refine sg_X12_round_99 ⟨by omega, by omega⟩ (by rw [a46]; constructor <;> omega) (fun g => by rw [a46] at g; omega) (fun g => by rw [a46] at g; omega) (fun g => by rw [a46] at g; omega) (fun g => by rw [a46] at g; omega) (fun g => by rw [a46] at g; omega) (fun g => by rw [a46] at g; omega) (fun g => by rw [a46] at g; omega) (fun g => by rw [a46] at g; omega) (fun _ => ?_)
      refine ca_X12_round_111 (mt_does (r := r) (x := l.getD i 0) (fmb m2 G) hR hT hS er ho (by omega) (by omega) (by omega) aA) (fun z m3 hz => ?_)
      obtain ⟨hz, G3⟩ := hz
      have G2 := G.trans G3
      have b46 := (facts m3 G2).1
      rcases hz with ⟨r', eA, ez, er', f47⟩ | ⟨eA, ez, er', f47⟩
      · rw [doG_yes eA] at eD
        subst ez
        have ho' := doA_ok hT hS ho eA hx.2
        refine sg_X12_round_114 (by decide) ⟨by omega, by omega⟩ (fun g => absurd g (by decide)) (fun g => absurd g (by decide)) (fun g => absurd g (by decide)) (fun g => absurd g (by decide)) (fun g => absurd g (by decide)) (fun g => absurd g (by decide)) (fun g => absurd g (by decide)) (fun g => absurd g (by decide)) (fun g => absurd g (by decide)) (fun _ => ?_)
        have := ih (i + 1) r' m3 (by omega) G2 er' (by rw [f47, e47]; omega) (ho'.mono (by omega)) (fun o => by omega) (by rw [eD]; dsimp only; rw [show i + ((doG a v (l.drop (i + 1)) r').1 + 1) = i + 1 + (doG a v (l.drop (i + 1)) r').1 by omega])
        exact this
      · rw [doG_no eA] at eD
        have eD : D = (i, r) := eD
        subst ez
        have g47 : m3 169 47 = cnt r 2 96 - cnt (a 180) 2 96 := by rw [f47, e47]
        have hf : (1 : Int) = (if (D.1 : Int) < l.length then 1 else 0) := by rw [eD, if_pos (by dsimp only; omega)]
        refine sg_X12_round_114 (by decide) ⟨by omega, by omega⟩ (fun _ => by rw [b46]; constructor <;> omega) (fun _ g => by rw [b46] at g; omega) (fun _ g => by rw [b46] at g; omega) (fun _ _ => by rw [g47]; exact q.1) (fun _ _ => by rw [er' 98 (by decide) (by decide)]; exact q.2) (fun _ g => by rw [b46] at g; omega) (fun _ g => by rw [b46] at g; omega) (fun _ _ g => ?_) (fun _ _ g => ?_) (fun g => absurd rfl g)
        · have i0 : i = 0 := by omega
          subst i0
          exact fin0 r m3 1 G2 er' g47 eD (ra rfl) hf
        · exact fin1 r i m3 1 G2 er' g47 eD (by omega) hf
  have c98 : cnt (a 180) 2 96 - cnt (a 180) 2 96 = 0 := by omega
  have := key l.length 0 (a 180) M2 (by omega) DoF.rf (fun b _ _ => by rw [K2 180 (by decide) (by decide), F.1 180 (by decide) (by decide) (by decide) (by decide) (by decide), hm 180 (by decide)]) (by rw [M47, c98]) (hn.mono (by omega)) (fun _ => rfl) (by rw [eD, List.drop_zero]; simp)
  exact this
