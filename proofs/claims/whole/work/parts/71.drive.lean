/-! drive, tip, pause: both sides -/
def AF (c c' : Mem) : Prop := (∀ k, (k < 23 ∨ 26 < k) → (k < 100 ∨ 105 < k) → k ≠ 8 → k ≠ 5 → c' k = c k) ∧ ∀ x : Int, x ≠ 5 → c' 5 x = c 5 x
theorem AF.of {c c' : Mem} (e : ∀ k, k ≠ 23 → c' k = c k) : AF c c' := ⟨fun k h _ _ _ => e k (by omega), fun x _ => by rw [e 5 (by decide)]⟩
theorem act_rel {c c1 c2 c3 c4 a : Mem} {r : Int → Int} {n : Int} {f : Int → Int} (h : CR0 c a) (n1 : ∀ k, k ≠ 29 → k ≠ 30 → k ≠ 31 → k ≠ 32 → c1 k = c k) (f2 : AF c1 c2) (hN : StRel c2 23 r) (hH : CHist c3 (pushU a)) (f3 : ∀ k, k ≠ 27 → k ≠ 28 → (k < 33 ∨ 93 ≤ k) → c3 k = c2 k) (f4 : ∀ k, k ≠ 0 → k ≠ 168 → c4 k = c3 k) (h14 : c4 0 14 = n) (hf : ∀ j : Int, 0 ≤ j → j < n → c4 168 j = f j) : CR0 c4 (actU a r n f) ∧ RF c c4 ∧ HighEq c c4 := by
  have e : ∀ k, k ≠ 0 → k ≠ 168 → (k < 23 ∨ 26 < k) → (k < 100 ∨ 105 < k) → k ≠ 8 → k ≠ 5 → k ≠ 27 → k ≠ 28 → (k < 29 ∨ 93 ≤ k) → c4 k = c k := fun k h0 h1 h2 h3 h4 h5 h6 h7 h8 => by
    rw [f4 k h0 h1, f3 k h6 h7 (by omega), f2.1 k h2 h3 h4 h5, n1 k (by omega) (by omega) (by omega) (by omega)]
  have e5 : ∀ x : Int, x ≠ 5 → c4 5 x = c 5 x := fun x hx => by
    rw [f4 5 (by decide) (by decide), f3 5 (by decide) (by decide) (by decide), f2.2 x hx, n1 5 (by decide) (by decide) (by decide) (by decide)]
  refine ⟨h.act (hN.congr ?_ ?_ ?_ ?_) (hH.fr ?_ (f4 28 (by decide) (by decide)) (fun k k0 k1 => f4 k (by omega) (by omega))) h14 hf (fun k hk h8 h9 => ?_) ?_, ⟨e5, ?_, ?_⟩, fun k hk => e k (by omega) (by omega) (by omega) (by omega) (by omega) (by omega) (by omega) (by omega) (by omega)⟩
  · rw [f4 23 (by decide) (by decide), f3 23 (by decide) (by decide) (by decide)]
  · rw [f4 24 (by decide) (by decide), f3 24 (by decide) (by decide) (by decide)]
  · rw [f4 25 (by decide) (by decide), f3 25 (by decide) (by decide) (by decide)]
  · rw [f4 26 (by decide) (by decide), f3 26 (by decide) (by decide) (by decide)]
  · rw [f4 27 (by decide) (by decide)]
  · have hk := hk.ne
    exact e k (by omega) h8 (by omega) (by omega) (by omega) (by omega) (by omega) (by omega) (by omega)
  · rw [e 93 (by decide) (by decide) (by decide) (by decide) (by decide) (by decide) (by decide) (by decide) (by decide)]
  · exact e 6 (by decide) (by decide) (by decide) (by decide) (by decide) (by decide) (by decide) (by decide) (by decide)
  · exact e 7 (by decide) (by decide) (by decide) (by decide) (by decide) (by decide) (by decide) (by decide) (by decide)
theorem act_ref {c c1 a : Mem} (h : CR0 c a) (n1 : ∀ k, k ≠ 29 → k ≠ 30 → k ≠ 31 → k ≠ 32 → c1 k = c k) : CQ c c1 (a 169 1) (a 170) := by
  refine ⟨?_, fun j j0 j1 => ?_, fun k hk _ => ?_, ?_, fun x _ => ?_, n1 6 (by decide) (by decide) (by decide) (by decide), n1 7 (by decide) (by decide) (by decide) (by decide), fun k hk => n1 k (by omega) (by omega) (by omega) (by omega)⟩
  · rw [n1 0 (by decide) (by decide) (by decide) (by decide)]; exact h.row.1
  · rw [n1 168 (by decide) (by decide) (by decide) (by decide)]; exact h.row.2 j j0 j1
  · have hk := hk.ne
    exact n1 k (by omega) (by omega) (by omega) (by omega)
  · rw [n1 93 (by decide) (by decide) (by decide) (by decide)]
  · rw [n1 5 (by decide) (by decide) (by decide) (by decide)]
/-- the row stays over an act -/
theorem row_stays {c c1 c2 c3 a : Mem} (h : CR0 c a) (n1 : ∀ k, k ≠ 29 → k ≠ 30 → k ≠ 31 → k ≠ 32 → c1 k = c k) (f2 : AF c1 c2) (f3 : ∀ k, k ≠ 27 → k ≠ 28 → (k < 33 ∨ 93 ≤ k) → c3 k = c2 k) : c3 0 14 = a 169 1 ∧ ∀ j : Int, 0 ≤ j → j < a 169 1 → c3 168 j = a 170 j := by
  refine ⟨?_, fun j j0 j1 => ?_⟩
  · rw [f3 0 (by decide) (by decide) (by decide), f2.1 0 (by decide) (by decide) (by decide) (by decide), n1 0 (by decide) (by decide) (by decide) (by decide)]; exact h.row.1
  · rw [f3 168 (by decide) (by decide) (by decide), f2.1 168 (by decide) (by decide) (by decide) (by decide), n1 168 (by decide) (by decide) (by decide) (by decide)]; exact h.row.2 j j0 j1
theorem note_rel {c c1 : Mem} {r : Int → Int} (h : StRel c 23 r) (n1 : ∀ k, k ≠ 29 → k ≠ 30 → k ≠ 31 → k ≠ 32 → c1 k = c k) : StRel c1 23 r := h.congr (n1 _ (by decide) (by decide) (by decide) (by decide)) (n1 _ (by decide) (by decide) (by decide) (by decide)) (n1 _ (by decide) (by decide) (by decide) (by decide)) (n1 _ (by decide) (by decide) (by decide) (by decide))
theorem note_town {c c1 a : Mem} (h : CTown c a) (n1 : ∀ k, k ≠ 29 → k ≠ 30 → k ≠ 31 → k ≠ 32 → c1 k = c k) : CTown c1 a := h.fr (n1 9 (by decide) (by decide) (by decide) (by decide)) (fun s hs => ⟨n1 _ (by omega) (by omega) (by omega) (by omega), n1 _ (by omega) (by omega) (by omega) (by omega)⟩)
theorem note_set {c c1 a : Mem} (h : CSet c a) (n1 : ∀ k, k ≠ 29 → k ≠ 30 → k ≠ 31 → k ≠ 32 → c1 k = c k) : CSet c1 a := h.fr (n1 4 (by decide) (by decide) (by decide) (by decide))
theorem note_rule {c c1 : Mem} {v : (Int → Int) → Int} (h : RuleC c v) (n1 : ∀ k, k ≠ 29 → k ≠ 30 → k ≠ 31 → k ≠ 32 → c1 k = c k) : RuleC c1 v := h.fr (fun x _ => by rw [n1 5 (by decide) (by decide) (by decide) (by decide)]) (n1 6 (by decide) (by decide) (by decide) (by decide)) (n1 7 (by decide) (by decide) (by decide) (by decide))
theorem AF.hist {c c' a : Mem} (f : AF c c') (h : CHist c a) : CHist c' a := h.fr (by rw [f.1 27 (by decide) (by decide) (by decide) (by decide)]) (f.1 28 (by decide) (by decide) (by decide) (by decide)) (fun k k0 k1 => f.1 k (by omega) (by omega) (by omega) (by omega))
theorem AF.before {c c' : Mem} {r : Int → Int} (f : AF c c') (h : StRel c 29 r) : StRel c' 29 r := h.congr (f.1 _ (by decide) (by decide) (by decide) (by decide)) (f.1 _ (by decide) (by decide) (by decide) (by decide)) (f.1 _ (by decide) (by decide) (by decide) (by decide)) (f.1 _ (by decide) (by decide) (by decide) (by decide))
theorem note_hist {c c1 a : Mem} (h : CHist c a) (n1 : ∀ k, k ≠ 29 → k ≠ 30 → k ≠ 31 → k ≠ 32 → c1 k = c k) : CHist c1 a := h.fr (by rw [n1 27 (by decide) (by decide) (by decide) (by decide)]) (n1 28 (by decide) (by decide) (by decide) (by decide)) (fun k k0 k1 => n1 k (by omega) (by omega) (by omega) (by omega))
theorem ct_drive {E : Nat × (Nat → Int32)} {c a : Mem} {s B : Int} (rs : RI s) (h : CR0 c a) (w : W0 B a) : K_X11_drive E [.ref 0, vi s] c (fun z c' => ((0 ≤ s ∧ s < a 169 3) ∧ z = dist (a 180 97) (a 171 s) ∧ CR0 c' (actU a (driveR a (a 180) s) (a 169 1) (a 170)) ∧ RF c c' ∧ HighEq c c') ∨ (¬ (0 ≤ s ∧ s < a 169 3) ∧ z = -1 ∧ CQ c c' (a 169 1) (a 170))) := by
  have n6 := w.town.2.1
  have r97 := w.now.2.2.2.1
  have r97' := w.now.2.2.2.2.1
  refine en_X11_drive (sg_X11_drive_0 (ca_X11_drive_8 (ct_note h.now) (fun c1 hc => sg_X11_drive_11 ?_)))
  obtain ⟨b1, n1⟩ := hc
  refine ca_X11_drive_14 (ct_goTo rs (note_town h.town n1) (note_rel h.now n1) w.town w.now) (fun z c2 hz => sg_X11_drive_17 ?_)
  have f2 : AF c1 c2 := by
    rcases hz with ⟨-, -, -, e⟩ | ⟨-, -, e⟩
    · exact AF.of e
    · rw [e]; exact AF.of (fun _ _ => rfl)
  have rz : RI z := by
    rcases hz with ⟨p, e, -, -⟩ | ⟨-, e, -⟩
    · have t := w.town.2.2.1 s p.1 (by omega)
      have := dist_rng r97 r97' t.1 t.2.1
      rw [e]; constructor <;> omega
    · rw [e]; decide
  refine ca_X11_drive_17 (ct_remember (b := pushU a) rz (f2.hist (note_hist h.hist n1)) w.hist.1 (f2.before b1) (fun _ => pushU_pushed w.hist.1 w.hist.2.1)) (fun z' c3 h3 => sg_X11_drive_20 ⟨_, rfl, ?_⟩)
  obtain ⟨rfl, g1, g2, g3⟩ := h3
  rcases hz with ⟨p, e, st, -⟩ | ⟨p, e, e2⟩
  · have t := w.town.2.2.1 s p.1 (by omega)
    have d := dist_rng r97 r97' t.1 t.2.1
    have rr := row_stays h n1 f2 g3
    exact Or.inl ⟨p, e, act_rel h n1 f2 st (g2 (by omega)) g3 (fun _ _ _ => rfl) rr.1 rr.2⟩
  · rw [g1 (by omega), e2]
    exact Or.inr ⟨p, e, act_ref h n1⟩
theorem act_peq {m M : Mem} {r : Int → Int} {n : Int} {f : Int → Int} (e190 : M 190 = mv m 180 0 190 (99 * m 169 40) 99 190) (e40 : M 169 40 = m 169 40) (e180 : ∀ b : Int, 0 ≤ b → b < 99 → M 180 b = r b) (hr : ∀ k, PR k → k ≠ 169 → k ≠ 170 → k ≠ 180 → k ≠ 190 → M k = m k) (hf : ∀ j, PF j → j ≠ 1 → j ≠ 40 → M 169 j = m 169 j) (h1 : M 169 1 = n) (h170 : ∀ j : Int, 0 ≤ j → j < n → M 170 j = f j) : PEq (addU M) (actU m r n f) := by
  have hr : ∀ k, ((169 ≤ k ∧ k < 181) ∨ k = 182 ∨ k = 185 ∨ k = 190 ∨ k = 201 ∨ k = 202 ∨ (205 ≤ k ∧ k < 208)) → k ≠ 169 → k ≠ 170 → k ≠ 180 → k ≠ 190 → M k = m k := hr
  have hf : ∀ j : Int, (j = 1 ∨ j = 3 ∨ j = 4 ∨ j = 17 ∨ j = 26 ∨ j = 40 ∨ j = 62) → j ≠ 1 → j ≠ 40 → M 169 j = m 169 j := hf
  have a40 : addU M 169 40 = actU m r n f 169 40 := by
    rw [actU_40]
    unfold pushU addU
    rw [mv_k (show (169 : Nat) ≠ 190 by decide), e40]
    split <;> rw [up2_same, up2_same]
  have a190 : addU M 190 = actU m r n f 190 := by
    rw [actU_190]
    unfold pushU addU
    rw [mv_k (show (169 : Nat) ≠ 190 by decide), e40]
    split
    · rw [up2_k (by decide), up2_k (by decide), e190]
    · rw [up2_k (by decide), up2_k (by decide)]
      funext j
      unfold mv
      rw [upr_same, upr_same, e190]
      unfold mv
      rfl
  have g9 : ∀ j : Int, (j = 3 ∨ j = 4 ∨ j = 17 ∨ j = 26 ∨ j = 62) → addU M 169 j = actU m r n f 169 j := fun j hj => by
    rw [addU_f (by omega), actU_f (by omega) (by omega), hf j (by omega) (by omega) (by omega)]
  have gk : ∀ k, ((171 ≤ k ∧ k < 180) ∨ k = 182 ∨ k = 185 ∨ k = 201 ∨ k = 202 ∨ (205 ≤ k ∧ k < 208)) → addU M k = actU m r n f k := fun k hk => by
    rw [addU_k (by omega) (by omega), actU_k (by omega) (by omega) (by omega) (by omega), hr k (by omega) (by omega) (by omega) (by omega) (by omega)]
  refine ⟨⟨?_, g9 3 (by omega), g9 4 (by omega), g9 17 (by omega), g9 26 (by omega), a40, g9 62 (by omega)⟩, fun j _ _ => ?_, fun j _ _ => ?_, fun j _ _ => ?_, fun j j0 j1 => ?_, fun j j0 j1 => ?_, fun j _ _ => ?_, fun j _ _ => ?_, fun j _ _ => ?_, fun j _ _ => ?_, fun j _ _ => ?_, fun j _ _ => ?_⟩
  · rw [addU_f (by decide), actU_1, h1]
  · rw [gk 171 (by omega), gk 172 (by omega), gk 173 (by omega), gk 174 (by omega), gk 175 (by omega), gk 176 (by omega), gk 177 (by omega)]
    exact ⟨rfl, rfl, rfl, rfl, rfl, rfl, rfl⟩
  · rw [gk 178 (by omega)]
  · rw [gk 179 (by omega)]
  · rw [addU_k (by decide) (by decide), actU_180, e180 j j0 j1]
  · rw [actU_1] at j1
    rw [addU_k (by decide) (by decide), actU_r, h170 j j0 j1]
  · rw [gk 182 (by omega)]
  · rw [gk 185 (by omega)]
  · rw [a190]
  · rw [gk 201 (by omega), gk 202 (by omega)]
    exact ⟨rfl, rfl⟩
  · rw [gk 205 (by omega), gk 206 (by omega)]
    exact ⟨rfl, rfl⟩
  · rw [gk 207 (by omega)]
/-- put by, and then refused -/
theorem putsBy_peq {m : Mem} : PEq (mv m 180 0 190 (99 * m 169 40) 99) m := by
  have q : ∀ k, k ≠ 190 → mv m 180 0 190 (99 * m 169 40) 99 k = m k := fun k h => mv_k h
  refine ⟨?_, fun j _ _ => ?_, fun j _ _ => ?_, fun j _ _ => ?_, fun j _ _ => ?_, fun j _ _ => ?_, fun j _ _ => ?_, fun j _ _ => ?_, fun j _ j1 => mv_out (by omega), fun j _ _ => ?_, fun j _ _ => ?_, fun j _ _ => ?_⟩
  · rw [q 169 (by decide)]; exact ⟨rfl, rfl, rfl, rfl, rfl, rfl, rfl⟩
  · rw [q 171 (by decide), q 172 (by decide), q 173 (by decide), q 174 (by decide), q 175 (by decide), q 176 (by decide), q 177 (by decide)]; exact ⟨rfl, rfl, rfl, rfl, rfl, rfl, rfl⟩
  · rw [q 178 (by decide)]
  · rw [q 179 (by decide)]
  · rw [q 180 (by decide)]
  · rw [q 170 (by decide)]
  · rw [q 182 (by decide)]
  · rw [q 185 (by decide)]
  · rw [q 201 (by decide), q 202 (by decide)]; exact ⟨rfl, rfl⟩
  · rw [q 205 (by decide), q 206 (by decide)]; exact ⟨rfl, rfl⟩
  · rw [q 207 (by decide)]
theorem addU_low {m : Mem} {k : Nat} (h : k < 169) : addU m k = m k := addU_k (by omega) (by omega)
/-- the reference's memory ahead of an act that is put by -/
theorem by_k {m : Mem} {k : Nat} (h : k ≠ 169) (h2 : k ≠ 190) : mv (up2 m 169 0 0) 180 0 190 (99 * up2 m 169 0 0 169 40) 99 k = m k := by rw [mv_k h2, up2_k h]
theorem by_f {m : Mem} {j : Int} (h : j ≠ 0) : mv (up2 m 169 0 0) 180 0 190 (99 * up2 m 169 0 0 169 40) 99 169 j = m 169 j := by rw [mv_k (by decide), up2_j h]
theorem by_190 {m : Mem} : mv (up2 m 169 0 0) 180 0 190 (99 * up2 m 169 0 0 169 40) 99 190 = mv m 180 0 190 (99 * m 169 40) 99 190 := by
  funext j
  rw [up2_j (show (40 : Int) ≠ 0 by decide)]
  unfold mv
  rw [upr_same, upr_same, up2_k (by decide), up2_k (by decide)]
theorem PR.not {k : Nat} (h : PR k) : k ≠ 181 ∧ k ≠ 183 ∧ k ≠ 184 ∧ k ≠ 186 ∧ k ≠ 187 ∧ k ≠ 188 ∧ k ≠ 189 ∧ (k < 191 ∨ 200 < k) ∧ k ≠ 203 ∧ k ≠ 204 ∧ k ≠ 208 := by
  have hk : (169 ≤ k ∧ k < 181) ∨ k = 182 ∨ k = 185 ∨ k = 190 ∨ k = 201 ∨ k = 202 ∨ (205 ≤ k ∧ k < 208) := h
  omega
theorem PF.not {j : Int} (h : PF j) : j ≠ 0 ∧ (j < 27 ∨ 39 < j) ∧ (j < 41 ∨ 61 < j) ∧ j ≠ 2 ∧ (j < 5 ∨ 16 < j) ∧ (j < 18 ∨ 25 < j) ∧ j ≤ 62 := by
  have hj : j = 1 ∨ j = 3 ∨ j = 4 ∨ j = 17 ∨ j = 26 ∨ j = 40 ∨ j = 62 := h
  omega
theorem mt_drive {E : Nat × (Nat → Int32)} {m a : Mem} {s B : Int} (rs : RI s) (hm : HighEq a m) (w : W0 B a) : K_X12_drive E [.ref 169, vi s] m (fun z m' => ((0 ≤ s ∧ s < a 169 3) ∧ z = dist (a 180 97) (a 171 s) ∧ PEq m' (actU m (driveR a (a 180) s) (a 169 1) (a 170)) ∧ LowEq m m') ∨ (¬ (0 ≤ s ∧ s < a 169 3) ∧ z = -1 ∧ PEq m' m ∧ LowEq m m')) := by
  have n0 := w.town.1
  have n6 := w.town.2.1
  have e9 := hm 169 (by decide)
  have e180 := hm 180 (by decide)
  have e171 := hm 171 (by decide)
  have r97 := w.now.2.2.2.1
  have r97' := w.now.2.2.2.2.1
  have u0 := w.hist.1
  have u1 := w.hist.2.1
  refine en_X12_drive (sg_X12_drive_0 (by rw [e9]; constructor <;> omega) rs (fun p => ?_) (fun p => ⟨_, rfl, Or.inr ⟨by rw [e9] at p; exact p, rfl, PEq.field npf0, fun k hk => up2_k (by omega)⟩⟩))
  rw [e9] at p
  have t := w.town.2.2.1 s p.1 (by omega)
  refine ca_X12_drive_16 (ct_putsBy (by rw [up2_j (by decide), e9]; exact u0) (by rw [up2_j (by decide), e9]; exact u1)) (fun m1 h1 => ?_)
  have k1 : ∀ k, k ≠ 169 → k ≠ 190 → m1 k = m k := fun k h h2 => by rw [h1]; exact by_k h h2
  have f1 : ∀ j : Int, j ≠ 0 → m1 169 j = m 169 j := fun j h => by rw [h1]; exact by_f h
  have x1 : m1 190 = mv m 180 0 190 (99 * m 169 40) 99 190 := by rw [h1]; exact by_190
  have y180 : m1 180 = a 180 := by rw [k1 180 (by decide) (by decide), e180]
  have y171 : m1 171 = a 171 := by rw [k1 171 (by decide) (by decide), e171]
  clear h1
  refine sg_X12_drive_19 (by omega) (by rw [y180, y171]; constructor <;> omega) ?_
  refine ca_X12_drive_34 (ct_adds (by rw [up2_k (by decide), up2_k (by decide), f1 40 (by decide), e9]; exact u0) (by rw [up2_k (by decide), up2_k (by decide), f1 40 (by decide), e9]; exact u1)) (fun z m2 hz => sg_X12_drive_37 ⟨_, rfl, Or.inl ?_⟩)
  obtain ⟨rfl, rfl⟩ := hz
  refine ⟨p, by rw [y180, y171]; rfl, act_peq ?_ ?_ (fun b b0 b1 => ?_) (fun k hk h9 h0 h8 h19 => ?_) (fun j hj h1 h40 => ?_) ?_ (fun j j0 j1 => ?_), fun k hk => ?_⟩
  · rw [up2_k (by decide), up2_k (by decide), x1]
  · rw [up2_k (by decide), up2_k (by decide), f1 40 (by decide)]
  · rw [lorry_row (fun b => congrFun y180 b), y180, y171]
    rfl
  · rw [up2_k h8, up2_k h8, k1 k h9 h19]
  · rw [up2_k (by decide), up2_k (by decide), f1 j hj.not.1]
  · rw [up2_k (by decide), up2_k (by decide), f1 1 (by decide), e9]
  · rw [up2_k (by decide), up2_k (by decide), k1 170 (by decide) (by decide), hm 170 (by decide)]
  · rw [addU_low hk, up2_k (by omega), up2_k (by omega), k1 k (by omega) (by omega)]
