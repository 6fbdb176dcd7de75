/-! the relation read off another memory of the reference's, piece by piece -/
theorem ctown_of {c a b : Mem} (h : CTown c a) (e3 : b 169 3 = a 169 3) (e : ∀ k, 171 ≤ k → k ≤ 178 → b k = a k) : CTown c b := by
  unfold CTown
  rw [e3, e 171 (by omega) (by omega), e 172 (by omega) (by omega), e 173 (by omega) (by omega), e 174 (by omega) (by omega), e 175 (by omega) (by omega), e 176 (by omega) (by omega), e 177 (by omega) (by omega), e 178 (by omega) (by omega)]
  exact h
theorem cset_of {c a b : Mem} (h : CSet c a) (e : b 179 = a 179) : CSet c b := by unfold CSet; rw [e]; exact h
theorem ctext_of {c a b : Mem} (h : CText c a) (e17 : b 169 17 = a 169 17) (e : b 182 = a 182) : CText c b := by unfold CText; rw [e17, e]; exact h
theorem chist_of {c a b : Mem} (h : CHist c a) (e40 : b 169 40 = a 169 40) (e : b 190 = a 190) : CHist c b := by unfold CHist; rw [e40, e]; exact h
theorem cloads_of {c a b : Mem} (h : CLoads c a) (e62 : b 169 62 = a 169 62) (e : b 201 = a 201) (e2 : b 202 = a 202) : CLoads c b := by unfold CLoads; rw [e62, e, e2]; exact h
theorem ckept_of {c a b : Mem} (h : CKept c a) (e3 : b 169 3 = a 169 3) (e4 : b 169 4 = a 169 4) (e5 : b 205 = a 205) (e6 : b 206 = a 206) (e7 : b 207 = a 207) : CKept c b := by unfold CKept; rw [e3, e4, e5, e6, e7]; exact h
theorem crow_of {c a b : Mem} (h : CRow c a) (e1 : b 169 1 = a 169 1) (e : b 170 = a 170) : CRow c b := by unfold CRow; rw [e1, e]; exact h
theorem wtext_of {a b : Mem} (h : WText a) (e17 : b 169 17 = a 169 17) (e : b 182 = a 182) : WText b := by unfold WText; rw [e17, e]; exact h
theorem wst_of {B : Int} {a b : Mem} {r : Int → Int} (h : StOK B a r) (e : b 178 = a 178) : StOK B b r := h.congr (fun _ _ _ => rfl) (fun _ _ _ => by rw [e])
theorem whist_of {B : Int} {a b : Mem} (h : WHist B a) (e40 : b 169 40 = a 169 40) (e : b 190 = a 190) (e8 : b 178 = a 178) : WHist B b := by
  unfold WHist
  rw [e40, e]
  exact ⟨h.1, h.2.1, fun i i0 i1 => wst_of (h.2.2 i i0 i1) e8⟩
theorem wloads_of {a b : Mem} (h : WLoads a) (e62 : b 169 62 = a 169 62) (e3 : b 169 3 = a 169 3) (e : b 201 = a 201) (e2 : b 202 = a 202) : WLoads b := by unfold WLoads; rw [e62, e3, e, e2]; exact h
theorem wkept_of {B : Int} {a b : Mem} (h : WKept B a) (e4 : b 169 4 = a 169 4) (e5 : b 205 = a 205) (e6 : b 206 = a 206) (e7 : b 207 = a 207) (e8 : b 178 = a 178) : WKept B b := by
  unfold WKept
  rw [e4, e5, e6, e7]
  refine ⟨h.1, h.2.1, fun i i0 i1 => ?_⟩
  rcases h.2.2 i i0 i1 with g | ⟨g1, g2, g3, g4⟩
  · exact Or.inl g
  · exact Or.inr ⟨g1, g2, g3, wst_of g4 e8⟩
theorem wrow_of {a b : Mem} (h : WRow a) (e1 : b 169 1 = a 169 1) (e : b 170 = a 170) : WRow b := by unfold WRow; rw [e1, e]; exact h
theorem Rel.fin {v : (Int → Int) → Int} {B : Int} {b m1 m2 : Mem} (q : CR0 m1 b) (r : RuleC m1 v) (rm : RuleM b v) (w : W0 B b) (p : PEq m2 b) (l : LowEq m1 m2) : Rel v B m2 := ⟨(q.peq p w.town).lo l, r.lo l, rm.peq p, w.peq p⟩
/-! the text -/
def textU (a : Mem) (n : Int) (f : Int → Int) : Mem := upr (up2 a 169 17 n) 182 f
theorem textU_k {a : Mem} {n : Int} {f : Int → Int} {k : Nat} (h : k ≠ 169) (h2 : k ≠ 182) : textU a n f k = a k := by unfold textU; rw [upr_k h2, up2_k h]
theorem textU_f {a : Mem} {n j : Int} {f : Int → Int} (h : j ≠ 17) : textU a n f 169 j = a 169 j := by unfold textU; rw [upr_k (by decide), up2_j h]
theorem textU_n {a : Mem} {n : Int} {f : Int → Int} : textU a n f 169 17 = n := by unfold textU; rw [upr_k (by decide), up2_same]
theorem textU_s {a : Mem} {n j : Int} {f : Int → Int} : textU a n f 182 j = f j := by unfold textU; exact upr_same _ _ _ _
theorem CR0.text' {c c' a : Mem} {n : Int} {f : Int → Int} (h : CR0 c a) (q : CText c' (textU a n f)) (e : ∀ k, k ≠ 1 → k ≠ 2 → c' k = c k) : CR0 c' (textU a n f) := by
  refine ⟨ctown_of (h.town.fr (e 9 (by decide) (by decide)) (fun s hs => ⟨e _ (by omega) (by omega), e _ (by omega) (by omega)⟩)) (textU_f (by decide)) (fun k k0 k1 => textU_k (by omega) (by omega)), cset_of (h.set.fr (e 4 (by decide) (by decide))) (textU_k (by decide) (by decide)), q, ?_, chist_of (h.hist.fr (by rw [e 27 (by decide) (by decide)]) (e 28 (by decide) (by decide)) (fun k k0 k1 => e k (by omega) (by omega))) (textU_f (by decide)) (textU_k (by decide) (by decide)), cloads_of (h.loads.fr (by rw [e 93 (by decide) (by decide)]) (e 94 (by decide) (by decide)) (e 95 (by decide) (by decide))) (textU_f (by decide)) (textU_k (by decide) (by decide)) (textU_k (by decide) (by decide)), ckept_of (h.kept.fr (e 166 (by decide) (by decide)) (fun k k0 k1 => e k (by omega) (by omega))) (textU_f (by decide)) (textU_f (by decide)) (textU_k (by decide) (by decide)) (textU_k (by decide) (by decide)) (textU_k (by decide) (by decide)), crow_of (h.row.fr (by rw [e 0 (by decide) (by decide)]) (e 168 (by decide) (by decide))) (textU_f (by decide)) (textU_k (by decide) (by decide))⟩
  rw [textU_k (by decide) (by decide)]
  exact h.now.congr (e _ (by decide) (by decide)) (e _ (by decide) (by decide)) (e _ (by decide) (by decide)) (e _ (by decide) (by decide))
theorem W0.text' {B : Int} {a : Mem} {n : Int} {f : Int → Int} (h : W0 B a) (n0 : 0 ≤ n) (n80 : n ≤ 80) (hf : ∀ j : Int, 0 ≤ j → j < n → 0 ≤ f j ∧ f j < 256) : W0 B (textU a n f) := by
  refine ⟨h.town.of (textU_f (by decide)) (fun k k0 k1 => textU_k (by omega) (by omega)), h.set.of (textU_k (by decide) (by decide)), ⟨by rw [textU_n]; exact n0, by rw [textU_n]; exact n80, fun j j0 j1 => ?_⟩, ?_, whist_of h.hist (textU_f (by decide)) (textU_k (by decide) (by decide)) (textU_k (by decide) (by decide)), wloads_of h.loads (textU_f (by decide)) (textU_f (by decide)) (textU_k (by decide) (by decide)) (textU_k (by decide) (by decide)), wkept_of h.kept (textU_f (by decide)) (textU_k (by decide) (by decide)) (textU_k (by decide) (by decide)) (textU_k (by decide) (by decide)) (textU_k (by decide) (by decide)), wrow_of h.row (textU_f (by decide)) (textU_k (by decide) (by decide))⟩
  · rw [textU_n] at j1
    rw [textU_s]
    exact hf j j0 j1
  · rw [textU_k (by decide) (by decide)]
    exact wst_of h.now (textU_k (by decide) (by decide))
theorem hi_textU {a m : Mem} {n : Int} {f : Int → Int} (h : HighEq a m) : HighEq (textU a n f) (textU m n f) := hi_upr (hi_up h)
theorem Rel.text' {v : (Int → Int) → Int} {B : Int} {m m1 m2 : Mem} {n : Int} {f : Int → Int} (h : Rel v B m) (q : CText m1 (textU m n f)) (e : ∀ k, k ≠ 1 → k ≠ 2 → m1 k = m k) (p : PEq m2 (textU m1 n f)) (l : LowEq m1 m2) (n0 : 0 ≤ n) (n80 : n ≤ 80) (hf : ∀ j : Int, 0 ≤ j → j < n → 0 ≤ f j ∧ f j < 256) : Rel v B m2 := by
  have hi : HighEq m m1 := fun k hk => e k (by omega) (by omega)
  refine Rel.fin (h.1.text' q e) (h.2.1.fr (fun x _ => by rw [e 5 (by decide) (by decide)]) (e 6 (by decide) (by decide)) (e 7 (by decide) (by decide))) (h.2.2.1.of (textU_f (by decide)) (textU_k (by decide) (by decide))) (h.2.2.2.text' n0 n80 hf) (p.trans (hi_textU hi).peq) l
theorem PEq.text' {a a' : Mem} {n : Int} {f : Int → Int} (hr : ∀ k, PR k → k ≠ 169 → k ≠ 182 → a' k = a k) (hf : ∀ j, PF j → j ≠ 17 → a' 169 j = a 169 j) (h1 : a' 169 17 = n) (hs : ∀ j : Int, 0 ≤ j → j < n → a' 182 j = f j) : PEq a' (textU a n f) := by
  have hr : ∀ k, ((169 ≤ k ∧ k < 181) ∨ k = 182 ∨ k = 185 ∨ k = 190 ∨ k = 201 ∨ k = 202 ∨ (205 ≤ k ∧ k < 208)) → k ≠ 169 → k ≠ 182 → a' k = textU a n f k := fun k hk h9 h8 => (hr k hk h9 h8).trans (textU_k h9 h8).symm
  have hf : ∀ j : Int, (j = 1 ∨ j = 3 ∨ j = 4 ∨ j = 17 ∨ j = 26 ∨ j = 40 ∨ j = 62) → j ≠ 17 → a' 169 j = textU a n f 169 j := fun j hj h1 => (hf j hj h1).trans (textU_f h1).symm
  refine ⟨⟨hf 1 (by omega) (by decide), hf 3 (by omega) (by decide), hf 4 (by omega) (by decide), h1.trans textU_n.symm, hf 26 (by omega) (by decide), hf 40 (by omega) (by decide), hf 62 (by omega) (by decide)⟩, fun j _ _ => ?_, fun j _ _ => ?_, fun j _ _ => ?_, fun j _ _ => ?_, fun j _ _ => ?_, fun j j0 j1 => ?_, fun j _ _ => ?_, fun j _ _ => ?_, fun j _ _ => ?_, fun j _ _ => ?_, fun j _ _ => ?_⟩
  · rw [hr 171 (by omega) (by omega) (by omega), hr 172 (by omega) (by omega) (by omega), hr 173 (by omega) (by omega) (by omega), hr 174 (by omega) (by omega) (by omega), hr 175 (by omega) (by omega) (by omega), hr 176 (by omega) (by omega) (by omega), hr 177 (by omega) (by omega) (by omega)]
    exact ⟨rfl, rfl, rfl, rfl, rfl, rfl, rfl⟩
  · rw [hr 178 (by omega) (by omega) (by omega)]
  · rw [hr 179 (by omega) (by omega) (by omega)]
  · rw [hr 180 (by omega) (by omega) (by omega)]
  · rw [hr 170 (by omega) (by omega) (by omega)]
  · rw [textU_n] at j1
    rw [textU_s]
    exact hs j j0 j1
  · rw [hr 185 (by omega) (by omega) (by omega)]
  · rw [hr 190 (by omega) (by omega) (by omega)]
  · rw [hr 201 (by omega) (by omega) (by omega), hr 202 (by omega) (by omega) (by omega)]
    exact ⟨rfl, rfl⟩
  · rw [hr 205 (by omega) (by omega) (by omega), hr 206 (by omega) (by omega) (by omega)]
    exact ⟨rfl, rfl⟩
  · rw [hr 207 (by omega) (by omega) (by omega)]
/-! bin, row, sign, end -/
def binP (a : Mem) (s d b w : Int) : Prop := (0 ≤ s ∧ s < a 169 3) ∧ (0 ≤ d ∧ d ≤ 1) ∧ (0 ≤ b ∧ b < a 172 s) ∧ (0 ≤ w ∧ w ≤ 3)
def binR (a : Mem) (v : (Int → Int) → Int) (s d b w : Int) : Int := if w = 0 then a 178 (16 * s + (8 * d + b)) else if w = 1 then hv a (16 * s + (8 * d + b)) (a 179 2) else if w = 2 then a 180 (16 * s + (8 * d + b)) else sec v (fct a s (8 * d + b) (a 173 s) (a 179 1) 0)
theorem ct_bin {E : Nat × (Nat → Int32)} {c a : Mem} {v : (Int → Int) → Int} {s d b w B : Int} (h : CR0 c a) (hR : RuleC c v) (hT : WTown a) (hS : WSet a) (hn : StOK B a (a 180)) (P : binP a s d b w) : K_X11_bin E [.ref 0, vi s, vi d, vi b, vi w] c (fun z c' => z = binR a v s d b w ∧ CQ c c' (a 169 1) (a 170)) := by
  obtain ⟨⟨s0, s1⟩, ⟨d0, d1⟩, ⟨b0, b1⟩, w0, w3⟩ := P
  have e := h.town.1
  have n6 := hT.2.1
  have m := streetMem s.toNat (by omega)
  have t := hT.2.2.1 s s0 (by omega)
  obtain ⟨-, e3, e4, -, -, -, -, ew⟩ := h.town.s s0 s1 n6
  have e41 := h.set 1 (by decide) (by decide)
  have m1 := hS.2.2.1
  have m4 := hS.2.2.2.1
  have eh : d * 8 + b = 8 * d + b := by omega
  refine en_X11_bin (sg_X11_bin_0 (by omega) ⟨by omega, by omega⟩ ⟨by omega, by omega⟩ ⟨by omega, by omega⟩ (fun _ _ _ _ => by rw [e3]; constructor <;> omega) ⟨by omega, by omega⟩ (fun _ _ _ _ _ _ => by omega) (fun _ _ _ _ _ _ _ => by omega) (fun _ _ _ _ _ _ _ _ _ => by rw [e41]; constructor <;> omega) (fun _ q => by omega) (fun _ _ q => by omega) (fun _ _ _ q => by omega) (fun _ _ _ _ _ q => ⟨_, rfl, ?_, CQ.stay h⟩) (fun _ _ _ _ _ q q2 => ⟨_, rfl, ?_, CQ.stay h⟩) (fun _ _ _ _ _ q q2 q3 => ?_) (fun _ _ _ _ _ q q2 q3 q4 => ?_) (fun _ _ _ _ _ q q2 q3 q4 => by omega) (fun _ _ _ _ q => by omega) (by omega))
  · unfold binR
    rw [if_pos q, eh, ew _ (by omega) (by omega)]
  · unfold binR
    rw [if_neg q, if_pos q2, eh, ew _ (by omega) (by omega), h.set 3 (by decide) (by decide), h.set 2 (by decide) (by decide)]
    rfl
  · have g := h.now.1 s s0 (by omega)
    obtain ⟨-, -, -, g⟩ := g
    have g := (g (8 * d + b) (by omega) (by omega)).1
    have ek : K_X7_kindOf E [.ref 23, vi s, vi (d * 8 + b)] c (fun z c' => z = a 180 (16 * s + (8 * d + b)) ∧ c' = c) := by
      rw [eh]
      have b0' : 0 ≤ 8 * d + b := by omega
      have b1' : 8 * d + b < 32 := by omega
      refine en_X7_kindOf (sg_X7_kindOf_0 m23 ⟨by omega, by omega⟩ (by omega) (fun _ _ x y => ⟨_, rfl, ?_, rfl⟩) (fun _ _ x y => ⟨_, rfl, ?_, rfl⟩) (fun _ _ x => ⟨_, rfl, ?_, rfl⟩) (by omega))
      · rw [g]
        have x := (bandI_bit b0' b1').1 x
        have y := (bandI_bit b0' b1').1 y
        rw [x, y]
        rcases z : tb (c (23 + 3) s) (8 * d + b) with _ | _
        · rw [if_pos ((bandI_bit b0' b1').2 z)]; rfl
        · rw [if_neg ((bandI_bit' b0' b1').2 z)]; rfl
      · rw [g]
        have x := (bandI_bit b0' b1').1 x
        have y := (bandI_bit' b0' b1').1 y
        rw [x, y]
        rfl
      · rw [g]
        have x := (bandI_bit' b0' b1').1 x
        rw [x]
        rfl
    refine ca_X11_bin_126 m23 ek (fun z c2 hz => sg_X11_bin_129 m ⟨_, rfl, ?_, by rw [hz.2]; exact CQ.stay h⟩)
    unfold binR
    rw [if_neg q, if_neg q2, if_pos q3, hz.1]
  · rw [e41, e4, eh]
    have emax : max 1 (a 179 1) = a 179 1 := by omega
    rw [emax]
    have e8 : up2 (up2 c 100 7 (a 179 1)) 100 8 (a 173 s) 100 8 = a 173 s := up2_same _ _ _ _
    have e7 : up2 (up2 c 100 7 (a 179 1)) 100 8 (a 173 s) 100 7 = a 179 1 := by rw [up2_j (by decide), up2_same]
    refine ca_X11_bin_159 m100 (ct_byHand (carried := 0) m100 (thinkFr.town (by decide) h.town) (thinkFr.set (by decide) h.set) (thinkFr.rule (by decide) hR) hT hS s0 s1 (by omega) (by omega) (by rw [e8]; constructor <;> omega) (by rw [e7]; constructor <;> omega) (by decide)) (fun z c2 hz => sg_X11_bin_162 m ⟨_, rfl, ?_, ?_⟩)
    · unfold binR
      rw [if_neg q, if_neg q2, if_neg q3, hz.1, e8, e7]
    · exact CQ.jobS (o := 100) (by decide) h (thinkFr.trans ⟨fun k k1 k2 k3 => hz.2.1 k k2 k3 (by omega), hz.2.2⟩)
theorem mt_bin {E : Nat × (Nat → Int32)} {m a : Mem} {v : (Int → Int) → Int} {s d b w B : Int} (rs : RI s) (rd : RI d) (rb : RI b) (rw' : RI w) (hm : HighEq a m) (hR : RuleM a v) (hT : WTown a) (hS : WSet a) (hn : StOK B a (a 180)) : K_X12_bin E [.ref 169, vi s, vi d, vi b, vi w] m (fun z m' => (binP a s d b w ∧ z = binR a v s d b w ∧ PEq m' m ∧ LowEq m m' ∧ m' 169 0 = 0) ∨ (¬ binP a s d b w ∧ z = 0 ∧ m' = up2 (up2 m 169 0 0) 169 0 1)) := by
  have n0 := hT.1
  have n6 := hT.2.1
  have e9 := hm 169 (by decide)
  have := rs.1; have := rs.2; have := rd.1; have := rd.2; have := rb.1; have := rb.2; have := rw'.1; have := rw'.2
  have k0 : ∀ k, k ≠ 169 → up2 m 169 0 0 k = a k → True := fun _ _ _ => trivial
  have q : ∀ k, 169 ≤ k → k ≠ 169 → up2 m 169 0 0 k = a k := fun k hk h => by rw [up2_k h, hm k hk]
  have q3 : up2 m 169 0 0 169 3 = a 169 3 := by rw [up2_j (by decide), e9]
  have m1 := hS.2.2.1
  have m4 := hS.2.2.2.1
  have hT1 : 0 ≤ s → s < a 169 3 → 1 ≤ a 172 s ∧ a 172 s ≤ 8 ∧ -1 ≤ a 173 s ∧ a 173 s ≤ 1 := fun s0 s1 => by
    have t := hT.2.2.1 s s0 (by omega)
    omega
  have house : K_X12_isHouse E [.ref 169, vi s, vi d, vi b] (up2 m 169 0 0) (fun z m' => m' = up2 m 169 0 0 ∧ ((((0 ≤ s ∧ s < a 169 3) ∧ (0 ≤ d ∧ d ≤ 1) ∧ (0 ≤ b ∧ b < a 172 s)) ∧ z = 1) ∨ (¬ ((0 ≤ s ∧ s < a 169 3) ∧ (0 ≤ d ∧ d ≤ 1) ∧ (0 ≤ b ∧ b < a 172 s)) ∧ z = 0))) := by
    refine en_X12_isHouse (sg_X12_isHouse_0 (by rw [q3]; constructor <;> omega) rs rd ⟨by omega, by omega⟩ rb (fun p _ => by omega) (fun p _ => ?_) ⟨by omega, by omega⟩ (fun p _ => ?_) (fun p p2 p3 => ⟨_, rfl, rfl, Or.inl ⟨?_, rfl⟩⟩) (fun p p2 p3 => ⟨_, rfl, rfl, Or.inr ⟨?_, rfl⟩⟩) (fun p p2 => ⟨_, rfl, rfl, Or.inr ⟨fun o => p2 o.2.1, rfl⟩⟩) (fun p => ⟨_, rfl, rfl, Or.inr ⟨fun o => p (by rw [q3]; exact o.1), rfl⟩⟩))
    all_goals rw [q3] at p
    all_goals have tt := hT1 p.1 p.2
    · rw [q 172 (by decide) (by decide)]; constructor <;> omega
    · rw [q 172 (by decide) (by decide)]; constructor <;> omega
    · rw [q 172 (by decide) (by decide)] at p3; exact ⟨p, p2, by omega, by omega⟩
    · rw [q 172 (by decide) (by decide)] at p3
      intro o
      exact p3 ⟨o.2.2.1, by have := o.2.2.2; omega⟩
  refine en_X12_bin (sg_X12_bin_0 (ca_X12_bin_9 house (fun z m2 hz => ?_)))
  obtain ⟨e2, hz⟩ := hz
  subst e2
  rcases hz with ⟨p, ez⟩ | ⟨p, ez⟩
  · have tt := hT1 p.1.1 p.1.2
    obtain ⟨⟨s0, s1⟩, ⟨d0, d1⟩, b0, b1⟩ := p
    have eb : 16 * s + 8 * d + b = 16 * s + (8 * d + b) := by omega
    have F : ∀ M : Mem, M = up2 (up2 (up2 m 169 0 0) 169 30 (up2 m 169 0 0 179 1)) 169 31 (up2 m 169 0 0 173 s) → (∀ k, k ≠ 169 → M k = m k) ∧ (∀ j : Int, j ≠ 0 → j ≠ 30 → j ≠ 31 → M 169 j = m 169 j) ∧ M 169 0 = 0 ∧ M 169 31 = a 173 s ∧ M 169 30 = a 179 1 := fun M hM => by
      refine ⟨fun k h => by rw [hM, up2_k h, up2_k h, up2_k h], fun j h1 h2 h3 => by rw [hM, up2_j h3, up2_j h2, up2_j h1], ?_, ?_, ?_⟩
      · rw [hM, up2_j (by decide), up2_j (by decide), up2_same]
      · rw [hM, up2_same, q 173 (by decide) (by decide)]
      · rw [hM, up2_j (by decide), up2_same, q 179 (by decide) (by decide)]
    obtain ⟨M1, M2, M0, M31, M30⟩ := F _ rfl
    clear F
    have pM := PEq.of (a := up2 (up2 (up2 m 169 0 0) 169 30 (up2 m 169 0 0 179 1)) 169 31 (up2 m 169 0 0 173 s)) (b := m) (fun k hk h => M1 k h) (fun j hj => M2 j hj.not.1 (by have := hj.not; omega) (by have := hj.not; omega))
    have lM : LowEq m (up2 (up2 (up2 m 169 0 0) 169 30 (up2 m 169 0 0 179 1)) 169 31 (up2 m 169 0 0 173 s)) := fun k hk => M1 k (by omega)
    refine sg_X12_bin_12 (by rw [ez]; decide) rw' ⟨by omega, by omega⟩ (fun _ _ => by omega) (fun _ _ _ _ _ => by omega) (fun _ _ _ _ => by omega) (fun _ _ _ => by omega) (by omega) (fun _ g g1 g2 g3 => ?_) (fun _ g g1 g2 g3 => ⟨_, rfl, Or.inl ⟨⟨⟨s0, s1⟩, ⟨d0, d1⟩, ⟨b0, b1⟩, g⟩, ?_, pM, lM, M0⟩⟩) (fun _ g g1 g2 => ⟨_, rfl, Or.inl ⟨⟨⟨s0, s1⟩, ⟨d0, d1⟩, ⟨b0, b1⟩, g⟩, ?_, pM, lM, M0⟩⟩) (fun _ g g1 => ⟨_, rfl, Or.inl ⟨⟨⟨s0, s1⟩, ⟨d0, d1⟩, ⟨b0, b1⟩, g⟩, ?_, pM, lM, M0⟩⟩) (fun _ g => ⟨_, rfl, Or.inr ⟨fun o => g o.2.2.2, rfl, rfl⟩⟩)
    · have bM : MB a (up2 (up2 (up2 m 169 0 0) 169 30 (up2 m 169 0 0 179 1)) 169 31 (up2 m 169 0 0 173 s)) := hm.mb.trans ⟨M2 3 (by decide) (by decide) (by decide), M2 26 (by decide) (by decide) (by decide), fun k _ _ => M1 k (by omega), M1 185 (by decide)⟩
      refine ca_X12_bin_97 (mt_secondsOf (carried := 0) (bM.rule hR) (bM.town hT) (bM.set hS) s0 (by omega) d0 d1 b0 (by omega) (by rw [M31]; constructor <;> omega) (by rw [M30]; constructor <;> omega) (by decide)) (fun z m3 hz => sg_X12_bin_100 ⟨_, rfl, Or.inl ⟨⟨⟨s0, s1⟩, ⟨d0, d1⟩, ⟨b0, b1⟩, g⟩, ?_, ?_, ?_, ?_⟩⟩)
      · unfold binR
        rw [if_neg g1, if_neg g2, if_neg g3, hz.1, M31, M30, fct_congr (bM.2.2.1 178 (by omega) (by omega)) (bM.2.2.1 179 (by omega) (by omega))]
      · refine PEq.trans (PEq.of (fun k hk h => hz.2 k (by have := hk.not; omega) (by have := hk.not; omega)) (fun j _ => by rw [hz.2 169 (by decide) (by decide)])) pM
      · intro k hk
        rw [hz.2 k (by omega) (by omega)]; exact lM k hk
      · rw [hz.2 169 (by decide) (by decide)]; exact M0
    · unfold binR
      rw [if_neg g1, if_neg g2, if_pos g3, eb, q 180 (by decide) (by decide)]
    · unfold binR
      rw [if_neg g1, if_pos g2, eb, q 178 (by decide) (by decide), q 179 (by decide) (by decide)]
      rfl
    · unfold binR
      rw [if_pos g1, eb, q 178 (by decide) (by decide)]
  · refine sg_X12_bin_12 (by rw [ez]; decide) rw' ⟨by omega, by omega⟩ (by omega) (by omega) (by omega) (by omega) (fun _ => ⟨_, rfl, Or.inr ⟨fun o => p ⟨o.1, o.2.1, o.2.2.1⟩, rfl, rfl⟩⟩) (by omega) (by omega) (by omega) (by omega) (by omega)
theorem ct_row {E : Nat × (Nat → Int32)} {c a : Mem} {i : Int} (h : CR0 c a) (w : WRow a) (i0 : 0 ≤ i) (i1 : i < a 169 1) : K_X11_row E [.ref 0, vi i] c (fun z c' => z = a 170 i ∧ c' = c) := by
  have n6 := w.2.1
  have e := h.row.1
  exact en_X11_row (sg_X11_row_0 ⟨by omega, by omega⟩ (fun _ => by constructor <;> omega) (by omega) (by omega) (fun _ _ _ => ⟨_, rfl, h.row.2 i i0 i1, rfl⟩) (by omega))
theorem mt_row {E : Nat × (Nat → Int32)} {m a : Mem} {i : Int} (ri : RI i) (hm : HighEq a m) (w : WRow a) : K_X12_row E [.ref 169, vi i] m (fun z m' => ((0 ≤ i ∧ i < a 169 1) ∧ z = a 170 i ∧ m' = up2 m 169 0 0) ∨ (¬ (0 ≤ i ∧ i < a 169 1) ∧ z = 0 ∧ m' = up2 (up2 m 169 0 0) 169 0 1)) := by
  have n0 := w.1
  have n6 := w.2.1
  have e9 := hm 169 (by decide)
  have := ri.1; have := ri.2
  exact en_X12_row (sg_X12_row_0 ri (by rw [e9]; constructor <;> omega) ⟨by omega, by omega⟩ (by rw [e9]; constructor <;> omega) (fun p => by rw [e9] at p; omega) (fun p => ⟨_, rfl, Or.inl ⟨by rw [e9] at p; omega, by rw [hm 170 (by decide)], rfl⟩⟩) (fun p => ⟨_, rfl, Or.inr ⟨by rw [e9] at p; omega, rfl, rfl⟩⟩))
