/-! the rule of the seconds: both machines -/
abbrev wI (z : Int) : Int := (iI z).toInt
theorem vi_wI (z : Int) : vi z = vi (wI z) := by
  show Value.int (iI z) = Value.int (iI (iI z).toInt)
  rw [iI_of]
theorem wI_rng (z : Int) : RI (wI z) := iI_rng _
/-- an array of ints may be told by other numbers of the same ints -/
theorem GM_iarr {E : Nat × (Nat → Int32)} {μ : Mu} {P : Option Value → Mem → Prop} {pc : Nat} {lv st : List Value} {m m' : Mem} {k n : Nat} (hs : SH[k]? = some (.inr (0, n))) (ho : ∀ a, a ≠ k → m' a = m a) (he : ∀ j : Int, iI (m' k j) = iI (m k j)) (g : GM E μ P pc lv st m') : GM E μ P pc lv st m := by
  intro p l e s mm args below meth c D cA A0 A H locs ls C hA hP hD hS hl
  have eW : Ws ρM A cA m 209 = Ws ρM A cA m' 209 := by
    unfold Ws
    refine List.map_congr_left fun b _ => ?_
    by_cases hb : b = k
    · subst hb
      rw [List.getD_eq_getElem?_getD, hs]
      show (A b, (Sum.inl (cA 0, n, Sum.inl fun j : Nat => iI (m b j)) : va_E)) = (A b, Sum.inl (cA 0, n, Sum.inl fun j : Nat => iI (m' b j)))
      have : (fun j : Nat => iI (m b (j : Int))) = fun j : Nat => iI (m' b (j : Int)) := funext fun j => (he j).symm
      rw [this]
    · rw [cel_k (ho b hb)]
  rw [eW] at hD
  refine g p l e s mm args below meth c D cA A0 A H locs ls C hA ⟨by rw [← eW]; exact hP.1, fun a j ha hr hb => ?_⟩ hD hS hl
  by_cases hk : a = k
  · subst hk
    rw [rsl_arr hs (by decide)] at hb
    cases hb
  · rw [ho a hk]
    exact hP.2 a j ha hr hb
def opv (o x y : Int) : Int := if o = 0 then (if y ≤ x then 0 else 1) else if o = 1 then (if x ≤ y then 0 else 1) else if o = 2 then (if x = y then 1 else 0) else if o = 3 then wI (x + y) else if o = 4 then wI (x - y) else if o = 5 then wI (x * y) else if y ≠ 0 then divI x y else 0
theorem opv_rng (o x y : Int) : RI (opv o x y) := by
  unfold opv
  split
  · split <;> constructor <;> omega
  split
  · split <;> constructor <;> omega
  split
  · split <;> constructor <;> omega
  split
  · exact wI_rng _
  split
  · exact wI_rng _
  split
  · exact wI_rng _
  split
  · exact iI_rng _
  · constructor <;> omega
theorem ct_worked {E : Nat × (Nat → Int32)} {m : Mem} {o x y : Int} (ho : RI o) (hx : RI x) (hy : RI y) : K_X12_worked E [vi o, vi x, vi y] m (fun z m' => z = opv o x y ∧ m' = m) := by
  refine en_X12_worked (sg_X12_worked_0 ho hx hy (fun _ _ _ _ _ _ h => h) (fun p q => ⟨0, rfl, ?_, rfl⟩) (fun p q => ⟨1, rfl, ?_, rfl⟩) (fun p0 p q => ⟨0, rfl, ?_, rfl⟩) (fun p0 p q => ⟨1, rfl, ?_, rfl⟩) (fun p0 p1 p q => ⟨0, rfl, ?_, rfl⟩) (fun p0 p1 p q => ⟨1, rfl, ?_, rfl⟩) (fun p0 p1 p2 p => ⟨wI (x + y), by rw [← vi_wI], ?_, rfl⟩) (fun p0 p1 p2 p3 p => ⟨wI (x - y), by rw [← vi_wI], ?_, rfl⟩) (fun p0 p1 p2 p3 p4 p => ⟨wI (x * y), by rw [← vi_wI], ?_, rfl⟩) (fun p0 p1 p2 p3 p4 p5 => ⟨_, rfl, ?_, rfl⟩))
  · unfold opv; rw [if_pos p, if_pos q]
  · unfold opv; rw [if_pos p, if_neg q]
  · unfold opv; rw [if_neg p0, if_pos p, if_pos q]
  · unfold opv; rw [if_neg p0, if_pos p, if_neg q]
  · unfold opv; rw [if_neg p0, if_neg p1, if_pos p, if_neg q]
  · unfold opv; rw [if_neg p0, if_neg p1, if_pos p, if_pos q]
  · unfold opv; rw [if_neg p0, if_neg p1, if_neg p2, if_pos p]
  · unfold opv; rw [if_neg p0, if_neg p1, if_neg p2, if_neg p3, if_pos p]
  · unfold opv; rw [if_neg p0, if_neg p1, if_neg p2, if_neg p3, if_neg p4, if_pos p]
  · unfold opv; rw [if_neg p0, if_neg p1, if_neg p2, if_neg p3, if_neg p4, if_neg p5]
/-- facts are ints -/
def FOK (f : Int → Int) : Prop := ∀ j : Int, 0 ≤ j → j < 8 → RI (f j)
def VOK (v : (Int → Int) → Int) : Prop := (∀ f, FOK f → RI (v f)) ∧ ∀ f g : Int → Int, (∀ j : Int, 0 ≤ j → j < 8 → f j = g j) → v f = v g
/-- the reference's code from i to j reckons v -/
def MSeg (code : Int → Int) (i j : Int) (v : (Int → Int) → Int) : Prop := VOK v ∧ 0 ≤ i ∧ i < j ∧ j ≤ 80 ∧ ∀ (E : Nat × (Nat → Int32)) (P : Option Value → Mem → Prop) (m : Mem) (d : Int), 0 ≤ d → d + (j - i) ≤ 80 → j ≤ m 169 26 → m 169 26 ≤ 80 → (∀ x : Int, i ≤ x → x < j → m 185 x = code x) → FOK (m 188) →
  (∀ m' : Mem, (∀ k, k ≠ 187 → m' k = m k) → (∀ x : Int, 0 ≤ x → x < d → m' 187 x = m 187 x) → m' 187 d = v (m 188) → GM E (m_X12_ruled 2) P 4 [.ref 169, vi (d + 1), vi j, un] [] m') → GM E (m_X12_ruled 2) P 4 [.ref 169, vi d, vi i, un] [] m
theorem ms_push {code : Int → Int} {i t : Int} {v : (Int → Int) → Int} (hv : VOK v) (i0 : 0 ≤ i) (i1 : i < 80) (hc : code i = t) (ht : 0 ≤ t ∧ t < 1008) (e : ∀ f : Int → Int, (if t < 1000 then t else f (t - 1000)) = v f) : MSeg code i (i + 1) v := by
  refine ⟨hv, i0, by omega, by omega, fun E P m d d0 d1 n0 n1 hm hf k => ?_⟩
  have ec := (hm i (by omega) (by omega)).trans hc
  refine sg_X12_ruled_4 (by omega) (by omega) (by omega) (by omega) (by omega) (fun _ => by rw [ec]; omega) (fun _ _ _ q => by rw [ec] at q ⊢; omega) (by omega) (fun _ _ q => by rw [ec] at q; omega) (fun _ _ q => by rw [ec] at q; omega) (fun _ q => by rw [ec] at q; omega) (by omega) (fun _ _ _ => k _ (fun a ha => up2_k ha) (fun x x0 x1 => up2_j (by omega)) ?_) (fun _ _ q => by rw [ec] at q; omega) (fun _ q => by rw [ec] at q; omega)
  rw [up2_same, ec]
  exact e _
theorem ms_num {code : Int → Int} {i t : Int} (i0 : 0 ≤ i) (i1 : i < 80) (hc : code i = t) (ht : 0 ≤ t ∧ t < 1000) : MSeg code i (i + 1) (fun _ => t) :=
  ms_push ⟨fun _ _ => (show RI t from ⟨by omega, by omega⟩), fun _ _ _ => rfl⟩ i0 i1 hc ⟨ht.1, by omega⟩ (fun f => by rw [if_pos ht.2])
theorem ms_fact {code : Int → Int} {i t : Int} (i0 : 0 ≤ i) (i1 : i < 80) (hc : code i = 1000 + t) (ht : 0 ≤ t ∧ t < 8) : MSeg code i (i + 1) (fun f => f t) :=
  ms_push ⟨fun f h => h t ht.1 ht.2, fun f g h => h t ht.1 ht.2⟩ i0 i1 hc (by omega) (fun f => by rw [if_neg (by omega)]; congr 1; omega)
theorem ms_neg {code : Int → Int} {i j : Int} {v : (Int → Int) → Int} (h : MSeg code i j v) (hj : j < 80) (hc : code j = 3000) : MSeg code i (j + 1) (fun f => wI (-(v f))) := by
  obtain ⟨hv, i0, ij, j80, run⟩ := h
  refine ⟨⟨fun f _ => wI_rng _, fun f g e => by show wI (-(v f)) = wI (-(v g)); rw [hv.2 f g e]⟩, i0, by omega, by omega, fun E P m d d0 d1 n0 n1 hm hf k => ?_⟩
  refine run E P m d d0 (by omega) (by omega) n1 (fun x x0 x1 => hm x x0 (by omega)) hf (fun m1 a1 a2 a3 => ?_)
  have e185 : m1 185 = m 185 := a1 185 (by decide)
  have e169 : m1 169 = m 169 := a1 169 (by decide)
  have ec : m1 185 j = 3000 := by rw [e185, hm j (by omega) (by omega), hc]
  have en : m1 169 26 = m 169 26 := by rw [e169]
  refine sg_X12_ruled_4 (by omega) (by omega) (by omega) (by omega) (by omega) (fun _ => by rw [ec]; omega) (fun _ q => by rw [ec] at q; omega) (fun _ q => by rw [ec] at q; omega) (fun _ q => by rw [ec] at q; omega) (fun _ q => by rw [ec] at q; omega) (by omega) (by omega) (fun _ q => by rw [ec] at q; omega) (fun _ q => by rw [ec] at q; omega) (fun _ _ => ?_)
  have ed : d + 1 - 1 = d := by omega
  rw [ed]
  refine GM_iarr (k := 187) (n := 80) (m' := up2 m1 187 d (wI (-(m1 187 d)))) (by decide) (fun a ha => by rw [up2_k ha, up2_k ha]) (fun x => ?_) (k _ (fun a ha => (up2_k ha).trans (a1 a ha)) (fun x x0 x1 => (up2_j (by omega)).trans (a2 x x0 x1)) ?_)
  · by_cases c : x = d
    · subst c; rw [up2_same, up2_same, iI_of]
    · rw [up2_j c, up2_j c]
  · rw [up2_same, a3]
theorem ms_op {code : Int → Int} {i j n o : Int} {v w : (Int → Int) → Int} (h : MSeg code i j v) (g : MSeg code j n w) (hn : n < 80) (ho : 0 ≤ o ∧ o ≤ 6) (hc : code n = 2000 + o) : MSeg code i (n + 1) (fun f => opv o (v f) (w f)) := by
  obtain ⟨hv, i0, ij, j80, run⟩ := h
  obtain ⟨hw, j0, jn, n80, run2⟩ := g
  refine ⟨⟨fun f _ => opv_rng _ _ _, fun f g e => by show opv o (v f) (w f) = opv o (v g) (w g); rw [hv.2 f g e, hw.2 f g e]⟩, i0, by omega, by omega, fun E P m d d0 d1 n0 n1 hm hf k => ?_⟩
  refine run E P m d d0 (by omega) (by omega) n1 (fun x x0 x1 => hm x x0 (by omega)) hf (fun m1 a1 a2 a3 => ?_)
  have e185 : m1 185 = m 185 := a1 185 (by decide)
  have e169 : m1 169 = m 169 := a1 169 (by decide)
  have e188 : m1 188 = m 188 := a1 188 (by decide)
  refine run2 E P m1 (d + 1) (by omega) (by omega) (by rw [e169]; omega) (by rw [e169]; omega) (fun x x0 x1 => by rw [e185]; exact hm x (by omega) (by omega)) (by rw [e188]; exact hf) (fun m2 b1 b2 b3 => ?_)
  have f185 : m2 185 = m 185 := (b1 185 (by decide)).trans e185
  have f169 : m2 169 = m 169 := (b1 169 (by decide)).trans e169
  have ec : m2 185 n = 2000 + o := by rw [f185, hm n (by omega) (by omega), hc]
  have en : m2 169 26 = m 169 26 := by rw [f169]
  have ed : d + 1 + 1 + -1 = d + 1 := by omega
  have ed2 : d + 1 - 1 = d := by omega
  refine sg_X12_ruled_4 (by omega) (by omega) (by omega) (by omega) (by omega) (fun _ => by rw [ec]; omega) (fun _ _ q => by rw [ec] at q; omega) (fun _ _ q => by rw [ec] at q; omega) (by omega) (by omega) (fun _ q => by rw [ec] at q; omega) (by omega) (fun _ _ q => by rw [ec] at q; omega) (fun _ _ _ => ?_) (fun _ q => by rw [ec] at q; omega)
  rw [ed, ed2, ec, show 2000 + o - 2000 = o by omega]
  have ev : m2 187 d = v (m 188) := (b2 d d0 (by omega)).trans a3
  have ew : m2 187 (d + 1) = w (m 188) := by rw [b3, e188]
  refine ca_X12_ruled_82 (ct_worked ⟨by omega, by omega⟩ (by rw [ev]; exact hv.1 _ hf) (by rw [ew]; exact hw.1 _ hf)) (fun z m3 hz => ?_)
  obtain ⟨rfl, rfl⟩ := hz
  refine sg_X12_ruled_85 (by omega) (k _ (fun a ha => (up2_k ha).trans ((b1 a ha).trans (a1 a ha))) (fun x x0 x1 => (up2_j (by omega)).trans ((b2 x x0 (by omega)).trans (a2 x x0 x1))) ?_)
  rw [up2_same, ev, ew]
/-- the reference's seconds by the rule -/
theorem mt_ruled {E : Nat × (Nat → Int32)} {m : Mem} {code : Int → Int} {v : (Int → Int) → Int} (h : MSeg code 0 (m 169 26) v) (hm : ∀ x : Int, 0 ≤ x → x < m 169 26 → m 185 x = code x) (hf : FOK (m 188)) : K_X12_ruled E [.ref 169] m (fun z m' => z = max 1 (min 999 (v (m 188))) ∧ ∀ k, k ≠ 187 → m' k = m k) := by
  obtain ⟨hv, i0, ij, j80, run⟩ := h
  have rv := hv.1 _ hf
  refine en_X12_ruled (sg_X12_ruled_0 (run E _ m 0 (by omega) (by omega) (by omega) (by omega) (fun x x0 x1 => hm x x0 x1) hf (fun m1 a1 a2 a3 => ?_)))
  have en : m1 169 26 = m 169 26 := by rw [a1 169 (by decide)]
  have e0 : (if m1 169 26 ≠ 0 then m1 187 0 else 8 + m1 188 0) = v (m 188) := by rw [if_pos (by omega), a3]
  refine sg_X12_ruled_4 (by omega) (by omega) (fun _ => by rw [e0]; exact rv) (fun _ => by rw [e0]; omega) (by omega) (by omega) (by omega) (by omega) (by omega) (by omega) (by omega) (fun _ => ⟨_, rfl, by rw [e0], a1⟩) (by omega) (by omega) (by omega)
theorem mt_ruled0 {E : Nat × (Nat → Int32)} {m : Mem} (h : m 169 26 = 0) (hf : 0 ≤ m 188 0 ∧ m 188 0 ≤ 9999) : K_X12_ruled E [.ref 169] m (fun z m' => z = max 1 (min 999 (8 + m 188 0)) ∧ m' = m) := by
  have e0 : (if m 169 26 ≠ 0 then m 187 0 else 8 + m 188 0) = 8 + m 188 0 := by rw [if_neg (by omega)]
  refine en_X12_ruled (sg_X12_ruled_0 ?_)
  refine sg_X12_ruled_4 (by omega) (by omega) (fun _ => by rw [e0]; omega) (fun _ => by rw [e0]; omega) (by omega) (by omega) (by omega) (by omega) (by omega) (by omega) (by omega) (fun _ => ⟨_, rfl, by rw [e0], rfl⟩) (by omega) (by omega) (by omega)
