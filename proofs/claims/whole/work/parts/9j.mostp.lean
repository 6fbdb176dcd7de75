/-! most: both sides -/
def mostP (a : Mem) (t w : Int) : Prop := setOf (a 169 3) t ∧ 0 ≤ w ∧ w ≤ 99999
theorem subB_iff {q t : Int} (q0 : 0 ≤ q) (q1 : q < 64) : bandI q (bxorI t (-1)) = 0 ↔ subB q t := by
  refine ⟨fun h i i0 i6 hi => ?_, fun h => tb_ext (bandI_rng _ _) (by decide) (fun i i0 i1 => ?_)⟩
  · have : tb (bandI q (bxorI t (-1))) i = false := by rw [h, tb_0]
    rw [tb_and, tb_xor, tb_m1 (by omega), hi] at this
    cases c : tb t i with
    | true => rfl
    | false => rw [c] at this; cases this
  · rw [tb_and, tb_xor, tb_m1 i1, tb_0]
    by_cases c : i < 6
    · cases d : tb q i with
      | false => rfl
      | true => rw [h i i0 c d]; rfl
    · rw [hi64 q0 q1 (by omega)]; rfl
theorem subB_le {q t : Int} (q0 : 0 ≤ q) (q1 : q < 64) (t0 : 0 ≤ t) (t1 : t < 64) (h : subB q t) : q ≤ t := by
  have e : bandI q t = q := tb_ext (bandI_rng _ _) ⟨by omega, by omega⟩ (fun i i0 i1 => by
    rw [tb_and]
    by_cases c : i < 6
    · cases d : tb q i with
      | false => rfl
      | true => rw [h i i0 c d]; rfl
    · rw [hi64 q0 q1 (by omega)]; rfl)
  have n := bandI_nat (a := q.toNat) (b := t.toNat) (by omega) (by omega)
  rw [Int.toNat_of_nonneg q0, Int.toNat_of_nonneg t0, e] at n
  have := Nat.and_le_right (n := q.toNat) (m := t.toNat)
  omega
theorem best_b {B : Int} {a : Mem} {v : (Int → Int) → Int} {r : Int → Int} (hT : WTown a) (hS : WSet a) (hn : StOK B a r) (hB : B ≤ 1000000000) : ∀ (l : List (List Int)) (Q : Int × List Int), (∀ p ∈ l, p.length ≤ 6 ∧ ∀ s ∈ p, 0 ≤ s ∧ s < 6) → r 98 + Q.1 ≤ B + 500000 → r 98 + (l.foldl (stQ a v r) Q).1 ≤ B + 500000
  | [], Q, _, h => h
  | p :: l, Q, hl, h => by
    rw [List.foldl_cons]
    refine best_b hT hS hn hB l _ (fun p hp => hl p (List.mem_cons_of_mem _ hp)) ?_
    have hp := hl p List.mem_cons_self
    unfold stQ
    cases c : oEnd a v r p (trow r) with
    | none => exact h
    | some t' =>
      have rng := (oEnd_rng hT hS hn p (trow r) t' B hp.2 ⟨hn.2.1, hn.2.2.1, hn.2.2.2.1, hn.2.2.2.2.1, hn.2.2.2.2.2.1, hn.2.2.2.2.2.2⟩ (by omega) c).2
      dsimp only
      split
      · show r 98 + (t'.2.2 - r 98) ≤ B + 500000; omega
      · exact h
theorem oBest_b {B q : Int} {a : Mem} {v : (Int → Int) → Int} {r : Int → Int} (hT : WTown a) (hS : WSet a) (hn : StOK B a r) (hB : B ≤ 1000000000) (q0 : 0 ≤ q) (q1 : q < 64) : r 98 + (oBest a v r q).1 ≤ B + 500000 := by
  have n0 := hT.1
  have n6 := hT.2.1
  have h6 := pop_6 q0 q1
  have pr := pop_rng q
  refine best_b hT hS hn hB _ _ (fun p hp => ?_) (by have := hn.2.2.2.2.2.2; show r 98 + -2 ≤ B + 500000; omega)
  have := perms_mem (n := (a 169 3).toNat) (by omega) _ _ p hp
  exact ⟨by omega, this.2⟩
theorem ct_most {E : Nat × (Nat → Int32)} {c a : Mem} {v : (Int → Int) → Int} {t w B : Int} (rt : RI t) (rw' : RI w) (h : CR0 c a) (hR : RuleC c v) (hT : WTown a) (hS : WSet a) (hn : StOK B a (a 180)) (hB : B ≤ 1000000000) : K_X11_most E [.ref 0, vi t, vi w] c (fun z c' => (mostP a t w ∧ z = pop (oMost a v (a 180) t w) ∧ CQ c c' 1 (rwL [oMost a v (a 180) t w])) ∨ (¬ mostP a t w ∧ z = -1 ∧ CQ c c' (a 169 1) (a 170))) := by
  have n0 := hT.1
  have n6 := hT.2.1
  have e := h.town.1
  have no : ¬ mostP a t w → (Pi fun z c' => (mostP a t w ∧ z = pop (oMost a v (a 180) t w) ∧ CQ c c' 1 (rwL [oMost a v (a 180) t w])) ∨ (¬ mostP a t w ∧ z = -1 ∧ CQ c c' (a 169 1) (a 170))) (some (vi (-1))) c := fun g => ⟨_, rfl, Or.inr ⟨g, rfl, CQ.stay h⟩⟩
  refine en_X11_most (sg_X11_most_0 rw' (fun _ g => no (fun o => by have := o.2; omega)) (fun g g2 g3 => ?_) (fun _ _ g => no (fun o => by have := o.2; omega)) (fun g => no (fun o => g (by rw [e]; exact (hasAll_iff n0 n6 rt).2 o.1))))
  rw [e] at g
  have P : mostP a t w := ⟨(hasAll_iff n0 n6 rt).1 g, by omega, g3⟩
  have sf := set_facts hT P.1
  refine ca_X11_most_35 (ct_prepare h.town h.set h.now hR hT hS hn) (fun c2 h2 => sg_X11_most_38 ?_)
  obtain ⟨O2, F2, L2⟩ := h2
  have e23 : c2 23 = c 23 := L2 23 (by decide) (by decide) (by decide)
  rw [e23]
  generalize hM : up2 (up2 (up2 (up2 (up2 c2 106 6 (c 23 3)) 106 7 (c 23 4)) 106 8 (c 23 5)) 106 9 0) 106 10 0 = M
  have Mk : ∀ k, k ≠ 106 → M k = c2 k := fun k hk => by rw [← hM, up2_k hk, up2_k hk, up2_k hk, up2_k hk, up2_k hk]
  have MT : TrC M (trow (a 180)) := ⟨by rw [← hM, up2_j (by decide), up2_j (by decide), up2_j (by decide), up2_j (by decide), up2_same]; exact h.now.2.1, by rw [← hM, up2_j (by decide), up2_j (by decide), up2_j (by decide), up2_same]; exact h.now.2.2.1, by rw [← hM, up2_j (by decide), up2_j (by decide), up2_same]; exact h.now.2.2.2⟩
  clear hM
  have FM : OFr c M := F2.trans ⟨fun q q1 _ _ => Mk q (by omega), fun x _ => by rw [Mk 5 (by decide)]⟩
  refine ca_X11_most_72 (ct_search (v := v) (r := a 180) (bits := c 24) (S := t) (U := w) (FM.town h.town) (FM.set h.set) hT hS hn (fun s k s0 s1 k0 k1 => h.now.out1 s0 (by omega) k0 k1) hB sf.1 sf.2.1 rw' (O2.fr (fun q hq => Mk q (by omega))) MT) (fun c3 h3 => ?_)
  obtain ⟨⟨-, -, f3⟩, ⟨-, -, r3, r4⟩, SF3⟩ := h3
  have F3 := FM.trans SF3.ofr
  refine sg_X11_most_75 (by rw [f3]; constructor <;> omega) ?_
  rw [f3]
  refine ca_X11_most_94 (ct_bitCount ⟨r3, by omega⟩) (fun z c4 hz => sg_X11_most_97 ⟨_, rfl, Or.inl ⟨P, hz.2, ?_⟩⟩)
  rw [hz.1]
  exact CQ.ord F3 CQ.one
theorem mt_most {E : Nat × (Nat → Int32)} {m a : Mem} {v : (Int → Int) → Int} {t w B : Int} (rt : RI t) (rw' : RI w) (hm : HighEq a m) (hR : RuleM a v) (hT : WTown a) (hS : WSet a) (hn : StOK B a (a 180)) (hB : B ≤ 1000000000) : K_X12_most E [.ref 169, vi t, vi w] m (fun z m' => (mostP a t w ∧ z = pop (oMost a v (a 180) t w) ∧ PEq m' (rowU m 1 (rwL [oMost a v (a 180) t w])) ∧ LowEq m m') ∨ (¬ mostP a t w ∧ z = -1 ∧ PEq m' m ∧ LowEq m m')) := by
  have n0 := hT.1
  have n6 := hT.2.1
  have e9 := hm 169 (by decide)
  have es := shlN n0 n6
  have p6 := pow6 (k := (a 169 3).toNat) (by omega)
  have := rt.1; have := rt.2; have := rw'.1; have := rw'.2
  have k0 : ∀ k, k ≠ 169 → up2 m 169 0 0 k = m k := fun k h => up2_k h
  have b0 : MB a (up2 m 169 0 0) := hm.mb.trans ⟨up2_j (by decide), up2_j (by decide), fun k _ _ => k0 k (by omega), k0 185 (by decide)⟩
  have low0 : LowEq m (up2 m 169 0 0) := fun k hk => k0 k (by omega)
  have no : ¬ mostP a t w → (Pi fun z m' => (mostP a t w ∧ z = pop (oMost a v (a 180) t w) ∧ PEq m' (rowU m 1 (rwL [oMost a v (a 180) t w])) ∧ LowEq m m') ∨ (¬ mostP a t w ∧ z = -1 ∧ PEq m' m ∧ LowEq m m')) (some (vi (-1))) (up2 m 169 0 0) := fun g => ⟨_, rfl, Or.inr ⟨g, rfl, PEq.field npf0, low0⟩⟩
  refine en_X12_most (sg_X12_most_0 rt (by rw [e9]; constructor <;> omega) ⟨by omega, by omega⟩ (by rw [e9]; constructor <;> omega) rw' ⟨by omega, by omega⟩ (fun g g2 => ?_) (fun g g2 => no (fun o => g2 o.2)) (fun g => no (fun o => g (by rw [e9]; exact o.1))))
  rw [e9] at g
  have P : mostP a t w := ⟨g, g2⟩
  have sf := set_facts hT P.1
  have r98 := hn.2.2.2.2.2
  have e180 : ∀ m2 : Mem, TF 0 (up2 m 169 0 0) m2 → m2 180 = a 180 := fun m2 T => by rw [T.1 180 (by decide) (by decide) (by decide) (by decide) (by decide) (by decide) (by decide), k0 180 (by decide), hm 180 (by decide)]
  have key : ∀ (k : Nat) (q z : Int) (m2 : Mem), 0 < q → q + k = t + 1 → TF 0 (up2 m 169 0 0) m2 → (z = 0 ∨ (0 < z ∧ z < q ∧ subB z t ∧ mCan a v (a 180) w z)) → (∀ x : Int, 0 < x → x < q → subB x t → mCan a v (a 180) w x → ¬ mBet x z) → GM E (m_X12_most 202) (Pi fun z m' => (mostP a t w ∧ z = pop (oMost a v (a 180) t w) ∧ PEq m' (rowU m 1 (rwL [oMost a v (a 180) t w])) ∧ LowEq m m') ∨ (¬ mostP a t w ∧ z = -1 ∧ PEq m' m ∧ LowEq m m')) 38 [.ref 169, vi t, vi w, vi z, vi q, un] [] m2 := by
    intro k
    induction k with
    | zero =>
      intro q z m2 q0 hq T z1 z2
      have eM : oMost a v (a 180) t w = z := most_one hT hS hn hB sf.2.2.2.2 (by
        rcases z1 with z1 | ⟨g1, g2, g3, g4⟩
        · exact Or.inl z1
        · exact Or.inr ⟨g1, by omega, g3, g4⟩) (fun x x0 x1 xs xc => z2 x x0 (by have := subB_le (by omega) x1 sf.1 sf.2.1 xs; omega) xs xc)
      have zr : 0 ≤ z ∧ z < 64 := by rcases z1 with z1 | z1 <;> omega
      refine sg_X12_most_38 ⟨by omega, by omega⟩ rt ⟨by omega, by omega⟩ (fun _ => ?_) (by omega) (by omega)
      refine ca_X12_most_117 (ct_bitCount ⟨zr.1, by omega⟩) (fun y m3 hy => sg_X12_most_120 ⟨_, rfl, Or.inl ⟨P, by rw [eM]; exact hy.2, ?_, ?_⟩⟩)
      · rw [hy.1, eM]
        exact (PEq.one (T.same)).trans (PEq.field npf0).rowC
      · rw [hy.1]
        intro k hk
        rw [up2_k (by omega), up2_k (by omega), up2_k (by omega), T.low k hk, low0 k hk]
    | succ k ih =>
      intro q z m2 q0 hq T z1 z2
      have q64 : q < 64 := by omega
      have zr : 0 ≤ z ∧ z < 64 := by rcases z1 with z1 | z1 <;> omega
      have z1' : z = 0 ∨ (0 < z ∧ z < q + 1 ∧ subB z t ∧ mCan a v (a 180) w z) := by
        rcases z1 with z1 | ⟨g1, g2, g3, g4⟩
        · exact Or.inl z1
        · exact Or.inr ⟨g1, by omega, g3, g4⟩
      refine sg_X12_most_38 ⟨by omega, by omega⟩ rt ⟨by omega, by omega⟩ (by omega) (fun _ g3 => ?_) (fun _ g3 => ?_)
      · refine ih (q + 1) z m2 (by omega) (by omega) T z1' (fun x x0 x1 xs xc => ?_)
        by_cases c : x = q
        · subst c; exact absurd ((subB_iff (by omega) q64).2 xs) g3
        · exact z2 x x0 (by omega) xs xc
      · have qs : subB q t := (subB_iff (by omega) q64).1 g3
        refine ca_X12_most_55 (ct_bitCount ⟨by omega, by omega⟩) (fun y m3 hy => sg_X12_most_58 ?_)
        obtain ⟨rfl, ey⟩ := hy
        refine ca_X12_most_59 (ct_bitCount ⟨zr.1, by omega⟩) (fun y2 m4 hy => ?_)
        obtain ⟨rfl, ey2⟩ := hy
        have pq := pop_rng q
        have pz := pop_rng z
        refine sg_X12_most_62 (by rw [ey]; constructor <;> omega) (by rw [ey2]; constructor <;> omega) (fun g4 => ?_) (fun g4 => ?_)
        · rw [ey, ey2] at g4
          refine ih (q + 1) z m4 (by omega) (by omega) T z1' (fun x x0 x1 xs xc => ?_)
          by_cases c : x = q
          · subst c; have : z ≤ x := by { rcases z1 with z1 | z1 <;> omega }; omega
          · exact z2 x x0 (by omega) xs xc
        · rw [ey, ey2] at g4
          have T4 := T
          refine ca_X12_most_68 (mt_quickestOf (b0.trans T.mb) hR hT hS hn hB (by omega) q64 (pop_6 (by omega) q64) (fun b _ _ => by rw [e180 m4 T])) (fun s m5 hs => ?_)
          obtain ⟨es', sr, -, T5⟩ := hs
          have T45 := T.trans T5
          have e98 : m5 180 98 = a 180 98 := by rw [e180 m5 T45]
          have bb := oBest_b (v := v) hT hS hn hB (by omega : 0 ≤ q) q64
          refine sg_X12_most_71 ⟨by omega, by omega⟩ (fun _ => by rw [e98]; constructor <;> omega) rw' ?_
          rw [e98]
          by_cases can : mCan a v (a 180) w q
          · have can' := can
            unfold mCan at can'
            rw [if_neg (by omega), if_neg (by omega)]
            refine ih (q + 1) q m5 (by omega) (by omega) T45 (Or.inr ⟨q0, by omega, qs, can⟩) (fun x x0 x1 xs xc => ?_)
            by_cases c : x = q
            · subst c; omega
            · have := z2 x x0 (by omega) xs xc; omega
          · have e : (if s < 0 then z else if w < a 180 98 + s then z else q) = z := by
              unfold mCan at can
              by_cases c : s < 0
              · rw [if_pos c]
              · rw [if_neg c, if_pos (by omega)]
            rw [e]
            refine ih (q + 1) z m5 (by omega) (by omega) T45 z1' (fun x x0 x1 xs xc => ?_)
            by_cases c : x = q
            · subst c; exact absurd xc can
            · exact z2 x x0 (by omega) xs xc
  exact key t.toNat 1 0 _ (by decide) (by omega) ⟨fun _ _ _ _ _ _ _ _ => rfl, fun _ _ _ _ _ _ _ => rfl, fun _ _ => rfl⟩ (Or.inl rfl) (fun x x0 x1 => by omega)
