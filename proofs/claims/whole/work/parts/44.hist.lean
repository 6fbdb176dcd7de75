/-! states put by, taken back -/
/-- an int -/
abbrev RI (z : Int) : Prop := -2147483648 ≤ z ∧ z < 2147483648
/-- n numbers of row a from s on come to row b from d on -/
def mv (m : Mem) (a : Nat) (s : Int) (b : Nat) (d n : Int) : Mem := upr m b (fun j => if d ≤ j ∧ j < d + n then m a (j - d + s) else m b j)
theorem mv_k {m : Mem} {a : Nat} {s : Int} {b : Nat} {d n : Int} {k : Nat} (h : k ≠ b) : mv m a s b d n k = m k := upr_k h
theorem mv_in {m : Mem} {a : Nat} {s : Int} {b : Nat} {d n j : Int} (h0 : d ≤ j) (h1 : j < d + n) : mv m a s b d n b j = m a (j - d + s) := by
  unfold mv
  rw [upr_same, if_pos ⟨h0, h1⟩]
theorem mv_out {m : Mem} {a : Nat} {s : Int} {b : Nat} {d n j : Int} (h : j < d ∨ d + n ≤ j) : mv m a s b d n b j = m b j := by
  unfold mv
  rw [upr_same, if_neg (by omega)]
theorem mv_0 {m : Mem} {a : Nat} {s : Int} {b : Nat} {d : Int} : mv m a s b d 0 = m := by
  funext x y
  unfold mv upr
  split
  · rename_i h; subst h; exact if_neg (by omega)
  · rfl
theorem mv_step {m : Mem} {a : Nat} {s : Int} {b : Nat} {d i ti si : Int} (h : a ≠ b ∨ d ≤ s) (h0 : 0 ≤ i) (ht : ti = d + i) (hsi : si = s + i) : up2 (mv m a s b d i) b ti (mv m a s b d i a si) = mv m a s b d (i + 1) := by
  subst ht hsi
  have e : mv m a s b d i a (s + i) = m a (s + i) := by
    by_cases c : a = b
    · subst c; exact mv_out (by omega)
    · rw [mv_k c]
  rw [e]
  funext x y
  by_cases hx : x = b
  · subst hx
    by_cases hy : y = d + i
    · subst hy
      rw [up2_same, mv_in (by omega) (by omega)]
      congr 1
      omega
    · rw [up2_j hy]
      by_cases hin : d ≤ y ∧ y < d + i
      · rw [mv_in hin.1 hin.2, mv_in hin.1 (by omega)]
      · rw [mv_out (by omega), mv_out (by omega)]
  · rw [up2_k hx, mv_k hx, mv_k hx]
/-- puts -/
theorem ct_puts {E : Nat × (Nat → Int32)} {m : Mem} {a b : Nat} (la : a < 209) (sa : SH[a]? = some (.inr (0, 99))) (lb : b < 209) (sb : SH[b]? = some (.inr (0, 99))) (ne : a ≠ b) : K_X12_puts E [.ref a, .ref b] m (fun m' => m' = mv m a 0 b 0 99) := by
  refine en_X12_puts (sg_X12_puts_0 la sa lb sb ?_)
  refine up_loop (i0 := 0) (n := 99) (fun i s => GM E _ _ 2 [.ref a, .ref b, vi i] [] s) (fun i s => s = mv m a 0 b 0 i) (fun s h => ?_) (fun i s h0 h1 h k => ?_) (i := 0) (s := m) (by omega) (by omega) mv_0.symm
  · exact sg_X12_puts_2 la sa lb sb (by omega) (by omega) (fun _ => ⟨rfl, h⟩) (by omega)
  · refine sg_X12_puts_2 la sa lb sb (by omega) (by omega) (by omega) (fun _ => k _ ?_)
    subst h
    exact mv_step (Or.inl ne) h0 (by omega) (by omega)
/-- putsBy -/
theorem ct_putsBy {E : Nat × (Nat → Int32)} {m : Mem} (h0 : 0 ≤ m 169 40) (h1 : m 169 40 ≤ 15) : K_X12_putsBy E [.ref 169] m (fun m' => m' = mv m 180 0 190 (99 * m 169 40) 99) := by
  refine en_X12_putsBy (sg_X12_putsBy_0 ?_)
  refine up_loop (i0 := 0) (n := 99) (fun i s => GM E _ _ 2 [.ref 169, vi i] [] s) (fun i s => s = mv m 180 0 190 (99 * m 169 40) i) (fun s h => ?_) (fun i s a0 a1 h k => ?_) (i := 0) (s := m) (by omega) (by omega) mv_0.symm
  · have e : s 169 40 = m 169 40 := by rw [h, mv_k (by decide)]
    exact sg_X12_putsBy_2 (by omega) (by omega) (by omega) (fun _ => ⟨rfl, h⟩) (by omega)
  · have e : s 169 40 = m 169 40 := by rw [h, mv_k (by decide)]
    refine sg_X12_putsBy_2 (by omega) (by omega) (by omega) (by omega) (fun _ => k _ ?_)
    rw [e]
    subst h
    exact mv_step (Or.inl (by decide)) a0 rfl (by omega)
def addU (m : Mem) : Mem := if m 169 40 < 15 then up2 m 169 40 (m 169 40 + 1) else up2 (mv m 190 99 190 0 1485) 169 40 (m 169 40)
/-- adds -/
theorem ct_adds {E : Nat × (Nat → Int32)} {m : Mem} {z : Int} (h0 : 0 ≤ m 169 40) (h1 : m 169 40 ≤ 15) : K_X12_adds E [.ref 169, vi z] m (fun z' m' => z' = z ∧ m' = addU m) := by
  refine en_X12_adds (sg_X12_adds_0 (by omega) (fun c => ⟨_, rfl, rfl, ?_⟩) (fun c => ?_))
  · unfold addU; rw [if_pos (by omega)]
  · refine up_loop (i0 := 0) (n := 1485) (fun i s => GM E _ _ 21 [.ref 169, vi z, vi i] [] s) (fun i s => s = up2 (mv m 190 99 190 0 i) 169 40 (m 169 40 + 1)) (fun s h => ?_) (fun i s a0 a1 h k => ?_) (i := 0) (by omega) (by omega) (by rw [mv_0])
    · refine sg_X12_adds_21 (by omega) (by omega) (by omega) (fun _ => ⟨_, rfl, rfl, ?_⟩) (by omega)
      unfold addU
      rw [if_neg (by omega), h, up2_same]
      funext x y
      unfold up2
      split
      · rename_i c; omega
      · rfl
    · refine sg_X12_adds_21 (by omega) (by omega) (by omega) (by omega) (fun _ => k _ ?_)
      subst h
      rw [up2_k (by decide), ← mv_step (m := m) (a := 190) (b := 190) (s := 99) (d := 0) (i := i) (ti := i) (si := i + 99) (Or.inr (by omega)) a0 (by omega) (by omega)]
      funext x y
      unfold up2
      by_cases c : x = 190
      · subst c; simp
      · simp [c]
def undoU (m : Mem) : Mem := mv (up2 m 169 40 (m 169 40 - 1)) 190 (99 * (m 169 40 - 1)) 180 0 99
/-- the reference's undo -/
theorem mt_undo {E : Nat × (Nat → Int32)} {m : Mem} (h0 : 0 ≤ m 169 40) (h1 : m 169 40 ≤ 15) : K_X12_undo E [.ref 169] m (fun z m' => (m 169 40 = 0 ∧ z = -1 ∧ m' = up2 m 169 0 0) ∨ (m 169 40 ≠ 0 ∧ z = m 169 40 - 1 ∧ m' = undoU (up2 m 169 0 0))) := by
  have e0 : up2 m 169 0 0 169 40 = m 169 40 := up2_j (by decide)
  refine en_X12_undo (sg_X12_undo_0 (by omega) (fun c => ?_) (fun c => ⟨_, rfl, Or.inl ⟨c, rfl, rfl⟩⟩))
  refine up_loop (i0 := 0) (n := 99) (fun i s => GM E _ _ 26 [.ref 169, vi i] [] s) (fun i s => s = mv (up2 (up2 m 169 0 0) 169 40 (m 169 40 - 1)) 190 (99 * (m 169 40 - 1)) 180 0 i) (fun s h => ?_) (fun i s a0 a1 h k => ?_) (i := 0) (by omega) (by omega) mv_0.symm
  · have e : s 169 40 = m 169 40 - 1 := by rw [h, mv_k (by decide), up2_same]
    refine sg_X12_undo_26 (by omega) (by omega) (by omega) (fun _ => ⟨_, rfl, Or.inr ⟨c, e, ?_⟩⟩) (by omega)
    unfold undoU
    rw [e0, h]
  · have e : s 169 40 = m 169 40 - 1 := by rw [h, mv_k (by decide), up2_same]
    refine sg_X12_undo_26 (by omega) (by omega) (by omega) (by omega) (fun _ => k _ ?_)
    rw [e]
    subst h
    exact mv_step (Or.inl (by decide)) a0 (by omega) rfl
def keepU (m : Mem) (i : Int) : Mem := mv (up2 (up2 m 205 i 1) 206 i (m 169 4)) 180 0 207 (99 * i) 99
/-- the reference's keep -/
theorem mt_keep {E : Nat × (Nat → Int32)} {m : Mem} {i : Int} (hi : RI i) : K_X12_keep E [.ref 169, vi i] m (fun z m' => ((0 ≤ i ∧ i ≤ 2) ∧ z = 1 ∧ m' = keepU (up2 m 169 0 0) i) ∨ (¬ (0 ≤ i ∧ i ≤ 2) ∧ z = 0 ∧ m' = up2 m 169 0 0)) := by
  obtain ⟨i0, i1⟩ := hi
  refine en_X12_keep (sg_X12_keep_0 (by omega) (by omega) (by omega) (fun c => ?_) (fun c => ⟨_, rfl, Or.inr ⟨c, rfl, rfl⟩⟩))
  refine up_loop (i0 := 0) (n := 99) (fun j s => GM E _ _ 38 [.ref 169, vi i, vi j] [] s) (fun j s => s = mv (up2 (up2 (up2 m 169 0 0) 205 i 1) 206 i (m 169 4)) 180 0 207 (99 * i) j) (fun s h => ?_) (fun j s a0 a1 h k => ?_) (i := 0) (by omega) (by omega) mv_0.symm
  · refine sg_X12_keep_38 (by omega) (by omega) (by omega) (fun _ => ⟨_, rfl, Or.inl ⟨c, rfl, ?_⟩⟩) (by omega)
    unfold keepU
    rw [h, up2_j (by decide)]
  · refine sg_X12_keep_38 (by omega) (by omega) (by omega) (by omega) (fun _ => k _ ?_)
    subst h
    exact mv_step (Or.inl (by decide)) a0 rfl (by omega)
def againU (m : Mem) (i : Int) : Mem := up2 (mv m 207 (99 * i) 180 0 99) 169 40 0
def againOk (m : Mem) (i : Int) : Prop := (0 ≤ i ∧ i ≤ 2) ∧ m 205 i ≠ 0 ∧ m 206 i = m 169 4 ∧ m 207 (99 * i + 96) ≤ m 179 0
/-- the reference's again -/
theorem mt_again {E : Nat × (Nat → Int32)} {m : Mem} {i : Int} (hi : RI i) (h4 : RI (m 169 4)) (h179 : RI (m 179 0)) (h5 : 0 ≤ i → i ≤ 2 → RI (m 205 i) ∧ (m 205 i ≠ 0 → RI (m 206 i) ∧ RI (m 207 (99 * i + 96)))) : K_X12_again E [.ref 169, vi i] m (fun z m' => (againOk m i ∧ z = 1 ∧ m' = againU (up2 m 169 0 0) i) ∨ (¬ againOk m i ∧ z = 0 ∧ m' = up2 m 169 0 0)) := by
  obtain ⟨i0, i1⟩ := hi
  refine en_X12_again (sg_X12_again_0 (by omega) (by omega) (by omega) (fun c => (h5 c.1 c.2).1) (fun c d => ((h5 c.1 c.2).2 d).1) (fun _ _ => h4) (by omega) (fun c d _ => ((h5 c.1 c.2).2 d).2) (fun _ _ _ => h179) (fun c d => ⟨_, rfl, Or.inr ⟨fun o => o.2.1 d, rfl, rfl⟩⟩) (fun c d e => ⟨_, rfl, Or.inr ⟨fun o => e o.2.2.1, rfl, rfl⟩⟩) (fun c d e f => ?_) (fun c d e f => ⟨_, rfl, Or.inr ⟨fun o => f o.2.2.2, rfl, rfl⟩⟩) (fun c => ⟨_, rfl, Or.inr ⟨fun o => c o.1, rfl, rfl⟩⟩))
  refine up_loop (i0 := 0) (n := 99) (fun j s => GM E _ _ 64 [.ref 169, vi i, vi j] [] s) (fun j s => s = mv (up2 m 169 0 0) 207 (99 * i) 180 0 j) (fun s h => ?_) (fun j s a0 a1 h k => ?_) (i := 0) (by omega) (by omega) mv_0.symm
  · refine sg_X12_again_64 (by omega) (by omega) (by omega) (fun _ => ⟨_, rfl, Or.inl ⟨⟨c, d, e, f⟩, rfl, ?_⟩⟩) (by omega)
    unfold againU
    rw [h]
  · refine sg_X12_again_64 (by omega) (by omega) (by omega) (by omega) (fun _ => k _ ?_)
    subst h
    exact mv_step (Or.inl (by decide)) a0 (by omega) rfl
/-- allBy -/
theorem ct_allBy {E : Nat × (Nat → Int32)} {m : Mem} {q : Int} (hq : RI q) (hr : ∀ b : Int, 0 ≤ b → b < 96 → RI (m 180 b)) : K_X12_allBy E [.ref 169, vi q] m (fun z m' => m' = m ∧ z = cnt (m 180) q 96) := by
  refine en_X12_allBy (sg_X12_allBy_0 ?_)
  refine up_loop (i0 := 0) (n := 96) (fun i (a : Int) => GM E _ _ 4 [.ref 169, vi q, vi a, vi i] [] m) (fun i a => a = cnt (m 180) q i.toNat) (fun a h => ?_) (fun i a a0 a1 h k => ?_) (i := 0) (s := 0) (by omega) (by omega) rfl
  · exact sg_X12_allBy_4 (by omega) (by omega) (by omega) hq (fun _ => ⟨_, rfl, rfl, h⟩) (by omega) (by omega)
  · have e : cnt (m 180) q (i + 1).toNat = a + b01 (m 180 i == q) := by
      rw [show (i + 1).toNat = i.toNat + 1 by omega]
      unfold cnt at h ⊢
      rw [sumI, ← h, Int.toNat_of_nonneg a0]
    refine sg_X12_allBy_4 (by omega) (by omega) (fun _ => hr i a0 a1) hq (by omega) (fun _ c => k _ ?_) (fun _ c => k _ ?_)
    · rw [e]; simp [b01, c]
    · rw [e]; simp [b01, c]
