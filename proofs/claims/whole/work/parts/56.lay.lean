/-! the class' job: which house, how many seconds of moving -/
theorem ct_houseAt {E : Nat × (Nat → Int32)} {c : Mem} {o : Nat} {n how i : Int} (ho : o ∈ streetL) (hn : c o 3 = n) (n0 : 0 ≤ n) (n8 : n ≤ 8) (h : RI how) (i0 : 0 ≤ i) (i1 : i < 1000) : K_X2_houseAt E [.ref o, vi how, vi i] c (fun z c' => z = (if i < 2 * n then houseN n how i else -1) ∧ c' = c) := by
  refine en_X2_houseAt (sg_X2_houseAt_0 ho ⟨by omega, by omega⟩ (by rw [hn]; constructor <;> omega) h (fun _ _ => by rw [hn]; constructor <;> omega) (fun p q => ⟨_, rfl, ?_, rfl⟩) (fun p q => ⟨_, rfl, ?_, rfl⟩) (fun p => ⟨_, rfl, ?_, rfl⟩))
  · rw [hn] at p ⊢
    have hi : i < 2 * n := by omega
    rw [if_pos hi]
    unfold houseN
    rw [if_pos q]
    by_cases g : n ≤ i
    · rw [if_pos g, if_neg (by omega)]
    · rw [if_neg g, if_pos (by omega)]
  · rw [hn] at p
    have hi : i < 2 * n := by omega
    rw [if_pos hi, remI_nn ⟨by omega, by omega⟩ (by omega), divI_nn ⟨by omega, by omega⟩ (by omega)]
    unfold houseN
    rw [if_neg q]
    omega
  · rw [hn] at p
    have hi : ¬ i < 2 * n := by omega
    rw [if_neg hi]
theorem ct_movesOf {E : Nat × (Nat → Int32)} {c a : Mem} {s how : Int} (hC : CTown c a) (hT : WTown a) (s0 : 0 ≤ s) (s1 : s < a 169 3) (h : RI how) : K_X2_movesOf E [.ref (11 + 2 * s.toNat), vi how] c (fun z c' => z = movesR a s how ∧ c' = c) := by
  have n6 := hT.2.1
  have t := hT.2.2.1 s s0 (by omega)
  have m := streetMem s.toNat (by omega)
  obtain ⟨-, e3, -, e5, -⟩ := hC.s s0 s1 n6
  refine en_X2_movesOf (sg_X2_movesOf_0 m h (fun _ _ => by rw [e5]; constructor <;> omega) (fun p q => ⟨_, rfl, ?_, rfl⟩) (fun p q => ⟨_, rfl, ?_, rfl⟩) (fun p => ⟨_, rfl, ?_, rfl⟩))
  · unfold movesR
    rw [if_pos p, if_pos q]
  · unfold movesR
    have q' : ¬ how ≠ 1 := fun g => g q
    rw [if_pos p, if_neg q', e3, e5]
    split <;> omega
  · unfold movesR
    rw [if_neg (fun g => g p), e3]
