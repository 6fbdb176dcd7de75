/-! what holds when all is made -/
theorem Made.at {m : Mem} (h : Made m) (k j : Nat) (hk : k < 208) (hj : j < lenS k) : m k (j : Int) = V0 k j := h k (Nat.zero_le _) hk j hj
theorem Made.zero {m : Mem} (h : Made m) {k t n : Nat} {j : Int} (hs : SH[k]? = some (.inr (t, n))) (h2 : VA.lookup k = none) (hk : k < 208) (j0 : 0 ≤ j) (j1 : j < n) : m k j = 0 := by
  obtain ⟨i, rfl⟩ := Int.eq_ofNat_of_zero_le j0
  rw [h.at k i hk (by rw [lenS_a hs]; omega), VA0 hs h2]
theorem set_eq : ∀ i, i < 7 → i < lenS 4 ∧ i < lenS 179 ∧ V0 4 i = V0 179 i := by decide +kernel
theorem hst_eq : ∀ i, i < 15 → i < lenS 28 ∧ V0 28 i = ((33 + 4 * i : Nat) : Int) := by decide +kernel
theorem str_eq : ∀ s, s < 6 → 0 < lenS (11 + 2 * s) ∧ 6 < lenS (11 + 2 * s) ∧ V0 (11 + 2 * s) 0 = (s : Int) ∧ V0 (11 + 2 * s) 6 = 0 := by decide +kernel
theorem kst_eq : ∀ i, i < 3 → i < lenS 166 ∧ V0 166 i = -1 := by decide +kernel


theorem Made.rel {m : Mem} (h : Made m) : Rel (fun f => 8 + f 0) 0 m := by
  have f (k j : Nat) (z : Int) (hk : k < 208) (hj : j < lenS k) (hz : V0 k j = z) : m k (j : Int) = z := by rw [h.at k j hk hj, hz]
  have a1 : m 169 1 = 0 := f 169 1 0 (by decide) (by decide) rfl
  have a3 : m 169 3 = 0 := f 169 3 0 (by decide) (by decide) rfl
  have a4 : m 169 4 = 0 := f 169 4 0 (by decide) (by decide) rfl
  have a17 : m 169 17 = 0 := f 169 17 0 (by decide) (by decide) rfl
  have a26 : m 169 26 = 0 := f 169 26 0 (by decide) (by decide) rfl
  have a40 : m 169 40 = 0 := f 169 40 0 (by decide) (by decide) rfl
  have a62 : m 169 62 = 0 := f 169 62 0 (by decide) (by decide) rfl
  have c91 : m 9 1 = 0 := f 9 1 0 (by decide) (by decide) rfl
  have c11 : m 1 1 = 0 := f 1 1 0 (by decide) (by decide) rfl
  have c12 : m 1 2 = 0 := f 1 2 0 (by decide) (by decide) rfl
  have c13 : m 1 3 = 0 := f 1 3 0 (by decide) (by decide) rfl
  have c233 : m 23 3 = 0 := f 23 3 0 (by decide) (by decide) rfl
  have c234 : m 23 4 = 0 := f 23 4 0 (by decide) (by decide) rfl
  have c235 : m 23 5 = 0 := f 23 5 0 (by decide) (by decide) rfl
  have c272 : m 27 2 = 0 := f 27 2 0 (by decide) (by decide) rfl
  have c934 : m 93 4 = 0 := f 93 4 0 (by decide) (by decide) rfl
  have c14 : m 0 14 = 0 := f 0 14 0 (by decide) (by decide) rfl
  have c50 : m 5 0 = 6 := f 5 0 6 (by decide) (by decide) rfl
  have c51 : m 5 1 = 0 := f 5 1 0 (by decide) (by decide) rfl
  have c52 : m 5 2 = 7 := f 5 2 7 (by decide) (by decide) rfl
  have z6 (k : Nat) (hs : SH[k]? = some (.inr (0, 6))) (h2 : VA.lookup k = none) (hk : k < 208) (j : Int) (j0 : 0 ≤ j) (j1 : j < 6) : m k j = 0 := h.zero hs h2 hk j0 j1
  have z180 (j : Int) (j0 : 0 ≤ j) (j1 : j < 99) : m 180 j = 0 := h.zero (t := 0) (n := 99) rfl rfl (by decide) j0 j1
  have z178 (j : Int) (j0 : 0 ≤ j) (j1 : j < 96) : m 178 j = 0 := h.zero (t := 0) (n := 96) rfl rfl (by decide) j0 j1
  have z205 (j : Int) (j0 : 0 ≤ j) (j1 : j < 3) : m 205 j = 0 := h.zero (t := 1) (n := 3) rfl rfl (by decide) j0 j1
  have s0 : m 179 0 = 100 := f 179 0 100 (by decide) (by decide) rfl
  have s1 : m 179 1 = 2 := f 179 1 2 (by decide) (by decide) rfl
  have s2 : m 179 2 = 0 := f 179 2 0 (by decide) (by decide) rfl
  have s3 : m 179 3 = 1 := f 179 3 1 (by decide) (by decide) rfl
  have s4 : m 179 4 = 30 := f 179 4 30 (by decide) (by decide) rfl
  have s5 : m 179 5 = 50 := f 179 5 50 (by decide) (by decide) rfl
  have s6 : m 179 6 = 480 := f 179 6 480 (by decide) (by decide) rfl
  have st : StOK 0 m (m 180) := by
    refine ⟨fun b b0 b1 => ?_, ?_⟩
    · rw [z180 b b0 (by omega)]
      exact ⟨by decide, by decide, fun c => absurd rfl c⟩
    · rw [z180 96 (by decide) (by decide), z180 97 (by decide) (by decide), z180 98 (by decide) (by decide)]
      decide
  refine ⟨⟨?_, ?_, ?_, ?_, ?_, ?_, ?_, ?_⟩, ⟨6, by decide, c50, by rw [c52]; rfl, Or.inl ⟨c51, rfl⟩⟩, Or.inl ⟨a26, rfl⟩, ⟨?_, ?_, ?_, st, ?_, ?_, ?_, ?_⟩⟩
  · refine ⟨by rw [c91, a3], fun s hs => ?_⟩
    obtain ⟨g1, g2, g3, g4⟩ := str_eq s hs
    refine ⟨f (11 + 2 * s) 0 s (by omega) g1 g3, ?_, fun c => by omega⟩
    rw [z6 175 rfl rfl (by decide) s (by omega) (by omega)]
    exact f (11 + 2 * s) 6 0 (by omega) g2 g4
  · intro i i0 i7
    obtain ⟨n, rfl⟩ := Int.eq_ofNat_of_zero_le i0
    obtain ⟨g1, g2, g3⟩ := set_eq n (by omega)
    rw [h.at 4 n (by decide) g1, h.at 179 n (by decide) g2, g3]
  · refine ⟨⟨by omega, by omega, by omega, by omega, by omega, by omega, fun i i0 i1 => ?_⟩, by rw [c11, a17], fun j j0 j1 => by omega⟩
    rw [h.zero (k := 2) (t := 0) (n := 80) rfl rfl (by decide) i0 i1]
    decide
  · refine ⟨fun s s0 s6 => ?_, ?_, ?_, ?_⟩
    · rw [z6 (23 + 1) rfl rfl (by decide) s s0 s6, z6 (23 + 2) rfl rfl (by decide) s s0 s6, z6 (23 + 3) rfl rfl (by decide) s s0 s6]
      refine ⟨small_0, small_0, small_0, fun b b0 b1 => ?_⟩
      rw [tb_0 b, z180 (16 * s + b) (by omega) (by omega)]
      exact ⟨rfl, rfl, rfl, rfl⟩
    · rw [c233, z180 96 (by decide) (by decide)]
    · rw [c234, z180 97 (by decide) (by decide)]
    · rw [c235, z180 98 (by decide) (by decide)]
  · refine ⟨by rw [c272, a40], fun i => i, fun i hi => hi, fun i j _ _ e => e, fun i hi => ?_, fun i hi c => by omega⟩
    obtain ⟨g1, g2⟩ := hst_eq i hi
    exact f 28 i _ (by decide) g1 g2
  · exact ⟨by rw [c934, a62], fun j j0 j1 => by omega⟩
  · intro i hi
    obtain ⟨g1, g2⟩ := kst_eq i hi
    exact Or.inl ⟨z205 i (by omega) (by omega), f 166 i _ (by decide) g1 g2⟩
  · exact ⟨by rw [c14, a1], fun j j0 j1 => by omega⟩
  · refine ⟨by omega, by omega, fun s s0 s6 => ?_, fun s b s0 s6 b0 b1 => ?_⟩
    · rw [z6 171 rfl rfl (by decide) s s0 s6, z6 172 rfl rfl (by decide) s s0 s6, z6 173 rfl rfl (by decide) s s0 s6, h.zero (k := 174) (t := 1) (n := 6) rfl rfl (by decide) s0 s6, z6 175 rfl rfl (by decide) s s0 s6, z6 176 rfl rfl (by decide) s s0 s6, z6 177 rfl rfl (by decide) s s0 s6]
      refine ⟨by decide, by decide, by decide, by decide, by decide, by decide, Or.inl rfl, by decide, by decide, Or.inr ⟨by decide, by decide, by decide⟩, fun c => by omega, fun _ => ⟨rfl, rfl⟩⟩
    · rw [z178 (16 * s + b) (by omega) (by omega)]
      exact ⟨by decide, by decide, fun _ => rfl⟩
  · unfold WSet
    rw [s0, s1, s2, s3, s4, s5, s6]
    decide
  · exact ⟨by omega, by omega, fun j j0 j1 => by omega⟩
  · exact ⟨by omega, by omega, fun i i0 i1 => by omega⟩
  · exact ⟨by omega, by omega, fun j j0 j1 => by omega⟩
  · refine ⟨by omega, by omega, fun i i0 i3 => Or.inl (z205 i i0 i3)⟩
  · exact ⟨by omega, by omega, fun j j0 j1 => by omega⟩
