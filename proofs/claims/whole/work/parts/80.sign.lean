/-! sign, end -/
theorem band255 (x : Int) : 0 ≤ bandI x 255 ∧ bandI x 255 < 256 := by
  have h : (iI x &&& iI 255).toBitVec.toNat ≤ 255 := by
    rw [Int32.toBitVec_and, BitVec.toNat_and]
    exact Nat.and_le_right
  have h2 : (iI x &&& iI 255).toInt = ((iI x &&& iI 255).toBitVec.toNat : Int) := by
    show (iI x &&& iI 255).toBitVec.toInt = _
    exact BitVec.toInt_eq_toNat_of_lt (by omega)
  unfold bandI
  rw [h2]
  omega
theorem bt_255 : ∀ i, i < 32 → bt (iI 255) i = decide (i < 8) := by decide
theorem tb_ushr {a : Int} {s : Nat} (hs : s < 32) {i : Int} (i0 : 0 ≤ i) : tb (ushrI a s) i = (decide (i + s < 32) && tb a (i + s)) := by
  have hh : ∀ n : Nat, n < 32 → (((iI (n : Int)).toUInt32 &&& Int32.toUInt32 31).toBitVec % 32).toNat = n := by decide +kernel
  unfold tb ushrI
  rw [iI_of]
  show ((iI a).toUInt32.toBitVec >>> (((iI (s : Int)).toUInt32 &&& Int32.toUInt32 31).toBitVec % 32).toNat).getLsbD i.toNat = _
  rw [hh s hs, BitVec.getLsbD_ushiftRight]
  have e : (i + (s : Int)).toNat = s + i.toNat := by omega
  rw [e]
  show (iI a).toBitVec.getLsbD (s + i.toNat) = (decide (i + (s : Int) < 32) && (iI a).toBitVec.getLsbD (s + i.toNat))
  by_cases c : i + (s : Int) < 32
  · simp [c]
  · rw [BitVec.getLsbD_of_ge _ _ (by omega)]
    simp
theorem tb_shr {a : Int} {s : Nat} (hs : s < 32) {i : Int} (i0 : 0 ≤ i) (h : i + s < 32) : tb (shrI a s) i = tb a (i + s) := by
  unfold tb shrI
  rw [iI_of, iI_nat, b_sshr s hs _ (by omega), if_pos (by omega)]
  congr 1
  omega
theorem ushr_shr {v : Int} {s : Nat} (hs : s ≤ 24) : bandI (ushrI v s) 255 = bandI (shrI v s) 255 := by
  refine tb_ext (iI_rng _) (iI_rng _) (fun i i0 i1 => ?_)
  rw [tb_and, tb_and]
  have e : tb 255 i = decide (i.toNat < 8) := bt_255 _ (by omega)
  rw [e]
  by_cases c : i < 8
  · rw [tb_ushr (by omega) i0, tb_shr (by omega) i0 (by omega)]
    have : i + (s : Int) < 32 := by omega
    simp [this]
  · have : ¬ i.toNat < 8 := by omega
    simp [this]
def sgnI (v k : Int) : Int := bandI (shrI v (24 - 8 * k)) 255
def signF (a : Mem) (v : Int) : Int → Int := fun j => if a 169 17 ≤ j ∧ j < a 169 17 + 4 then sgnI v (j - a 169 17) else a 182 j
theorem sgnI_u {v : Int} {k : Int} (k0 : 0 ≤ k) (k3 : k ≤ 3) : bandI (ushrI v (24 - 8 * k)) 255 = sgnI v k := by
  have e : (24 - 8 * k) = (((24 - 8 * k).toNat : Nat) : Int) := (Int.toNat_of_nonneg (by omega)).symm
  unfold sgnI
  rw [e]
  exact ushr_shr (by omega)
theorem ct_sign {E : Nat × (Nat → Int32)} {c a : Mem} {v : Int} (h : CText c a) (w : WText a) : K_X11_sign E [.ref 0, vi v] c (fun z c' => (a 169 17 ≤ 76 ∧ z = a 169 17 + 4 ∧ CText c' (textU a (a 169 17 + 4) (signF a v)) ∧ ∀ k, k ≠ 1 → k ≠ 2 → c' k = c k) ∨ (¬ a 169 17 ≤ 76 ∧ z = -1 ∧ c' = c)) := by
  obtain ⟨⟨t1, t2, t3, t4, t5, t6, t7⟩, e11, es⟩ := h
  have w0 := w.1
  have w1 := w.2.1
  refine en_X11_sign (sg_X11_sign_0 ?_)
  have app : K_X9_append E [.ref 1, vi v] c (fun z c' => (a 169 17 ≤ 76 ∧ z = 1 ∧ c' 1 1 = a 169 17 + 4 ∧ CText c' (textU a (a 169 17 + 4) (signF a v)) ∧ ∀ k, k ≠ 1 → k ≠ 2 → c' k = c k) ∨ (¬ a 169 17 ≤ 76 ∧ z = 0 ∧ c' = c)) := by
    refine en_X9_append (sg_X9_append_0 (by rw [e11]; constructor <;> omega) (fun p => ?_) (fun p => ⟨_, rfl, Or.inr ⟨by omega, rfl, rfl⟩⟩))
    have fin : ∀ m : Mem, m 1 1 = a 169 17 + 4 → (∀ j : Int, j ≠ 1 → m 1 j = c 1 j) → (∀ j : Int, m 2 j = if a 169 17 ≤ j ∧ j < a 169 17 + 4 then sgnI v (j - a 169 17) else c 2 j) → (∀ k, k ≠ 1 → k ≠ 2 → m k = c k) → (Pi fun z c' => (a 169 17 ≤ 76 ∧ z = 1 ∧ c' 1 1 = a 169 17 + 4 ∧ CText c' (textU a (a 169 17 + 4) (signF a v)) ∧ ∀ k, k ≠ 1 → k ≠ 2 → c' k = c k) ∨ (¬ a 169 17 ≤ 76 ∧ z = 0 ∧ c' = c)) (some (vi 1)) m := by
      intro m h1 h2 h3 h4
      refine ⟨_, rfl, Or.inl ⟨by omega, rfl, h1, ⟨⟨by omega, by omega, by rw [h2 2 (by decide)]; exact t3, by rw [h2 2 (by decide)]; exact t4, by rw [h2 3 (by decide)]; exact t5, by rw [h2 3 (by decide)]; exact t6, fun j j0 j1 => ?_⟩, by rw [textU_n, h1], fun j j0 j1 => ?_⟩, h4⟩⟩
      · rw [h3]
        split
        · exact band255 _
        · exact t7 j j0 j1
      · rw [textU_n] at j1
        rw [h3, textU_s]
        unfold signF
        split
        · rfl
        · exact es j j0 (by omega)
    have step : ∀ (d : Nat) (k : Int) (m : Mem), 0 ≤ k → k + d = 4 → m 1 1 = a 169 17 + k → (∀ j : Int, j ≠ 1 → m 1 j = c 1 j) → (∀ j : Int, m 2 j = if a 169 17 ≤ j ∧ j < a 169 17 + k then sgnI v (j - a 169 17) else c 2 j) → (∀ k, k ≠ 1 → k ≠ 2 → m k = c k) → GM E (m_X9_append 0) (Pi fun z c' => (a 169 17 ≤ 76 ∧ z = 1 ∧ c' 1 1 = a 169 17 + 4 ∧ CText c' (textU a (a 169 17 + 4) (signF a v)) ∧ ∀ k, k ≠ 1 → k ≠ 2 → c' k = c k) ∨ (¬ a 169 17 ≤ 76 ∧ z = 0 ∧ c' = c)) 19 [.ref 1, vi v, vi (24 - 8 * k)] [] m := by
      intro d
      induction d with
      | zero =>
        intro k m k0 kd h1 h2 h3 h4
        have ek : k = 4 := by omega
        subst ek
        exact sg_X9_append_19 ⟨by omega, by omega⟩ (by omega) (fun _ => fin m h1 h2 h3 h4) (by omega)
      | succ d ih =>
        intro k m k0 kd h1 h2 h3 h4
        refine sg_X9_append_19 ⟨by omega, by omega⟩ (fun _ => by rw [h1]; omega) (by omega) (fun _ => ?_)
        rw [h1, sgnI_u k0 (by omega), show 24 - 8 * k + -8 = 24 - 8 * (k + 1) by omega]
        refine ih (k + 1) _ (by omega) (by omega) ?_ (fun j hj => ?_) (fun j => ?_) (fun q q1 q2 => by rw [up2_k q1, up2_k q2, h4 q q1 q2])
        · rw [up2_same]; omega
        · rw [up2_j hj, up2_k (by decide), h2 j hj]
        · rw [up2_k (by decide)]
          by_cases cj : j = a 169 17 + k
          · subst cj
            rw [up2_same, if_pos (by omega)]
            congr 1
            omega
          · rw [up2_j cj, h3]
            by_cases c2 : a 169 17 ≤ j ∧ j < a 169 17 + k
            · rw [if_pos c2, if_pos (by omega)]
            · rw [if_neg c2, if_neg (by omega)]
    exact step 4 0 c (by omega) (by omega) (by omega) (fun _ _ => rfl) (fun j => by rw [if_neg (by omega)]) (fun _ _ _ => rfl)
  refine ca_X11_sign_5 app (fun z c2 hz => ?_)
  rcases hz with ⟨p, e, h1, h2, h3⟩ | ⟨p, e, e2⟩
  · refine sg_X11_sign_8 (by rw [e]; decide) ⟨_, rfl, Or.inl ⟨p, ?_, h2, h3⟩⟩
    rw [e, if_neg (by decide), h1]
  · refine sg_X11_sign_8 (by rw [e]; decide) ⟨_, rfl, Or.inr ⟨p, ?_, e2⟩⟩
    rw [e, if_pos rfl]
theorem mt_sign {E : Nat × (Nat → Int32)} {m a : Mem} {v : Int} (hm : HighEq a m) (w : WText a) : K_X12_sign E [.ref 169, vi v] m (fun z m' => (a 169 17 ≤ 76 ∧ z = a 169 17 + 4 ∧ PEq m' (textU m (a 169 17 + 4) (signF a v)) ∧ LowEq m m') ∨ (¬ a 169 17 ≤ 76 ∧ z = -1 ∧ PEq m' m ∧ LowEq m m')) := by
  have w0 := w.1
  have w1 := w.2.1
  have e9 := hm 169 (by decide)
  refine en_X12_sign (sg_X12_sign_0 (by rw [e9]; constructor <;> omega) (fun p => ?_) (fun p => ⟨_, rfl, Or.inr ⟨by rw [e9] at p; exact p, rfl, PEq.field npf0, fun k hk => up2_k (by omega)⟩⟩))
  rw [e9] at p
  refine up_loop (i0 := 0) (n := 4) (fun k m2 => GM E _ _ 18 [.ref 169, vi v, vi k] [] m2) (fun k m2 => (∀ j : Int, j ≠ 0 → m2 169 j = m 169 j) ∧ (∀ j : Int, m2 182 j = if a 169 17 ≤ j ∧ j < a 169 17 + k then sgnI v (j - a 169 17) else a 182 j) ∧ ∀ q, q ≠ 169 → q ≠ 182 → m2 q = m q) (fun m2 h => ?_) (fun k m2 k0 k1 h kk => ?_) (i := 0) (by omega) (by omega) ⟨fun j hj => up2_j hj, fun j => by rw [up2_k (by decide), hm 182 (by decide), if_neg (by omega)], fun q h h2 => up2_k h⟩
  · obtain ⟨h1, h2, h3⟩ := h
    have e17 : m2 169 17 = a 169 17 := by rw [h1 17 (by decide), e9]
    refine sg_X12_sign_18 (by decide) (by omega) (fun _ => ⟨_, rfl, Or.inl ⟨p, by rw [e17], ?_, fun k hk => by rw [up2_k (by omega), h3 k (by omega) (by omega)]⟩⟩) (by omega)
    rw [e17]
    refine PEq.text' (fun k _ h9 h8 => by rw [up2_k h9, h3 k h9 h8]) (fun j hj h17 => by rw [up2_j h17, h1 j hj.not.1]) (up2_same _ _ _ _) (fun j j0 j1 => ?_)
    rw [up2_k (by decide), h2]
    rfl
  · obtain ⟨h1, h2, h3⟩ := h
    have e17 : m2 169 17 = a 169 17 := by rw [h1 17 (by decide), e9]
    refine sg_X12_sign_18 ⟨by omega, by omega⟩ (fun _ => by rw [e17]; omega) (by omega) (fun _ => kk _ ⟨fun j hj => by rw [up2_k (by decide), h1 j hj], fun j => ?_, fun q q1 q2 => by rw [up2_k q2, h3 q q1 q2]⟩)
    rw [e17]
    by_cases cj : j = a 169 17 + k
    · subst cj
      rw [up2_same, if_pos (by omega), show a 169 17 + k - a 169 17 = k by omega]
      rfl
    · rw [up2_j cj, h2]
      by_cases c2 : a 169 17 ≤ j ∧ j < a 169 17 + k
      · rw [if_pos c2, if_pos (by omega)]
      · rw [if_neg c2, if_neg (by omega)]
theorem signF_ok {a : Mem} {v : Int} (w : WText a) (h : a 169 17 ≤ 76) : ∀ j : Int, 0 ≤ j → j < a 169 17 + 4 → 0 ≤ signF a v j ∧ signF a v j < 256 := fun j j0 j1 => by
  unfold signF
  split
  · exact band255 _
  · exact w.2.2 j j0 (by omega)
theorem ct_end {E : Nat × (Nat → Int32)} {c a : Mem} {n : Int} (rn : RI n) (h : CText c a) (w : WText a) : K_X11_end E [.ref 0, vi n] c (fun z c' => ((0 ≤ n ∧ n ≤ a 169 17) ∧ z = 1 ∧ CText c' (textU a n (a 182)) ∧ ∀ k, k ≠ 1 → k ≠ 2 → c' k = c k) ∨ (¬ (0 ≤ n ∧ n ≤ a 169 17) ∧ z = 0 ∧ c' = c)) := by
  obtain ⟨⟨t1, t2, t3, t4, t5, t6, t7⟩, e11, es⟩ := h
  have w0 := w.1
  have w1 := w.2.1
  have sh : K_X9_shorten E [.ref 1, vi n] c (fun z c' => ((0 ≤ n ∧ n ≤ a 169 17) ∧ z = 1 ∧ CText c' (textU a n (a 182)) ∧ ∀ k, k ≠ 1 → k ≠ 2 → c' k = c k) ∨ (¬ (0 ≤ n ∧ n ≤ a 169 17) ∧ z = 0 ∧ c' = c)) := by
    refine en_X9_shorten (sg_X9_shorten_0 rn (fun _ => by rw [e11]; constructor <;> omega) (fun p => ⟨_, rfl, Or.inr ⟨by omega, rfl, rfl⟩⟩) (fun p q => ⟨_, rfl, Or.inl ⟨by omega, rfl, ⟨⟨?_, ?_, ?_, ?_, ?_, ?_, fun j j0 j1 => ?_⟩, ?_, fun j j0 j1 => ?_⟩, fun k k1 _ => up2_k k1⟩⟩) (fun p q => ⟨_, rfl, Or.inr ⟨by omega, rfl, rfl⟩⟩))
    · rw [up2_same]; omega
    · rw [up2_same]; omega
    · rw [up2_j (by decide)]; exact t3
    · rw [up2_j (by decide)]; exact t4
    · rw [up2_j (by decide)]; exact t5
    · rw [up2_j (by decide)]; exact t6
    · rw [up2_k (by decide)]; exact t7 j j0 j1
    · rw [up2_same, textU_n]
    · rw [textU_n] at j1
      rw [up2_k (by decide), textU_s]
      exact es j j0 (by omega)
  refine en_X11_end (sg_X11_end_0 (ca_X11_end_5 sh (fun z c2 hz => ?_)))
  rcases hz with ⟨p, e, h1⟩ | ⟨p, e, e2⟩
  · exact sg_X11_end_8 (by omega) ⟨_, rfl, Or.inl ⟨p, e, h1⟩⟩
  · exact sg_X11_end_8 (by omega) ⟨_, rfl, Or.inr ⟨p, e, e2⟩⟩
theorem mt_end {E : Nat × (Nat → Int32)} {m a : Mem} {n : Int} (rn : RI n) (hm : HighEq a m) (w : WText a) : K_X12_end E [.ref 169, vi n] m (fun z m' => ((0 ≤ n ∧ n ≤ a 169 17) ∧ z = 1 ∧ PEq m' (textU m n (a 182)) ∧ LowEq m m') ∨ (¬ (0 ≤ n ∧ n ≤ a 169 17) ∧ z = 0 ∧ PEq m' m ∧ LowEq m m')) := by
  have w0 := w.1
  have w1 := w.2.1
  have e9 := hm 169 (by decide)
  have := rn.1; have := rn.2
  refine en_X12_end (sg_X12_end_0 rn (by rw [e9]; constructor <;> omega) ⟨by omega, by omega⟩ (by rw [e9]; constructor <;> omega) (fun p => ⟨_, rfl, Or.inl ⟨by rw [e9] at p; exact p, rfl, ?_, fun k hk => by rw [up2_k (by omega), up2_k (by omega)]⟩⟩) (fun p => ⟨_, rfl, Or.inr ⟨by rw [e9] at p; exact p, rfl, PEq.field npf0, fun k hk => up2_k (by omega)⟩⟩))
  exact PEq.text' (fun k _ h9 h8 => by rw [up2_k h9, up2_k h9]) (fun j hj h17 => by rw [up2_j h17, up2_j hj.not.1]) (up2_same _ _ _ _) (fun j j0 j1 => by rw [up2_k (by decide), up2_k (by decide), hm 182 (by decide)])
