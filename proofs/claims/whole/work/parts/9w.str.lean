/-! the JDK's string members over the texts -/
def sLen (i : Nat) : Nat := (strs.getD i []).length
def sAt (i k : Nat) : Int := (strs.getD i []).getD k 0
theorem sLen_le : ∀ i, i < 11 → 0 < sLen i ∧ sLen i ≤ 30 := by decide +kernel
theorem sAt_ok : ∀ i, i < 11 → ∀ k, k < sLen i → (0 ≤ sAt i k ∧ sAt i k < 128) ∧ iI (sAt i k) &&& iI 255 = iI (sAt i k) ∧ ((iI (sAt i k)).toUInt32 % 65536).toInt32 = iI (sAt i k) ∧ narrow .char (vi (sAt i k)) = vi (sAt i k) := by decide +kernel
theorem sLen_shr : ∀ i, i < 11 → iI (sLen i) >>> (iI 0 &&& 31) = iI (sLen i) := by decide +kernel
theorem G_compact {ρ : Rho} {E : Nat × (Nat → Int32)} {μ : Mu} {QQ : QF} {nw0 pc : Nat} {lv st : List Value} {nw k u : Nat} {mem : Mem} {idx : Nat} (hd : decode μ.cc pc = .ok (.getstatic idx, 3)) (hw : Cond.fieldLink μ.own idx "java/lang/String" "COMPACT_STRINGS" "Z" ∈ T0) (kk : G ρ E μ QQ nw0 (pc + 3) lv (vi 1 :: st) nw k u mem) : G ρ E μ QQ nw0 pc lv st nw k u mem := by
  intro p l e s m args below meth c D cA A0 A H locs ls C hA hP hD hS hl
  have hE1 := C.2.2.2.2.2.2.2.2.2.2.2.2.2.2.1
  exact va_gets C.1 C.2.1 hE1 hS C.2.2.2.1 (C.2.2.2.2.1 _ hw) (fun x h => h) hd (kk p l e s m args below meth c D cA A0 A H locs ls C hA hP hD hS hl)
theorem G_sioobe {ρ : Rho} {E : Nat × (Nat → Int32)} {μ : Mu} {QQ : QF} {nw0 pc : Nat} {lv st : List Value} {nw k u : Nat} {mem : Mem} {idx : Nat} (hd : decode μ.cc pc = .ok (.getstatic idx, 3)) (hw : Cond.fieldLink μ.own idx "jdk/internal/util/Preconditions" "SIOOBE_FORMATTER" "Ljava/util/function/BiFunction;" ∈ T0) (hn : nw ≤ 1000) (k1 : G ρ E μ QQ nw0 (pc + 3) lv (.null :: st) nw k u mem) (k2 : G ρ E μ QQ nw0 (pc + 3) lv (.ref 1003 :: st) nw k u mem) : G ρ E μ QQ nw0 pc lv st nw k u mem := by
  intro p l e s m args below meth c D cA A0 A H locs ls C hA hP hD hS hl
  rcases C.2.2.2.2.2.2.2.2.2.2.2.2.2.2.2.1 with hE1 | hE1
  · exact va_gets C.1 C.2.1 hE1 hS C.2.2.2.1 (C.2.2.2.2.1 _ hw) (fun x h => h) hd (k1 p l e s m args below meth c D cA A0 A H locs ls C hA hP hD hS hl)
  · rw [← hA.ro hn (by omega)] at hE1
    exact va_gets C.1 C.2.1 hE1 hS C.2.2.2.1 (C.2.2.2.2.1 _ hw) (fun x h => h) hd (k2 p l e s m args below meth c D cA A0 A H locs ls C hA hP hD hS hl)
theorem G_sCoder {ρ : Rho} {E : Nat × (Nat → Int32)} {μ : Mu} {QQ : QF} {nw0 pc : Nat} {lv st : List Value} {nw k u : Nat} {mem : Mem} {idx i : Nat} (hd : decode μ.cc pc = .ok (.getfield idx, 3)) (hw : Cond.fieldLink μ.own idx "java/lang/String" "coder" "B" ∈ T0) (hi : i < 11) (hn : nw ≤ 1000) (kk : G ρ E μ QQ nw0 (pc + 3) lv (vi 0 :: st) nw k u mem) : G ρ E μ QQ nw0 pc lv (.ref (1100 + i) :: st) nw k u mem := by
  intro p l e s m args below meth c D cA A0 A H locs ls C hA hP hD hS hl
  have hE1 := (C.2.2.2.2.2.2.2.2.2.2.2.2.2.2.2.2.1 i hi).2.1
  rw [← hA.ro hn (by omega)] at hE1
  exact vk_getf C.1 C.2.1 hE1 hS C.2.2.2.1 (C.2.2.2.2.1 _ hw) (fun x h => h) hd (kk p l e s m args below meth c D cA A0 A H locs ls C hA hP hD hS hl)
theorem G_sValue {ρ : Rho} {E : Nat × (Nat → Int32)} {μ : Mu} {QQ : QF} {nw0 pc : Nat} {lv st : List Value} {nw k u : Nat} {mem : Mem} {idx i : Nat} (hd : decode μ.cc pc = .ok (.getfield idx, 3)) (hw : Cond.fieldLink μ.own idx "java/lang/String" "value" "[B" ∈ T0) (hi : i < 11) (hn : nw ≤ 1000) (kk : G ρ E μ QQ nw0 (pc + 3) lv (.ref (1200 + i) :: st) nw k u mem) : G ρ E μ QQ nw0 pc lv (.ref (1100 + i) :: st) nw k u mem := by
  intro p l e s m args below meth c D cA A0 A H locs ls C hA hP hD hS hl
  have hE1 := (C.2.2.2.2.2.2.2.2.2.2.2.2.2.2.2.2.1 i hi).2.2.1
  rw [← hA.ro hn (show 1000 ≤ 1100 + i by omega), ← hA.ro hn (show 1000 ≤ 1200 + i by omega)] at hE1
  exact vk_getf C.1 C.2.1 hE1 hS C.2.2.2.1 (C.2.2.2.2.1 _ hw) (fun x h => h) hd (kk p l e s m args below meth c D cA A0 A H locs ls C hA hP hD hS hl)
theorem G_bslen {ρ : Rho} {E : Nat × (Nat → Int32)} {μ : Mu} {QQ : QF} {nw0 pc : Nat} {lv st : List Value} {nw k u : Nat} {mem : Mem} {i : Nat} (hd : decode μ.cc pc = .ok (.arraylength, 1)) (hi : i < 11) (hn : nw ≤ 1000) (kk : G ρ E μ QQ nw0 (pc + 1) lv (vi (sLen i) :: st) nw k u mem) : G ρ E μ QQ nw0 pc lv (.ref (1200 + i) :: st) nw k u mem := by
  intro p l e s m args below meth c D cA A0 A H locs ls C hA hP hD hS hl
  have hE1 := (C.2.2.2.2.2.2.2.2.2.2.2.2.2.2.2.2.1 i hi).2.2.2
  rw [← hA.ro hn (by omega)] at hE1
  exact va_tlen C.1 C.2.1 hE1 hS (show Int32.ofNat (sLen i) = iI (sLen i : Int) from rfl) hd (kk p l e s m args below meth c D cA A0 A H locs ls C hA hP hD hS hl)
theorem G_bsld {ρ : Rho} {E : Nat × (Nat → Int32)} {μ : Mu} {QQ : QF} {nw0 pc : Nat} {lv st : List Value} {nw k u : Nat} {mem : Mem} {i : Nat} {j : Int} (hd : decode μ.cc pc = .ok (.baload, 1)) (hi : i < 11) (hn : nw ≤ 1000) (h0 : 0 ≤ j) (h1 : j < sLen i) (kk : G ρ E μ QQ nw0 (pc + 1) lv (vi (sAt i j.toNat) :: st) nw k u mem) : G ρ E μ QQ nw0 pc lv (vi j :: .ref (1200 + i) :: st) nw k u mem := by
  intro p l e s m args below meth c D cA A0 A H locs ls C hA hP hD hS hl
  have hE1 := (C.2.2.2.2.2.2.2.2.2.2.2.2.2.2.2.2.1 i hi).2.2.2
  rw [← hA.ro hn (by omega)] at hE1
  have hl30 := (sLen_le i hi).2
  refine va_tb C.1 C.2.1 hE1 hS (iI_in h0 h1 (show sLen i < 2147483648 by omega)) rfl hd ?_
  rw [iI_clamp h0 (by omega)]
  exact kk p l e s m args below meth c D cA A0 A H locs ls C hA hP hD hS hl
theorem gs_J0_38 : Cond.fieldLink RJ0 38 "java/lang/String" "COMPACT_STRINGS" "Z" ∈ T0 := tw3 156 rfl (by decide +kernel)
theorem gs_J0_1053 : Cond.fieldLink RJ0 1053 "jdk/internal/util/Preconditions" "SIOOBE_FORMATTER" "Ljava/util/function/BiFunction;" ∈ T0 := tw3 197 rfl (by decide +kernel)
theorem gf_J0_9 : Cond.fieldLink RJ0 9 "java/lang/String" "value" "[B" ∈ T0 := tw9 83 rfl (by decide +kernel)
theorem gf_J0_15 : Cond.fieldLink RJ0 15 "java/lang/String" "coder" "B" ∈ T0 := tw9 84 rfl (by decide +kernel)
abbrev m_J0_coder (d : Nat) : Mu := (cJ0_coder_7d493, 1, RJ0, (some .byte), ⟨d, 0, 0, 40 * d⟩, "coder")
abbrev m_J0_isLatin1 (d : Nat) : Mu := (cJ0_isLatin1_aae02, 1, RJ0, (some .boolean), ⟨d, 0, 0, 40 * d⟩, "isLatin1")
abbrev m_J3_checkIndex (d : Nat) : Mu := (cJ3_checkIndex_8e157, 3, RJ3, (some .int), ⟨d, 0, 0, 40 * d⟩, "checkIndex")
abbrev m_J0_checkIndex (d : Nat) : Mu := (cJ0_checkIndex_df160, 2, RJ0, none, ⟨d, 0, 0, 40 * d⟩, "checkIndex")
abbrev m_J1_charAt (d : Nat) : Mu := (cJ1_charAt_3b067, 2, RJ1, (some .char), ⟨d, 0, 0, 40 * d⟩, "charAt")
abbrev m_J1_canEncode (d : Nat) : Mu := (cJ1_canEncode_9a6ad, 1, RJ1, (some .boolean), ⟨d, 0, 0, 40 * d⟩, "canEncode")
abbrev m_J1_indexOfChar (d : Nat) : Mu := (cJ1_indexOfChar_4cfef, 6, RJ1, (some .int), ⟨d, 0, 0, 40 * d⟩, "indexOfChar")
abbrev m_J1_indexOf (d : Nat) : Mu := (cJ1_indexOf_4cfef, 4, RJ1, (some .int), ⟨d, 0, 0, 40 * d⟩, "indexOf")
abbrev m_J0_indexOf2 (d : Nat) : Mu := (cJ0_indexOf_7cf53, 3, RJ0, (some .int), ⟨d, 0, 0, 40 * d⟩, "indexOf")
theorem js_coder {E : Nat × (Nat → Int32)} {mem : Mem} {i : Nat} (hi : i < 11) : CM E yJ0_coder_7d493 (m_J0_coder 0) [.ref (1100 + i)] mem (Pi fun z m' => z = 0 ∧ m' = mem) := by
  refine Ct_of (lv := [.ref (1100 + i)]) rfl rfl rfl (Nat.le_of_ble_eq_true rfl) rfl ?_
  refine G_compact dJ0_coder_7d493_0 gs_J0_38 ?_
  refine G_if_eq (tgt := 13) dJ0_coder_7d493_3 (by decide) (by decide) (fun c => absurd c (by decide)) (fun _ => ?_)
  refine G_aload_n dJ0_coder_7d493_6 rfl ?_
  refine G_sCoder dJ0_coder_7d493_7 gf_J0_15 hi (by decide) ?_
  refine G_goto (tgt := 14) dJ0_coder_7d493_10 (by decide) ?_
  exact G_zret dJ0_coder_7d493_14 rfl rfl (Nat.zero_le _) (Nat.zero_le _) (Nat.le_refl _) ⟨rfl, _, rfl, rfl, rfl⟩
theorem js_isLatin1 {E : Nat × (Nat → Int32)} {mem : Mem} {i : Nat} (hi : i < 11) : CM E yJ0_isLatin1_aae02 (m_J0_isLatin1 0) [.ref (1100 + i)] mem (Pi fun z m' => z = 1 ∧ m' = mem) := by
  refine Ct_of (lv := [.ref (1100 + i)]) rfl rfl rfl (Nat.le_of_ble_eq_true rfl) rfl ?_
  refine G_compact dJ0_isLatin1_aae02_0 gs_J0_38 ?_
  refine G_if_eq (tgt := 17) dJ0_isLatin1_aae02_3 (by decide) (by decide) (fun c => absurd c (by decide)) (fun _ => ?_)
  refine G_aload_n dJ0_isLatin1_aae02_6 rfl ?_
  refine G_sCoder dJ0_isLatin1_aae02_7 gf_J0_15 hi (by decide) ?_
  refine G_if_ne (tgt := 17) dJ0_isLatin1_aae02_10 (by decide) (by decide) (fun c => absurd rfl c) (fun _ => ?_)
  refine G_iconst (z := 1) dJ0_isLatin1_aae02_13 rfl ?_
  refine G_goto (tgt := 18) dJ0_isLatin1_aae02_14 (by decide) ?_
  exact G_zret dJ0_isLatin1_aae02_18 rfl (nar_zb (by decide)) (Nat.zero_le _) (Nat.zero_le _) (Nat.le_refl _) ⟨rfl, _, rfl, rfl, rfl⟩
theorem js_length {E : Nat × (Nat → Int32)} {mem : Mem} {i : Nat} (hi : i < 11) : K_J0_length_8abf5 E [.ref (1100 + i)] mem (fun z m' => z = sLen i ∧ m' = mem) := by
  refine Ct_of (lv := [.ref (1100 + i)]) rfl rfl rfl (Nat.le_of_ble_eq_true rfl) rfl ?_
  refine G_aload_n dJ0_length_8abf5_0 rfl ?_
  refine G_sValue dJ0_length_8abf5_1 gf_J0_9 hi (by decide) ?_
  refine G_bslen dJ0_length_8abf5_4 hi (by decide) ?_
  refine G_aload_n dJ0_length_8abf5_5 rfl ?_
  refine G_callTM (as := []) (js_coder hi) dJ0_length_8abf5_6 cv_J0_335 im_J0_coder_7d493 sl_J0_coder_7d493 hi rfl rfl ⟨by decide, by decide⟩ rfl rfl ⟨Nat.zero_le _, Nat.zero_le _⟩ (by exact Nat.le_of_ble_eq_true rfl) ⟨Nat.le_refl _, by decide⟩ rfl (fun r m2 h => ?_)
  obtain ⟨z, rfl, ez, em⟩ := h
  rw [ez, em]
  refine G_ishr (z := (sLen i : Int)) dJ0_length_8abf5_9 (sLen_shr i hi) ?_
  exact G_iret dJ0_length_8abf5_10 rfl (Nat.zero_le _) (Nat.zero_le _) (Nat.le_refl _) ⟨rfl, _, rfl, rfl, rfl⟩
theorem js_checkIndex3 {E : Nat × (Nat → Int32)} {mem : Mem} {v : Value} {j n : Int} (hv : v = .null ∨ v = .ref 1003) (h0 : 0 ≤ j) (h1 : j < n) (hn : n < 2147483648) : CM E yJ3_checkIndex_8e157 (m_J3_checkIndex 0) [vi j, vi n, v] mem (Pi fun z m' => z = j ∧ m' = mem) := by
  refine Ct_of (lv := [vi j, vi n, v]) rfl rfl rfl (by rcases hv with rfl | rfl <;> exact Nat.le_of_ble_eq_true rfl) (by rcases hv with rfl | rfl <;> rfl) ?_
  refine G_iload_n dJ3_checkIndex_8e157_0 rfl ?_
  refine G_if_lt (tgt := 9) dJ3_checkIndex_8e157_1 (by decide) ⟨by omega, by omega⟩ (fun c => by omega) (fun _ => ?_)
  refine G_iload_n dJ3_checkIndex_8e157_4 rfl ?_
  refine G_iload_n dJ3_checkIndex_8e157_5 rfl ?_
  refine G_icmp_lt (tgt := 16) dJ3_checkIndex_8e157_6 (by decide) ⟨by omega, by omega⟩ ⟨by omega, by omega⟩ (fun _ => ?_) (fun c => absurd h1 c)
  refine G_iload_n dJ3_checkIndex_8e157_16 rfl ?_
  exact G_iret dJ3_checkIndex_8e157_17 rfl (Nat.zero_le _) (Nat.zero_le _) (Nat.le_refl _) ⟨rfl, _, rfl, rfl, rfl⟩
theorem js_checkIndex {E : Nat × (Nat → Int32)} {mem : Mem} {j n : Int} (h0 : 0 ≤ j) (h1 : j < n) (hn : n < 2147483648) : CM E yJ0_checkIndex_df160 (m_J0_checkIndex 1) [vi j, vi n] mem (Pv fun m' => m' = mem) := by
  refine Ct_of (lv := [vi j, vi n]) rfl rfl rfl (Nat.le_of_ble_eq_true rfl) rfl ?_
  refine G_iload_n dJ0_checkIndex_df160_0 rfl ?_
  refine G_iload_n dJ0_checkIndex_df160_1 rfl ?_
  refine G_sioobe dJ0_checkIndex_df160_2 gs_J0_1053 (by decide) ?_ ?_
  · refine G_callSM (as := [vi j, vi n, .null]) (js_checkIndex3 (Or.inl rfl) h0 h1 hn) dJ0_checkIndex_df160_5 cv_J0_1059 st_J3_checkIndex_8e157 rfl ⟨by decide, by decide⟩ rfl rfl ⟨Nat.zero_le _, Nat.zero_le _⟩ (by exact Nat.le_of_ble_eq_true rfl) ⟨Nat.le_refl _, by decide⟩ rfl (fun r m2 h => ?_)
    obtain ⟨z, rfl, ez, em⟩ := h
    rw [em]
    refine G_pop dJ0_checkIndex_df160_8 rfl ?_
    exact G_vret dJ0_checkIndex_df160_9 rfl (Nat.zero_le _) (Nat.zero_le _) (Nat.le_refl _) ⟨rfl, rfl, rfl⟩
  · refine G_callSM (as := [vi j, vi n, .ref 1003]) (js_checkIndex3 (Or.inr rfl) h0 h1 hn) dJ0_checkIndex_df160_5 cv_J0_1059 st_J3_checkIndex_8e157 rfl ⟨by decide, by decide⟩ rfl rfl ⟨Nat.zero_le _, Nat.zero_le _⟩ (by exact Nat.le_of_ble_eq_true rfl) ⟨Nat.le_refl _, by decide⟩ rfl (fun r m2 h => ?_)
    obtain ⟨z, rfl, ez, em⟩ := h
    rw [em]
    refine G_pop dJ0_checkIndex_df160_8 rfl ?_
    exact G_vret dJ0_checkIndex_df160_9 rfl (Nat.zero_le _) (Nat.zero_le _) (Nat.le_refl _) ⟨rfl, rfl, rfl⟩
theorem js_charAt1 {E : Nat × (Nat → Int32)} {mem : Mem} {i : Nat} {j : Int} (hi : i < 11) (h0 : 0 ≤ j) (h1 : j < sLen i) : CM E yJ1_charAt_3b067 (m_J1_charAt 2) [.ref (1200 + i), vi j] mem (Pi fun z m' => z = sAt i j.toNat ∧ m' = mem) := by
  have ok := sAt_ok i hi j.toNat (by omega)
  have l30 := (sLen_le i hi).2
  refine Ct_of (lv := [.ref (1200 + i), vi j]) rfl rfl rfl (Nat.le_of_ble_eq_true rfl) rfl ?_
  refine G_iload_n dJ1_charAt_3b067_0 rfl ?_
  refine G_aload_n dJ1_charAt_3b067_1 rfl ?_
  refine G_bslen dJ1_charAt_3b067_2 hi (by decide) ?_
  refine G_callSM (as := [vi j, vi (sLen i)]) (js_checkIndex h0 h1 (by omega)) dJ1_charAt_3b067_3 cv_J1_9 st_J0_checkIndex_df160 rfl ⟨by decide, by decide⟩ rfl rfl ⟨Nat.zero_le _, Nat.zero_le _⟩ (by exact Nat.le_of_ble_eq_true rfl) ⟨Nat.le_refl _, by decide⟩ rfl (fun r m2 h => ?_)
  obtain ⟨rfl, em⟩ := h
  rw [em]
  refine G_aload_n dJ1_charAt_3b067_6 rfl ?_
  refine G_iload_n dJ1_charAt_3b067_7 rfl ?_
  refine G_bsld dJ1_charAt_3b067_8 hi (by decide) h0 h1 ?_
  refine G_sipush (z := 255) dJ1_charAt_3b067_9 rfl ?_
  refine G_iand (z := sAt i j.toNat) dJ1_charAt_3b067_12 ok.2.1 ?_
  refine G_i2c (z := sAt i j.toNat) dJ1_charAt_3b067_13 ok.2.2.1 ?_
  exact G_zret dJ1_charAt_3b067_14 rfl ok.2.2.2 (Nat.zero_le _) (Nat.zero_le _) (Nat.le_refl _) ⟨rfl, _, rfl, rfl, rfl⟩
theorem js_charAt {E : Nat × (Nat → Int32)} {mem : Mem} {i : Nat} {j : Int} (hi : i < 11) (h0 : 0 ≤ j) (h1 : j < sLen i) : K_J0_charAt_5068e E [.ref (1100 + i), vi j] mem (fun z m' => z = sAt i j.toNat ∧ m' = mem) := by
  have ok := sAt_ok i hi j.toNat (by omega)
  refine Ct_of (lv := [.ref (1100 + i), vi j]) rfl rfl rfl (Nat.le_of_ble_eq_true rfl) rfl ?_
  refine G_aload_n dJ0_charAt_5068e_0 rfl ?_
  refine G_callTM (as := []) (js_isLatin1 hi) dJ0_charAt_5068e_1 cv_J0_492 im_J0_isLatin1_aae02 sl_J0_isLatin1_aae02 hi rfl rfl ⟨by decide, by decide⟩ rfl rfl ⟨Nat.zero_le _, Nat.zero_le _⟩ (by exact Nat.le_of_ble_eq_true rfl) ⟨Nat.le_refl _, by decide⟩ rfl (fun r m2 h => ?_)
  obtain ⟨z, rfl, ez, em⟩ := h
  rw [ez, em]
  refine G_if_eq (tgt := 16) dJ0_charAt_5068e_4 (by decide) (by decide) (fun c => absurd c (by decide)) (fun _ => ?_)
  refine G_aload_n dJ0_charAt_5068e_7 rfl ?_
  refine G_sValue dJ0_charAt_5068e_8 gf_J0_9 hi (by decide) ?_
  refine G_iload_n dJ0_charAt_5068e_11 rfl ?_
  refine G_callSM (as := [.ref (1200 + i), vi j]) (js_charAt1 hi h0 h1) dJ0_charAt_5068e_12 cv_J0_495 st_J1_charAt_3b067 rfl ⟨by decide, by decide⟩ rfl rfl ⟨Nat.zero_le _, Nat.zero_le _⟩ (by exact Nat.le_of_ble_eq_true rfl) ⟨Nat.le_refl _, by decide⟩ rfl (fun r m2 h => ?_)
  obtain ⟨z, rfl, ez, em⟩ := h
  rw [ez, em]
  exact G_zret dJ0_charAt_5068e_15 rfl ok.2.2.2 (Nat.zero_le _) (Nat.zero_le _) (Nat.le_refl _) ⟨rfl, _, rfl, rfl, rfl⟩
/-- the place of a sign in a text -/
def sIx (i : Nat) (c z : Int) : Prop := (∃ q : Nat, z = q ∧ q < sLen i ∧ sAt i q = c ∧ ∀ j : Nat, j < q → sAt i j ≠ c) ∨ (z = -1 ∧ ∀ j : Nat, j < sLen i → sAt i j ≠ c)
theorem js_canEncode {E : Nat × (Nat → Int32)} {mem : Mem} {c : Int} (rc : RI c) : CM E yJ1_canEncode_9a6ad (m_J1_canEncode 0) [vi c] mem (Pi fun z m' => ((z = 1 ∧ 0 ≤ c ∧ c ≤ 255) ∨ (z = 0 ∧ ¬ (0 ≤ c ∧ c ≤ 255))) ∧ m' = mem) := by
  have h1 := rc.1
  have h2 := rc.2
  refine Ct_of (lv := [vi c]) rfl rfl rfl (Nat.le_of_ble_eq_true rfl) rfl ?_
  refine G_iload_n dJ1_canEncode_9a6ad_0 rfl ?_
  have no : ¬ (0 ≤ c ∧ c ≤ 255) → GM E (m_J1_canEncode 0) (Pi fun z m' => ((z = 1 ∧ 0 ≤ c ∧ c ≤ 255) ∨ (z = 0 ∧ ¬ (0 ≤ c ∧ c ≤ 255))) ∧ m' = mem) 15 [vi c] [] mem := fun g => by
    refine G_iconst (z := 0) dJ1_canEncode_9a6ad_15 rfl ?_
    exact G_zret dJ1_canEncode_9a6ad_16 rfl (nar_zb (by decide)) (Nat.zero_le _) (Nat.zero_le _) (Nat.le_refl _) ⟨rfl, _, rfl, Or.inr ⟨rfl, g⟩, rfl⟩
  refine G_if_lt (tgt := 15) dJ1_canEncode_9a6ad_1 (by decide) ⟨by omega, by omega⟩ (fun g => no (by omega)) (fun g => ?_)
  refine G_iload_n dJ1_canEncode_9a6ad_4 rfl ?_
  refine G_sipush (z := 255) dJ1_canEncode_9a6ad_5 rfl ?_
  refine G_icmp_gt (tgt := 15) dJ1_canEncode_9a6ad_8 (by decide) ⟨by omega, by omega⟩ (by decide) (fun g2 => no (by omega)) (fun g2 => ?_)
  refine G_iconst (z := 1) dJ1_canEncode_9a6ad_11 rfl ?_
  refine G_goto (tgt := 16) dJ1_canEncode_9a6ad_12 (by decide) ?_
  exact G_zret dJ1_canEncode_9a6ad_16 rfl (nar_zb (by decide)) (Nat.zero_le _) (Nat.zero_le _) (Nat.le_refl _) ⟨rfl, _, rfl, Or.inl ⟨rfl, by omega, by omega⟩, rfl⟩
theorem i2b_ok : ∀ c : Nat, c < 256 → (iI (c : Int)).toInt8.toInt32 = iI (if c < 128 then (c : Int) else (c : Int) - 256) := by decide +kernel
theorem js_indexOfChar {E : Nat × (Nat → Int32)} {mem : Mem} {i : Nat} {c : Int} (hi : i < 11) (c0 : 0 ≤ c) (c1 : c < 256) : CM E yJ1_indexOfChar_4cfef (m_J1_indexOfChar 0) [.ref (1200 + i), vi c, vi 0, vi (sLen i)] mem (Pi fun z m' => sIx i c z ∧ m' = mem) := by
  have l30 := (sLen_le i hi).2
  refine Ct_of (lv := [.ref (1200 + i), vi c, vi 0, vi (sLen i), un, un]) rfl rfl rfl (Nat.le_of_ble_eq_true rfl) rfl ?_
  have eb : (iI c).toInt8.toInt32 = iI (if c < 128 then c else c - 256) := by
    have := i2b_ok c.toNat (by omega)
    rw [Int.toNat_of_nonneg c0] at this
    rw [this]
    by_cases g : c < 128
    · rw [if_pos g, if_pos (by omega)]
    · rw [if_neg g, if_neg (by omega)]
  refine G_iload_n dJ1_indexOfChar_4cfef_0 rfl ?_
  refine G_i2b (z := if c < 128 then c else c - 256) dJ1_indexOfChar_4cfef_1 eb ?_
  refine G_istore dJ1_indexOfChar_4cfef_2 (by decide : 4 < 6) rfl ?_
  refine G_iload_n dJ1_indexOfChar_4cfef_4 rfl ?_
  refine G_istore dJ1_indexOfChar_4cfef_5 (by decide : 5 < 6) rfl ?_
  have key : ∀ (d p : Nat), p + d = sLen i → (∀ j : Nat, j < p → sAt i j ≠ c) → GM E (m_J1_indexOfChar 0) (Pi fun z m' => sIx i c z ∧ m' = mem) 7 [.ref (1200 + i), vi c, vi 0, vi (sLen i), vi (if c < 128 then c else c - 256), vi (p : Int)] [] mem := by
    intro d
    induction d with
    | zero =>
      intro p hp hj
      refine G_iload dJ1_indexOfChar_4cfef_7 rfl ?_
      refine G_iload_n dJ1_indexOfChar_4cfef_9 rfl ?_
      refine G_icmp_ge (tgt := 31) dJ1_indexOfChar_4cfef_10 (by decide) ⟨by omega, by omega⟩ ⟨by omega, by omega⟩ (fun _ => ?_) (fun g => by omega)
      refine G_iconst (z := -1) dJ1_indexOfChar_4cfef_31 rfl ?_
      exact G_iret dJ1_indexOfChar_4cfef_32 rfl (Nat.zero_le _) (Nat.zero_le _) (Nat.le_refl _) ⟨rfl, _, rfl, Or.inr ⟨rfl, fun j h => hj j (by omega)⟩, rfl⟩
    | succ d ih =>
      intro p hp hj
      have ok := sAt_ok i hi p (by omega)
      refine G_iload dJ1_indexOfChar_4cfef_7 rfl ?_
      refine G_iload_n dJ1_indexOfChar_4cfef_9 rfl ?_
      refine G_icmp_ge (tgt := 31) dJ1_indexOfChar_4cfef_10 (by decide) ⟨by omega, by omega⟩ ⟨by omega, by omega⟩ (fun g => by omega) (fun _ => ?_)
      refine G_aload_n dJ1_indexOfChar_4cfef_13 rfl ?_
      refine G_iload dJ1_indexOfChar_4cfef_14 rfl ?_
      refine G_bsld dJ1_indexOfChar_4cfef_16 hi (by decide) (by omega) (by omega) ?_
      rw [show ((p : Int)).toNat = p by omega]
      refine G_iload dJ1_indexOfChar_4cfef_17 rfl ?_
      have rz : -2147483648 ≤ (if c < 128 then c else c - 256) ∧ (if c < 128 then c else c - 256) < 2147483648 := by split <;> omega
      refine G_icmp_ne (tgt := 25) dJ1_indexOfChar_4cfef_19 (by decide) ⟨by omega, by omega⟩ rz (fun g => ?_) (fun g => ?_)
      · refine G_iinc (z := ((p : Int) + 1)) dJ1_indexOfChar_4cfef_25 rfl rfl (by decide : 5 < 6) rfl ?_
        refine G_goto (tgt := 7) dJ1_indexOfChar_4cfef_28 (by decide) ?_
        have := ih (p + 1) (by omega) (fun j h => by
          by_cases e : j = p
          · subst e
            intro e2
            apply g
            rw [if_pos (by omega)]
            exact e2
          · exact hj j (by omega))
        rw [show ((p + 1 : Nat) : Int) = (p : Int) + 1 by omega] at this
        exact this
      · refine G_iload dJ1_indexOfChar_4cfef_22 rfl ?_
        refine G_iret dJ1_indexOfChar_4cfef_24 rfl (Nat.zero_le _) (Nat.zero_le _) (Nat.le_refl _) ⟨rfl, _, rfl, Or.inl ⟨p, rfl, by omega, ?_, hj⟩, rfl⟩
        have b := ok.1
        by_cases e : c < 128
        · rw [if_pos e] at g; exact g
        · rw [if_neg e] at g; omega
  exact key (sLen i) 0 (by omega) (fun j h => by omega)
theorem js_indexOf1 {E : Nat × (Nat → Int32)} {mem : Mem} {i : Nat} {c : Int} (hi : i < 11) (rc : RI c) : CM E yJ1_indexOf_4cfef (m_J1_indexOf 1) [.ref (1200 + i), vi c, vi 0, vi (sLen i)] mem (Pi fun z m' => sIx i c z ∧ m' = mem) := by
  have l30 := sLen_le i hi
  refine Ct_of (lv := [.ref (1200 + i), vi c, vi 0, vi (sLen i)]) rfl rfl rfl (Nat.le_of_ble_eq_true rfl) rfl ?_
  refine G_iload_n dJ1_indexOf_4cfef_0 rfl ?_
  refine G_callSM (as := [vi c]) (js_canEncode rc) dJ1_indexOf_4cfef_1 cv_J1_88 st_J1_canEncode_9a6ad rfl ⟨by decide, by decide⟩ rfl rfl ⟨Nat.zero_le _, Nat.zero_le _⟩ (by exact Nat.le_of_ble_eq_true rfl) ⟨Nat.le_refl _, by decide⟩ rfl (fun r m2 h => ?_)
  obtain ⟨z, rfl, ez, em⟩ := h
  rw [em]
  rcases ez with ⟨ez, g⟩ | ⟨ez, g⟩
  · rw [ez]
    refine G_if_ne (tgt := 9) dJ1_indexOf_4cfef_4 (by decide) (by decide) (fun _ => ?_) (fun c => absurd c (by decide))
    refine G_iload_n dJ1_indexOf_4cfef_9 rfl ?_
    refine G_iconst (z := 0) dJ1_indexOf_4cfef_10 rfl ?_
    refine G_max (z := 0) dJ1_indexOf_4cfef_11 ml_J1_92 mw_max (by decide) (by decide) ⟨by show 1 ≤ 1; decide, by show 21 ≤ 40 * 1; decide, Nat.zero_le _, Nat.zero_le _⟩ (Nat.le_of_ble_eq_true rfl) (by decide) ?_
    refine G_istore_n dJ1_indexOf_4cfef_14 rfl (by decide : 2 < 4) rfl ?_
    refine G_iload_n dJ1_indexOf_4cfef_15 rfl ?_
    refine G_aload_n dJ1_indexOf_4cfef_16 rfl ?_
    refine G_bslen dJ1_indexOf_4cfef_17 hi (by decide) ?_
    refine G_min (z := (sLen i : Int)) dJ1_indexOf_4cfef_18 ml_J1_38 mw_min ⟨by omega, by omega⟩ ⟨by omega, by omega⟩ ⟨by show 1 ≤ 1; decide, by show 21 ≤ 40 * 1; decide, Nat.zero_le _, Nat.zero_le _⟩ (Nat.le_of_ble_eq_true rfl) (by omega) ?_
    refine G_istore_n dJ1_indexOf_4cfef_21 rfl (by decide : 3 < 4) rfl ?_
    refine G_iload_n dJ1_indexOf_4cfef_22 rfl ?_
    refine G_iload_n dJ1_indexOf_4cfef_23 rfl ?_
    refine G_icmp_lt (tgt := 29) dJ1_indexOf_4cfef_24 (by decide) (by decide) ⟨by omega, by omega⟩ (fun _ => ?_) (fun c => by omega)
    refine G_aload_n dJ1_indexOf_4cfef_29 rfl ?_
    refine G_iload_n dJ1_indexOf_4cfef_30 rfl ?_
    refine G_iload_n dJ1_indexOf_4cfef_31 rfl ?_
    refine G_iload_n dJ1_indexOf_4cfef_32 rfl ?_
    refine G_callSM (as := [.ref (1200 + i), vi c, vi 0, vi (sLen i)]) (js_indexOfChar hi g.1 (by omega)) dJ1_indexOf_4cfef_33 cv_J1_95 st_J1_indexOfChar_4cfef rfl ⟨by decide, by decide⟩ rfl rfl ⟨Nat.zero_le _, Nat.zero_le _⟩ (by exact Nat.le_of_ble_eq_true rfl) ⟨Nat.le_refl _, by decide⟩ rfl (fun r m2 h => ?_)
    obtain ⟨z, rfl, ez, em⟩ := h
    rw [em]
    exact G_iret dJ1_indexOf_4cfef_36 rfl (Nat.zero_le _) (Nat.zero_le _) (Nat.le_refl _) ⟨rfl, _, rfl, ez, rfl⟩
  · rw [ez]
    refine G_if_ne (tgt := 9) dJ1_indexOf_4cfef_4 (by decide) (by decide) (fun c => absurd rfl c) (fun _ => ?_)
    refine G_iconst (z := -1) dJ1_indexOf_4cfef_7 rfl ?_
    refine G_iret dJ1_indexOf_4cfef_8 rfl (Nat.zero_le _) (Nat.zero_le _) (Nat.le_refl _) ⟨rfl, _, rfl, Or.inr ⟨rfl, fun j h e => ?_⟩, rfl⟩
    have := (sAt_ok i hi j h).1
    omega
theorem js_indexOf2 {E : Nat × (Nat → Int32)} {mem : Mem} {i : Nat} {c : Int} (hi : i < 11) (rc : RI c) : CM E yJ0_indexOf_7cf53 (m_J0_indexOf2 2) [.ref (1100 + i), vi c, vi 0] mem (Pi fun z m' => sIx i c z ∧ m' = mem) := by
  refine Ct_of (lv := [.ref (1100 + i), vi c, vi 0]) rfl rfl rfl (Nat.le_of_ble_eq_true rfl) rfl ?_
  refine G_aload_n dJ0_indexOf_7cf53_0 rfl ?_
  refine G_callTM (as := []) (js_isLatin1 hi) dJ0_indexOf_7cf53_1 cv_J0_492 im_J0_isLatin1_aae02 sl_J0_isLatin1_aae02 hi rfl rfl ⟨by decide, by decide⟩ rfl rfl ⟨Nat.zero_le _, Nat.zero_le _⟩ (by exact Nat.le_of_ble_eq_true rfl) ⟨Nat.le_refl _, by decide⟩ rfl (fun r m2 h => ?_)
  obtain ⟨z, rfl, ez, em⟩ := h
  rw [ez, em]
  refine G_if_eq (tgt := 23) dJ0_indexOf_7cf53_4 (by decide) (by decide) (fun c => absurd c (by decide)) (fun _ => ?_)
  refine G_aload_n dJ0_indexOf_7cf53_7 rfl ?_
  refine G_sValue dJ0_indexOf_7cf53_8 gf_J0_9 hi (by decide) ?_
  refine G_iload_n dJ0_indexOf_7cf53_11 rfl ?_
  refine G_iload_n dJ0_indexOf_7cf53_12 rfl ?_
  refine G_aload_n dJ0_indexOf_7cf53_13 rfl ?_
  refine G_callTM (as := []) (js_length hi) dJ0_indexOf_7cf53_14 cv_J0_505 im_J0_length_8abf5 sl_J0_length_8abf5 hi rfl rfl ⟨by decide, by decide⟩ rfl rfl ⟨Nat.zero_le _, Nat.zero_le _⟩ (by exact Nat.le_of_ble_eq_true rfl) ⟨Nat.le_refl _, by decide⟩ rfl (fun r m2 h => ?_)
  obtain ⟨z, rfl, ez, em⟩ := h
  rw [ez, em]
  refine G_callSM (as := [.ref (1200 + i), vi c, vi 0, vi (sLen i)]) (js_indexOf1 hi rc) dJ0_indexOf_7cf53_17 cv_J0_637 st_J1_indexOf_4cfef rfl ⟨by decide, by decide⟩ rfl rfl ⟨Nat.zero_le _, Nat.zero_le _⟩ (by exact Nat.le_of_ble_eq_true rfl) ⟨Nat.le_refl _, by decide⟩ rfl (fun r m2 h => ?_)
  obtain ⟨z, rfl, ez, em⟩ := h
  rw [em]
  refine G_goto (tgt := 36) dJ0_indexOf_7cf53_20 (by decide) ?_
  exact G_iret dJ0_indexOf_7cf53_36 rfl (Nat.zero_le _) (Nat.zero_le _) (Nat.le_refl _) ⟨rfl, _, rfl, ez, rfl⟩
theorem js_indexOf {E : Nat × (Nat → Int32)} {mem : Mem} {i : Nat} {c : Int} (hi : i < 11) (rc : RI c) : K_J0_indexOf_0f7a4 E [.ref (1100 + i), vi c] mem (fun z m' => sIx i c z ∧ m' = mem) := by
  refine Ct_of (lv := [.ref (1100 + i), vi c]) rfl rfl rfl (Nat.le_of_ble_eq_true rfl) rfl ?_
  refine G_aload_n dJ0_indexOf_0f7a4_0 rfl ?_
  refine G_iload_n dJ0_indexOf_0f7a4_1 rfl ?_
  refine G_iconst (z := 0) dJ0_indexOf_0f7a4_2 rfl ?_
  refine G_callTM (as := [vi c, vi 0]) (js_indexOf2 hi rc) dJ0_indexOf_0f7a4_3 cv_J0_633 im_J0_indexOf_7cf53 sl_J0_indexOf_7cf53 hi rfl rfl ⟨by decide, by decide⟩ rfl rfl ⟨Nat.zero_le _, Nat.zero_le _⟩ (by exact Nat.le_of_ble_eq_true rfl) ⟨Nat.le_refl _, by decide⟩ rfl (fun r m2 h => ?_)
  obtain ⟨z, rfl, ez, em⟩ := h
  rw [em]
  exact G_iret dJ0_indexOf_0f7a4_6 rfl (Nat.zero_le _) (Nat.zero_le _) (Nat.le_refl _) ⟨rfl, _, rfl, ez, rfl⟩
