set_option maxRecDepth 20000 in
set_option maxHeartbeats 8000000 in
theorem sg_J6_bitCount_0f7a4_0 {E : Nat × (Nat → Int32)} {P : Option Value → Mem → Prop} {mem : Mem} {a0 : Int}
    (k1 : P (some (vi (bandI (((bandI (((bandI (a0 - (bandI (ushrI a0 1) 1431655765)) 858993459) + (bandI (ushrI (a0 - (bandI (ushrI a0 1) 1431655765)) 2) 858993459)) + (ushrI ((bandI (a0 - (bandI (ushrI a0 1) 1431655765)) 858993459) + (bandI (ushrI (a0 - (bandI (ushrI a0 1) 1431655765)) 2) 858993459)) 4)) 252645135) + (ushrI (bandI (((bandI (a0 - (bandI (ushrI a0 1) 1431655765)) 858993459) + (bandI (ushrI (a0 - (bandI (ushrI a0 1) 1431655765)) 2) 858993459)) + (ushrI ((bandI (a0 - (bandI (ushrI a0 1) 1431655765)) 858993459) + (bandI (ushrI (a0 - (bandI (ushrI a0 1) 1431655765)) 2) 858993459)) 4)) 252645135) 8)) + (ushrI ((bandI (((bandI (a0 - (bandI (ushrI a0 1) 1431655765)) 858993459) + (bandI (ushrI (a0 - (bandI (ushrI a0 1) 1431655765)) 2) 858993459)) + (ushrI ((bandI (a0 - (bandI (ushrI a0 1) 1431655765)) 858993459) + (bandI (ushrI (a0 - (bandI (ushrI a0 1) 1431655765)) 2) 858993459)) 4)) 252645135) + (ushrI (bandI (((bandI (a0 - (bandI (ushrI a0 1) 1431655765)) 858993459) + (bandI (ushrI (a0 - (bandI (ushrI a0 1) 1431655765)) 2) 858993459)) + (ushrI ((bandI (a0 - (bandI (ushrI a0 1) 1431655765)) 858993459) + (bandI (ushrI (a0 - (bandI (ushrI a0 1) 1431655765)) 2) 858993459)) 4)) 252645135) 8)) 16)) 63))) mem) :
    GM E (m_J6_bitCount_0f7a4 0) P 0 [vi a0] [] mem := by
  refine G_iload_n dJ6_bitCount_0f7a4_0 rfl ?_
  refine G_iload_n dJ6_bitCount_0f7a4_1 rfl ?_
  refine G_iconst (z := 1) dJ6_bitCount_0f7a4_2 rfl ?_
  refine G_iushr (z := (ushrI a0 1)) dJ6_bitCount_0f7a4_3 (iI_inv _) ?_
  refine G_ldcw (z := 1431655765) dJ6_bitCount_0f7a4_4 kc_J6_265 ?_
  refine G_iand (z := (bandI (ushrI a0 1) 1431655765)) dJ6_bitCount_0f7a4_7 (iI_inv _) ?_
  refine G_isub dJ6_bitCount_0f7a4_8 ?_
  refine G_istore_n dJ6_bitCount_0f7a4_9 rfl (by decide : 0 < 1) rfl ?_
  refine G_iload_n dJ6_bitCount_0f7a4_10 rfl ?_
  refine G_ldcw (z := 858993459) dJ6_bitCount_0f7a4_11 kc_J6_266 ?_
  refine G_iand (z := (bandI (a0 - (bandI (ushrI a0 1) 1431655765)) 858993459)) dJ6_bitCount_0f7a4_14 (iI_inv _) ?_
  refine G_iload_n dJ6_bitCount_0f7a4_15 rfl ?_
  refine G_iconst (z := 2) dJ6_bitCount_0f7a4_16 rfl ?_
  refine G_iushr (z := (ushrI (a0 - (bandI (ushrI a0 1) 1431655765)) 2)) dJ6_bitCount_0f7a4_17 (iI_inv _) ?_
  refine G_ldcw (z := 858993459) dJ6_bitCount_0f7a4_18 kc_J6_266 ?_
  refine G_iand (z := (bandI (ushrI (a0 - (bandI (ushrI a0 1) 1431655765)) 2) 858993459)) dJ6_bitCount_0f7a4_21 (iI_inv _) ?_
  refine G_iadd dJ6_bitCount_0f7a4_22 ?_
  refine G_istore_n dJ6_bitCount_0f7a4_23 rfl (by decide : 0 < 1) rfl ?_
  refine G_iload_n dJ6_bitCount_0f7a4_24 rfl ?_
  refine G_iload_n dJ6_bitCount_0f7a4_25 rfl ?_
  refine G_iconst (z := 4) dJ6_bitCount_0f7a4_26 rfl ?_
  refine G_iushr (z := (ushrI ((bandI (a0 - (bandI (ushrI a0 1) 1431655765)) 858993459) + (bandI (ushrI (a0 - (bandI (ushrI a0 1) 1431655765)) 2) 858993459)) 4)) dJ6_bitCount_0f7a4_27 (iI_inv _) ?_
  refine G_iadd dJ6_bitCount_0f7a4_28 ?_
  refine G_ldcw (z := 252645135) dJ6_bitCount_0f7a4_29 kc_J6_267 ?_
  refine G_iand (z := (bandI (((bandI (a0 - (bandI (ushrI a0 1) 1431655765)) 858993459) + (bandI (ushrI (a0 - (bandI (ushrI a0 1) 1431655765)) 2) 858993459)) + (ushrI ((bandI (a0 - (bandI (ushrI a0 1) 1431655765)) 858993459) + (bandI (ushrI (a0 - (bandI (ushrI a0 1) 1431655765)) 2) 858993459)) 4)) 252645135)) dJ6_bitCount_0f7a4_32 (iI_inv _) ?_
  refine G_istore_n dJ6_bitCount_0f7a4_33 rfl (by decide : 0 < 1) rfl ?_
  refine G_iload_n dJ6_bitCount_0f7a4_34 rfl ?_
  refine G_iload_n dJ6_bitCount_0f7a4_35 rfl ?_
  refine G_bipush (z := 8) dJ6_bitCount_0f7a4_36 rfl ?_
  refine G_iushr (z := (ushrI (bandI (((bandI (a0 - (bandI (ushrI a0 1) 1431655765)) 858993459) + (bandI (ushrI (a0 - (bandI (ushrI a0 1) 1431655765)) 2) 858993459)) + (ushrI ((bandI (a0 - (bandI (ushrI a0 1) 1431655765)) 858993459) + (bandI (ushrI (a0 - (bandI (ushrI a0 1) 1431655765)) 2) 858993459)) 4)) 252645135) 8)) dJ6_bitCount_0f7a4_38 (iI_inv _) ?_
  refine G_iadd dJ6_bitCount_0f7a4_39 ?_
  refine G_istore_n dJ6_bitCount_0f7a4_40 rfl (by decide : 0 < 1) rfl ?_
  refine G_iload_n dJ6_bitCount_0f7a4_41 rfl ?_
  refine G_iload_n dJ6_bitCount_0f7a4_42 rfl ?_
  refine G_bipush (z := 16) dJ6_bitCount_0f7a4_43 rfl ?_
  refine G_iushr (z := (ushrI ((bandI (((bandI (a0 - (bandI (ushrI a0 1) 1431655765)) 858993459) + (bandI (ushrI (a0 - (bandI (ushrI a0 1) 1431655765)) 2) 858993459)) + (ushrI ((bandI (a0 - (bandI (ushrI a0 1) 1431655765)) 858993459) + (bandI (ushrI (a0 - (bandI (ushrI a0 1) 1431655765)) 2) 858993459)) 4)) 252645135) + (ushrI (bandI (((bandI (a0 - (bandI (ushrI a0 1) 1431655765)) 858993459) + (bandI (ushrI (a0 - (bandI (ushrI a0 1) 1431655765)) 2) 858993459)) + (ushrI ((bandI (a0 - (bandI (ushrI a0 1) 1431655765)) 858993459) + (bandI (ushrI (a0 - (bandI (ushrI a0 1) 1431655765)) 2) 858993459)) 4)) 252645135) 8)) 16)) dJ6_bitCount_0f7a4_45 (iI_inv _) ?_
  refine G_iadd dJ6_bitCount_0f7a4_46 ?_
  refine G_istore_n dJ6_bitCount_0f7a4_47 rfl (by decide : 0 < 1) rfl ?_
  refine G_iload_n dJ6_bitCount_0f7a4_48 rfl ?_
  refine G_bipush (z := 63) dJ6_bitCount_0f7a4_49 rfl ?_
  refine G_iand (z := (bandI (((bandI (((bandI (a0 - (bandI (ushrI a0 1) 1431655765)) 858993459) + (bandI (ushrI (a0 - (bandI (ushrI a0 1) 1431655765)) 2) 858993459)) + (ushrI ((bandI (a0 - (bandI (ushrI a0 1) 1431655765)) 858993459) + (bandI (ushrI (a0 - (bandI (ushrI a0 1) 1431655765)) 2) 858993459)) 4)) 252645135) + (ushrI (bandI (((bandI (a0 - (bandI (ushrI a0 1) 1431655765)) 858993459) + (bandI (ushrI (a0 - (bandI (ushrI a0 1) 1431655765)) 2) 858993459)) + (ushrI ((bandI (a0 - (bandI (ushrI a0 1) 1431655765)) 858993459) + (bandI (ushrI (a0 - (bandI (ushrI a0 1) 1431655765)) 2) 858993459)) 4)) 252645135) 8)) + (ushrI ((bandI (((bandI (a0 - (bandI (ushrI a0 1) 1431655765)) 858993459) + (bandI (ushrI (a0 - (bandI (ushrI a0 1) 1431655765)) 2) 858993459)) + (ushrI ((bandI (a0 - (bandI (ushrI a0 1) 1431655765)) 858993459) + (bandI (ushrI (a0 - (bandI (ushrI a0 1) 1431655765)) 2) 858993459)) 4)) 252645135) + (ushrI (bandI (((bandI (a0 - (bandI (ushrI a0 1) 1431655765)) 858993459) + (bandI (ushrI (a0 - (bandI (ushrI a0 1) 1431655765)) 2) 858993459)) + (ushrI ((bandI (a0 - (bandI (ushrI a0 1) 1431655765)) 858993459) + (bandI (ushrI (a0 - (bandI (ushrI a0 1) 1431655765)) 2) 858993459)) 4)) 252645135) 8)) 16)) 63)) dJ6_bitCount_0f7a4_51 (iI_inv _) ?_
  exact G_iret dJ6_bitCount_0f7a4_52 rfl (Nat.zero_le _) (Nat.zero_le _) (Nat.le_refl _) ⟨rfl, k1⟩
set_option maxRecDepth 20000 in
set_option maxHeartbeats 8000000 in
theorem sg_J7_fill_53178_0 {E : Nat × (Nat → Int32)} {P : Option Value → Mem → Prop} {mem : Mem} {r0 : Nat} {n0 : Nat} {a1 : Int} (hl0 : r0 < 209) (hs0 : SH[r0]? = some (.inr (0, n0)))
    (k1 : GM E (m_J7_fill_53178 0) P 5 [.ref r0, vi a1, vi 0, vi (n0 : Int)] [] mem) :
    GM E (m_J7_fill_53178 0) P 0 [.ref r0, vi a1, un, un] [] mem := by
  refine G_iconst (z := 0) dJ7_fill_53178_0 rfl ?_
  refine G_istore_n dJ7_fill_53178_1 rfl (by decide : 2 < 4) rfl ?_
  refine G_aload_n dJ7_fill_53178_2 rfl ?_
  refine G_alen (z := (n0 : Int)) dJ7_fill_53178_3 hl0 hs0 (by decide) rfl ?_
  refine G_istore_n dJ7_fill_53178_4 rfl (by decide : 3 < 4) rfl ?_
  exact k1
set_option maxRecDepth 20000 in
set_option maxHeartbeats 8000000 in
theorem sg_J7_fill_53178_5 {E : Nat × (Nat → Int32)} {P : Option Value → Mem → Prop} {mem : Mem} {r0 : Nat} {n0 : Nat} {a1 : Int} {a2 : Int} {a3 : Int} (hl0 : r0 < 209) (hs0 : SH[r0]? = some (.inr (0, n0))) (w1 : -2147483648 ≤ a2 ∧ a2 < 2147483648) (w2 : -2147483648 ≤ a3 ∧ a3 < 2147483648) (q3 : ¬ a3 ≤ a2 → 0 ≤ a2 ∧ a2 < (n0 : Int)) (n4 : n0 < 2147483648)
    (k1 : a3 ≤ a2 → P none mem)
    (k2 : ¬ a3 ≤ a2 → GM E (m_J7_fill_53178 0) P 5 [.ref r0, vi a1, vi (a2 + 1), vi a3] [] (up2 mem r0 a2 a1)) :
    GM E (m_J7_fill_53178 0) P 5 [.ref r0, vi a1, vi a2, vi a3] [] mem := by
  refine G_iload_n dJ7_fill_53178_5 rfl ?_
  refine G_iload_n dJ7_fill_53178_6 rfl ?_
  refine G_icmp_ge (tgt := 20) dJ7_fill_53178_7 (by decide) (w1) (w2) (fun c1 => ?_) (fun c1 => ?_)
  · -- a3 ≤ a2
    exact G_vret dJ7_fill_53178_20 rfl (Nat.zero_le _) (Nat.zero_le _) (Nat.le_refl _) ⟨rfl, k1 c1⟩
  · -- ¬ a3 ≤ a2
    refine G_aload_n dJ7_fill_53178_10 rfl ?_
    refine G_iload_n dJ7_fill_53178_11 rfl ?_
    refine G_iload_n dJ7_fill_53178_12 rfl ?_
    refine G_iast (mem2 := (up2 mem r0 a2 a1)) dJ7_fill_53178_13 hl0 hs0 (n4) (q3 c1).1 (q3 c1).2 rfl ?_
    refine G_iinc (z := (a2 + 1)) dJ7_fill_53178_14 rfl rfl (by decide : 2 < 4) rfl ?_
    refine G_goto (tgt := 5) dJ7_fill_53178_17 (by decide) ?_
    exact k2 c1
set_option maxRecDepth 20000 in
set_option maxHeartbeats 8000000 in
theorem sg_X10_binsOf_0 {E : Nat × (Nat → Int32)} {P : Option Value → Mem → Prop} {mem : Mem} {a1 : Int} (q1 : 0 ≤ (mem 9 1) ∧ (mem 9 1) ≤ 6) (w2 : -2147483648 ≤ a1 ∧ a1 < 2147483648)
    (k1 : 0 ≤ a1 ∧ a1 < (mem 9 1) → GM E (m_X10_binsOf 1) P 15 [.ref 9, vi a1, .ref (11 + 2 * (a1).toNat)] [.ref (11 + 2 * (a1).toNat)] mem)
    (k2 : ¬ (0 ≤ a1 ∧ a1 < (mem 9 1)) → P (some (vi 0)) mem) :
    GM E (m_X10_binsOf 1) P 0 [.ref 9, vi a1, un] [] mem := by
  refine G_aload_n dX10_binsOf_0 rfl ?_
  refine G_iload_n dX10_binsOf_1 rfl ?_
  refine cb_X10_binsOf_2 (ic_X10_at (z := (mem 9 1)) rfl (q1) (w2) (fun c1 => ?_) (fun c2 => ?_))
  · -- 0 ≤ a1 ∧ a1 < (mem 9 1)
    refine G_astore_n dX10_binsOf_5 rfl (by decide : 2 < 3) rfl ?_
    refine G_aload_n dX10_binsOf_6 rfl ?_
    refine G_ifnonnull (tgt := 14) dX10_binsOf_7 (by decide) ?_
    refine G_aload_n dX10_binsOf_14 rfl ?_
    exact k1 c1
  · -- ¬ (0 ≤ a1 ∧ a1 < (mem 9 1))
    refine G_astoreNull_n dX10_binsOf_5 rfl (by decide : 2 < 3) rfl ?_
    refine G_aloadNull_n dX10_binsOf_6 rfl ?_
    refine G_ifnonnullZ dX10_binsOf_7 ?_
    refine G_iconst (z := 0) dX10_binsOf_10 rfl ?_
    refine G_goto (tgt := 18) dX10_binsOf_11 (by decide) ?_
    exact G_iret dX10_binsOf_18 rfl (Nat.zero_le _) (Nat.zero_le _) (Nat.le_refl _) ⟨rfl, k2 c2⟩
set_option maxRecDepth 20000 in
set_option maxHeartbeats 8000000 in
theorem sg_X10_binsOf_18 {E : Nat × (Nat → Int32)} {P : Option Value → Mem → Prop} {mem : Mem} {a1 : Int} {o2 : Nat} {s0 : Int} (ho2 : o2 ∈ streetL)
    (k1 : P (some (vi s0)) mem) :
    GM E (m_X10_binsOf 1) P 18 [.ref 9, vi a1, .ref o2] [vi s0] mem := by
  exact G_iret dX10_binsOf_18 rfl (Nat.zero_le _) (Nat.zero_le _) (Nat.le_refl _) ⟨rfl, k1⟩
set_option maxRecDepth 20000 in
set_option maxHeartbeats 8000000 in
theorem sg_X10_entryOf_0 {E : Nat × (Nat → Int32)} {P : Option Value → Mem → Prop} {mem : Mem} {a1 : Int} {a2 : Int} (w1 : -2147483648 ≤ a1 ∧ a1 < 2147483648)
    (k1 : a1 ≠ 0 → P (some (vi (if a1 ≠ 1 then a2 else (shortI a2)))) mem)
    (k2 : a1 = 0 → P (some (vi (byteI a2))) mem) :
    GM E (m_X10_entryOf 0) P 0 [.ref 9, vi a1, vi a2] [] mem := by
  refine G_iload_n dX10_entryOf_0 rfl ?_
  refine G_if_ne (tgt := 7) dX10_entryOf_1 (by decide) (w1) (fun c1 => ?_) (fun c1 => ?_)
  · -- a1 ≠ 0
    refine G_iload_n dX10_entryOf_7 rfl ?_
    refine G_iconst (z := 1) dX10_entryOf_8 rfl ?_
    have j1 : GM E (m_X10_entryOf 0) P 18 [.ref 9, vi a1, vi a2] [vi (if a1 ≠ 1 then a2 else (shortI a2))] mem := by
      exact G_iret dX10_entryOf_18 rfl (Nat.zero_le _) (Nat.zero_le _) (Nat.le_refl _) ⟨rfl, k1 c1⟩
    refine G_icmp_ne (tgt := 17) dX10_entryOf_9 (by decide) (w1) (by decide) (fun c2 => ?_) (fun c2 => ?_)
    · -- a1 ≠ 1
      refine G_iload_n dX10_entryOf_17 rfl ?_
      have qj1 := j1
      simp only [if_pos c2] at qj1
      exact qj1
    · -- a1 = 1
      refine G_iload_n dX10_entryOf_12 rfl ?_
      refine G_i2s (z := (shortI a2)) dX10_entryOf_13 (iI_inv _) ?_
      refine G_goto (tgt := 18) dX10_entryOf_14 (by decide) ?_
      have qj1 := j1
      simp only [if_neg (show ¬ (a1 ≠ 1) from fun q => q c2)] at qj1
      exact qj1
  · -- a1 = 0
    refine G_iload_n dX10_entryOf_4 rfl ?_
    refine G_i2b (z := (byteI a2)) dX10_entryOf_5 (iI_inv _) ?_
    exact G_iret dX10_entryOf_6 rfl (Nat.zero_le _) (Nat.zero_le _) (Nat.le_refl _) ⟨rfl, k2 c1⟩
set_option maxRecDepth 20000 in
set_option maxHeartbeats 8000000 in
theorem sg_X10_placeAll_0 {E : Nat × (Nat → Int32)} {P : Option Value → Mem → Prop} {mem : Mem} {a1 : Int} {a2 : Int} {a3 : Int} {a4 : Int}
    (k1 : GM E (m_X10_placeAll 1) P 6 [.ref 9, vi a1, vi a2, vi a3, vi a4, vi 0, vi 0, un] [] mem) :
    GM E (m_X10_placeAll 1) P 0 [.ref 9, vi a1, vi a2, vi a3, vi a4, un, un, un] [] mem := by
  refine G_iconst (z := 0) dX10_placeAll_0 rfl ?_
  refine G_istore dX10_placeAll_1 (by decide : 5 < 8) rfl ?_
  refine G_iconst (z := 0) dX10_placeAll_3 rfl ?_
  refine G_istore dX10_placeAll_4 (by decide : 6 < 8) rfl ?_
  exact k1
set_option maxRecDepth 20000 in
set_option maxHeartbeats 8000000 in
theorem sg_X10_placeAll_6 {E : Nat × (Nat → Int32)} {P : Option Value → Mem → Prop} {mem : Mem} {a1 : Int} {a2 : Int} {a3 : Int} {a4 : Int} {a5 : Int} {a6 : Int} (w1 : -2147483648 ≤ a6 ∧ a6 < 2147483648) (w2 : -2147483648 ≤ (mem 9 1) ∧ (mem 9 1) < 2147483648) (w3 : -2147483648 ≤ a2 ∧ a2 < 2147483648) (q4 : ¬ (mem 9 1) ≤ a6 → ¬ 6 ≤ a6 → a2 ≤ a6 → 0 ≤ a6 ∧ a6 < 6) (w5 : ¬ (mem 9 1) ≤ a6 → ¬ 6 ≤ a6 → a2 ≤ a6 → -2147483648 ≤ ((min 99 0) : Int) ∧ ((min 99 0) : Int) < 2147483648)
    (k1 : (mem 9 1) ≤ a6 → P (some (vi a5)) mem)
    (k2 : ¬ (mem 9 1) ≤ a6 → 6 ≤ a6 → P (some (vi a5)) mem)
    (k3 : ¬ (mem 9 1) ≤ a6 → ¬ 6 ≤ a6 → a2 ≤ a6 → GM E (m_X10_placeAll 1) P 6 [.ref 9, vi a1, vi a2, vi a3, vi a4, vi (a5 + (max 0 (min 99 0))), vi (a6 + 1), un] [] (up2 mem (11 + 2 * (a6).toNat) 2 (max 0 (min 99 0))))
    (k4 : ¬ (mem 9 1) ≤ a6 → ¬ 6 ≤ a6 → ¬ a2 ≤ a6 → GM E (m_X10_placeAll 1) P 40 [.ref 9, vi a1, vi a2, vi a3, vi a4, vi a5, vi a6, un] [vi (a3 + (a6 * a4)), vi a1, .ref 9] mem) :
    GM E (m_X10_placeAll 1) P 6 [.ref 9, vi a1, vi a2, vi a3, vi a4, vi a5, vi a6, un] [] mem := by
  refine G_iload dX10_placeAll_6 rfl ?_
  refine G_aload_n dX10_placeAll_8 rfl ?_
  refine G_getI (z := (mem 9 1)) dX10_placeAll_9 fl_10_20 (by decide) sh_9 rfl ?_
  refine G_icmp_ge (tgt := 91) dX10_placeAll_12 (by decide) (w1) (w2) (fun c1 => ?_) (fun c1 => ?_)
  · -- (mem 9 1) ≤ a6
    refine G_iload dX10_placeAll_91 rfl ?_
    exact G_iret dX10_placeAll_93 rfl (Nat.zero_le _) (Nat.zero_le _) (Nat.le_refl _) ⟨rfl, k1 c1⟩
  · -- ¬ (mem 9 1) ≤ a6
    refine G_iload dX10_placeAll_15 rfl ?_
    refine G_aload_n dX10_placeAll_17 rfl ?_
    refine G_getR (t := 10) dX10_placeAll_18 fl_10_11 (by decide) sh_9 rr_9_0 ?_
    refine G_alen (z := 6) dX10_placeAll_21 (by decide) sh_10 (by decide) rfl ?_
    refine G_icmp_ge (tgt := 91) dX10_placeAll_22 (by decide) (w1) (by decide) (fun c2 => ?_) (fun c2 => ?_)
    · -- 6 ≤ a6
      refine G_iload dX10_placeAll_91 rfl ?_
      exact G_iret dX10_placeAll_93 rfl (Nat.zero_le _) (Nat.zero_le _) (Nat.le_refl _) ⟨rfl, k2 c1 c2⟩
    · -- ¬ 6 ≤ a6
      refine G_iload dX10_placeAll_25 rfl ?_
      refine G_iload_n dX10_placeAll_27 rfl ?_
      refine G_icmp_ge (tgt := 46) dX10_placeAll_28 (by decide) (w1) (w3) (fun c3 => ?_) (fun c3 => ?_)
      · -- a2 ≤ a6
        refine G_iconst (z := 0) dX10_placeAll_46 rfl ?_
        refine G_istore dX10_placeAll_47 (by decide : 7 < 8) rfl ?_
        refine G_aload_n dX10_placeAll_49 rfl ?_
        refine G_getR (t := 10) dX10_placeAll_50 fl_10_11 (by decide) sh_9 rr_9_0 ?_
        refine G_iload dX10_placeAll_53 rfl ?_
        refine G_aald3S (t := (11 + 2 * (a6).toNat)) dX10_placeAll_55 (by decide) sh_10 (by decide) (q4 c1 c2 c3).1 (q4 c1 c2 c3).2 (rr_streets (q4 c1 c2 c3).1 (q4 c1 c2 c3).2) ?_
        refine G_iconst (z := 0) dX10_placeAll_56 rfl ?_
        refine G_bipush (z := 99) dX10_placeAll_57 rfl ?_
        refine G_iload dX10_placeAll_59 rfl ?_
        refine G_min (z := (min 99 0)) dX10_placeAll_61 ml_10_56 mw_min (by decide) (by decide) ⟨by show 1 ≤ 1; first | decide | omega, by show 21 ≤ 40 * 1; first | decide | omega, Nat.zero_le _, Nat.zero_le _⟩ (Nat.le_of_ble_eq_true rfl) rfl ?_
        refine G_max (z := (max 0 (min 99 0))) dX10_placeAll_64 ml_10_61 mw_max (by decide) (w5 c1 c2 c3) ⟨by show 1 ≤ 1; first | decide | omega, by show 21 ≤ 40 * 1; first | decide | omega, Nat.zero_le _, Nat.zero_le _⟩ (Nat.le_of_ble_eq_true rfl) rfl ?_
        refine G_putI (mem2 := (up2 mem (11 + 2 * (a6).toNat) 2 (max 0 (min 99 0)))) dX10_placeAll_67 fp_10_64 (ltStreet0 (streetL_of (q4 c1 c2 c3).1 (q4 c1 c2 c3).2)) (shStreet0 (streetL_of (q4 c1 c2 c3).1 (q4 c1 c2 c3).2)) rfl ?_
        refine G_iload dX10_placeAll_70 rfl ?_
        refine G_aload_n dX10_placeAll_72 rfl ?_
        refine G_getR (t := 10) dX10_placeAll_73 fl_10_11 (by decide) sh_9 rr_9_0 ?_
        refine G_iload dX10_placeAll_76 rfl ?_
        refine G_aald3S (t := (11 + 2 * (a6).toNat)) dX10_placeAll_78 (by decide) sh_10 (by decide) (q4 c1 c2 c3).1 (q4 c1 c2 c3).2 (rr_streets (q4 c1 c2 c3).1 (q4 c1 c2 c3).2) ?_
        refine G_getI (z := (max 0 (min 99 0))) dX10_placeAll_79 fl_10_64 (ltStreet0 (streetL_of (q4 c1 c2 c3).1 (q4 c1 c2 c3).2)) (shStreet0 (streetL_of (q4 c1 c2 c3).1 (q4 c1 c2 c3).2)) (by simp [up2, upr]) ?_
        refine G_iadd dX10_placeAll_82 ?_
        refine G_istore dX10_placeAll_83 (by decide : 5 < 8) rfl ?_
        refine G_iinc (z := (a6 + 1)) dX10_placeAll_85 rfl rfl (by decide : 6 < 8) rfl ?_
        refine G_goto (tgt := 6) dX10_placeAll_88 (by decide) ?_
        refine G_weak (lv2 := [.ref 9, vi a1, vi a2, vi a3, vi a4, vi (a5 + (max 0 (min 99 0))), vi (a6 + 1), un]) ⟨Or.inr rfl, Or.inr rfl, Or.inr rfl, Or.inr rfl, Or.inr rfl, Or.inr rfl, Or.inr rfl, Or.inl rfl, trivial⟩ ?_
        exact k3 c1 c2 c3
      · -- ¬ a2 ≤ a6
        refine G_aload_n dX10_placeAll_31 rfl ?_
        refine G_iload_n dX10_placeAll_32 rfl ?_
        refine G_iload_n dX10_placeAll_33 rfl ?_
        refine G_iload dX10_placeAll_34 rfl ?_
        refine G_iload dX10_placeAll_36 rfl ?_
        refine G_imul dX10_placeAll_38 ?_
        refine G_iadd dX10_placeAll_39 ?_
        exact k4 c1 c2 c3
set_option maxRecDepth 20000 in
set_option maxHeartbeats 8000000 in
theorem sg_X10_placeAll_43 {E : Nat × (Nat → Int32)} {P : Option Value → Mem → Prop} {mem : Mem} {a1 : Int} {a2 : Int} {a3 : Int} {a4 : Int} {a5 : Int} {a6 : Int} {s0 : Int} (q1 : 0 ≤ a6 ∧ a6 < 6) (w2 : -2147483648 ≤ s0 ∧ s0 < 2147483648) (w3 : -2147483648 ≤ (min 99 s0) ∧ (min 99 s0) < 2147483648)
    (k1 : GM E (m_X10_placeAll 1) P 6 [.ref 9, vi a1, vi a2, vi a3, vi a4, vi (a5 + (max 0 (min 99 s0))), vi (a6 + 1), un] [] (up2 mem (11 + 2 * (a6).toNat) 2 (max 0 (min 99 s0)))) :
    GM E (m_X10_placeAll 1) P 43 [.ref 9, vi a1, vi a2, vi a3, vi a4, vi a5, vi a6, un] [vi s0] mem := by
  refine G_goto (tgt := 47) dX10_placeAll_43 (by decide) ?_
  refine G_istore dX10_placeAll_47 (by decide : 7 < 8) rfl ?_
  refine G_aload_n dX10_placeAll_49 rfl ?_
  refine G_getR (t := 10) dX10_placeAll_50 fl_10_11 (by decide) sh_9 rr_9_0 ?_
  refine G_iload dX10_placeAll_53 rfl ?_
  refine G_aald3S (t := (11 + 2 * (a6).toNat)) dX10_placeAll_55 (by decide) sh_10 (by decide) (q1).1 (q1).2 (rr_streets (q1).1 (q1).2) ?_
  refine G_iconst (z := 0) dX10_placeAll_56 rfl ?_
  refine G_bipush (z := 99) dX10_placeAll_57 rfl ?_
  refine G_iload dX10_placeAll_59 rfl ?_
  refine G_min (z := (min 99 s0)) dX10_placeAll_61 ml_10_56 mw_min (by decide) (w2) ⟨by show 1 ≤ 1; first | decide | omega, by show 21 ≤ 40 * 1; first | decide | omega, Nat.zero_le _, Nat.zero_le _⟩ (Nat.le_of_ble_eq_true rfl) rfl ?_
  refine G_max (z := (max 0 (min 99 s0))) dX10_placeAll_64 ml_10_61 mw_max (by decide) (w3) ⟨by show 1 ≤ 1; first | decide | omega, by show 21 ≤ 40 * 1; first | decide | omega, Nat.zero_le _, Nat.zero_le _⟩ (Nat.le_of_ble_eq_true rfl) rfl ?_
  refine G_putI (mem2 := (up2 mem (11 + 2 * (a6).toNat) 2 (max 0 (min 99 s0)))) dX10_placeAll_67 fp_10_64 (ltStreet0 (streetL_of (q1).1 (q1).2)) (shStreet0 (streetL_of (q1).1 (q1).2)) rfl ?_
  refine G_iload dX10_placeAll_70 rfl ?_
  refine G_aload_n dX10_placeAll_72 rfl ?_
  refine G_getR (t := 10) dX10_placeAll_73 fl_10_11 (by decide) sh_9 rr_9_0 ?_
  refine G_iload dX10_placeAll_76 rfl ?_
  refine G_aald3S (t := (11 + 2 * (a6).toNat)) dX10_placeAll_78 (by decide) sh_10 (by decide) (q1).1 (q1).2 (rr_streets (q1).1 (q1).2) ?_
  refine G_getI (z := (max 0 (min 99 s0))) dX10_placeAll_79 fl_10_64 (ltStreet0 (streetL_of (q1).1 (q1).2)) (shStreet0 (streetL_of (q1).1 (q1).2)) (by simp [up2, upr]) ?_
  refine G_iadd dX10_placeAll_82 ?_
  refine G_istore dX10_placeAll_83 (by decide : 5 < 8) rfl ?_
  refine G_iinc (z := (a6 + 1)) dX10_placeAll_85 rfl rfl (by decide : 6 < 8) rfl ?_
  refine G_goto (tgt := 6) dX10_placeAll_88 (by decide) ?_
  refine G_weak (lv2 := [.ref 9, vi a1, vi a2, vi a3, vi a4, vi (a5 + (max 0 (min 99 s0))), vi (a6 + 1), un]) ⟨Or.inr rfl, Or.inr rfl, Or.inr rfl, Or.inr rfl, Or.inr rfl, Or.inr rfl, Or.inr rfl, Or.inl rfl, trivial⟩ ?_
  exact k1
set_option maxRecDepth 20000 in
set_option maxHeartbeats 8000000 in
theorem sg_X10_read_0 {E : Nat × (Nat → Int32)} {P : Option Value → Mem → Prop} {mem : Mem} (w1 : -2147483648 ≤ (mem 1 1) ∧ (mem 1 1) < 2147483648)
    (k1 : (mem 1 1) ≤ 0 → P (some (vi 0)) (up2 (up2 mem 1 2 0) 1 3 (min (mem 1 1) 76)))
    (k2 : ¬ (mem 1 1) ≤ 0 → GM E (m_X10_read 5) P 20 [.ref 9, .ref 1, vi (mem 9 1), un] [] (up2 (up2 mem 1 2 0) 1 3 (min (mem 1 1) 76))) :
    GM E (m_X10_read 5) P 0 [.ref 9, .ref 1, un, un] [] mem := by
  refine G_aload_n dX10_read_0 rfl ?_
  refine G_bipush (z := 76) dX10_read_1 rfl ?_
  refine cb_X10_read_3 (ic_X9_begin (z := (mem 1 1)) rfl (w1) (by decide) ?_)
  refine G_aload_n dX10_read_6 rfl ?_
  refine cb_X10_read_7 (ic_X9_isRead (a := 0) (b := (mem 1 1)) (by simp [up2, upr]) (by simp [up2, upr]) (by decide) (w1) (fun c1 => ?_) (fun c2 => ?_))
  · -- (mem 1 1) ≤ 0
    refine G_if_eq (tgt := 15) dX10_read_10 (by decide) (by decide) (fun h => absurd h (by decide)) (fun _ => ?_)
    refine G_iconst (z := 0) dX10_read_13 rfl ?_
    exact G_iret dX10_read_14 rfl (Nat.zero_le _) (Nat.zero_le _) (Nat.le_refl _) ⟨rfl, k1 c1⟩
  · -- ¬ (mem 1 1) ≤ 0
    refine G_if_eq (tgt := 15) dX10_read_10 (by decide) (by decide) (fun _ => ?_) (fun h => absurd h (by decide))
    refine G_aload_n dX10_read_15 rfl ?_
    refine G_getI (z := (mem 9 1)) dX10_read_16 fl_10_20 (by decide) sh_9 (by simp [up2, upr]) ?_
    refine G_istore_n dX10_read_19 rfl (by decide : 2 < 4) rfl ?_
    exact k2 c2
set_option maxRecDepth 20000 in
set_option maxHeartbeats 8000000 in
theorem sg_X10_read_20 {E : Nat × (Nat → Int32)} {P : Option Value → Mem → Prop} {mem : Mem} {a2 : Int} (w1 : -2147483648 ≤ a2 ∧ a2 < 2147483648) (q2 : ¬ 6 ≤ a2 → 0 ≤ a2 ∧ a2 < 6)
    (k1 : 6 ≤ a2 → P (some (vi ((-1) - (mem 1 2)))) mem)
    (k2 : ¬ 6 ≤ a2 → GM E (m_X10_read 5) P 36 [.ref 9, .ref 1, vi a2, un] [.ref 1, .ref (11 + 2 * (a2).toNat)] mem) :
    GM E (m_X10_read 5) P 20 [.ref 9, .ref 1, vi a2, un] [] mem := by
  refine G_iload_n dX10_read_20 rfl ?_
  refine G_aload_n dX10_read_21 rfl ?_
  refine G_getR (t := 10) dX10_read_22 fl_10_11 (by decide) sh_9 rr_9_0 ?_
  refine G_alen (z := 6) dX10_read_25 (by decide) sh_10 (by decide) rfl ?_
  refine G_icmp_ge (tgt := 92) dX10_read_26 (by decide) (w1) (by decide) (fun c1 => ?_) (fun c1 => ?_)
  · -- 6 ≤ a2
    refine G_aload_n dX10_read_92 rfl ?_
    refine cb_X10_read_93 (ic_X9_fault (z := (mem 1 2)) rfl ?_)
    exact G_iret dX10_read_96 rfl (Nat.zero_le _) (Nat.zero_le _) (Nat.le_refl _) ⟨rfl, k1 c1⟩
  · -- ¬ 6 ≤ a2
    refine G_aload_n dX10_read_29 rfl ?_
    refine G_getR (t := 10) dX10_read_30 fl_10_11 (by decide) sh_9 rr_9_0 ?_
    refine G_iload_n dX10_read_33 rfl ?_
    refine G_aald3S (t := (11 + 2 * (a2).toNat)) dX10_read_34 (by decide) sh_10 (by decide) (q2 c1).1 (q2 c1).2 (rr_streets (q2 c1).1 (q2 c1).2) ?_
    refine G_aload_n dX10_read_35 rfl ?_
    exact k2 c1
set_option maxRecDepth 20000 in
set_option maxHeartbeats 8000000 in
theorem sg_X10_read_39 {E : Nat × (Nat → Int32)} {P : Option Value → Mem → Prop} {mem : Mem} {a2 : Int} {s0 : Int} (w1 : -2147483648 ≤ s0 ∧ s0 < 2147483648) (w2 : s0 ≠ 0 → -2147483648 ≤ (mem 1 2) ∧ (mem 1 2) < 2147483648) (w3 : s0 ≠ 0 → -2147483648 ≤ (mem 1 1) ∧ (mem 1 1) < 2147483648) (t4 : s0 ≠ 0 → ¬ (mem 1 1) ≤ (mem 1 2) → TextOK mem)
    (k1 : s0 ≠ 0 → (mem 1 1) ≤ (mem 1 2) → P (some (vi ((a2 + 1) - (mem 9 1)))) (up2 mem 9 1 (a2 + 1)))
    (k2 : s0 ≠ 0 → ¬ (mem 1 1) ≤ (mem 1 2) → (lookM mem) = 59 → GM E (m_X10_read 5) P 20 [.ref 9, .ref 1, vi (a2 + 1), un] [] (up2 mem 1 2 ((mem 1 2) + 1)))
    (k3 : s0 ≠ 0 → ¬ (mem 1 1) ≤ (mem 1 2) → ¬ (lookM mem) = 59 → P (some (vi ((-1) - (mem 1 2)))) mem)
    (k4 : s0 = 0 → P (some (vi ((-1) - (mem 1 2)))) mem) :
    GM E (m_X10_read 5) P 39 [.ref 9, .ref 1, vi a2, un] [vi s0] mem := by
  refine G_if_ne (tgt := 47) dX10_read_39 (by decide) (w1) (fun c1 => ?_) (fun c1 => ?_)
  · -- s0 ≠ 0
    refine G_aload_n dX10_read_47 rfl ?_
    refine cb_X10_read_48 (ic_X9_isRead (a := (mem 1 2)) (b := (mem 1 1)) rfl rfl (w2 c1) (w3 c1) (fun c2 => ?_) (fun c3 => ?_))
    · -- (mem 1 1) ≤ (mem 1 2)
      refine G_if_eq (tgt := 72) dX10_read_51 (by decide) (by decide) (fun h => absurd h (by decide)) (fun _ => ?_)
      refine G_iload_n dX10_read_54 rfl ?_
      refine G_iconst (z := 1) dX10_read_55 rfl ?_
      refine G_iadd dX10_read_56 ?_
      refine G_aload_n dX10_read_57 rfl ?_
      refine G_getI (z := (mem 9 1)) dX10_read_58 fl_10_20 (by decide) sh_9 rfl ?_
      refine G_isub dX10_read_61 ?_
      refine G_istore_n dX10_read_62 rfl (by decide : 3 < 4) rfl ?_
      refine G_aload_n dX10_read_63 rfl ?_
      refine G_iload_n dX10_read_64 rfl ?_
      refine G_iconst (z := 1) dX10_read_65 rfl ?_
      refine G_iadd dX10_read_66 ?_
      refine G_putI (mem2 := (up2 mem 9 1 (a2 + 1))) dX10_read_67 fp_10_20 (by decide) sh_9 rfl ?_
      refine G_iload_n dX10_read_70 rfl ?_
      exact G_iret dX10_read_71 rfl (Nat.zero_le _) (Nat.zero_le _) (Nat.le_refl _) ⟨rfl, k1 c1 c2⟩
    · -- ¬ (mem 1 1) ≤ (mem 1 2)
      refine G_if_eq (tgt := 72) dX10_read_51 (by decide) (by decide) (fun _ => ?_) (fun h => absurd h (by decide))
      refine G_aload_n dX10_read_72 rfl ?_
      refine G_bipush (z := 59) dX10_read_73 rfl ?_
      refine cb_X10_read_75 (ic_X9_accept (z := (mem 1 2)) (t4 c1 c3) (by decide) rfl (fun c4 => ?_) (fun c5 => ?_))
      · -- (lookM mem) = 59
        refine G_if_ne (tgt := 86) dX10_read_78 (by decide) (by decide) (fun _ => ?_) (fun h => absurd h (by decide))
        refine G_iinc (z := (a2 + 1)) dX10_read_86 rfl rfl (by decide : 2 < 4) rfl ?_
        refine G_goto (tgt := 20) dX10_read_89 (by decide) ?_
        exact k2 c1 c3 c4
      · -- ¬ (lookM mem) = 59
        refine G_if_ne (tgt := 86) dX10_read_78 (by decide) (by decide) (fun h => absurd h (by decide)) (fun _ => ?_)
        refine G_aload_n dX10_read_81 rfl ?_
        refine cb_X10_read_82 (ic_X9_fault (z := (mem 1 2)) rfl ?_)
        exact G_iret dX10_read_85 rfl (Nat.zero_le _) (Nat.zero_le _) (Nat.le_refl _) ⟨rfl, k3 c1 c3 c5⟩
  · -- s0 = 0
    refine G_aload_n dX10_read_42 rfl ?_
    refine cb_X10_read_43 (ic_X9_fault (z := (mem 1 2)) rfl ?_)
    exact G_iret dX10_read_46 rfl (Nat.zero_le _) (Nat.zero_le _) (Nat.le_refl _) ⟨rfl, k4 c1⟩
set_option maxRecDepth 20000 in
set_option maxHeartbeats 8000000 in
theorem sg_X1_back_0 {E : Nat × (Nat → Int32)} {P : Option Value → Mem → Prop} {mem : Mem} {o1 : Nat} {y1 : Nat} (ho1 : o1 ∈ stateL) (w1 : -2147483648 ≤ (mem 27 2) ∧ (mem 27 2) < 2147483648) (q2 : ¬ (mem 27 2) < 1 → (mem 27 2) ≤ 15 → 0 ≤ ((mem 27 2) - 1) ∧ ((mem 27 2) - 1) < 15) (e3 : ¬ (mem 27 2) < 1 → (mem 27 2) ≤ 15 → (mem 28 ((mem 27 2) - 1)) = ((y1 : Nat) : Int)) (e4 : ¬ (mem 27 2) < 1 → (mem 27 2) ≤ 15 → y1 ∈ stateL)
    (k1 : (mem 27 2) < 1 → P (some (vi 0)) mem)
    (k2 : ¬ (mem 27 2) < 1 → (mem 27 2) ≤ 15 → GM E (m_X1_back 3) P 42 [.ref 27, .ref o1] [.ref y1, .ref o1] (up2 mem 27 2 ((mem 27 2) - 1)))
    (k3 : ¬ (mem 27 2) < 1 → ¬ (mem 27 2) ≤ 15 → P (some (vi 0)) mem) :
    GM E (m_X1_back 3) P 0 [.ref 27, .ref o1] [] mem := by
  refine G_aload_n dX1_back_0 rfl ?_
  refine G_getI (z := (mem 27 2)) dX1_back_1 fl_1_24 (by decide) sh_27 rfl ?_
  refine G_iconst (z := 1) dX1_back_4 rfl ?_
  refine G_icmp_lt (tgt := 20) dX1_back_5 (by decide) (w1) (by decide) (fun c1 => ?_) (fun c1 => ?_)
  · -- (mem 27 2) < 1
    refine G_iconst (z := 0) dX1_back_20 rfl ?_
    exact G_zret dX1_back_21 rfl (nar_zb (by decide)) (Nat.zero_le _) (Nat.zero_le _) (Nat.le_refl _) ⟨rfl, k1 c1⟩
  · -- ¬ (mem 27 2) < 1
    refine G_aload_n dX1_back_8 rfl ?_
    refine G_getI (z := (mem 27 2)) dX1_back_9 fl_1_24 (by decide) sh_27 rfl ?_
    refine G_aload_n dX1_back_12 rfl ?_
    refine G_getR (t := 28) dX1_back_13 fl_1_11 (by decide) sh_27 rr_27_0 ?_
    refine G_alen (z := 15) dX1_back_16 (by decide) sh_28 (by decide) rfl ?_
    refine G_icmp_le (tgt := 22) dX1_back_17 (by decide) (w1) (by decide) (fun c2 => ?_) (fun c2 => ?_)
    · -- (mem 27 2) ≤ 15
      refine G_aload_n dX1_back_22 rfl ?_
      refine G_dup dX1_back_23 rfl ?_
      refine G_getI (z := (mem 27 2)) dX1_back_24 fl_1_24 (by decide) sh_27 rfl ?_
      refine G_iconst (z := 1) dX1_back_27 rfl ?_
      refine G_isub dX1_back_28 ?_
      refine G_putI (mem2 := (up2 mem 27 2 ((mem 27 2) - 1))) dX1_back_29 fp_1_24 (by decide) sh_27 rfl ?_
      refine G_aload_n dX1_back_32 rfl ?_
      refine G_aload_n dX1_back_33 rfl ?_
      refine G_getR (t := 28) dX1_back_34 fl_1_11 (by decide) sh_27 rr_27_0 ?_
      refine G_aload_n dX1_back_37 rfl ?_
      refine G_getI (z := ((mem 27 2) - 1)) dX1_back_38 fl_1_24 (by decide) sh_27 (by simp [up2, upr]) ?_
      refine G_aald4D (t := y1) dX1_back_41 (by decide) sh_28 (by decide) (q2 c1 c2).1 (q2 c1 c2).2 (rn_28 _) (e3 c1 c2) ?_
      exact k2 c1 c2
    · -- ¬ (mem 27 2) ≤ 15
      refine G_iconst (z := 0) dX1_back_20 rfl ?_
      exact G_zret dX1_back_21 rfl (nar_zb (by decide)) (Nat.zero_le _) (Nat.zero_le _) (Nat.le_refl _) ⟨rfl, k3 c1 c2⟩
set_option maxRecDepth 20000 in
set_option maxHeartbeats 8000000 in
theorem sg_X1_back_45 {E : Nat × (Nat → Int32)} {P : Option Value → Mem → Prop} {mem : Mem} {o1 : Nat} (ho1 : o1 ∈ stateL)
    (k1 : P (some (vi 1)) mem) :
    GM E (m_X1_back 3) P 45 [.ref 27, .ref o1] [] mem := by
  refine G_iconst (z := 1) dX1_back_45 rfl ?_
  exact G_zret dX1_back_46 rfl (nar_zb (by decide)) (Nat.zero_le _) (Nat.zero_le _) (Nat.le_refl _) ⟨rfl, k1⟩
set_option maxRecDepth 20000 in
set_option maxHeartbeats 8000000 in
theorem sg_X1_dropOldest_0 {E : Nat × (Nat → Int32)} {P : Option Value → Mem → Prop} {mem : Mem} {y1 : Nat} (e1 : (mem 28 0) = ((y1 : Nat) : Int)) (e2 : y1 ∈ stateL)
    (k1 : GM E (m_X1_dropOldest 0) P 9 [.ref 27, .ref y1, vi 1] [] mem) :
    GM E (m_X1_dropOldest 0) P 0 [.ref 27, un, un] [] mem := by
  refine G_aload_n dX1_dropOldest_0 rfl ?_
  refine G_getR (t := 28) dX1_dropOldest_1 fl_1_11 (by decide) sh_27 rr_27_0 ?_
  refine G_iconst (z := 0) dX1_dropOldest_4 rfl ?_
  refine G_aald4D (t := y1) dX1_dropOldest_5 (by decide) sh_28 (by decide) (by decide) (by decide) (rn_28 _) (e1) ?_
  refine G_astore_n dX1_dropOldest_6 rfl (by decide : 1 < 3) rfl ?_
  refine G_iconst (z := 1) dX1_dropOldest_7 rfl ?_
  refine G_istore_n dX1_dropOldest_8 rfl (by decide : 2 < 3) rfl ?_
  exact k1
set_option maxRecDepth 20000 in
set_option maxHeartbeats 8000000 in
theorem sg_X1_dropOldest_9 {E : Nat × (Nat → Int32)} {P : Option Value → Mem → Prop} {mem : Mem} {o1 : Nat} {a2 : Int} {y1 : Nat} (ho1 : o1 ∈ stateL) (w1 : -2147483648 ≤ a2 ∧ a2 < 2147483648) (q2 : 15 ≤ a2 → 0 ≤ ((15 - 1) : Int) ∧ ((15 - 1) : Int) < 15) (q3 : ¬ 15 ≤ a2 → 0 ≤ a2 ∧ a2 < 15) (e4 : ¬ 15 ≤ a2 → (mem 28 a2) = ((y1 : Nat) : Int)) (e5 : ¬ 15 ≤ a2 → y1 ∈ stateL) (q6 : ¬ 15 ≤ a2 → 0 ≤ (a2 - 1) ∧ (a2 - 1) < 15)
    (k1 : 15 ≤ a2 → P none (up2 (up2 mem 28 (15 - 1) ((o1 : Nat) : Int)) 27 2 14))
    (k2 : ¬ 15 ≤ a2 → GM E (m_X1_dropOldest 0) P 9 [.ref 27, .ref o1, vi (a2 + 1)] [] (up2 mem 28 (a2 - 1) ((y1 : Nat) : Int))) :
    GM E (m_X1_dropOldest 0) P 9 [.ref 27, .ref o1, vi a2] [] mem := by
  refine G_iload_n dX1_dropOldest_9 rfl ?_
  refine G_aload_n dX1_dropOldest_10 rfl ?_
  refine G_getR (t := 28) dX1_dropOldest_11 fl_1_11 (by decide) sh_27 rr_27_0 ?_
  refine G_alen (z := 15) dX1_dropOldest_14 (by decide) sh_28 (by decide) rfl ?_
  refine G_icmp_ge (tgt := 38) dX1_dropOldest_15 (by decide) (w1) (by decide) (fun c1 => ?_) (fun c1 => ?_)
  · -- 15 ≤ a2
    refine G_aload_n dX1_dropOldest_38 rfl ?_
    refine G_getR (t := 28) dX1_dropOldest_39 fl_1_11 (by decide) sh_27 rr_27_0 ?_
    refine G_aload_n dX1_dropOldest_42 rfl ?_
    refine G_getR (t := 28) dX1_dropOldest_43 fl_1_11 (by decide) sh_27 rr_27_0 ?_
    refine G_alen (z := 15) dX1_dropOldest_46 (by decide) sh_28 (by decide) rfl ?_
    refine G_iconst (z := 1) dX1_dropOldest_47 rfl ?_
    refine G_isub dX1_dropOldest_48 ?_
    refine G_aload_n dX1_dropOldest_49 rfl ?_
    refine G_aast4 (mem2 := (up2 mem 28 (15 - 1) ((o1 : Nat) : Int))) dX1_dropOldest_50 (by decide) sh_28 (ltState0 ho1) (shState0 ho1) (by decide) (q2 c1).1 (q2 c1).2 (rn_28 _) rfl ?_
    refine G_aload_n dX1_dropOldest_51 rfl ?_
    refine G_bipush (z := 14) dX1_dropOldest_52 rfl ?_
    refine G_putI (mem2 := (up2 (up2 mem 28 (15 - 1) ((o1 : Nat) : Int)) 27 2 14)) dX1_dropOldest_54 fp_1_24 (by decide) sh_27 rfl ?_
    exact G_vret dX1_dropOldest_57 rfl (Nat.zero_le _) (Nat.zero_le _) (Nat.le_refl _) ⟨rfl, k1 c1⟩
  · -- ¬ 15 ≤ a2
    refine G_aload_n dX1_dropOldest_18 rfl ?_
    refine G_getR (t := 28) dX1_dropOldest_19 fl_1_11 (by decide) sh_27 rr_27_0 ?_
    refine G_iload_n dX1_dropOldest_22 rfl ?_
    refine G_iconst (z := 1) dX1_dropOldest_23 rfl ?_
    refine G_isub dX1_dropOldest_24 ?_
    refine G_aload_n dX1_dropOldest_25 rfl ?_
    refine G_getR (t := 28) dX1_dropOldest_26 fl_1_11 (by decide) sh_27 rr_27_0 ?_
    refine G_iload_n dX1_dropOldest_29 rfl ?_
    refine G_aald4D (t := y1) dX1_dropOldest_30 (by decide) sh_28 (by decide) (q3 c1).1 (q3 c1).2 (rn_28 _) (e4 c1) ?_
    refine G_aast4 (mem2 := (up2 mem 28 (a2 - 1) ((y1 : Nat) : Int))) dX1_dropOldest_31 (by decide) sh_28 (ltState0 (e5 c1)) (shState0 (e5 c1)) (by decide) (q6 c1).1 (q6 c1).2 (rn_28 _) rfl ?_
    refine G_iinc (z := (a2 + 1)) dX1_dropOldest_32 rfl rfl (by decide : 2 < 3) rfl ?_
    refine G_goto (tgt := 9) dX1_dropOldest_35 (by decide) ?_
    exact k2 c1
set_option maxRecDepth 20000 in
set_option maxHeartbeats 8000000 in
theorem sg_X1_note_0 {E : Nat × (Nat → Int32)} {P : Option Value → Mem → Prop} {mem : Mem} {o1 : Nat} (ho1 : o1 ∈ stateL)
    (k1 : GM E (m_X1_note 3) P 5 [.ref 27, .ref o1] [.ref o1, .ref 29] mem) :
    GM E (m_X1_note 3) P 0 [.ref 27, .ref o1] [] mem := by
  refine G_aload_n dX1_note_0 rfl ?_
  refine G_getR (t := 29) dX1_note_1 fl_1_16 (by decide) sh_27 rr_27_1 ?_
  refine G_aload_n dX1_note_4 rfl ?_
  exact k1
set_option maxRecDepth 20000 in
set_option maxHeartbeats 8000000 in
theorem sg_X1_note_8 {E : Nat × (Nat → Int32)} {P : Option Value → Mem → Prop} {mem : Mem} {o1 : Nat} (ho1 : o1 ∈ stateL)
    (k1 : P none mem) :
    GM E (m_X1_note 3) P 8 [.ref 27, .ref o1] [] mem := by
  exact G_vret dX1_note_8 rfl (Nat.zero_le _) (Nat.zero_le _) (Nat.le_refl _) ⟨rfl, k1⟩
set_option maxRecDepth 20000 in
set_option maxHeartbeats 8000000 in
theorem sg_X1_push_0 {E : Nat × (Nat → Int32)} {P : Option Value → Mem → Prop} {mem : Mem} {y1 : Nat} (w1 : -2147483648 ≤ (mem 27 2) ∧ (mem 27 2) < 2147483648) (e2 : (mem 27 2) < 15 → ¬ (mem 27 2) < 0 → ¬ 15 ≤ (mem 27 2) → (mem 28 (mem 27 2)) = ((y1 : Nat) : Int)) (e3 : (mem 27 2) < 15 → ¬ (mem 27 2) < 0 → ¬ 15 ≤ (mem 27 2) → y1 ∈ stateL)
    (k1 : (mem 27 2) < 15 → (mem 27 2) < 0 → P none mem)
    (k2 : (mem 27 2) < 15 → ¬ (mem 27 2) < 0 → 15 ≤ (mem 27 2) → P none mem)
    (k3 : (mem 27 2) < 15 → ¬ (mem 27 2) < 0 → ¬ 15 ≤ (mem 27 2) → GM E (m_X1_push 3) P 45 [.ref 27] [.ref 29, .ref y1] mem)
    (k4 : ¬ (mem 27 2) < 15 → GM E (m_X1_push 3) P 10 [.ref 27] [.ref 27] mem) :
    GM E (m_X1_push 3) P 0 [.ref 27] [] mem := by
  refine G_aload_n dX1_push_0 rfl ?_
  refine G_getI (z := (mem 27 2)) dX1_push_1 fl_1_24 (by decide) sh_27 rfl ?_
  refine G_bipush (z := 15) dX1_push_4 rfl ?_
  refine G_icmp_lt (tgt := 13) dX1_push_6 (by decide) (w1) (by decide) (fun c1 => ?_) (fun c1 => ?_)
  · -- (mem 27 2) < 15
    refine G_aload_n dX1_push_13 rfl ?_
    refine G_getI (z := (mem 27 2)) dX1_push_14 fl_1_24 (by decide) sh_27 rfl ?_
    refine G_if_lt (tgt := 58) dX1_push_17 (by decide) (w1) (fun c2 => ?_) (fun c2 => ?_)
    · -- (mem 27 2) < 0
      exact G_vret dX1_push_58 rfl (Nat.zero_le _) (Nat.zero_le _) (Nat.le_refl _) ⟨rfl, k1 c1 c2⟩
    · -- ¬ (mem 27 2) < 0
      refine G_aload_n dX1_push_20 rfl ?_
      refine G_getI (z := (mem 27 2)) dX1_push_21 fl_1_24 (by decide) sh_27 rfl ?_
      refine G_aload_n dX1_push_24 rfl ?_
      refine G_getR (t := 28) dX1_push_25 fl_1_11 (by decide) sh_27 rr_27_0 ?_
      refine G_alen (z := 15) dX1_push_28 (by decide) sh_28 (by decide) rfl ?_
      refine G_icmp_ge (tgt := 58) dX1_push_29 (by decide) (w1) (by decide) (fun c3 => ?_) (fun c3 => ?_)
      · -- 15 ≤ (mem 27 2)
        exact G_vret dX1_push_58 rfl (Nat.zero_le _) (Nat.zero_le _) (Nat.le_refl _) ⟨rfl, k2 c1 c2 c3⟩
      · -- ¬ 15 ≤ (mem 27 2)
        refine G_aload_n dX1_push_32 rfl ?_
        refine G_getR (t := 28) dX1_push_33 fl_1_11 (by decide) sh_27 rr_27_0 ?_
        refine G_aload_n dX1_push_36 rfl ?_
        refine G_getI (z := (mem 27 2)) dX1_push_37 fl_1_24 (by decide) sh_27 rfl ?_
        refine G_aald4D (t := y1) dX1_push_40 (by decide) sh_28 (by decide) (by omega) (by omega) (rn_28 _) (e2 c1 c2 c3) ?_
        refine G_aload_n dX1_push_41 rfl ?_
        refine G_getR (t := 29) dX1_push_42 fl_1_16 (by decide) sh_27 rr_27_1 ?_
        exact k3 c1 c2 c3
  · -- ¬ (mem 27 2) < 15
    refine G_aload_n dX1_push_9 rfl ?_
    exact k4 c1
set_option maxRecDepth 20000 in
set_option maxHeartbeats 8000000 in
theorem sg_X1_push_13 {E : Nat × (Nat → Int32)} {P : Option Value → Mem → Prop} {mem : Mem} {y1 : Nat} (w1 : -2147483648 ≤ (mem 27 2) ∧ (mem 27 2) < 2147483648) (e2 : ¬ (mem 27 2) < 0 → ¬ 15 ≤ (mem 27 2) → (mem 28 (mem 27 2)) = ((y1 : Nat) : Int)) (e3 : ¬ (mem 27 2) < 0 → ¬ 15 ≤ (mem 27 2) → y1 ∈ stateL)
    (k1 : (mem 27 2) < 0 → P none mem)
    (k2 : ¬ (mem 27 2) < 0 → 15 ≤ (mem 27 2) → P none mem)
    (k3 : ¬ (mem 27 2) < 0 → ¬ 15 ≤ (mem 27 2) → GM E (m_X1_push 3) P 45 [.ref 27] [.ref 29, .ref y1] mem) :
    GM E (m_X1_push 3) P 13 [.ref 27] [] mem := by
  refine G_aload_n dX1_push_13 rfl ?_
  refine G_getI (z := (mem 27 2)) dX1_push_14 fl_1_24 (by decide) sh_27 rfl ?_
  refine G_if_lt (tgt := 58) dX1_push_17 (by decide) (w1) (fun c1 => ?_) (fun c1 => ?_)
  · -- (mem 27 2) < 0
    exact G_vret dX1_push_58 rfl (Nat.zero_le _) (Nat.zero_le _) (Nat.le_refl _) ⟨rfl, k1 c1⟩
  · -- ¬ (mem 27 2) < 0
    refine G_aload_n dX1_push_20 rfl ?_
    refine G_getI (z := (mem 27 2)) dX1_push_21 fl_1_24 (by decide) sh_27 rfl ?_
    refine G_aload_n dX1_push_24 rfl ?_
    refine G_getR (t := 28) dX1_push_25 fl_1_11 (by decide) sh_27 rr_27_0 ?_
    refine G_alen (z := 15) dX1_push_28 (by decide) sh_28 (by decide) rfl ?_
    refine G_icmp_ge (tgt := 58) dX1_push_29 (by decide) (w1) (by decide) (fun c2 => ?_) (fun c2 => ?_)
    · -- 15 ≤ (mem 27 2)
      exact G_vret dX1_push_58 rfl (Nat.zero_le _) (Nat.zero_le _) (Nat.le_refl _) ⟨rfl, k2 c1 c2⟩
    · -- ¬ 15 ≤ (mem 27 2)
      refine G_aload_n dX1_push_32 rfl ?_
      refine G_getR (t := 28) dX1_push_33 fl_1_11 (by decide) sh_27 rr_27_0 ?_
      refine G_aload_n dX1_push_36 rfl ?_
      refine G_getI (z := (mem 27 2)) dX1_push_37 fl_1_24 (by decide) sh_27 rfl ?_
      refine G_aald4D (t := y1) dX1_push_40 (by decide) sh_28 (by decide) (by omega) (by omega) (rn_28 _) (e2 c1 c2) ?_
      refine G_aload_n dX1_push_41 rfl ?_
      refine G_getR (t := 29) dX1_push_42 fl_1_16 (by decide) sh_27 rr_27_1 ?_
      exact k3 c1 c2
set_option maxRecDepth 20000 in
set_option maxHeartbeats 8000000 in
theorem sg_X1_push_48 {E : Nat × (Nat → Int32)} {P : Option Value → Mem → Prop} {mem : Mem}
    (k1 : P none (up2 mem 27 2 ((mem 27 2) + 1))) :
    GM E (m_X1_push 3) P 48 [.ref 27] [] mem := by
  refine G_aload_n dX1_push_48 rfl ?_
  refine G_dup dX1_push_49 rfl ?_
  refine G_getI (z := (mem 27 2)) dX1_push_50 fl_1_24 (by decide) sh_27 rfl ?_
  refine G_iconst (z := 1) dX1_push_53 rfl ?_
  refine G_iadd dX1_push_54 ?_
  refine G_putI (mem2 := (up2 mem 27 2 ((mem 27 2) + 1))) dX1_push_55 fp_1_24 (by decide) sh_27 rfl ?_
  exact G_vret dX1_push_58 rfl (Nat.zero_le _) (Nat.zero_le _) (Nat.le_refl _) ⟨rfl, k1⟩
set_option maxRecDepth 20000 in
set_option maxHeartbeats 8000000 in
theorem sg_X6_change_0 {E : Nat × (Nat → Int32)} {P : Option Value → Mem → Prop} {mem : Mem} {a1 : Int} {a2 : Int} (w1 : -2147483648 ≤ a1 ∧ a1 < 2147483648) (w2 : -2147483648 ≤ a2 ∧ a2 < 2147483648) (w3 : ¬ a1 < 0 → ¬ 7 ≤ a1 → -2147483648 ≤ (leastT.getD (a1).toNat 0) ∧ (leastT.getD (a1).toNat 0) < 2147483648) (w4 : ¬ a1 < 0 → ¬ 7 ≤ a1 → ¬ a2 < (leastT.getD (a1).toNat 0) → -2147483648 ≤ (greatT.getD (a1).toNat 0) ∧ (greatT.getD (a1).toNat 0) < 2147483648)
    (k1 : a1 < 0 → P (some (vi (-1))) mem)
    (k2 : ¬ a1 < 0 → 7 ≤ a1 → P (some (vi (-1))) mem)
    (k3 : ¬ a1 < 0 → ¬ 7 ≤ a1 → a2 < (leastT.getD (a1).toNat 0) → P (some (vi (-1))) mem)
    (k4 : ¬ a1 < 0 → ¬ 7 ≤ a1 → ¬ a2 < (leastT.getD (a1).toNat 0) → a2 ≤ (greatT.getD (a1).toNat 0) → P (some (vi (mem 4 a1))) (up2 mem 4 a1 a2))
    (k5 : ¬ a1 < 0 → ¬ 7 ≤ a1 → ¬ a2 < (leastT.getD (a1).toNat 0) → ¬ a2 ≤ (greatT.getD (a1).toNat 0) → P (some (vi (-1))) mem) :
    GM E (m_X6_change 0) P 0 [.ref 3, vi a1, vi a2, un] [] mem := by
  refine G_iload_n dX6_change_0 rfl ?_
  refine G_if_lt (tgt := 31) dX6_change_1 (by decide) (w1) (fun c1 => ?_) (fun c1 => ?_)
  · -- a1 < 0
    refine G_iconst (z := (-1)) dX6_change_31 rfl ?_
    exact G_iret dX6_change_32 rfl (Nat.zero_le _) (Nat.zero_le _) (Nat.le_refl _) ⟨rfl, k1 c1⟩
  · -- ¬ a1 < 0
    refine G_iload_n dX6_change_4 rfl ?_
    refine G_aload_n dX6_change_5 rfl ?_
    refine G_getR (t := 4) dX6_change_6 fl_6_9 (by decide) sh_3 rr_3_0 ?_
    refine G_alen (z := 7) dX6_change_9 (by decide) sh_4 (by decide) rfl ?_
    refine G_icmp_ge (tgt := 31) dX6_change_10 (by decide) (w1) (by decide) (fun c2 => ?_) (fun c2 => ?_)
    · -- 7 ≤ a1
      refine G_iconst (z := (-1)) dX6_change_31 rfl ?_
      exact G_iret dX6_change_32 rfl (Nat.zero_le _) (Nat.zero_le _) (Nat.le_refl _) ⟨rfl, k2 c1 c2⟩
    · -- ¬ 7 ≤ a1
      refine G_iload_n dX6_change_13 rfl ?_
      refine G_gLeast (ref := "") dX6_change_14 gs_6_15 (by decide) ?_
      refine G_iload_n dX6_change_17 rfl ?_
      refine G_tLeast (z := (leastT.getD (a1).toNat 0)) dX6_change_18 (by decide) (by omega) (by omega) rfl ?_
      refine G_icmp_lt (tgt := 31) dX6_change_19 (by decide) (w2) (w3 c1 c2) (fun c3 => ?_) (fun c3 => ?_)
      · -- a2 < (leastT.getD (a1).toNat 0)
        refine G_iconst (z := (-1)) dX6_change_31 rfl ?_
        exact G_iret dX6_change_32 rfl (Nat.zero_le _) (Nat.zero_le _) (Nat.le_refl _) ⟨rfl, k3 c1 c2 c3⟩
      · -- ¬ a2 < (leastT.getD (a1).toNat 0)
        refine G_iload_n dX6_change_22 rfl ?_
        refine G_gGreat (ref := "") dX6_change_23 gs_6_18 (by decide) ?_
        refine G_iload_n dX6_change_26 rfl ?_
        refine G_tGreat (z := (greatT.getD (a1).toNat 0)) dX6_change_27 (by decide) (by omega) (by omega) rfl ?_
        refine G_icmp_le (tgt := 33) dX6_change_28 (by decide) (w2) (w4 c1 c2 c3) (fun c4 => ?_) (fun c4 => ?_)
        · -- a2 ≤ (greatT.getD (a1).toNat 0)
          refine G_aload_n dX6_change_33 rfl ?_
          refine G_getR (t := 4) dX6_change_34 fl_6_9 (by decide) sh_3 rr_3_0 ?_
          refine G_iload_n dX6_change_37 rfl ?_
          refine G_iald (z := (mem 4 a1)) dX6_change_38 (by decide) sh_4 (by decide) (by omega) (by omega) rfl ?_
          refine G_istore_n dX6_change_39 rfl (by decide : 3 < 4) rfl ?_
          refine G_aload_n dX6_change_40 rfl ?_
          refine G_getR (t := 4) dX6_change_41 fl_6_9 (by decide) sh_3 rr_3_0 ?_
          refine G_iload_n dX6_change_44 rfl ?_
          refine G_iload_n dX6_change_45 rfl ?_
          refine G_iast (mem2 := (up2 mem 4 a1 a2)) dX6_change_46 (by decide) sh_4 (by decide) (by omega) (by omega) rfl ?_
          refine G_iload_n dX6_change_47 rfl ?_
          exact G_iret dX6_change_48 rfl (Nat.zero_le _) (Nat.zero_le _) (Nat.le_refl _) ⟨rfl, k4 c1 c2 c3 c4⟩
        · -- ¬ a2 ≤ (greatT.getD (a1).toNat 0)
          refine G_iconst (z := (-1)) dX6_change_31 rfl ?_
          exact G_iret dX6_change_32 rfl (Nat.zero_le _) (Nat.zero_le _) (Nat.le_refl _) ⟨rfl, k5 c1 c2 c3 c4⟩
set_option maxRecDepth 20000 in
set_option maxHeartbeats 8000000 in
theorem sg_X6_tooHeavy_0 {E : Nat × (Nat → Int32)} {P : Option Value → Mem → Prop} {mem : Mem} {o1 : Nat} {a2 : Int} {a3 : Int} (ho1 : o1 ∈ streetL)
    (k1 : GM E (m_X6_tooHeavy 2) P 6 [.ref 3, .ref o1, vi a2, vi a3, vi 0, vi 0] [] mem) :
    GM E (m_X6_tooHeavy 2) P 0 [.ref 3, .ref o1, vi a2, vi a3, un, un] [] mem := by
  refine G_iconst (z := 0) dX6_tooHeavy_0 rfl ?_
  refine G_istore dX6_tooHeavy_1 (by decide : 4 < 6) rfl ?_
  refine G_iconst (z := 0) dX6_tooHeavy_3 rfl ?_
  refine G_istore dX6_tooHeavy_4 (by decide : 5 < 6) rfl ?_
  exact k1
set_option maxRecDepth 20000 in
set_option maxHeartbeats 8000000 in
theorem sg_X6_tooHeavy_6 {E : Nat × (Nat → Int32)} {P : Option Value → Mem → Prop} {mem : Mem} {o1 : Nat} {a2 : Int} {a3 : Int} {a4 : Int} {a5 : Int} (ho1 : o1 ∈ streetL) (w1 : -2147483648 ≤ a5 ∧ a5 < 2147483648) (q2 : ¬ 16 ≤ a5 → ¬ (bandI (shrI a2 a5) 1) = 0 → 0 ≤ a5 ∧ a5 < 16) (w3 : ¬ 16 ≤ a5 → ¬ (bandI (shrI a2 a5) 1) = 0 → -2147483648 ≤ (mem 4 4) ∧ (mem 4 4) < 2147483648)
    (k1 : 16 ≤ a5 → P (some (vi a4)) mem)
    (k2 : ¬ 16 ≤ a5 → GM E (m_X6_tooHeavy 2) P 6 [.ref 3, .ref o1, vi a2, vi a3, vi (if (bandI (shrI a2 a5) 1) = 0 then a4 else (if (divI (((mem (o1 + 1) a5) * (mem 4 3)) * (10 + a3)) 10) ≤ (mem 4 4) then a4 else (a4 + 1))), vi (a5 + 1)] [] mem) :
    GM E (m_X6_tooHeavy 2) P 6 [.ref 3, .ref o1, vi a2, vi a3, vi a4, vi a5] [] mem := by
  refine G_iload dX6_tooHeavy_6 rfl ?_
  refine G_bipush (z := 16) dX6_tooHeavy_8 rfl ?_
  refine G_icmp_ge (tgt := 50) dX6_tooHeavy_10 (by decide) (w1) (by decide) (fun c1 => ?_) (fun c1 => ?_)
  · -- 16 ≤ a5
    refine G_iload dX6_tooHeavy_50 rfl ?_
    exact G_iret dX6_tooHeavy_52 rfl (Nat.zero_le _) (Nat.zero_le _) (Nat.le_refl _) ⟨rfl, k1 c1⟩
  · -- ¬ 16 ≤ a5
    refine G_iload_n dX6_tooHeavy_13 rfl ?_
    refine G_iload dX6_tooHeavy_14 rfl ?_
    refine G_ishr (z := (shrI a2 a5)) dX6_tooHeavy_16 (iI_inv _) ?_
    refine G_iconst (z := 1) dX6_tooHeavy_17 rfl ?_
    refine G_iand (z := (bandI (shrI a2 a5) 1)) dX6_tooHeavy_18 (iI_inv _) ?_
    have j1 : GM E (m_X6_tooHeavy 2) P 44 [.ref 3, .ref o1, vi a2, vi a3, vi (if (bandI (shrI a2 a5) 1) = 0 then a4 else (if (divI (((mem (o1 + 1) a5) * (mem 4 3)) * (10 + a3)) 10) ≤ (mem 4 4) then a4 else (a4 + 1))), vi a5] [] mem := by
      refine G_iinc (z := (a5 + 1)) dX6_tooHeavy_44 rfl rfl (by decide : 5 < 6) rfl ?_
      refine G_goto (tgt := 6) dX6_tooHeavy_47 (by decide) ?_
      exact k2 c1
    refine G_if_eq (tgt := 44) dX6_tooHeavy_19 (by decide) (iI_rng _) (fun c2 => ?_) (fun c2 => ?_)
    · -- (bandI (shrI a2 a5) 1) = 0
      have qj1 := j1
      simp only [if_pos c2] at qj1
      exact qj1
    · -- ¬ (bandI (shrI a2 a5) 1) = 0
      refine G_aload_n dX6_tooHeavy_22 rfl ?_
      refine G_aload_n dX6_tooHeavy_23 rfl ?_
      refine G_iload dX6_tooHeavy_24 rfl ?_
      refine cb_X6_tooHeavy_26 ho1 (ic_X8_weightAt (z := (mem (o1 + 1) a5)) ho1 ⟨(q2 c1 c2).1, (q2 c1 c2).2⟩ rfl ?_)
      refine G_iload_n dX6_tooHeavy_29 rfl ?_
      refine cb_X6_tooHeavy_30 (ic_X6_heavy (z := (mem 4 3)) rfl ?_)
      refine G_aload_n dX6_tooHeavy_33 rfl ?_
      refine G_iconst (z := 4) dX6_tooHeavy_34 rfl ?_
      refine cb_X6_tooHeavy_35 (ic_X6_get (z := (mem 4 4)) (by decide) rfl ?_)
      have j2 : GM E (m_X6_tooHeavy 2) P 44 [.ref 3, .ref o1, vi a2, vi a3, vi (if (divI (((mem (o1 + 1) a5) * (mem 4 3)) * (10 + a3)) 10) ≤ (mem 4 4) then a4 else (a4 + 1)), vi a5] [] mem := by
        have qj1 := j1
        simp only [if_neg c2] at qj1
        exact qj1
      refine G_icmp_le (tgt := 44) dX6_tooHeavy_38 (by decide) (iI_rng _) (w3 c1 c2) (fun c3 => ?_) (fun c3 => ?_)
      · -- (divI (((mem (o1 + 1) a5) * (mem 4 3)) * (10 + a3)) 10) ≤ (mem 4 4)
        have qj2 := j2
        simp only [if_pos c3] at qj2
        exact qj2
      · -- ¬ (divI (((mem (o1 + 1) a5) * (mem 4 3)) * (10 + a3)) 10) ≤ (mem 4 4)
        refine G_iinc (z := (a4 + 1)) dX6_tooHeavy_41 rfl rfl (by decide : 4 < 6) rfl ?_
        have qj2 := j2
        simp only [if_neg c3] at qj2
        exact qj2
set_option maxRecDepth 20000 in
set_option maxHeartbeats 8000000 in
theorem sg_X6_weigh_0 {E : Nat × (Nat → Int32)} {P : Option Value → Mem → Prop} {mem : Mem} {o1 : Nat} {a2 : Int} {a3 : Int} (ho1 : o1 ∈ streetL)
    (k1 : GM E (m_X6_weigh 2) P 6 [.ref 3, .ref o1, vi a2, vi a3, vi 0, vi 0] [] mem) :
    GM E (m_X6_weigh 2) P 0 [.ref 3, .ref o1, vi a2, vi a3, un, un] [] mem := by
  refine G_iconst (z := 0) dX6_weigh_0 rfl ?_
  refine G_istore dX6_weigh_1 (by decide : 4 < 6) rfl ?_
  refine G_iconst (z := 0) dX6_weigh_3 rfl ?_
  refine G_istore dX6_weigh_4 (by decide : 5 < 6) rfl ?_
  exact k1
set_option maxRecDepth 20000 in
set_option maxHeartbeats 8000000 in
theorem sg_X6_weigh_6 {E : Nat × (Nat → Int32)} {P : Option Value → Mem → Prop} {mem : Mem} {o1 : Nat} {a2 : Int} {a3 : Int} {a4 : Int} {a5 : Int} (ho1 : o1 ∈ streetL) (w1 : -2147483648 ≤ a5 ∧ a5 < 2147483648) (q2 : ¬ 16 ≤ a5 → ¬ (bandI (shrI a2 a5) 1) = 0 → 0 ≤ a5 ∧ a5 < 16)
    (k1 : 16 ≤ a5 → P (some (vi a4)) mem)
    (k2 : ¬ 16 ≤ a5 → GM E (m_X6_weigh 2) P 6 [.ref 3, .ref o1, vi a2, vi a3, vi (if (bandI (shrI a2 a5) 1) = 0 then a4 else (a4 + (divI (((mem (o1 + 1) a5) * (mem 4 3)) * (10 + a3)) 10))), vi (a5 + 1)] [] mem) :
    GM E (m_X6_weigh 2) P 6 [.ref 3, .ref o1, vi a2, vi a3, vi a4, vi a5] [] mem := by
  refine G_iload dX6_weigh_6 rfl ?_
  refine G_bipush (z := 16) dX6_weigh_8 rfl ?_
  refine G_icmp_ge (tgt := 44) dX6_weigh_10 (by decide) (w1) (by decide) (fun c1 => ?_) (fun c1 => ?_)
  · -- 16 ≤ a5
    refine G_iload dX6_weigh_44 rfl ?_
    exact G_iret dX6_weigh_46 rfl (Nat.zero_le _) (Nat.zero_le _) (Nat.le_refl _) ⟨rfl, k1 c1⟩
  · -- ¬ 16 ≤ a5
    refine G_iload_n dX6_weigh_13 rfl ?_
    refine G_iload dX6_weigh_14 rfl ?_
    refine G_ishr (z := (shrI a2 a5)) dX6_weigh_16 (iI_inv _) ?_
    refine G_iconst (z := 1) dX6_weigh_17 rfl ?_
    refine G_iand (z := (bandI (shrI a2 a5) 1)) dX6_weigh_18 (iI_inv _) ?_
    have j1 : GM E (m_X6_weigh 2) P 38 [.ref 3, .ref o1, vi a2, vi a3, vi (if (bandI (shrI a2 a5) 1) = 0 then a4 else (a4 + (divI (((mem (o1 + 1) a5) * (mem 4 3)) * (10 + a3)) 10))), vi a5] [] mem := by
      refine G_iinc (z := (a5 + 1)) dX6_weigh_38 rfl rfl (by decide : 5 < 6) rfl ?_
      refine G_goto (tgt := 6) dX6_weigh_41 (by decide) ?_
      exact k2 c1
    refine G_if_eq (tgt := 38) dX6_weigh_19 (by decide) (iI_rng _) (fun c2 => ?_) (fun c2 => ?_)
    · -- (bandI (shrI a2 a5) 1) = 0
      have qj1 := j1
      simp only [if_pos c2] at qj1
      exact qj1
    · -- ¬ (bandI (shrI a2 a5) 1) = 0
      refine G_iload dX6_weigh_22 rfl ?_
      refine G_aload_n dX6_weigh_24 rfl ?_
      refine G_aload_n dX6_weigh_25 rfl ?_
      refine G_iload dX6_weigh_26 rfl ?_
      refine cb_X6_weigh_28 ho1 (ic_X8_weightAt (z := (mem (o1 + 1) a5)) ho1 ⟨(q2 c1 c2).1, (q2 c1 c2).2⟩ rfl ?_)
      refine G_iload_n dX6_weigh_31 rfl ?_
      refine cb_X6_weigh_32 (ic_X6_heavy (z := (mem 4 3)) rfl ?_)
      refine G_iadd dX6_weigh_35 ?_
      refine G_istore dX6_weigh_36 (by decide : 4 < 6) rfl ?_
      have qj1 := j1
      simp only [if_neg c2] at qj1
      exact qj1
set_option maxRecDepth 20000 in
set_option maxHeartbeats 8000000 in
theorem sg_X7_become_0 {E : Nat × (Nat → Int32)} {P : Option Value → Mem → Prop} {mem : Mem} {o : Nat} {o1 : Nat} (ho : o ∈ stateL) (ho1 : o1 ∈ stateL)
    (k1 : P none (up2 (up2 (up2 (upr (upr (upr mem (o + 1) (cpyR (mem (o1 + 1)) (mem (o + 1)) 6)) (o + 2) (cpyR ((upr mem (o + 1) (cpyR (mem (o1 + 1)) (mem (o + 1)) 6)) (o1 + 2)) ((upr mem (o + 1) (cpyR (mem (o1 + 1)) (mem (o + 1)) 6)) (o + 2)) 6)) (o + 3) (cpyR ((upr (upr mem (o + 1) (cpyR (mem (o1 + 1)) (mem (o + 1)) 6)) (o + 2) (cpyR ((upr mem (o + 1) (cpyR (mem (o1 + 1)) (mem (o + 1)) 6)) (o1 + 2)) ((upr mem (o + 1) (cpyR (mem (o1 + 1)) (mem (o + 1)) 6)) (o + 2)) 6)) (o1 + 3)) ((upr (upr mem (o + 1) (cpyR (mem (o1 + 1)) (mem (o + 1)) 6)) (o + 2) (cpyR ((upr mem (o + 1) (cpyR (mem (o1 + 1)) (mem (o + 1)) 6)) (o1 + 2)) ((upr mem (o + 1) (cpyR (mem (o1 + 1)) (mem (o + 1)) 6)) (o + 2)) 6)) (o + 3)) 6)) o 3 ((upr (upr (upr mem (o + 1) (cpyR (mem (o1 + 1)) (mem (o + 1)) 6)) (o + 2) (cpyR ((upr mem (o + 1) (cpyR (mem (o1 + 1)) (mem (o + 1)) 6)) (o1 + 2)) ((upr mem (o + 1) (cpyR (mem (o1 + 1)) (mem (o + 1)) 6)) (o + 2)) 6)) (o + 3) (cpyR ((upr (upr mem (o + 1) (cpyR (mem (o1 + 1)) (mem (o + 1)) 6)) (o + 2) (cpyR ((upr mem (o + 1) (cpyR (mem (o1 + 1)) (mem (o + 1)) 6)) (o1 + 2)) ((upr mem (o + 1) (cpyR (mem (o1 + 1)) (mem (o + 1)) 6)) (o + 2)) 6)) (o1 + 3)) ((upr (upr mem (o + 1) (cpyR (mem (o1 + 1)) (mem (o + 1)) 6)) (o + 2) (cpyR ((upr mem (o + 1) (cpyR (mem (o1 + 1)) (mem (o + 1)) 6)) (o1 + 2)) ((upr mem (o + 1) (cpyR (mem (o1 + 1)) (mem (o + 1)) 6)) (o + 2)) 6)) (o + 3)) 6)) o1 3)) o 4 ((up2 (upr (upr (upr mem (o + 1) (cpyR (mem (o1 + 1)) (mem (o + 1)) 6)) (o + 2) (cpyR ((upr mem (o + 1) (cpyR (mem (o1 + 1)) (mem (o + 1)) 6)) (o1 + 2)) ((upr mem (o + 1) (cpyR (mem (o1 + 1)) (mem (o + 1)) 6)) (o + 2)) 6)) (o + 3) (cpyR ((upr (upr mem (o + 1) (cpyR (mem (o1 + 1)) (mem (o + 1)) 6)) (o + 2) (cpyR ((upr mem (o + 1) (cpyR (mem (o1 + 1)) (mem (o + 1)) 6)) (o1 + 2)) ((upr mem (o + 1) (cpyR (mem (o1 + 1)) (mem (o + 1)) 6)) (o + 2)) 6)) (o1 + 3)) ((upr (upr mem (o + 1) (cpyR (mem (o1 + 1)) (mem (o + 1)) 6)) (o + 2) (cpyR ((upr mem (o + 1) (cpyR (mem (o1 + 1)) (mem (o + 1)) 6)) (o1 + 2)) ((upr mem (o + 1) (cpyR (mem (o1 + 1)) (mem (o + 1)) 6)) (o + 2)) 6)) (o + 3)) 6)) o 3 ((upr (upr (upr mem (o + 1) (cpyR (mem (o1 + 1)) (mem (o + 1)) 6)) (o + 2) (cpyR ((upr mem (o + 1) (cpyR (mem (o1 + 1)) (mem (o + 1)) 6)) (o1 + 2)) ((upr mem (o + 1) (cpyR (mem (o1 + 1)) (mem (o + 1)) 6)) (o + 2)) 6)) (o + 3) (cpyR ((upr (upr mem (o + 1) (cpyR (mem (o1 + 1)) (mem (o + 1)) 6)) (o + 2) (cpyR ((upr mem (o + 1) (cpyR (mem (o1 + 1)) (mem (o + 1)) 6)) (o1 + 2)) ((upr mem (o + 1) (cpyR (mem (o1 + 1)) (mem (o + 1)) 6)) (o + 2)) 6)) (o1 + 3)) ((upr (upr mem (o + 1) (cpyR (mem (o1 + 1)) (mem (o + 1)) 6)) (o + 2) (cpyR ((upr mem (o + 1) (cpyR (mem (o1 + 1)) (mem (o + 1)) 6)) (o1 + 2)) ((upr mem (o + 1) (cpyR (mem (o1 + 1)) (mem (o + 1)) 6)) (o + 2)) 6)) (o + 3)) 6)) o1 3)) o1 4)) o 5 ((up2 (up2 (upr (upr (upr mem (o + 1) (cpyR (mem (o1 + 1)) (mem (o + 1)) 6)) (o + 2) (cpyR ((upr mem (o + 1) (cpyR (mem (o1 + 1)) (mem (o + 1)) 6)) (o1 + 2)) ((upr mem (o + 1) (cpyR (mem (o1 + 1)) (mem (o + 1)) 6)) (o + 2)) 6)) (o + 3) (cpyR ((upr (upr mem (o + 1) (cpyR (mem (o1 + 1)) (mem (o + 1)) 6)) (o + 2) (cpyR ((upr mem (o + 1) (cpyR (mem (o1 + 1)) (mem (o + 1)) 6)) (o1 + 2)) ((upr mem (o + 1) (cpyR (mem (o1 + 1)) (mem (o + 1)) 6)) (o + 2)) 6)) (o1 + 3)) ((upr (upr mem (o + 1) (cpyR (mem (o1 + 1)) (mem (o + 1)) 6)) (o + 2) (cpyR ((upr mem (o + 1) (cpyR (mem (o1 + 1)) (mem (o + 1)) 6)) (o1 + 2)) ((upr mem (o + 1) (cpyR (mem (o1 + 1)) (mem (o + 1)) 6)) (o + 2)) 6)) (o + 3)) 6)) o 3 ((upr (upr (upr mem (o + 1) (cpyR (mem (o1 + 1)) (mem (o + 1)) 6)) (o + 2) (cpyR ((upr mem (o + 1) (cpyR (mem (o1 + 1)) (mem (o + 1)) 6)) (o1 + 2)) ((upr mem (o + 1) (cpyR (mem (o1 + 1)) (mem (o + 1)) 6)) (o + 2)) 6)) (o + 3) (cpyR ((upr (upr mem (o + 1) (cpyR (mem (o1 + 1)) (mem (o + 1)) 6)) (o + 2) (cpyR ((upr mem (o + 1) (cpyR (mem (o1 + 1)) (mem (o + 1)) 6)) (o1 + 2)) ((upr mem (o + 1) (cpyR (mem (o1 + 1)) (mem (o + 1)) 6)) (o + 2)) 6)) (o1 + 3)) ((upr (upr mem (o + 1) (cpyR (mem (o1 + 1)) (mem (o + 1)) 6)) (o + 2) (cpyR ((upr mem (o + 1) (cpyR (mem (o1 + 1)) (mem (o + 1)) 6)) (o1 + 2)) ((upr mem (o + 1) (cpyR (mem (o1 + 1)) (mem (o + 1)) 6)) (o + 2)) 6)) (o + 3)) 6)) o1 3)) o 4 ((up2 (upr (upr (upr mem (o + 1) (cpyR (mem (o1 + 1)) (mem (o + 1)) 6)) (o + 2) (cpyR ((upr mem (o + 1) (cpyR (mem (o1 + 1)) (mem (o + 1)) 6)) (o1 + 2)) ((upr mem (o + 1) (cpyR (mem (o1 + 1)) (mem (o + 1)) 6)) (o + 2)) 6)) (o + 3) (cpyR ((upr (upr mem (o + 1) (cpyR (mem (o1 + 1)) (mem (o + 1)) 6)) (o + 2) (cpyR ((upr mem (o + 1) (cpyR (mem (o1 + 1)) (mem (o + 1)) 6)) (o1 + 2)) ((upr mem (o + 1) (cpyR (mem (o1 + 1)) (mem (o + 1)) 6)) (o + 2)) 6)) (o1 + 3)) ((upr (upr mem (o + 1) (cpyR (mem (o1 + 1)) (mem (o + 1)) 6)) (o + 2) (cpyR ((upr mem (o + 1) (cpyR (mem (o1 + 1)) (mem (o + 1)) 6)) (o1 + 2)) ((upr mem (o + 1) (cpyR (mem (o1 + 1)) (mem (o + 1)) 6)) (o + 2)) 6)) (o + 3)) 6)) o 3 ((upr (upr (upr mem (o + 1) (cpyR (mem (o1 + 1)) (mem (o + 1)) 6)) (o + 2) (cpyR ((upr mem (o + 1) (cpyR (mem (o1 + 1)) (mem (o + 1)) 6)) (o1 + 2)) ((upr mem (o + 1) (cpyR (mem (o1 + 1)) (mem (o + 1)) 6)) (o + 2)) 6)) (o + 3) (cpyR ((upr (upr mem (o + 1) (cpyR (mem (o1 + 1)) (mem (o + 1)) 6)) (o + 2) (cpyR ((upr mem (o + 1) (cpyR (mem (o1 + 1)) (mem (o + 1)) 6)) (o1 + 2)) ((upr mem (o + 1) (cpyR (mem (o1 + 1)) (mem (o + 1)) 6)) (o + 2)) 6)) (o1 + 3)) ((upr (upr mem (o + 1) (cpyR (mem (o1 + 1)) (mem (o + 1)) 6)) (o + 2) (cpyR ((upr mem (o + 1) (cpyR (mem (o1 + 1)) (mem (o + 1)) 6)) (o1 + 2)) ((upr mem (o + 1) (cpyR (mem (o1 + 1)) (mem (o + 1)) 6)) (o + 2)) 6)) (o + 3)) 6)) o1 3)) o1 4)) o1 5))) :
    GM E (m_X7_become 2) P 0 [.ref o, .ref o1] [] mem := by
  refine G_aload_n dX7_become_0 rfl ?_
  refine G_getR (t := (o1 + 1)) dX7_become_1 fl_7_9 (ltState0 ho1) (shState0 ho1) (rrState_0 ho1) ?_
  refine G_iconst (z := 0) dX7_become_4 rfl ?_
  refine G_aload_n dX7_become_5 rfl ?_
  refine G_getR (t := (o + 1)) dX7_become_6 fl_7_9 (ltState0 ho) (shState0 ho) (rrState_0 ho) ?_
  refine G_iconst (z := 0) dX7_become_9 rfl ?_
  refine G_bipush (z := 6) dX7_become_10 rfl ?_
  refine G_copy (mem2 := (upr mem (o + 1) (cpyR (mem (o1 + 1)) (mem (o + 1)) 6))) dX7_become_12 ml_7_21 mw_copy (ltState1 ho1) (shState1 ho1) (ltState1 ho) (shState1 ho) (by decide) (by decide) (by decide) (by decide) (by decide) (by decide) ⟨by show 1 ≤ 2; first | decide | omega, by show 80 ≤ 40 * 2; first | decide | omega⟩ (Nat.le_of_ble_eq_true rfl) (cpy_00 _ _ _ _) ?_
  refine G_aload_n dX7_become_15 rfl ?_
  refine G_getR (t := (o1 + 2)) dX7_become_16 fl_7_15 (ltState0 ho1) (shState0 ho1) (rrState_1 ho1) ?_
  refine G_iconst (z := 0) dX7_become_19 rfl ?_
  refine G_aload_n dX7_become_20 rfl ?_
  refine G_getR (t := (o + 2)) dX7_become_21 fl_7_15 (ltState0 ho) (shState0 ho) (rrState_1 ho) ?_
  refine G_iconst (z := 0) dX7_become_24 rfl ?_
  refine G_bipush (z := 6) dX7_become_25 rfl ?_
  refine G_copy (mem2 := (upr (upr mem (o + 1) (cpyR (mem (o1 + 1)) (mem (o + 1)) 6)) (o + 2) (cpyR ((upr mem (o + 1) (cpyR (mem (o1 + 1)) (mem (o + 1)) 6)) (o1 + 2)) ((upr mem (o + 1) (cpyR (mem (o1 + 1)) (mem (o + 1)) 6)) (o + 2)) 6))) dX7_become_27 ml_7_21 mw_copy (ltState2 ho1) (shState2 ho1) (ltState2 ho) (shState2 ho) (by decide) (by decide) (by decide) (by decide) (by decide) (by decide) ⟨by show 1 ≤ 2; first | decide | omega, by show 80 ≤ 40 * 2; first | decide | omega⟩ (Nat.le_of_ble_eq_true rfl) (cpy_00 _ _ _ _) ?_
  refine G_aload_n dX7_become_30 rfl ?_
  refine G_getR (t := (o1 + 3)) dX7_become_31 fl_7_18 (ltState0 ho1) (shState0 ho1) (rrState_2 ho1) ?_
  refine G_iconst (z := 0) dX7_become_34 rfl ?_
  refine G_aload_n dX7_become_35 rfl ?_
  refine G_getR (t := (o + 3)) dX7_become_36 fl_7_18 (ltState0 ho) (shState0 ho) (rrState_2 ho) ?_
  refine G_iconst (z := 0) dX7_become_39 rfl ?_
  refine G_bipush (z := 6) dX7_become_40 rfl ?_
  refine G_copy (mem2 := (upr (upr (upr mem (o + 1) (cpyR (mem (o1 + 1)) (mem (o + 1)) 6)) (o + 2) (cpyR ((upr mem (o + 1) (cpyR (mem (o1 + 1)) (mem (o + 1)) 6)) (o1 + 2)) ((upr mem (o + 1) (cpyR (mem (o1 + 1)) (mem (o + 1)) 6)) (o + 2)) 6)) (o + 3) (cpyR ((upr (upr mem (o + 1) (cpyR (mem (o1 + 1)) (mem (o + 1)) 6)) (o + 2) (cpyR ((upr mem (o + 1) (cpyR (mem (o1 + 1)) (mem (o + 1)) 6)) (o1 + 2)) ((upr mem (o + 1) (cpyR (mem (o1 + 1)) (mem (o + 1)) 6)) (o + 2)) 6)) (o1 + 3)) ((upr (upr mem (o + 1) (cpyR (mem (o1 + 1)) (mem (o + 1)) 6)) (o + 2) (cpyR ((upr mem (o + 1) (cpyR (mem (o1 + 1)) (mem (o + 1)) 6)) (o1 + 2)) ((upr mem (o + 1) (cpyR (mem (o1 + 1)) (mem (o + 1)) 6)) (o + 2)) 6)) (o + 3)) 6))) dX7_become_42 ml_7_21 mw_copy (ltState3 ho1) (shState3 ho1) (ltState3 ho) (shState3 ho) (by decide) (by decide) (by decide) (by decide) (by decide) (by decide) ⟨by show 1 ≤ 2; first | decide | omega, by show 80 ≤ 40 * 2; first | decide | omega⟩ (Nat.le_of_ble_eq_true rfl) (cpy_00 _ _ _ _) ?_
  refine G_aload_n dX7_become_45 rfl ?_
  refine G_aload_n dX7_become_46 rfl ?_
  refine G_getI (z := ((upr (upr (upr mem (o + 1) (cpyR (mem (o1 + 1)) (mem (o + 1)) 6)) (o + 2) (cpyR ((upr mem (o + 1) (cpyR (mem (o1 + 1)) (mem (o + 1)) 6)) (o1 + 2)) ((upr mem (o + 1) (cpyR (mem (o1 + 1)) (mem (o + 1)) 6)) (o + 2)) 6)) (o + 3) (cpyR ((upr (upr mem (o + 1) (cpyR (mem (o1 + 1)) (mem (o + 1)) 6)) (o + 2) (cpyR ((upr mem (o + 1) (cpyR (mem (o1 + 1)) (mem (o + 1)) 6)) (o1 + 2)) ((upr mem (o + 1) (cpyR (mem (o1 + 1)) (mem (o + 1)) 6)) (o + 2)) 6)) (o1 + 3)) ((upr (upr mem (o + 1) (cpyR (mem (o1 + 1)) (mem (o + 1)) 6)) (o + 2) (cpyR ((upr mem (o + 1) (cpyR (mem (o1 + 1)) (mem (o + 1)) 6)) (o1 + 2)) ((upr mem (o + 1) (cpyR (mem (o1 + 1)) (mem (o + 1)) 6)) (o + 2)) 6)) (o + 3)) 6)) o1 3)) dX7_become_47 fl_7_27 (ltState0 ho1) (shState0 ho1) (by simp [up2, upr]) ?_
  refine G_putI (mem2 := (up2 (upr (upr (upr mem (o + 1) (cpyR (mem (o1 + 1)) (mem (o + 1)) 6)) (o + 2) (cpyR ((upr mem (o + 1) (cpyR (mem (o1 + 1)) (mem (o + 1)) 6)) (o1 + 2)) ((upr mem (o + 1) (cpyR (mem (o1 + 1)) (mem (o + 1)) 6)) (o + 2)) 6)) (o + 3) (cpyR ((upr (upr mem (o + 1) (cpyR (mem (o1 + 1)) (mem (o + 1)) 6)) (o + 2) (cpyR ((upr mem (o + 1) (cpyR (mem (o1 + 1)) (mem (o + 1)) 6)) (o1 + 2)) ((upr mem (o + 1) (cpyR (mem (o1 + 1)) (mem (o + 1)) 6)) (o + 2)) 6)) (o1 + 3)) ((upr (upr mem (o + 1) (cpyR (mem (o1 + 1)) (mem (o + 1)) 6)) (o + 2) (cpyR ((upr mem (o + 1) (cpyR (mem (o1 + 1)) (mem (o + 1)) 6)) (o1 + 2)) ((upr mem (o + 1) (cpyR (mem (o1 + 1)) (mem (o + 1)) 6)) (o + 2)) 6)) (o + 3)) 6)) o 3 ((upr (upr (upr mem (o + 1) (cpyR (mem (o1 + 1)) (mem (o + 1)) 6)) (o + 2) (cpyR ((upr mem (o + 1) (cpyR (mem (o1 + 1)) (mem (o + 1)) 6)) (o1 + 2)) ((upr mem (o + 1) (cpyR (mem (o1 + 1)) (mem (o + 1)) 6)) (o + 2)) 6)) (o + 3) (cpyR ((upr (upr mem (o + 1) (cpyR (mem (o1 + 1)) (mem (o + 1)) 6)) (o + 2) (cpyR ((upr mem (o + 1) (cpyR (mem (o1 + 1)) (mem (o + 1)) 6)) (o1 + 2)) ((upr mem (o + 1) (cpyR (mem (o1 + 1)) (mem (o + 1)) 6)) (o + 2)) 6)) (o1 + 3)) ((upr (upr mem (o + 1) (cpyR (mem (o1 + 1)) (mem (o + 1)) 6)) (o + 2) (cpyR ((upr mem (o + 1) (cpyR (mem (o1 + 1)) (mem (o + 1)) 6)) (o1 + 2)) ((upr mem (o + 1) (cpyR (mem (o1 + 1)) (mem (o + 1)) 6)) (o + 2)) 6)) (o + 3)) 6)) o1 3))) dX7_become_50 fp_7_27 (ltState0 ho) (shState0 ho) rfl ?_
  refine G_aload_n dX7_become_53 rfl ?_
  refine G_aload_n dX7_become_54 rfl ?_
  refine G_getI (z := ((up2 (upr (upr (upr mem (o + 1) (cpyR (mem (o1 + 1)) (mem (o + 1)) 6)) (o + 2) (cpyR ((upr mem (o + 1) (cpyR (mem (o1 + 1)) (mem (o + 1)) 6)) (o1 + 2)) ((upr mem (o + 1) (cpyR (mem (o1 + 1)) (mem (o + 1)) 6)) (o + 2)) 6)) (o + 3) (cpyR ((upr (upr mem (o + 1) (cpyR (mem (o1 + 1)) (mem (o + 1)) 6)) (o + 2) (cpyR ((upr mem (o + 1) (cpyR (mem (o1 + 1)) (mem (o + 1)) 6)) (o1 + 2)) ((upr mem (o + 1) (cpyR (mem (o1 + 1)) (mem (o + 1)) 6)) (o + 2)) 6)) (o1 + 3)) ((upr (upr mem (o + 1) (cpyR (mem (o1 + 1)) (mem (o + 1)) 6)) (o + 2) (cpyR ((upr mem (o + 1) (cpyR (mem (o1 + 1)) (mem (o + 1)) 6)) (o1 + 2)) ((upr mem (o + 1) (cpyR (mem (o1 + 1)) (mem (o + 1)) 6)) (o + 2)) 6)) (o + 3)) 6)) o 3 ((upr (upr (upr mem (o + 1) (cpyR (mem (o1 + 1)) (mem (o + 1)) 6)) (o + 2) (cpyR ((upr mem (o + 1) (cpyR (mem (o1 + 1)) (mem (o + 1)) 6)) (o1 + 2)) ((upr mem (o + 1) (cpyR (mem (o1 + 1)) (mem (o + 1)) 6)) (o + 2)) 6)) (o + 3) (cpyR ((upr (upr mem (o + 1) (cpyR (mem (o1 + 1)) (mem (o + 1)) 6)) (o + 2) (cpyR ((upr mem (o + 1) (cpyR (mem (o1 + 1)) (mem (o + 1)) 6)) (o1 + 2)) ((upr mem (o + 1) (cpyR (mem (o1 + 1)) (mem (o + 1)) 6)) (o + 2)) 6)) (o1 + 3)) ((upr (upr mem (o + 1) (cpyR (mem (o1 + 1)) (mem (o + 1)) 6)) (o + 2) (cpyR ((upr mem (o + 1) (cpyR (mem (o1 + 1)) (mem (o + 1)) 6)) (o1 + 2)) ((upr mem (o + 1) (cpyR (mem (o1 + 1)) (mem (o + 1)) 6)) (o + 2)) 6)) (o + 3)) 6)) o1 3)) o1 4)) dX7_become_55 fl_7_31 (ltState0 ho1) (shState0 ho1) (by simp [up2, upr]) ?_
  refine G_putI (mem2 := (up2 (up2 (upr (upr (upr mem (o + 1) (cpyR (mem (o1 + 1)) (mem (o + 1)) 6)) (o + 2) (cpyR ((upr mem (o + 1) (cpyR (mem (o1 + 1)) (mem (o + 1)) 6)) (o1 + 2)) ((upr mem (o + 1) (cpyR (mem (o1 + 1)) (mem (o + 1)) 6)) (o + 2)) 6)) (o + 3) (cpyR ((upr (upr mem (o + 1) (cpyR (mem (o1 + 1)) (mem (o + 1)) 6)) (o + 2) (cpyR ((upr mem (o + 1) (cpyR (mem (o1 + 1)) (mem (o + 1)) 6)) (o1 + 2)) ((upr mem (o + 1) (cpyR (mem (o1 + 1)) (mem (o + 1)) 6)) (o + 2)) 6)) (o1 + 3)) ((upr (upr mem (o + 1) (cpyR (mem (o1 + 1)) (mem (o + 1)) 6)) (o + 2) (cpyR ((upr mem (o + 1) (cpyR (mem (o1 + 1)) (mem (o + 1)) 6)) (o1 + 2)) ((upr mem (o + 1) (cpyR (mem (o1 + 1)) (mem (o + 1)) 6)) (o + 2)) 6)) (o + 3)) 6)) o 3 ((upr (upr (upr mem (o + 1) (cpyR (mem (o1 + 1)) (mem (o + 1)) 6)) (o + 2) (cpyR ((upr mem (o + 1) (cpyR (mem (o1 + 1)) (mem (o + 1)) 6)) (o1 + 2)) ((upr mem (o + 1) (cpyR (mem (o1 + 1)) (mem (o + 1)) 6)) (o + 2)) 6)) (o + 3) (cpyR ((upr (upr mem (o + 1) (cpyR (mem (o1 + 1)) (mem (o + 1)) 6)) (o + 2) (cpyR ((upr mem (o + 1) (cpyR (mem (o1 + 1)) (mem (o + 1)) 6)) (o1 + 2)) ((upr mem (o + 1) (cpyR (mem (o1 + 1)) (mem (o + 1)) 6)) (o + 2)) 6)) (o1 + 3)) ((upr (upr mem (o + 1) (cpyR (mem (o1 + 1)) (mem (o + 1)) 6)) (o + 2) (cpyR ((upr mem (o + 1) (cpyR (mem (o1 + 1)) (mem (o + 1)) 6)) (o1 + 2)) ((upr mem (o + 1) (cpyR (mem (o1 + 1)) (mem (o + 1)) 6)) (o + 2)) 6)) (o + 3)) 6)) o1 3)) o 4 ((up2 (upr (upr (upr mem (o + 1) (cpyR (mem (o1 + 1)) (mem (o + 1)) 6)) (o + 2) (cpyR ((upr mem (o + 1) (cpyR (mem (o1 + 1)) (mem (o + 1)) 6)) (o1 + 2)) ((upr mem (o + 1) (cpyR (mem (o1 + 1)) (mem (o + 1)) 6)) (o + 2)) 6)) (o + 3) (cpyR ((upr (upr mem (o + 1) (cpyR (mem (o1 + 1)) (mem (o + 1)) 6)) (o + 2) (cpyR ((upr mem (o + 1) (cpyR (mem (o1 + 1)) (mem (o + 1)) 6)) (o1 + 2)) ((upr mem (o + 1) (cpyR (mem (o1 + 1)) (mem (o + 1)) 6)) (o + 2)) 6)) (o1 + 3)) ((upr (upr mem (o + 1) (cpyR (mem (o1 + 1)) (mem (o + 1)) 6)) (o + 2) (cpyR ((upr mem (o + 1) (cpyR (mem (o1 + 1)) (mem (o + 1)) 6)) (o1 + 2)) ((upr mem (o + 1) (cpyR (mem (o1 + 1)) (mem (o + 1)) 6)) (o + 2)) 6)) (o + 3)) 6)) o 3 ((upr (upr (upr mem (o + 1) (cpyR (mem (o1 + 1)) (mem (o + 1)) 6)) (o + 2) (cpyR ((upr mem (o + 1) (cpyR (mem (o1 + 1)) (mem (o + 1)) 6)) (o1 + 2)) ((upr mem (o + 1) (cpyR (mem (o1 + 1)) (mem (o + 1)) 6)) (o + 2)) 6)) (o + 3) (cpyR ((upr (upr mem (o + 1) (cpyR (mem (o1 + 1)) (mem (o + 1)) 6)) (o + 2) (cpyR ((upr mem (o + 1) (cpyR (mem (o1 + 1)) (mem (o + 1)) 6)) (o1 + 2)) ((upr mem (o + 1) (cpyR (mem (o1 + 1)) (mem (o + 1)) 6)) (o + 2)) 6)) (o1 + 3)) ((upr (upr mem (o + 1) (cpyR (mem (o1 + 1)) (mem (o + 1)) 6)) (o + 2) (cpyR ((upr mem (o + 1) (cpyR (mem (o1 + 1)) (mem (o + 1)) 6)) (o1 + 2)) ((upr mem (o + 1) (cpyR (mem (o1 + 1)) (mem (o + 1)) 6)) (o + 2)) 6)) (o + 3)) 6)) o1 3)) o1 4))) dX7_become_58 fp_7_31 (ltState0 ho) (shState0 ho) rfl ?_
  refine G_aload_n dX7_become_61 rfl ?_
  refine G_aload_n dX7_become_62 rfl ?_
  refine G_getI (z := ((up2 (up2 (upr (upr (upr mem (o + 1) (cpyR (mem (o1 + 1)) (mem (o + 1)) 6)) (o + 2) (cpyR ((upr mem (o + 1) (cpyR (mem (o1 + 1)) (mem (o + 1)) 6)) (o1 + 2)) ((upr mem (o + 1) (cpyR (mem (o1 + 1)) (mem (o + 1)) 6)) (o + 2)) 6)) (o + 3) (cpyR ((upr (upr mem (o + 1) (cpyR (mem (o1 + 1)) (mem (o + 1)) 6)) (o + 2) (cpyR ((upr mem (o + 1) (cpyR (mem (o1 + 1)) (mem (o + 1)) 6)) (o1 + 2)) ((upr mem (o + 1) (cpyR (mem (o1 + 1)) (mem (o + 1)) 6)) (o + 2)) 6)) (o1 + 3)) ((upr (upr mem (o + 1) (cpyR (mem (o1 + 1)) (mem (o + 1)) 6)) (o + 2) (cpyR ((upr mem (o + 1) (cpyR (mem (o1 + 1)) (mem (o + 1)) 6)) (o1 + 2)) ((upr mem (o + 1) (cpyR (mem (o1 + 1)) (mem (o + 1)) 6)) (o + 2)) 6)) (o + 3)) 6)) o 3 ((upr (upr (upr mem (o + 1) (cpyR (mem (o1 + 1)) (mem (o + 1)) 6)) (o + 2) (cpyR ((upr mem (o + 1) (cpyR (mem (o1 + 1)) (mem (o + 1)) 6)) (o1 + 2)) ((upr mem (o + 1) (cpyR (mem (o1 + 1)) (mem (o + 1)) 6)) (o + 2)) 6)) (o + 3) (cpyR ((upr (upr mem (o + 1) (cpyR (mem (o1 + 1)) (mem (o + 1)) 6)) (o + 2) (cpyR ((upr mem (o + 1) (cpyR (mem (o1 + 1)) (mem (o + 1)) 6)) (o1 + 2)) ((upr mem (o + 1) (cpyR (mem (o1 + 1)) (mem (o + 1)) 6)) (o + 2)) 6)) (o1 + 3)) ((upr (upr mem (o + 1) (cpyR (mem (o1 + 1)) (mem (o + 1)) 6)) (o + 2) (cpyR ((upr mem (o + 1) (cpyR (mem (o1 + 1)) (mem (o + 1)) 6)) (o1 + 2)) ((upr mem (o + 1) (cpyR (mem (o1 + 1)) (mem (o + 1)) 6)) (o + 2)) 6)) (o + 3)) 6)) o1 3)) o 4 ((up2 (upr (upr (upr mem (o + 1) (cpyR (mem (o1 + 1)) (mem (o + 1)) 6)) (o + 2) (cpyR ((upr mem (o + 1) (cpyR (mem (o1 + 1)) (mem (o + 1)) 6)) (o1 + 2)) ((upr mem (o + 1) (cpyR (mem (o1 + 1)) (mem (o + 1)) 6)) (o + 2)) 6)) (o + 3) (cpyR ((upr (upr mem (o + 1) (cpyR (mem (o1 + 1)) (mem (o + 1)) 6)) (o + 2) (cpyR ((upr mem (o + 1) (cpyR (mem (o1 + 1)) (mem (o + 1)) 6)) (o1 + 2)) ((upr mem (o + 1) (cpyR (mem (o1 + 1)) (mem (o + 1)) 6)) (o + 2)) 6)) (o1 + 3)) ((upr (upr mem (o + 1) (cpyR (mem (o1 + 1)) (mem (o + 1)) 6)) (o + 2) (cpyR ((upr mem (o + 1) (cpyR (mem (o1 + 1)) (mem (o + 1)) 6)) (o1 + 2)) ((upr mem (o + 1) (cpyR (mem (o1 + 1)) (mem (o + 1)) 6)) (o + 2)) 6)) (o + 3)) 6)) o 3 ((upr (upr (upr mem (o + 1) (cpyR (mem (o1 + 1)) (mem (o + 1)) 6)) (o + 2) (cpyR ((upr mem (o + 1) (cpyR (mem (o1 + 1)) (mem (o + 1)) 6)) (o1 + 2)) ((upr mem (o + 1) (cpyR (mem (o1 + 1)) (mem (o + 1)) 6)) (o + 2)) 6)) (o + 3) (cpyR ((upr (upr mem (o + 1) (cpyR (mem (o1 + 1)) (mem (o + 1)) 6)) (o + 2) (cpyR ((upr mem (o + 1) (cpyR (mem (o1 + 1)) (mem (o + 1)) 6)) (o1 + 2)) ((upr mem (o + 1) (cpyR (mem (o1 + 1)) (mem (o + 1)) 6)) (o + 2)) 6)) (o1 + 3)) ((upr (upr mem (o + 1) (cpyR (mem (o1 + 1)) (mem (o + 1)) 6)) (o + 2) (cpyR ((upr mem (o + 1) (cpyR (mem (o1 + 1)) (mem (o + 1)) 6)) (o1 + 2)) ((upr mem (o + 1) (cpyR (mem (o1 + 1)) (mem (o + 1)) 6)) (o + 2)) 6)) (o + 3)) 6)) o1 3)) o1 4)) o1 5)) dX7_become_63 fl_7_34 (ltState0 ho1) (shState0 ho1) (by simp [up2, upr]) ?_
  refine G_putI (mem2 := (up2 (up2 (up2 (upr (upr (upr mem (o + 1) (cpyR (mem (o1 + 1)) (mem (o + 1)) 6)) (o + 2) (cpyR ((upr mem (o + 1) (cpyR (mem (o1 + 1)) (mem (o + 1)) 6)) (o1 + 2)) ((upr mem (o + 1) (cpyR (mem (o1 + 1)) (mem (o + 1)) 6)) (o + 2)) 6)) (o + 3) (cpyR ((upr (upr mem (o + 1) (cpyR (mem (o1 + 1)) (mem (o + 1)) 6)) (o + 2) (cpyR ((upr mem (o + 1) (cpyR (mem (o1 + 1)) (mem (o + 1)) 6)) (o1 + 2)) ((upr mem (o + 1) (cpyR (mem (o1 + 1)) (mem (o + 1)) 6)) (o + 2)) 6)) (o1 + 3)) ((upr (upr mem (o + 1) (cpyR (mem (o1 + 1)) (mem (o + 1)) 6)) (o + 2) (cpyR ((upr mem (o + 1) (cpyR (mem (o1 + 1)) (mem (o + 1)) 6)) (o1 + 2)) ((upr mem (o + 1) (cpyR (mem (o1 + 1)) (mem (o + 1)) 6)) (o + 2)) 6)) (o + 3)) 6)) o 3 ((upr (upr (upr mem (o + 1) (cpyR (mem (o1 + 1)) (mem (o + 1)) 6)) (o + 2) (cpyR ((upr mem (o + 1) (cpyR (mem (o1 + 1)) (mem (o + 1)) 6)) (o1 + 2)) ((upr mem (o + 1) (cpyR (mem (o1 + 1)) (mem (o + 1)) 6)) (o + 2)) 6)) (o + 3) (cpyR ((upr (upr mem (o + 1) (cpyR (mem (o1 + 1)) (mem (o + 1)) 6)) (o + 2) (cpyR ((upr mem (o + 1) (cpyR (mem (o1 + 1)) (mem (o + 1)) 6)) (o1 + 2)) ((upr mem (o + 1) (cpyR (mem (o1 + 1)) (mem (o + 1)) 6)) (o + 2)) 6)) (o1 + 3)) ((upr (upr mem (o + 1) (cpyR (mem (o1 + 1)) (mem (o + 1)) 6)) (o + 2) (cpyR ((upr mem (o + 1) (cpyR (mem (o1 + 1)) (mem (o + 1)) 6)) (o1 + 2)) ((upr mem (o + 1) (cpyR (mem (o1 + 1)) (mem (o + 1)) 6)) (o + 2)) 6)) (o + 3)) 6)) o1 3)) o 4 ((up2 (upr (upr (upr mem (o + 1) (cpyR (mem (o1 + 1)) (mem (o + 1)) 6)) (o + 2) (cpyR ((upr mem (o + 1) (cpyR (mem (o1 + 1)) (mem (o + 1)) 6)) (o1 + 2)) ((upr mem (o + 1) (cpyR (mem (o1 + 1)) (mem (o + 1)) 6)) (o + 2)) 6)) (o + 3) (cpyR ((upr (upr mem (o + 1) (cpyR (mem (o1 + 1)) (mem (o + 1)) 6)) (o + 2) (cpyR ((upr mem (o + 1) (cpyR (mem (o1 + 1)) (mem (o + 1)) 6)) (o1 + 2)) ((upr mem (o + 1) (cpyR (mem (o1 + 1)) (mem (o + 1)) 6)) (o + 2)) 6)) (o1 + 3)) ((upr (upr mem (o + 1) (cpyR (mem (o1 + 1)) (mem (o + 1)) 6)) (o + 2) (cpyR ((upr mem (o + 1) (cpyR (mem (o1 + 1)) (mem (o + 1)) 6)) (o1 + 2)) ((upr mem (o + 1) (cpyR (mem (o1 + 1)) (mem (o + 1)) 6)) (o + 2)) 6)) (o + 3)) 6)) o 3 ((upr (upr (upr mem (o + 1) (cpyR (mem (o1 + 1)) (mem (o + 1)) 6)) (o + 2) (cpyR ((upr mem (o + 1) (cpyR (mem (o1 + 1)) (mem (o + 1)) 6)) (o1 + 2)) ((upr mem (o + 1) (cpyR (mem (o1 + 1)) (mem (o + 1)) 6)) (o + 2)) 6)) (o + 3) (cpyR ((upr (upr mem (o + 1) (cpyR (mem (o1 + 1)) (mem (o + 1)) 6)) (o + 2) (cpyR ((upr mem (o + 1) (cpyR (mem (o1 + 1)) (mem (o + 1)) 6)) (o1 + 2)) ((upr mem (o + 1) (cpyR (mem (o1 + 1)) (mem (o + 1)) 6)) (o + 2)) 6)) (o1 + 3)) ((upr (upr mem (o + 1) (cpyR (mem (o1 + 1)) (mem (o + 1)) 6)) (o + 2) (cpyR ((upr mem (o + 1) (cpyR (mem (o1 + 1)) (mem (o + 1)) 6)) (o1 + 2)) ((upr mem (o + 1) (cpyR (mem (o1 + 1)) (mem (o + 1)) 6)) (o + 2)) 6)) (o + 3)) 6)) o1 3)) o1 4)) o 5 ((up2 (up2 (upr (upr (upr mem (o + 1) (cpyR (mem (o1 + 1)) (mem (o + 1)) 6)) (o + 2) (cpyR ((upr mem (o + 1) (cpyR (mem (o1 + 1)) (mem (o + 1)) 6)) (o1 + 2)) ((upr mem (o + 1) (cpyR (mem (o1 + 1)) (mem (o + 1)) 6)) (o + 2)) 6)) (o + 3) (cpyR ((upr (upr mem (o + 1) (cpyR (mem (o1 + 1)) (mem (o + 1)) 6)) (o + 2) (cpyR ((upr mem (o + 1) (cpyR (mem (o1 + 1)) (mem (o + 1)) 6)) (o1 + 2)) ((upr mem (o + 1) (cpyR (mem (o1 + 1)) (mem (o + 1)) 6)) (o + 2)) 6)) (o1 + 3)) ((upr (upr mem (o + 1) (cpyR (mem (o1 + 1)) (mem (o + 1)) 6)) (o + 2) (cpyR ((upr mem (o + 1) (cpyR (mem (o1 + 1)) (mem (o + 1)) 6)) (o1 + 2)) ((upr mem (o + 1) (cpyR (mem (o1 + 1)) (mem (o + 1)) 6)) (o + 2)) 6)) (o + 3)) 6)) o 3 ((upr (upr (upr mem (o + 1) (cpyR (mem (o1 + 1)) (mem (o + 1)) 6)) (o + 2) (cpyR ((upr mem (o + 1) (cpyR (mem (o1 + 1)) (mem (o + 1)) 6)) (o1 + 2)) ((upr mem (o + 1) (cpyR (mem (o1 + 1)) (mem (o + 1)) 6)) (o + 2)) 6)) (o + 3) (cpyR ((upr (upr mem (o + 1) (cpyR (mem (o1 + 1)) (mem (o + 1)) 6)) (o + 2) (cpyR ((upr mem (o + 1) (cpyR (mem (o1 + 1)) (mem (o + 1)) 6)) (o1 + 2)) ((upr mem (o + 1) (cpyR (mem (o1 + 1)) (mem (o + 1)) 6)) (o + 2)) 6)) (o1 + 3)) ((upr (upr mem (o + 1) (cpyR (mem (o1 + 1)) (mem (o + 1)) 6)) (o + 2) (cpyR ((upr mem (o + 1) (cpyR (mem (o1 + 1)) (mem (o + 1)) 6)) (o1 + 2)) ((upr mem (o + 1) (cpyR (mem (o1 + 1)) (mem (o + 1)) 6)) (o + 2)) 6)) (o + 3)) 6)) o1 3)) o 4 ((up2 (upr (upr (upr mem (o + 1) (cpyR (mem (o1 + 1)) (mem (o + 1)) 6)) (o + 2) (cpyR ((upr mem (o + 1) (cpyR (mem (o1 + 1)) (mem (o + 1)) 6)) (o1 + 2)) ((upr mem (o + 1) (cpyR (mem (o1 + 1)) (mem (o + 1)) 6)) (o + 2)) 6)) (o + 3) (cpyR ((upr (upr mem (o + 1) (cpyR (mem (o1 + 1)) (mem (o + 1)) 6)) (o + 2) (cpyR ((upr mem (o + 1) (cpyR (mem (o1 + 1)) (mem (o + 1)) 6)) (o1 + 2)) ((upr mem (o + 1) (cpyR (mem (o1 + 1)) (mem (o + 1)) 6)) (o + 2)) 6)) (o1 + 3)) ((upr (upr mem (o + 1) (cpyR (mem (o1 + 1)) (mem (o + 1)) 6)) (o + 2) (cpyR ((upr mem (o + 1) (cpyR (mem (o1 + 1)) (mem (o + 1)) 6)) (o1 + 2)) ((upr mem (o + 1) (cpyR (mem (o1 + 1)) (mem (o + 1)) 6)) (o + 2)) 6)) (o + 3)) 6)) o 3 ((upr (upr (upr mem (o + 1) (cpyR (mem (o1 + 1)) (mem (o + 1)) 6)) (o + 2) (cpyR ((upr mem (o + 1) (cpyR (mem (o1 + 1)) (mem (o + 1)) 6)) (o1 + 2)) ((upr mem (o + 1) (cpyR (mem (o1 + 1)) (mem (o + 1)) 6)) (o + 2)) 6)) (o + 3) (cpyR ((upr (upr mem (o + 1) (cpyR (mem (o1 + 1)) (mem (o + 1)) 6)) (o + 2) (cpyR ((upr mem (o + 1) (cpyR (mem (o1 + 1)) (mem (o + 1)) 6)) (o1 + 2)) ((upr mem (o + 1) (cpyR (mem (o1 + 1)) (mem (o + 1)) 6)) (o + 2)) 6)) (o1 + 3)) ((upr (upr mem (o + 1) (cpyR (mem (o1 + 1)) (mem (o + 1)) 6)) (o + 2) (cpyR ((upr mem (o + 1) (cpyR (mem (o1 + 1)) (mem (o + 1)) 6)) (o1 + 2)) ((upr mem (o + 1) (cpyR (mem (o1 + 1)) (mem (o + 1)) 6)) (o + 2)) 6)) (o + 3)) 6)) o1 3)) o1 4)) o1 5))) dX7_become_66 fp_7_34 (ltState0 ho) (shState0 ho) rfl ?_
  exact G_vret dX7_become_69 rfl (Nat.zero_le _) (Nat.zero_le _) (Nat.le_refl _) ⟨rfl, k1⟩
set_option maxRecDepth 20000 in
set_option maxHeartbeats 8000000 in
theorem sg_X7_countOf_0 {E : Nat × (Nat → Int32)} {P : Option Value → Mem → Prop} {mem : Mem} {o : Nat} {a1 : Int} (ho : o ∈ stateL) (w1 : -2147483648 ≤ a1 ∧ a1 < 2147483648)
    (k1 : a1 ≠ 1 → a1 ≠ 2 → GM E (m_X7_countOf 1) P 34 [.ref o, vi a1, .ref (o + 3), vi 0, vi 0] [] mem)
    (k2 : a1 ≠ 1 → a1 = 2 → GM E (m_X7_countOf 1) P 34 [.ref o, vi a1, .ref (o + 2), vi 0, vi 0] [] mem)
    (k3 : a1 = 1 → GM E (m_X7_countOf 1) P 34 [.ref o, vi a1, .ref (o + 1), vi 0, vi 0] [] mem) :
    GM E (m_X7_countOf 1) P 0 [.ref o, vi a1, un, un, un] [] mem := by
  refine G_iload_n dX7_countOf_0 rfl ?_
  refine G_iconst (z := 1) dX7_countOf_1 rfl ?_
  refine G_icmp_ne (tgt := 12) dX7_countOf_2 (by decide) (w1) (by decide) (fun c1 => ?_) (fun c1 => ?_)
  · -- a1 ≠ 1
    refine G_iload_n dX7_countOf_12 rfl ?_
    refine G_iconst (z := 2) dX7_countOf_13 rfl ?_
    refine G_icmp_ne (tgt := 24) dX7_countOf_14 (by decide) (w1) (by decide) (fun c2 => ?_) (fun c2 => ?_)
    · -- a1 ≠ 2
      refine G_aload_n dX7_countOf_24 rfl ?_
      refine G_getR (t := (o + 3)) dX7_countOf_25 fl_7_18 (ltState0 ho) (shState0 ho) (rrState_2 ho) ?_
      refine G_astore_n dX7_countOf_28 rfl (by decide : 2 < 5) rfl ?_
      refine G_iconst (z := 0) dX7_countOf_29 rfl ?_
      refine G_istore_n dX7_countOf_30 rfl (by decide : 3 < 5) rfl ?_
      refine G_iconst (z := 0) dX7_countOf_31 rfl ?_
      refine G_istore dX7_countOf_32 (by decide : 4 < 5) rfl ?_
      exact k1 c1 c2
    · -- a1 = 2
      refine G_aload_n dX7_countOf_17 rfl ?_
      refine G_getR (t := (o + 2)) dX7_countOf_18 fl_7_15 (ltState0 ho) (shState0 ho) (rrState_1 ho) ?_
      refine G_goto (tgt := 28) dX7_countOf_21 (by decide) ?_
      refine G_astore_n dX7_countOf_28 rfl (by decide : 2 < 5) rfl ?_
      refine G_iconst (z := 0) dX7_countOf_29 rfl ?_
      refine G_istore_n dX7_countOf_30 rfl (by decide : 3 < 5) rfl ?_
      refine G_iconst (z := 0) dX7_countOf_31 rfl ?_
      refine G_istore dX7_countOf_32 (by decide : 4 < 5) rfl ?_
      exact k2 c1 c2
  · -- a1 = 1
    refine G_aload_n dX7_countOf_5 rfl ?_
    refine G_getR (t := (o + 1)) dX7_countOf_6 fl_7_9 (ltState0 ho) (shState0 ho) (rrState_0 ho) ?_
    refine G_goto (tgt := 28) dX7_countOf_9 (by decide) ?_
    refine G_astore_n dX7_countOf_28 rfl (by decide : 2 < 5) rfl ?_
    refine G_iconst (z := 0) dX7_countOf_29 rfl ?_
    refine G_istore_n dX7_countOf_30 rfl (by decide : 3 < 5) rfl ?_
    refine G_iconst (z := 0) dX7_countOf_31 rfl ?_
    refine G_istore dX7_countOf_32 (by decide : 4 < 5) rfl ?_
    exact k3 c1
set_option maxRecDepth 20000 in
set_option maxHeartbeats 8000000 in
theorem sg_X7_countOf_34 {E : Nat × (Nat → Int32)} {P : Option Value → Mem → Prop} {mem : Mem} {o : Nat} {a1 : Int} {r2 : Nat} {a3 : Int} {a4 : Int} (ho : o ∈ stateL) (hlr2 : r2 < 209) (hsr2 : SH[r2]? = some (.inr (0, 6))) (w1 : -2147483648 ≤ a4 ∧ a4 < 2147483648) (q2 : ¬ 6 ≤ a4 → 0 ≤ a4 ∧ a4 < 6)
    (k1 : 6 ≤ a4 → P (some (vi a3)) mem)
    (k2 : ¬ 6 ≤ a4 → GM E (m_X7_countOf 1) P 46 [.ref o, vi a1, .ref r2, vi a3, vi a4] [vi (mem r2 a4), vi a3] mem) :
    GM E (m_X7_countOf 1) P 34 [.ref o, vi a1, .ref r2, vi a3, vi a4] [] mem := by
  refine G_iload dX7_countOf_34 rfl ?_
  refine G_aload_n dX7_countOf_36 rfl ?_
  refine G_alen (z := 6) dX7_countOf_37 hlr2 hsr2 (by decide) rfl ?_
  refine G_icmp_ge (tgt := 57) dX7_countOf_38 (by decide) (w1) (by decide) (fun c1 => ?_) (fun c1 => ?_)
  · -- 6 ≤ a4
    refine G_iload_n dX7_countOf_57 rfl ?_
    exact G_iret dX7_countOf_58 rfl (Nat.zero_le _) (Nat.zero_le _) (Nat.le_refl _) ⟨rfl, k1 c1⟩
  · -- ¬ 6 ≤ a4
    refine G_iload_n dX7_countOf_41 rfl ?_
    refine G_aload_n dX7_countOf_42 rfl ?_
    refine G_iload dX7_countOf_43 rfl ?_
    refine G_iald (z := (mem r2 a4)) dX7_countOf_45 hlr2 hsr2 (by decide) (q2 c1).1 (q2 c1).2 rfl ?_
    exact k2 c1
set_option maxRecDepth 20000 in
set_option maxHeartbeats 8000000 in
theorem sg_X7_countOf_49 {E : Nat × (Nat → Int32)} {P : Option Value → Mem → Prop} {mem : Mem} {o : Nat} {a1 : Int} {r2 : Nat} {a3 : Int} {a4 : Int} {s0 : Int} {s1 : Int} (ho : o ∈ stateL) (hlr2 : r2 < 209) (hsr2 : SH[r2]? = some (.inr (0, 6)))
    (k1 : GM E (m_X7_countOf 1) P 34 [.ref o, vi a1, .ref r2, vi (s1 + s0), vi (a4 + 1)] [] mem) :
    GM E (m_X7_countOf 1) P 49 [.ref o, vi a1, .ref r2, vi a3, vi a4] [vi s0, vi s1] mem := by
  refine G_iadd dX7_countOf_49 ?_
  refine G_istore_n dX7_countOf_50 rfl (by decide : 3 < 5) rfl ?_
  refine G_iinc (z := (a4 + 1)) dX7_countOf_51 rfl rfl (by decide : 4 < 5) rfl ?_
  refine G_goto (tgt := 34) dX7_countOf_54 (by decide) ?_
  exact k1
set_option maxRecDepth 20000 in
set_option maxHeartbeats 8000000 in
theorem sg_X7_kindOf_0 {E : Nat × (Nat → Int32)} {P : Option Value → Mem → Prop} {mem : Mem} {o : Nat} {a1 : Int} {a2 : Int} (ho : o ∈ stateL) (w1 : -2147483648 ≤ a1 ∧ a1 < 2147483648)
    (k1 : a1 < 0 → P (some (vi 0)) mem)
    (k2 : ¬ a1 < 0 → a1 < 6 → (bandI (mem (o + 1) a1) (shlI 1 a2)) = 0 → (bandI (mem (o + 2) a1) (shlI 1 a2)) = 0 → P (some (vi (if (bandI (mem (o + 3) a1) (shlI 1 a2)) = 0 then (0 : Int) else (3 : Int)))) mem)
    (k3 : ¬ a1 < 0 → a1 < 6 → (bandI (mem (o + 1) a1) (shlI 1 a2)) = 0 → ¬ (bandI (mem (o + 2) a1) (shlI 1 a2)) = 0 → P (some (vi 2)) mem)
    (k4 : ¬ a1 < 0 → a1 < 6 → ¬ (bandI (mem (o + 1) a1) (shlI 1 a2)) = 0 → P (some (vi 1)) mem)
    (k5 : ¬ a1 < 0 → ¬ a1 < 6 → P (some (vi 0)) mem) :
    GM E (m_X7_kindOf 0) P 0 [.ref o, vi a1, vi a2, un] [] mem := by
  refine G_iload_n dX7_kindOf_0 rfl ?_
  refine G_if_lt (tgt := 10) dX7_kindOf_1 (by decide) (w1) (fun c1 => ?_) (fun c1 => ?_)
  · -- a1 < 0
    refine G_iconst (z := 0) dX7_kindOf_10 rfl ?_
    exact G_iret dX7_kindOf_11 rfl (Nat.zero_le _) (Nat.zero_le _) (Nat.le_refl _) ⟨rfl, k1 c1⟩
  · -- ¬ a1 < 0
    refine G_iload_n dX7_kindOf_4 rfl ?_
    refine G_bipush (z := 6) dX7_kindOf_5 rfl ?_
    refine G_icmp_lt (tgt := 12) dX7_kindOf_7 (by decide) (w1) (by decide) (fun c2 => ?_) (fun c2 => ?_)
    · -- a1 < 6
      refine G_iconst (z := 1) dX7_kindOf_12 rfl ?_
      refine G_iload_n dX7_kindOf_13 rfl ?_
      refine G_ishl (z := (shlI 1 a2)) dX7_kindOf_14 (iI_inv _) ?_
      refine G_istore_n dX7_kindOf_15 rfl (by decide : 3 < 4) rfl ?_
      refine G_aload_n dX7_kindOf_16 rfl ?_
      refine G_getR (t := (o + 1)) dX7_kindOf_17 fl_7_9 (ltState0 ho) (shState0 ho) (rrState_0 ho) ?_
      refine G_iload_n dX7_kindOf_20 rfl ?_
      refine G_iald (z := (mem (o + 1) a1)) dX7_kindOf_21 (ltState1 ho) (shState1 ho) (by decide) (by omega) (by omega) rfl ?_
      refine G_iload_n dX7_kindOf_22 rfl ?_
      refine G_iand (z := (bandI (mem (o + 1) a1) (shlI 1 a2))) dX7_kindOf_23 (iI_inv _) ?_
      refine G_if_eq (tgt := 29) dX7_kindOf_24 (by decide) (iI_rng _) (fun c3 => ?_) (fun c3 => ?_)
      · -- (bandI (mem (o + 1) a1) (shlI 1 a2)) = 0
        refine G_aload_n dX7_kindOf_29 rfl ?_
        refine G_getR (t := (o + 2)) dX7_kindOf_30 fl_7_15 (ltState0 ho) (shState0 ho) (rrState_1 ho) ?_
        refine G_iload_n dX7_kindOf_33 rfl ?_
        refine G_iald (z := (mem (o + 2) a1)) dX7_kindOf_34 (ltState2 ho) (shState2 ho) (by decide) (by omega) (by omega) rfl ?_
        refine G_iload_n dX7_kindOf_35 rfl ?_
        refine G_iand (z := (bandI (mem (o + 2) a1) (shlI 1 a2))) dX7_kindOf_36 (iI_inv _) ?_
        refine G_if_eq (tgt := 42) dX7_kindOf_37 (by decide) (iI_rng _) (fun c4 => ?_) (fun c4 => ?_)
        · -- (bandI (mem (o + 2) a1) (shlI 1 a2)) = 0
          refine G_aload_n dX7_kindOf_42 rfl ?_
          refine G_getR (t := (o + 3)) dX7_kindOf_43 fl_7_18 (ltState0 ho) (shState0 ho) (rrState_2 ho) ?_
          refine G_iload_n dX7_kindOf_46 rfl ?_
          refine G_iald (z := (mem (o + 3) a1)) dX7_kindOf_47 (ltState3 ho) (shState3 ho) (by decide) (by omega) (by omega) rfl ?_
          refine G_iload_n dX7_kindOf_48 rfl ?_
          refine G_iand (z := (bandI (mem (o + 3) a1) (shlI 1 a2))) dX7_kindOf_49 (iI_inv _) ?_
          have j1 : GM E (m_X7_kindOf 0) P 58 [.ref o, vi a1, vi a2, vi (shlI 1 a2)] [vi (if (bandI (mem (o + 3) a1) (shlI 1 a2)) = 0 then (0 : Int) else (3 : Int))] mem := by
            exact G_iret dX7_kindOf_58 rfl (Nat.zero_le _) (Nat.zero_le _) (Nat.le_refl _) ⟨rfl, k2 c1 c2 c3 c4⟩
          refine G_if_eq (tgt := 57) dX7_kindOf_50 (by decide) (iI_rng _) (fun c5 => ?_) (fun c5 => ?_)
          · -- (bandI (mem (o + 3) a1) (shlI 1 a2)) = 0
            refine G_iconst (z := 0) dX7_kindOf_57 rfl ?_
            have qj1 := j1
            simp only [if_pos c5] at qj1
            exact qj1
          · -- ¬ (bandI (mem (o + 3) a1) (shlI 1 a2)) = 0
            refine G_iconst (z := 3) dX7_kindOf_53 rfl ?_
            refine G_goto (tgt := 58) dX7_kindOf_54 (by decide) ?_
            have qj1 := j1
            simp only [if_neg c5] at qj1
            exact qj1
        · -- ¬ (bandI (mem (o + 2) a1) (shlI 1 a2)) = 0
          refine G_iconst (z := 2) dX7_kindOf_40 rfl ?_
          exact G_iret dX7_kindOf_41 rfl (Nat.zero_le _) (Nat.zero_le _) (Nat.le_refl _) ⟨rfl, k3 c1 c2 c3 c4⟩
      · -- ¬ (bandI (mem (o + 1) a1) (shlI 1 a2)) = 0
        refine G_iconst (z := 1) dX7_kindOf_27 rfl ?_
        exact G_iret dX7_kindOf_28 rfl (Nat.zero_le _) (Nat.zero_le _) (Nat.le_refl _) ⟨rfl, k4 c1 c2 c3⟩
    · -- ¬ a1 < 6
      refine G_iconst (z := 0) dX7_kindOf_10 rfl ?_
      exact G_iret dX7_kindOf_11 rfl (Nat.zero_le _) (Nat.zero_le _) (Nat.le_refl _) ⟨rfl, k5 c1 c2⟩
set_option maxRecDepth 20000 in
set_option maxHeartbeats 8000000 in
theorem sg_X7_putOut_0 {E : Nat × (Nat → Int32)} {P : Option Value → Mem → Prop} {mem : Mem} {o : Nat} {a1 : Int} {a2 : Int} (ho : o ∈ stateL) (w1 : -2147483648 ≤ a1 ∧ a1 < 2147483648)
    (k1 : a1 < 0 → P none mem)
    (k2 : ¬ a1 < 0 → 6 ≤ a1 → P none mem)
    (k3 : ¬ a1 < 0 → ¬ 6 ≤ a1 → P none (up2 (up2 (up2 mem (o + 1) a1 a2) (o + 2) a1 0) (o + 3) a1 0)) :
    GM E (m_X7_putOut 0) P 0 [.ref o, vi a1, vi a2] [] mem := by
  refine G_iload_n dX7_putOut_0 rfl ?_
  refine G_if_lt (tgt := 31) dX7_putOut_1 (by decide) (w1) (fun c1 => ?_) (fun c1 => ?_)
  · -- a1 < 0
    exact G_vret dX7_putOut_31 rfl (Nat.zero_le _) (Nat.zero_le _) (Nat.le_refl _) ⟨rfl, k1 c1⟩
  · -- ¬ a1 < 0
    refine G_iload_n dX7_putOut_4 rfl ?_
    refine G_bipush (z := 6) dX7_putOut_5 rfl ?_
    refine G_icmp_ge (tgt := 31) dX7_putOut_7 (by decide) (w1) (by decide) (fun c2 => ?_) (fun c2 => ?_)
    · -- 6 ≤ a1
      exact G_vret dX7_putOut_31 rfl (Nat.zero_le _) (Nat.zero_le _) (Nat.le_refl _) ⟨rfl, k2 c1 c2⟩
    · -- ¬ 6 ≤ a1
      refine G_aload_n dX7_putOut_10 rfl ?_
      refine G_getR (t := (o + 1)) dX7_putOut_11 fl_7_9 (ltState0 ho) (shState0 ho) (rrState_0 ho) ?_
      refine G_iload_n dX7_putOut_14 rfl ?_
      refine G_iload_n dX7_putOut_15 rfl ?_
      refine G_iast (mem2 := (up2 mem (o + 1) a1 a2)) dX7_putOut_16 (ltState1 ho) (shState1 ho) (by decide) (by omega) (by omega) rfl ?_
      refine G_aload_n dX7_putOut_17 rfl ?_
      refine G_getR (t := (o + 2)) dX7_putOut_18 fl_7_15 (ltState0 ho) (shState0 ho) (rrState_1 ho) ?_
      refine G_iload_n dX7_putOut_21 rfl ?_
      refine G_iconst (z := 0) dX7_putOut_22 rfl ?_
      refine G_iast (mem2 := (up2 (up2 mem (o + 1) a1 a2) (o + 2) a1 0)) dX7_putOut_23 (ltState2 ho) (shState2 ho) (by decide) (by omega) (by omega) rfl ?_
      refine G_aload_n dX7_putOut_24 rfl ?_
      refine G_getR (t := (o + 3)) dX7_putOut_25 fl_7_18 (ltState0 ho) (shState0 ho) (rrState_2 ho) ?_
      refine G_iload_n dX7_putOut_28 rfl ?_
      refine G_iconst (z := 0) dX7_putOut_29 rfl ?_
      refine G_iast (mem2 := (up2 (up2 (up2 mem (o + 1) a1 a2) (o + 2) a1 0) (o + 3) a1 0)) dX7_putOut_30 (ltState3 ho) (shState3 ho) (by decide) (by omega) (by omega) rfl ?_
      exact G_vret dX7_putOut_31 rfl (Nat.zero_le _) (Nat.zero_le _) (Nat.le_refl _) ⟨rfl, k3 c1 c2⟩
set_option maxRecDepth 20000 in
set_option maxHeartbeats 8000000 in
theorem sg_X7_record_0 {E : Nat × (Nat → Int32)} {P : Option Value → Mem → Prop} {mem : Mem} {o : Nat} {a1 : Int} {o2 : Nat} (ho : o ∈ stateL) (ho2 : o2 ∈ jobL) (w1 : -2147483648 ≤ a1 ∧ a1 < 2147483648)
    (k1 : a1 < 0 → P none (up2 (up2 mem o 3 ((mem o 3) + (mem o2 16))) o 5 ((mem o 5) + (((up2 mem o 3 ((mem o 3) + (mem o2 16))) o2 18) + ((up2 mem o 3 ((mem o 3) + (mem o2 16))) o2 11)))))
    (k2 : ¬ a1 < 0 → 6 ≤ a1 → P none (up2 (up2 mem o 3 ((mem o 3) + (mem o2 16))) o 5 ((mem o 5) + (((up2 mem o 3 ((mem o 3) + (mem o2 16))) o2 18) + ((up2 mem o 3 ((mem o 3) + (mem o2 16))) o2 11)))))
    (k3 : ¬ a1 < 0 → ¬ 6 ≤ a1 → P none (up2 (up2 (up2 (up2 (up2 mem (o + 1) a1 (bandI (mem (o + 1) a1) (bxorI (borI (mem o2 14) (mem o2 15)) (-1)))) (o + 2) a1 (borI (mem (o + 2) a1) ((up2 mem (o + 1) a1 (bandI (mem (o + 1) a1) (bxorI (borI (mem o2 14) (mem o2 15)) (-1)))) o2 14))) (o + 3) a1 (borI (mem (o + 3) a1) ((up2 (up2 mem (o + 1) a1 (bandI (mem (o + 1) a1) (bxorI (borI (mem o2 14) (mem o2 15)) (-1)))) (o + 2) a1 (borI (mem (o + 2) a1) ((up2 mem (o + 1) a1 (bandI (mem (o + 1) a1) (bxorI (borI (mem o2 14) (mem o2 15)) (-1)))) o2 14))) o2 15))) o 3 ((mem o 3) + ((up2 (up2 (up2 mem (o + 1) a1 (bandI (mem (o + 1) a1) (bxorI (borI (mem o2 14) (mem o2 15)) (-1)))) (o + 2) a1 (borI (mem (o + 2) a1) ((up2 mem (o + 1) a1 (bandI (mem (o + 1) a1) (bxorI (borI (mem o2 14) (mem o2 15)) (-1)))) o2 14))) (o + 3) a1 (borI (mem (o + 3) a1) ((up2 (up2 mem (o + 1) a1 (bandI (mem (o + 1) a1) (bxorI (borI (mem o2 14) (mem o2 15)) (-1)))) (o + 2) a1 (borI (mem (o + 2) a1) ((up2 mem (o + 1) a1 (bandI (mem (o + 1) a1) (bxorI (borI (mem o2 14) (mem o2 15)) (-1)))) o2 14))) o2 15))) o2 16))) o 5 ((mem o 5) + (((up2 (up2 (up2 (up2 mem (o + 1) a1 (bandI (mem (o + 1) a1) (bxorI (borI (mem o2 14) (mem o2 15)) (-1)))) (o + 2) a1 (borI (mem (o + 2) a1) ((up2 mem (o + 1) a1 (bandI (mem (o + 1) a1) (bxorI (borI (mem o2 14) (mem o2 15)) (-1)))) o2 14))) (o + 3) a1 (borI (mem (o + 3) a1) ((up2 (up2 mem (o + 1) a1 (bandI (mem (o + 1) a1) (bxorI (borI (mem o2 14) (mem o2 15)) (-1)))) (o + 2) a1 (borI (mem (o + 2) a1) ((up2 mem (o + 1) a1 (bandI (mem (o + 1) a1) (bxorI (borI (mem o2 14) (mem o2 15)) (-1)))) o2 14))) o2 15))) o 3 ((mem o 3) + ((up2 (up2 (up2 mem (o + 1) a1 (bandI (mem (o + 1) a1) (bxorI (borI (mem o2 14) (mem o2 15)) (-1)))) (o + 2) a1 (borI (mem (o + 2) a1) ((up2 mem (o + 1) a1 (bandI (mem (o + 1) a1) (bxorI (borI (mem o2 14) (mem o2 15)) (-1)))) o2 14))) (o + 3) a1 (borI (mem (o + 3) a1) ((up2 (up2 mem (o + 1) a1 (bandI (mem (o + 1) a1) (bxorI (borI (mem o2 14) (mem o2 15)) (-1)))) (o + 2) a1 (borI (mem (o + 2) a1) ((up2 mem (o + 1) a1 (bandI (mem (o + 1) a1) (bxorI (borI (mem o2 14) (mem o2 15)) (-1)))) o2 14))) o2 15))) o2 16))) o2 18) + ((up2 (up2 (up2 (up2 mem (o + 1) a1 (bandI (mem (o + 1) a1) (bxorI (borI (mem o2 14) (mem o2 15)) (-1)))) (o + 2) a1 (borI (mem (o + 2) a1) ((up2 mem (o + 1) a1 (bandI (mem (o + 1) a1) (bxorI (borI (mem o2 14) (mem o2 15)) (-1)))) o2 14))) (o + 3) a1 (borI (mem (o + 3) a1) ((up2 (up2 mem (o + 1) a1 (bandI (mem (o + 1) a1) (bxorI (borI (mem o2 14) (mem o2 15)) (-1)))) (o + 2) a1 (borI (mem (o + 2) a1) ((up2 mem (o + 1) a1 (bandI (mem (o + 1) a1) (bxorI (borI (mem o2 14) (mem o2 15)) (-1)))) o2 14))) o2 15))) o 3 ((mem o 3) + ((up2 (up2 (up2 mem (o + 1) a1 (bandI (mem (o + 1) a1) (bxorI (borI (mem o2 14) (mem o2 15)) (-1)))) (o + 2) a1 (borI (mem (o + 2) a1) ((up2 mem (o + 1) a1 (bandI (mem (o + 1) a1) (bxorI (borI (mem o2 14) (mem o2 15)) (-1)))) o2 14))) (o + 3) a1 (borI (mem (o + 3) a1) ((up2 (up2 mem (o + 1) a1 (bandI (mem (o + 1) a1) (bxorI (borI (mem o2 14) (mem o2 15)) (-1)))) (o + 2) a1 (borI (mem (o + 2) a1) ((up2 mem (o + 1) a1 (bandI (mem (o + 1) a1) (bxorI (borI (mem o2 14) (mem o2 15)) (-1)))) o2 14))) o2 15))) o2 16))) o2 11))))) :
    GM E (m_X7_record 1) P 0 [.ref o, vi a1, .ref o2] [] mem := by
  refine G_iload_n dX7_record_0 rfl ?_
  refine G_if_lt (tgt := 56) dX7_record_1 (by decide) (w1) (fun c1 => ?_) (fun c1 => ?_)
  · -- a1 < 0
    refine G_aload_n dX7_record_56 rfl ?_
    refine G_dup dX7_record_57 rfl ?_
    refine G_getI (z := (mem o 3)) dX7_record_58 fl_7_27 (ltState0 ho) (shState0 ho) rfl ?_
    refine G_aload_n dX7_record_61 rfl ?_
    refine G_getI (z := (mem o2 16)) dX7_record_62 fl_7_51 (ltJob0 ho2) (shJob0 ho2) rfl ?_
    refine G_iadd dX7_record_65 ?_
    refine G_putI (mem2 := (up2 mem o 3 ((mem o 3) + (mem o2 16)))) dX7_record_66 fp_7_27 (ltState0 ho) (shState0 ho) rfl ?_
    refine G_aload_n dX7_record_69 rfl ?_
    refine G_dup dX7_record_70 rfl ?_
    refine G_getI (z := (mem o 5)) dX7_record_71 fl_7_34 (ltState0 ho) (shState0 ho) (by simp [up2, upr]) ?_
    refine G_aload_n dX7_record_74 rfl ?_
    refine cb_X7_record_75 ho2 (ic_X2_seconds (a := ((up2 mem o 3 ((mem o 3) + (mem o2 16))) o2 18)) (b := ((up2 mem o 3 ((mem o 3) + (mem o2 16))) o2 11)) ho2 (by simp [up2, upr]) (by simp [up2, upr]) ?_)
    refine G_iadd dX7_record_78 ?_
    refine G_putI (mem2 := (up2 (up2 mem o 3 ((mem o 3) + (mem o2 16))) o 5 ((mem o 5) + (((up2 mem o 3 ((mem o 3) + (mem o2 16))) o2 18) + ((up2 mem o 3 ((mem o 3) + (mem o2 16))) o2 11))))) dX7_record_79 fp_7_34 (ltState0 ho) (shState0 ho) rfl ?_
    exact G_vret dX7_record_82 rfl (Nat.zero_le _) (Nat.zero_le _) (Nat.le_refl _) ⟨rfl, k1 c1⟩
  · -- ¬ a1 < 0
    refine G_iload_n dX7_record_4 rfl ?_
    refine G_bipush (z := 6) dX7_record_5 rfl ?_
    refine G_icmp_ge (tgt := 56) dX7_record_7 (by decide) (w1) (by decide) (fun c2 => ?_) (fun c2 => ?_)
    · -- 6 ≤ a1
      refine G_aload_n dX7_record_56 rfl ?_
      refine G_dup dX7_record_57 rfl ?_
      refine G_getI (z := (mem o 3)) dX7_record_58 fl_7_27 (ltState0 ho) (shState0 ho) rfl ?_
      refine G_aload_n dX7_record_61 rfl ?_
      refine G_getI (z := (mem o2 16)) dX7_record_62 fl_7_51 (ltJob0 ho2) (shJob0 ho2) rfl ?_
      refine G_iadd dX7_record_65 ?_
      refine G_putI (mem2 := (up2 mem o 3 ((mem o 3) + (mem o2 16)))) dX7_record_66 fp_7_27 (ltState0 ho) (shState0 ho) rfl ?_
      refine G_aload_n dX7_record_69 rfl ?_
      refine G_dup dX7_record_70 rfl ?_
      refine G_getI (z := (mem o 5)) dX7_record_71 fl_7_34 (ltState0 ho) (shState0 ho) (by simp [up2, upr]) ?_
      refine G_aload_n dX7_record_74 rfl ?_
      refine cb_X7_record_75 ho2 (ic_X2_seconds (a := ((up2 mem o 3 ((mem o 3) + (mem o2 16))) o2 18)) (b := ((up2 mem o 3 ((mem o 3) + (mem o2 16))) o2 11)) ho2 (by simp [up2, upr]) (by simp [up2, upr]) ?_)
      refine G_iadd dX7_record_78 ?_
      refine G_putI (mem2 := (up2 (up2 mem o 3 ((mem o 3) + (mem o2 16))) o 5 ((mem o 5) + (((up2 mem o 3 ((mem o 3) + (mem o2 16))) o2 18) + ((up2 mem o 3 ((mem o 3) + (mem o2 16))) o2 11))))) dX7_record_79 fp_7_34 (ltState0 ho) (shState0 ho) rfl ?_
      exact G_vret dX7_record_82 rfl (Nat.zero_le _) (Nat.zero_le _) (Nat.le_refl _) ⟨rfl, k2 c1 c2⟩
    · -- ¬ 6 ≤ a1
      refine G_aload_n dX7_record_10 rfl ?_
      refine G_getR (t := (o + 1)) dX7_record_11 fl_7_9 (ltState0 ho) (shState0 ho) (rrState_0 ho) ?_
      refine G_iload_n dX7_record_14 rfl ?_
      refine G_dup2 dX7_record_15 rfl rfl ?_
      refine G_iald (z := (mem (o + 1) a1)) dX7_record_16 (ltState1 ho) (shState1 ho) (by decide) (by omega) (by omega) rfl ?_
      refine G_aload_n dX7_record_17 rfl ?_
      refine G_getI (z := (mem o2 14)) dX7_record_18 fl_7_43 (ltJob0 ho2) (shJob0 ho2) rfl ?_
      refine G_aload_n dX7_record_21 rfl ?_
      refine G_getI (z := (mem o2 15)) dX7_record_22 fl_7_48 (ltJob0 ho2) (shJob0 ho2) rfl ?_
      refine G_ior (z := (borI (mem o2 14) (mem o2 15))) dX7_record_25 (iI_inv _) ?_
      refine G_iconst (z := (-1)) dX7_record_26 rfl ?_
      refine G_ixor (z := (bxorI (borI (mem o2 14) (mem o2 15)) (-1))) dX7_record_27 (iI_inv _) ?_
      refine G_iand (z := (bandI (mem (o + 1) a1) (bxorI (borI (mem o2 14) (mem o2 15)) (-1)))) dX7_record_28 (iI_inv _) ?_
      refine G_iast (mem2 := (up2 mem (o + 1) a1 (bandI (mem (o + 1) a1) (bxorI (borI (mem o2 14) (mem o2 15)) (-1))))) dX7_record_29 (ltState1 ho) (shState1 ho) (by decide) (by omega) (by omega) rfl ?_
      refine G_aload_n dX7_record_30 rfl ?_
      refine G_getR (t := (o + 2)) dX7_record_31 fl_7_15 (ltState0 ho) (shState0 ho) (rrState_1 ho) ?_
      refine G_iload_n dX7_record_34 rfl ?_
      refine G_dup2 dX7_record_35 rfl rfl ?_
      refine G_iald (z := (mem (o + 2) a1)) dX7_record_36 (ltState2 ho) (shState2 ho) (by decide) (by omega) (by omega) (by simp [up2, upr]) ?_
      refine G_aload_n dX7_record_37 rfl ?_
      refine G_getI (z := ((up2 mem (o + 1) a1 (bandI (mem (o + 1) a1) (bxorI (borI (mem o2 14) (mem o2 15)) (-1)))) o2 14)) dX7_record_38 fl_7_43 (ltJob0 ho2) (shJob0 ho2) (by simp [up2, upr]) ?_
      refine G_ior (z := (borI (mem (o + 2) a1) ((up2 mem (o + 1) a1 (bandI (mem (o + 1) a1) (bxorI (borI (mem o2 14) (mem o2 15)) (-1)))) o2 14))) dX7_record_41 (iI_inv _) ?_
      refine G_iast (mem2 := (up2 (up2 mem (o + 1) a1 (bandI (mem (o + 1) a1) (bxorI (borI (mem o2 14) (mem o2 15)) (-1)))) (o + 2) a1 (borI (mem (o + 2) a1) ((up2 mem (o + 1) a1 (bandI (mem (o + 1) a1) (bxorI (borI (mem o2 14) (mem o2 15)) (-1)))) o2 14)))) dX7_record_42 (ltState2 ho) (shState2 ho) (by decide) (by omega) (by omega) rfl ?_
      refine G_aload_n dX7_record_43 rfl ?_
      refine G_getR (t := (o + 3)) dX7_record_44 fl_7_18 (ltState0 ho) (shState0 ho) (rrState_2 ho) ?_
      refine G_iload_n dX7_record_47 rfl ?_
      refine G_dup2 dX7_record_48 rfl rfl ?_
      refine G_iald (z := (mem (o + 3) a1)) dX7_record_49 (ltState3 ho) (shState3 ho) (by decide) (by omega) (by omega) (by simp [up2, upr]) ?_
      refine G_aload_n dX7_record_50 rfl ?_
      refine G_getI (z := ((up2 (up2 mem (o + 1) a1 (bandI (mem (o + 1) a1) (bxorI (borI (mem o2 14) (mem o2 15)) (-1)))) (o + 2) a1 (borI (mem (o + 2) a1) ((up2 mem (o + 1) a1 (bandI (mem (o + 1) a1) (bxorI (borI (mem o2 14) (mem o2 15)) (-1)))) o2 14))) o2 15)) dX7_record_51 fl_7_48 (ltJob0 ho2) (shJob0 ho2) (by simp [up2, upr]) ?_
      refine G_ior (z := (borI (mem (o + 3) a1) ((up2 (up2 mem (o + 1) a1 (bandI (mem (o + 1) a1) (bxorI (borI (mem o2 14) (mem o2 15)) (-1)))) (o + 2) a1 (borI (mem (o + 2) a1) ((up2 mem (o + 1) a1 (bandI (mem (o + 1) a1) (bxorI (borI (mem o2 14) (mem o2 15)) (-1)))) o2 14))) o2 15))) dX7_record_54 (iI_inv _) ?_
      refine G_iast (mem2 := (up2 (up2 (up2 mem (o + 1) a1 (bandI (mem (o + 1) a1) (bxorI (borI (mem o2 14) (mem o2 15)) (-1)))) (o + 2) a1 (borI (mem (o + 2) a1) ((up2 mem (o + 1) a1 (bandI (mem (o + 1) a1) (bxorI (borI (mem o2 14) (mem o2 15)) (-1)))) o2 14))) (o + 3) a1 (borI (mem (o + 3) a1) ((up2 (up2 mem (o + 1) a1 (bandI (mem (o + 1) a1) (bxorI (borI (mem o2 14) (mem o2 15)) (-1)))) (o + 2) a1 (borI (mem (o + 2) a1) ((up2 mem (o + 1) a1 (bandI (mem (o + 1) a1) (bxorI (borI (mem o2 14) (mem o2 15)) (-1)))) o2 14))) o2 15)))) dX7_record_55 (ltState3 ho) (shState3 ho) (by decide) (by omega) (by omega) rfl ?_
      refine G_aload_n dX7_record_56 rfl ?_
      refine G_dup dX7_record_57 rfl ?_
      refine G_getI (z := (mem o 3)) dX7_record_58 fl_7_27 (ltState0 ho) (shState0 ho) (by simp [up2, upr]) ?_
      refine G_aload_n dX7_record_61 rfl ?_
      refine G_getI (z := ((up2 (up2 (up2 mem (o + 1) a1 (bandI (mem (o + 1) a1) (bxorI (borI (mem o2 14) (mem o2 15)) (-1)))) (o + 2) a1 (borI (mem (o + 2) a1) ((up2 mem (o + 1) a1 (bandI (mem (o + 1) a1) (bxorI (borI (mem o2 14) (mem o2 15)) (-1)))) o2 14))) (o + 3) a1 (borI (mem (o + 3) a1) ((up2 (up2 mem (o + 1) a1 (bandI (mem (o + 1) a1) (bxorI (borI (mem o2 14) (mem o2 15)) (-1)))) (o + 2) a1 (borI (mem (o + 2) a1) ((up2 mem (o + 1) a1 (bandI (mem (o + 1) a1) (bxorI (borI (mem o2 14) (mem o2 15)) (-1)))) o2 14))) o2 15))) o2 16)) dX7_record_62 fl_7_51 (ltJob0 ho2) (shJob0 ho2) (by simp [up2, upr]) ?_
      refine G_iadd dX7_record_65 ?_
      refine G_putI (mem2 := (up2 (up2 (up2 (up2 mem (o + 1) a1 (bandI (mem (o + 1) a1) (bxorI (borI (mem o2 14) (mem o2 15)) (-1)))) (o + 2) a1 (borI (mem (o + 2) a1) ((up2 mem (o + 1) a1 (bandI (mem (o + 1) a1) (bxorI (borI (mem o2 14) (mem o2 15)) (-1)))) o2 14))) (o + 3) a1 (borI (mem (o + 3) a1) ((up2 (up2 mem (o + 1) a1 (bandI (mem (o + 1) a1) (bxorI (borI (mem o2 14) (mem o2 15)) (-1)))) (o + 2) a1 (borI (mem (o + 2) a1) ((up2 mem (o + 1) a1 (bandI (mem (o + 1) a1) (bxorI (borI (mem o2 14) (mem o2 15)) (-1)))) o2 14))) o2 15))) o 3 ((mem o 3) + ((up2 (up2 (up2 mem (o + 1) a1 (bandI (mem (o + 1) a1) (bxorI (borI (mem o2 14) (mem o2 15)) (-1)))) (o + 2) a1 (borI (mem (o + 2) a1) ((up2 mem (o + 1) a1 (bandI (mem (o + 1) a1) (bxorI (borI (mem o2 14) (mem o2 15)) (-1)))) o2 14))) (o + 3) a1 (borI (mem (o + 3) a1) ((up2 (up2 mem (o + 1) a1 (bandI (mem (o + 1) a1) (bxorI (borI (mem o2 14) (mem o2 15)) (-1)))) (o + 2) a1 (borI (mem (o + 2) a1) ((up2 mem (o + 1) a1 (bandI (mem (o + 1) a1) (bxorI (borI (mem o2 14) (mem o2 15)) (-1)))) o2 14))) o2 15))) o2 16)))) dX7_record_66 fp_7_27 (ltState0 ho) (shState0 ho) rfl ?_
      refine G_aload_n dX7_record_69 rfl ?_
      refine G_dup dX7_record_70 rfl ?_
      refine G_getI (z := (mem o 5)) dX7_record_71 fl_7_34 (ltState0 ho) (shState0 ho) (by simp [up2, upr]) ?_
      refine G_aload_n dX7_record_74 rfl ?_
      refine cb_X7_record_75 ho2 (ic_X2_seconds (a := ((up2 (up2 (up2 (up2 mem (o + 1) a1 (bandI (mem (o + 1) a1) (bxorI (borI (mem o2 14) (mem o2 15)) (-1)))) (o + 2) a1 (borI (mem (o + 2) a1) ((up2 mem (o + 1) a1 (bandI (mem (o + 1) a1) (bxorI (borI (mem o2 14) (mem o2 15)) (-1)))) o2 14))) (o + 3) a1 (borI (mem (o + 3) a1) ((up2 (up2 mem (o + 1) a1 (bandI (mem (o + 1) a1) (bxorI (borI (mem o2 14) (mem o2 15)) (-1)))) (o + 2) a1 (borI (mem (o + 2) a1) ((up2 mem (o + 1) a1 (bandI (mem (o + 1) a1) (bxorI (borI (mem o2 14) (mem o2 15)) (-1)))) o2 14))) o2 15))) o 3 ((mem o 3) + ((up2 (up2 (up2 mem (o + 1) a1 (bandI (mem (o + 1) a1) (bxorI (borI (mem o2 14) (mem o2 15)) (-1)))) (o + 2) a1 (borI (mem (o + 2) a1) ((up2 mem (o + 1) a1 (bandI (mem (o + 1) a1) (bxorI (borI (mem o2 14) (mem o2 15)) (-1)))) o2 14))) (o + 3) a1 (borI (mem (o + 3) a1) ((up2 (up2 mem (o + 1) a1 (bandI (mem (o + 1) a1) (bxorI (borI (mem o2 14) (mem o2 15)) (-1)))) (o + 2) a1 (borI (mem (o + 2) a1) ((up2 mem (o + 1) a1 (bandI (mem (o + 1) a1) (bxorI (borI (mem o2 14) (mem o2 15)) (-1)))) o2 14))) o2 15))) o2 16))) o2 18)) (b := ((up2 (up2 (up2 (up2 mem (o + 1) a1 (bandI (mem (o + 1) a1) (bxorI (borI (mem o2 14) (mem o2 15)) (-1)))) (o + 2) a1 (borI (mem (o + 2) a1) ((up2 mem (o + 1) a1 (bandI (mem (o + 1) a1) (bxorI (borI (mem o2 14) (mem o2 15)) (-1)))) o2 14))) (o + 3) a1 (borI (mem (o + 3) a1) ((up2 (up2 mem (o + 1) a1 (bandI (mem (o + 1) a1) (bxorI (borI (mem o2 14) (mem o2 15)) (-1)))) (o + 2) a1 (borI (mem (o + 2) a1) ((up2 mem (o + 1) a1 (bandI (mem (o + 1) a1) (bxorI (borI (mem o2 14) (mem o2 15)) (-1)))) o2 14))) o2 15))) o 3 ((mem o 3) + ((up2 (up2 (up2 mem (o + 1) a1 (bandI (mem (o + 1) a1) (bxorI (borI (mem o2 14) (mem o2 15)) (-1)))) (o + 2) a1 (borI (mem (o + 2) a1) ((up2 mem (o + 1) a1 (bandI (mem (o + 1) a1) (bxorI (borI (mem o2 14) (mem o2 15)) (-1)))) o2 14))) (o + 3) a1 (borI (mem (o + 3) a1) ((up2 (up2 mem (o + 1) a1 (bandI (mem (o + 1) a1) (bxorI (borI (mem o2 14) (mem o2 15)) (-1)))) (o + 2) a1 (borI (mem (o + 2) a1) ((up2 mem (o + 1) a1 (bandI (mem (o + 1) a1) (bxorI (borI (mem o2 14) (mem o2 15)) (-1)))) o2 14))) o2 15))) o2 16))) o2 11)) ho2 (by simp [up2, upr]) (by simp [up2, upr]) ?_)
      refine G_iadd dX7_record_78 ?_
      refine G_putI (mem2 := (up2 (up2 (up2 (up2 (up2 mem (o + 1) a1 (bandI (mem (o + 1) a1) (bxorI (borI (mem o2 14) (mem o2 15)) (-1)))) (o + 2) a1 (borI (mem (o + 2) a1) ((up2 mem (o + 1) a1 (bandI (mem (o + 1) a1) (bxorI (borI (mem o2 14) (mem o2 15)) (-1)))) o2 14))) (o + 3) a1 (borI (mem (o + 3) a1) ((up2 (up2 mem (o + 1) a1 (bandI (mem (o + 1) a1) (bxorI (borI (mem o2 14) (mem o2 15)) (-1)))) (o + 2) a1 (borI (mem (o + 2) a1) ((up2 mem (o + 1) a1 (bandI (mem (o + 1) a1) (bxorI (borI (mem o2 14) (mem o2 15)) (-1)))) o2 14))) o2 15))) o 3 ((mem o 3) + ((up2 (up2 (up2 mem (o + 1) a1 (bandI (mem (o + 1) a1) (bxorI (borI (mem o2 14) (mem o2 15)) (-1)))) (o + 2) a1 (borI (mem (o + 2) a1) ((up2 mem (o + 1) a1 (bandI (mem (o + 1) a1) (bxorI (borI (mem o2 14) (mem o2 15)) (-1)))) o2 14))) (o + 3) a1 (borI (mem (o + 3) a1) ((up2 (up2 mem (o + 1) a1 (bandI (mem (o + 1) a1) (bxorI (borI (mem o2 14) (mem o2 15)) (-1)))) (o + 2) a1 (borI (mem (o + 2) a1) ((up2 mem (o + 1) a1 (bandI (mem (o + 1) a1) (bxorI (borI (mem o2 14) (mem o2 15)) (-1)))) o2 14))) o2 15))) o2 16))) o 5 ((mem o 5) + (((up2 (up2 (up2 (up2 mem (o + 1) a1 (bandI (mem (o + 1) a1) (bxorI (borI (mem o2 14) (mem o2 15)) (-1)))) (o + 2) a1 (borI (mem (o + 2) a1) ((up2 mem (o + 1) a1 (bandI (mem (o + 1) a1) (bxorI (borI (mem o2 14) (mem o2 15)) (-1)))) o2 14))) (o + 3) a1 (borI (mem (o + 3) a1) ((up2 (up2 mem (o + 1) a1 (bandI (mem (o + 1) a1) (bxorI (borI (mem o2 14) (mem o2 15)) (-1)))) (o + 2) a1 (borI (mem (o + 2) a1) ((up2 mem (o + 1) a1 (bandI (mem (o + 1) a1) (bxorI (borI (mem o2 14) (mem o2 15)) (-1)))) o2 14))) o2 15))) o 3 ((mem o 3) + ((up2 (up2 (up2 mem (o + 1) a1 (bandI (mem (o + 1) a1) (bxorI (borI (mem o2 14) (mem o2 15)) (-1)))) (o + 2) a1 (borI (mem (o + 2) a1) ((up2 mem (o + 1) a1 (bandI (mem (o + 1) a1) (bxorI (borI (mem o2 14) (mem o2 15)) (-1)))) o2 14))) (o + 3) a1 (borI (mem (o + 3) a1) ((up2 (up2 mem (o + 1) a1 (bandI (mem (o + 1) a1) (bxorI (borI (mem o2 14) (mem o2 15)) (-1)))) (o + 2) a1 (borI (mem (o + 2) a1) ((up2 mem (o + 1) a1 (bandI (mem (o + 1) a1) (bxorI (borI (mem o2 14) (mem o2 15)) (-1)))) o2 14))) o2 15))) o2 16))) o2 18) + ((up2 (up2 (up2 (up2 mem (o + 1) a1 (bandI (mem (o + 1) a1) (bxorI (borI (mem o2 14) (mem o2 15)) (-1)))) (o + 2) a1 (borI (mem (o + 2) a1) ((up2 mem (o + 1) a1 (bandI (mem (o + 1) a1) (bxorI (borI (mem o2 14) (mem o2 15)) (-1)))) o2 14))) (o + 3) a1 (borI (mem (o + 3) a1) ((up2 (up2 mem (o + 1) a1 (bandI (mem (o + 1) a1) (bxorI (borI (mem o2 14) (mem o2 15)) (-1)))) (o + 2) a1 (borI (mem (o + 2) a1) ((up2 mem (o + 1) a1 (bandI (mem (o + 1) a1) (bxorI (borI (mem o2 14) (mem o2 15)) (-1)))) o2 14))) o2 15))) o 3 ((mem o 3) + ((up2 (up2 (up2 mem (o + 1) a1 (bandI (mem (o + 1) a1) (bxorI (borI (mem o2 14) (mem o2 15)) (-1)))) (o + 2) a1 (borI (mem (o + 2) a1) ((up2 mem (o + 1) a1 (bandI (mem (o + 1) a1) (bxorI (borI (mem o2 14) (mem o2 15)) (-1)))) o2 14))) (o + 3) a1 (borI (mem (o + 3) a1) ((up2 (up2 mem (o + 1) a1 (bandI (mem (o + 1) a1) (bxorI (borI (mem o2 14) (mem o2 15)) (-1)))) (o + 2) a1 (borI (mem (o + 2) a1) ((up2 mem (o + 1) a1 (bandI (mem (o + 1) a1) (bxorI (borI (mem o2 14) (mem o2 15)) (-1)))) o2 14))) o2 15))) o2 16))) o2 11))))) dX7_record_79 fp_7_34 (ltState0 ho) (shState0 ho) rfl ?_
      exact G_vret dX7_record_82 rfl (Nat.zero_le _) (Nat.zero_le _) (Nat.le_refl _) ⟨rfl, k3 c1 c2⟩
set_option maxRecDepth 20000 in
set_option maxHeartbeats 8000000 in
theorem sg_X8_bins_0 {E : Nat × (Nat → Int32)} {P : Option Value → Mem → Prop} {mem : Mem} {o : Nat} (ho : o ∈ streetL)
    (k1 : GM E (m_X8_bins 0) P 4 [.ref o, vi 0, vi 0] [] mem) :
    GM E (m_X8_bins 0) P 0 [.ref o, un, un] [] mem := by
  refine G_iconst (z := 0) dX8_bins_0 rfl ?_
  refine G_istore_n dX8_bins_1 rfl (by decide : 1 < 3) rfl ?_
  refine G_iconst (z := 0) dX8_bins_2 rfl ?_
  refine G_istore_n dX8_bins_3 rfl (by decide : 2 < 3) rfl ?_
  exact k1
set_option maxRecDepth 20000 in
set_option maxHeartbeats 8000000 in
theorem sg_X8_bins_4 {E : Nat × (Nat → Int32)} {P : Option Value → Mem → Prop} {mem : Mem} {o : Nat} {a1 : Int} {a2 : Int} (ho : o ∈ streetL) (w1 : -2147483648 ≤ a2 ∧ a2 < 2147483648) (q2 : ¬ 16 ≤ a2 → 0 ≤ a2 ∧ a2 < 16) (w3 : ¬ 16 ≤ a2 → -2147483648 ≤ (mem (o + 1) a2) ∧ (mem (o + 1) a2) < 2147483648)
    (k1 : 16 ≤ a2 → P (some (vi a1)) mem)
    (k2 : ¬ 16 ≤ a2 → GM E (m_X8_bins 0) P 4 [.ref o, vi (if (mem (o + 1) a2) = 0 then a1 else (borI a1 (shlI 1 a2))), vi (a2 + 1)] [] mem) :
    GM E (m_X8_bins 0) P 4 [.ref o, vi a1, vi a2] [] mem := by
  refine G_iload_n dX8_bins_4 rfl ?_
  refine G_aload_n dX8_bins_5 rfl ?_
  refine G_getR (t := (o + 1)) dX8_bins_6 fl_8_9 (ltStreet0 ho) (shStreet0 ho) (rrStreet_1 ho) ?_
  refine G_alen (z := 16) dX8_bins_9 (ltStreet1 ho) (shStreet1 ho) (by decide) rfl ?_
  refine G_icmp_ge (tgt := 34) dX8_bins_10 (by decide) (w1) (by decide) (fun c1 => ?_) (fun c1 => ?_)
  · -- 16 ≤ a2
    refine G_iload_n dX8_bins_34 rfl ?_
    exact G_iret dX8_bins_35 rfl (Nat.zero_le _) (Nat.zero_le _) (Nat.le_refl _) ⟨rfl, k1 c1⟩
  · -- ¬ 16 ≤ a2
    refine G_aload_n dX8_bins_13 rfl ?_
    refine G_getR (t := (o + 1)) dX8_bins_14 fl_8_9 (ltStreet0 ho) (shStreet0 ho) (rrStreet_1 ho) ?_
    refine G_iload_n dX8_bins_17 rfl ?_
    refine G_iald (z := (mem (o + 1) a2)) dX8_bins_18 (ltStreet1 ho) (shStreet1 ho) (by decide) (q2 c1).1 (q2 c1).2 rfl ?_
    have j1 : GM E (m_X8_bins 0) P 28 [.ref o, vi (if (mem (o + 1) a2) = 0 then a1 else (borI a1 (shlI 1 a2))), vi a2] [] mem := by
      refine G_iinc (z := (a2 + 1)) dX8_bins_28 rfl rfl (by decide : 2 < 3) rfl ?_
      refine G_goto (tgt := 4) dX8_bins_31 (by decide) ?_
      exact k2 c1
    refine G_if_eq (tgt := 28) dX8_bins_19 (by decide) (w3 c1) (fun c2 => ?_) (fun c2 => ?_)
    · -- (mem (o + 1) a2) = 0
      have qj1 := j1
      simp only [if_pos c2] at qj1
      exact qj1
    · -- ¬ (mem (o + 1) a2) = 0
      refine G_iload_n dX8_bins_22 rfl ?_
      refine G_iconst (z := 1) dX8_bins_23 rfl ?_
      refine G_iload_n dX8_bins_24 rfl ?_
      refine G_ishl (z := (shlI 1 a2)) dX8_bins_25 (iI_inv _) ?_
      refine G_ior (z := (borI a1 (shlI 1 a2))) dX8_bins_26 (iI_inv _) ?_
      refine G_istore_n dX8_bins_27 rfl (by decide : 1 < 3) rfl ?_
      have qj1 := j1
      simp only [if_neg c2] at qj1
      exact qj1
set_option maxRecDepth 20000 in
set_option maxHeartbeats 8000000 in
theorem sg_X8_read_0 {E : Nat × (Nat → Int32)} {P : Option Value → Mem → Prop} {mem : Mem} {o : Nat} (ho : o ∈ streetL) (t1 : TextOK mem)
    (k1 : (lookM mem) = 115 → GM E (m_X8_read 4) P 14 [.ref o, .ref 1] [vi 2, .ref 1, .ref o] (up2 mem 1 2 ((mem 1 2) + 1)))
    (k2 : ¬ (lookM mem) = 115 → P (some (vi 0)) mem) :
    GM E (m_X8_read 4) P 0 [.ref o, .ref 1] [] mem := by
  refine G_aload_n dX8_read_0 rfl ?_
  refine G_bipush (z := 115) dX8_read_1 rfl ?_
  refine cb_X8_read_3 (ic_X9_accept (z := (mem 1 2)) (t1) (by decide) rfl (fun c1 => ?_) (fun c2 => ?_))
  · -- (lookM mem) = 115
    refine G_if_ne (tgt := 11) dX8_read_6 (by decide) (by decide) (fun _ => ?_) (fun h => absurd h (by decide))
    refine G_aload_n dX8_read_11 rfl ?_
    refine G_aload_n dX8_read_12 rfl ?_
    refine G_iconst (z := 2) dX8_read_13 rfl ?_
    exact k1 c1
  · -- ¬ (lookM mem) = 115
    refine G_if_ne (tgt := 11) dX8_read_6 (by decide) (by decide) (fun h => absurd h (by decide)) (fun _ => ?_)
    refine G_iconst (z := 0) dX8_read_9 rfl ?_
    exact G_zret dX8_read_10 rfl (nar_zb (by decide)) (Nat.zero_le _) (Nat.zero_le _) (Nat.le_refl _) ⟨rfl, k2 c2⟩
set_option maxRecDepth 20000 in
set_option maxHeartbeats 8000000 in
theorem sg_X8_read_17 {E : Nat × (Nat → Int32)} {P : Option Value → Mem → Prop} {mem : Mem} {o : Nat} {s0 : Int} (ho : o ∈ streetL) (w1 : -2147483648 ≤ s0 ∧ s0 < 2147483648) (t2 : ¬ s0 < 0 → TextOK (up2 mem o 2 s0))
    (k1 : s0 < 0 → P (some (vi 0)) (up2 mem o 2 s0))
    (k2 : ¬ s0 < 0 → (lookM (up2 mem o 2 s0)) = 58 → GM E (m_X8_read 4) P 38 [.ref o, .ref 1] [.ref 1, .ref o] (up2 (up2 mem o 2 s0) 1 2 (((up2 mem o 2 s0) 1 2) + 1)))
    (k3 : ¬ s0 < 0 → ¬ (lookM (up2 mem o 2 s0)) = 58 → P (some (vi 0)) (up2 mem o 2 s0)) :
    GM E (m_X8_read 4) P 17 [.ref o, .ref 1] [vi s0, .ref o] mem := by
  refine G_putI (mem2 := (up2 mem o 2 s0)) dX8_read_17 fp_8_38 (ltStreet0 ho) (shStreet0 ho) rfl ?_
  refine G_aload_n dX8_read_20 rfl ?_
  refine G_getI (z := s0) dX8_read_21 fl_8_38 (ltStreet0 ho) (shStreet0 ho) (by simp [up2, upr]) ?_
  refine G_if_lt (tgt := 44) dX8_read_24 (by decide) (w1) (fun c1 => ?_) (fun c1 => ?_)
  · -- s0 < 0
    refine G_iconst (z := 0) dX8_read_44 rfl ?_
    exact G_zret dX8_read_45 rfl (nar_zb (by decide)) (Nat.zero_le _) (Nat.zero_le _) (Nat.le_refl _) ⟨rfl, k1 c1⟩
  · -- ¬ s0 < 0
    refine G_aload_n dX8_read_27 rfl ?_
    refine G_bipush (z := 58) dX8_read_28 rfl ?_
    refine cb_X8_read_30 (ic_X9_accept (z := ((up2 mem o 2 s0) 1 2)) (t2 c1) (by decide) (by simp [up2, upr]) (fun c2 => ?_) (fun c3 => ?_))
    · -- (lookM (up2 mem o 2 s0)) = 58
      refine G_if_eq (tgt := 44) dX8_read_33 (by decide) (by decide) (fun h => absurd h (by decide)) (fun _ => ?_)
      refine G_aload_n dX8_read_36 rfl ?_
      refine G_aload_n dX8_read_37 rfl ?_
      exact k2 c1 c2
    · -- ¬ (lookM (up2 mem o 2 s0)) = 58
      refine G_if_eq (tgt := 44) dX8_read_33 (by decide) (by decide) (fun _ => ?_) (fun h => absurd h (by decide))
      refine G_iconst (z := 0) dX8_read_44 rfl ?_
      exact G_zret dX8_read_45 rfl (nar_zb (by decide)) (Nat.zero_le _) (Nat.zero_le _) (Nat.le_refl _) ⟨rfl, k3 c1 c3⟩
set_option maxRecDepth 20000 in
set_option maxHeartbeats 8000000 in
theorem sg_X8_read_41 {E : Nat × (Nat → Int32)} {P : Option Value → Mem → Prop} {mem : Mem} {o : Nat} {s0 : Int} (ho : o ∈ streetL) (w1 : -2147483648 ≤ s0 ∧ s0 < 2147483648) (t2 : s0 ≠ 0 → TextOK mem) (t3 : s0 ≠ 0 → (lookM mem) = 33 → TextOK (up2 (up2 mem 1 2 ((mem 1 2) + 1)) o 5 1)) (t4 : s0 ≠ 0 → ¬ (lookM mem) = 33 → TextOK (up2 mem o 5 0))
    (k1 : s0 ≠ 0 → (lookM mem) = 33 → (lookM (up2 (up2 mem 1 2 ((mem 1 2) + 1)) o 5 1)) = 117 → GM E (m_X8_read 4) P 89 [.ref o, .ref 1] [.ref 1, .ref o] (up2 (up2 (up2 (up2 mem 1 2 ((mem 1 2) + 1)) o 5 1) 1 2 (((up2 (up2 mem 1 2 ((mem 1 2) + 1)) o 5 1) 1 2) + 1)) o 4 1))
    (k2 : s0 ≠ 0 → (lookM mem) = 33 → ¬ (lookM (up2 (up2 mem 1 2 ((mem 1 2) + 1)) o 5 1)) = 117 → (lookM (up2 (up2 mem 1 2 ((mem 1 2) + 1)) o 5 1)) = 100 → GM E (m_X8_read 4) P 89 [.ref o, .ref 1] [.ref 1, .ref o] (up2 (up2 (up2 (up2 mem 1 2 ((mem 1 2) + 1)) o 5 1) 1 2 (((up2 (up2 mem 1 2 ((mem 1 2) + 1)) o 5 1) 1 2) + 1)) o 4 (-1)))
    (k3 : s0 ≠ 0 → (lookM mem) = 33 → ¬ (lookM (up2 (up2 mem 1 2 ((mem 1 2) + 1)) o 5 1)) = 117 → ¬ (lookM (up2 (up2 mem 1 2 ((mem 1 2) + 1)) o 5 1)) = 100 → GM E (m_X8_read 4) P 89 [.ref o, .ref 1] [.ref 1, .ref o] (up2 (up2 (up2 mem 1 2 ((mem 1 2) + 1)) o 5 1) o 4 0))
    (k4 : s0 ≠ 0 → ¬ (lookM mem) = 33 → (lookM (up2 mem o 5 0)) = 117 → GM E (m_X8_read 4) P 89 [.ref o, .ref 1] [.ref 1, .ref o] (up2 (up2 (up2 mem o 5 0) 1 2 (((up2 mem o 5 0) 1 2) + 1)) o 4 1))
    (k5 : s0 ≠ 0 → ¬ (lookM mem) = 33 → ¬ (lookM (up2 mem o 5 0)) = 117 → (lookM (up2 mem o 5 0)) = 100 → GM E (m_X8_read 4) P 89 [.ref o, .ref 1] [.ref 1, .ref o] (up2 (up2 (up2 mem o 5 0) 1 2 (((up2 mem o 5 0) 1 2) + 1)) o 4 (-1)))
    (k6 : s0 ≠ 0 → ¬ (lookM mem) = 33 → ¬ (lookM (up2 mem o 5 0)) = 117 → ¬ (lookM (up2 mem o 5 0)) = 100 → GM E (m_X8_read 4) P 89 [.ref o, .ref 1] [.ref 1, .ref o] (up2 (up2 mem o 5 0) o 4 0))
    (k7 : s0 = 0 → P (some (vi 0)) mem) :
    GM E (m_X8_read 4) P 41 [.ref o, .ref 1] [vi s0] mem := by
  refine G_if_ne (tgt := 46) dX8_read_41 (by decide) (w1) (fun c1 => ?_) (fun c1 => ?_)
  · -- s0 ≠ 0
    refine G_aload_n dX8_read_46 rfl ?_
    refine G_aload_n dX8_read_47 rfl ?_
    refine G_bipush (z := 33) dX8_read_48 rfl ?_
    refine cb_X8_read_50 (ic_X9_accept (z := (mem 1 2)) (t2 c1) (by decide) rfl (fun c2 => ?_) (fun c3 => ?_))
    · -- (lookM mem) = 33
      refine G_putZ (mem2 := (up2 (up2 mem 1 2 ((mem 1 2) + 1)) o 5 1)) (by decide) dX8_read_53 fp_8_45 (ltStreet0 ho) (shStreet0 ho) rfl ?_
      refine G_aload_n dX8_read_56 rfl ?_
      refine G_aload_n dX8_read_57 rfl ?_
      refine G_bipush (z := 117) dX8_read_58 rfl ?_
      refine cb_X8_read_60 (ic_X9_accept (z := ((up2 (up2 mem 1 2 ((mem 1 2) + 1)) o 5 1) 1 2)) (t3 c1 c2) (by decide) (by simp [up2, upr]) (fun c4 => ?_) (fun c5 => ?_))
      · -- (lookM (up2 (up2 mem 1 2 ((mem 1 2) + 1)) o 5 1)) = 117
        refine G_if_eq (tgt := 70) dX8_read_63 (by decide) (by decide) (fun h => absurd h (by decide)) (fun _ => ?_)
        refine G_iconst (z := 1) dX8_read_66 rfl ?_
        refine G_goto (tgt := 84) dX8_read_67 (by decide) ?_
        refine G_putI (mem2 := (up2 (up2 (up2 (up2 mem 1 2 ((mem 1 2) + 1)) o 5 1) 1 2 (((up2 (up2 mem 1 2 ((mem 1 2) + 1)) o 5 1) 1 2) + 1)) o 4 1)) dX8_read_84 fp_8_49 (ltStreet0 ho) (shStreet0 ho) rfl ?_
        refine G_aload_n dX8_read_87 rfl ?_
        refine G_aload_n dX8_read_88 rfl ?_
        exact k1 c1 c2 c4
      · -- ¬ (lookM (up2 (up2 mem 1 2 ((mem 1 2) + 1)) o 5 1)) = 117
        refine G_if_eq (tgt := 70) dX8_read_63 (by decide) (by decide) (fun _ => ?_) (fun h => absurd h (by decide))
        refine G_aload_n dX8_read_70 rfl ?_
        refine G_bipush (z := 100) dX8_read_71 rfl ?_
        refine cb_X8_read_73 (ic_X9_accept (z := ((up2 (up2 mem 1 2 ((mem 1 2) + 1)) o 5 1) 1 2)) (t3 c1 c2) (by decide) (by simp [up2, upr]) (fun c6 => ?_) (fun c7 => ?_))
        · -- (lookM (up2 (up2 mem 1 2 ((mem 1 2) + 1)) o 5 1)) = 100
          refine G_if_eq (tgt := 83) dX8_read_76 (by decide) (by decide) (fun h => absurd h (by decide)) (fun _ => ?_)
          refine G_iconst (z := (-1)) dX8_read_79 rfl ?_
          refine G_goto (tgt := 84) dX8_read_80 (by decide) ?_
          refine G_putI (mem2 := (up2 (up2 (up2 (up2 mem 1 2 ((mem 1 2) + 1)) o 5 1) 1 2 (((up2 (up2 mem 1 2 ((mem 1 2) + 1)) o 5 1) 1 2) + 1)) o 4 (-1))) dX8_read_84 fp_8_49 (ltStreet0 ho) (shStreet0 ho) rfl ?_
          refine G_aload_n dX8_read_87 rfl ?_
          refine G_aload_n dX8_read_88 rfl ?_
          exact k2 c1 c2 c5 c6
        · -- ¬ (lookM (up2 (up2 mem 1 2 ((mem 1 2) + 1)) o 5 1)) = 100
          refine G_if_eq (tgt := 83) dX8_read_76 (by decide) (by decide) (fun _ => ?_) (fun h => absurd h (by decide))
          refine G_iconst (z := 0) dX8_read_83 rfl ?_
          refine G_putI (mem2 := (up2 (up2 (up2 mem 1 2 ((mem 1 2) + 1)) o 5 1) o 4 0)) dX8_read_84 fp_8_49 (ltStreet0 ho) (shStreet0 ho) rfl ?_
          refine G_aload_n dX8_read_87 rfl ?_
          refine G_aload_n dX8_read_88 rfl ?_
          exact k3 c1 c2 c5 c7
    · -- ¬ (lookM mem) = 33
      refine G_putZ (mem2 := (up2 mem o 5 0)) (by decide) dX8_read_53 fp_8_45 (ltStreet0 ho) (shStreet0 ho) rfl ?_
      refine G_aload_n dX8_read_56 rfl ?_
      refine G_aload_n dX8_read_57 rfl ?_
      refine G_bipush (z := 117) dX8_read_58 rfl ?_
      refine cb_X8_read_60 (ic_X9_accept (z := ((up2 mem o 5 0) 1 2)) (t4 c1 c3) (by decide) (by simp [up2, upr]) (fun c8 => ?_) (fun c9 => ?_))
      · -- (lookM (up2 mem o 5 0)) = 117
        refine G_if_eq (tgt := 70) dX8_read_63 (by decide) (by decide) (fun h => absurd h (by decide)) (fun _ => ?_)
        refine G_iconst (z := 1) dX8_read_66 rfl ?_
        refine G_goto (tgt := 84) dX8_read_67 (by decide) ?_
        refine G_putI (mem2 := (up2 (up2 (up2 mem o 5 0) 1 2 (((up2 mem o 5 0) 1 2) + 1)) o 4 1)) dX8_read_84 fp_8_49 (ltStreet0 ho) (shStreet0 ho) rfl ?_
        refine G_aload_n dX8_read_87 rfl ?_
        refine G_aload_n dX8_read_88 rfl ?_
        exact k4 c1 c3 c8
      · -- ¬ (lookM (up2 mem o 5 0)) = 117
        refine G_if_eq (tgt := 70) dX8_read_63 (by decide) (by decide) (fun _ => ?_) (fun h => absurd h (by decide))
        refine G_aload_n dX8_read_70 rfl ?_
        refine G_bipush (z := 100) dX8_read_71 rfl ?_
        refine cb_X8_read_73 (ic_X9_accept (z := ((up2 mem o 5 0) 1 2)) (t4 c1 c3) (by decide) (by simp [up2, upr]) (fun c10 => ?_) (fun c11 => ?_))
        · -- (lookM (up2 mem o 5 0)) = 100
          refine G_if_eq (tgt := 83) dX8_read_76 (by decide) (by decide) (fun h => absurd h (by decide)) (fun _ => ?_)
          refine G_iconst (z := (-1)) dX8_read_79 rfl ?_
          refine G_goto (tgt := 84) dX8_read_80 (by decide) ?_
          refine G_putI (mem2 := (up2 (up2 (up2 mem o 5 0) 1 2 (((up2 mem o 5 0) 1 2) + 1)) o 4 (-1))) dX8_read_84 fp_8_49 (ltStreet0 ho) (shStreet0 ho) rfl ?_
          refine G_aload_n dX8_read_87 rfl ?_
          refine G_aload_n dX8_read_88 rfl ?_
          exact k5 c1 c3 c9 c10
        · -- ¬ (lookM (up2 mem o 5 0)) = 100
          refine G_if_eq (tgt := 83) dX8_read_76 (by decide) (by decide) (fun _ => ?_) (fun h => absurd h (by decide))
          refine G_iconst (z := 0) dX8_read_83 rfl ?_
          refine G_putI (mem2 := (up2 (up2 mem o 5 0) o 4 0)) dX8_read_84 fp_8_49 (ltStreet0 ho) (shStreet0 ho) rfl ?_
          refine G_aload_n dX8_read_87 rfl ?_
          refine G_aload_n dX8_read_88 rfl ?_
          exact k6 c1 c3 c9 c11
  · -- s0 = 0
    refine G_iconst (z := 0) dX8_read_44 rfl ?_
    exact G_zret dX8_read_45 rfl (nar_zb (by decide)) (Nat.zero_le _) (Nat.zero_le _) (Nat.le_refl _) ⟨rfl, k7 c1⟩
set_option maxRecDepth 20000 in
set_option maxHeartbeats 8000000 in
theorem sg_X8_read_92 {E : Nat × (Nat → Int32)} {P : Option Value → Mem → Prop} {mem : Mem} {o : Nat} {s0 : Int} (ho : o ∈ streetL) (b1 : s0 = 0 ∨ s0 = 1)
    (k1 : P (some (vi s0)) mem) :
    GM E (m_X8_read 4) P 92 [.ref o, .ref 1] [vi s0] mem := by
  exact G_zret dX8_read_92 rfl (nar_zb (b1)) (Nat.zero_le _) (Nat.zero_le _) (Nat.le_refl _) ⟨rfl, k1⟩
set_option maxRecDepth 20000 in
set_option maxHeartbeats 8000000 in
theorem sg_X8_readBarred_0 {E : Nat × (Nat → Int32)} {P : Option Value → Mem → Prop} {mem : Mem} {o : Nat} (ho : o ∈ streetL) (t1 : TextOK (up2 (up2 mem o 7 (-1)) o 8 (-1)))
    (k1 : (lookM (up2 (up2 mem o 7 (-1)) o 8 (-1))) = 120 → GM E (m_X8_readBarred 2) P 24 [.ref o, .ref 1] [vi 3, .ref 1, .ref o] (up2 (up2 (up2 mem o 7 (-1)) o 8 (-1)) 1 2 (((up2 (up2 mem o 7 (-1)) o 8 (-1)) 1 2) + 1)))
    (k2 : ¬ (lookM (up2 (up2 mem o 7 (-1)) o 8 (-1))) = 120 → P (some (vi 1)) (up2 (up2 mem o 7 (-1)) o 8 (-1))) :
    GM E (m_X8_readBarred 2) P 0 [.ref o, .ref 1] [] mem := by
  refine G_aload_n dX8_readBarred_0 rfl ?_
  refine G_iconst (z := (-1)) dX8_readBarred_1 rfl ?_
  refine G_putI (mem2 := (up2 mem o 7 (-1))) dX8_readBarred_2 fp_8_15 (ltStreet0 ho) (shStreet0 ho) rfl ?_
  refine G_aload_n dX8_readBarred_5 rfl ?_
  refine G_iconst (z := (-1)) dX8_readBarred_6 rfl ?_
  refine G_putI (mem2 := (up2 (up2 mem o 7 (-1)) o 8 (-1))) dX8_readBarred_7 fp_8_19 (ltStreet0 ho) (shStreet0 ho) rfl ?_
  refine G_aload_n dX8_readBarred_10 rfl ?_
  refine G_bipush (z := 120) dX8_readBarred_11 rfl ?_
  refine cb_X8_readBarred_13 (ic_X9_accept (z := ((up2 (up2 mem o 7 (-1)) o 8 (-1)) 1 2)) (t1) (by decide) (by simp [up2, upr]) (fun c1 => ?_) (fun c2 => ?_))
  · -- (lookM (up2 (up2 mem o 7 (-1)) o 8 (-1))) = 120
    refine G_if_ne (tgt := 21) dX8_readBarred_16 (by decide) (by decide) (fun _ => ?_) (fun h => absurd h (by decide))
    refine G_aload_n dX8_readBarred_21 rfl ?_
    refine G_aload_n dX8_readBarred_22 rfl ?_
    refine G_iconst (z := 3) dX8_readBarred_23 rfl ?_
    exact k1 c1
  · -- ¬ (lookM (up2 (up2 mem o 7 (-1)) o 8 (-1))) = 120
    refine G_if_ne (tgt := 21) dX8_readBarred_16 (by decide) (by decide) (fun h => absurd h (by decide)) (fun _ => ?_)
    refine G_iconst (z := 1) dX8_readBarred_19 rfl ?_
    exact G_zret dX8_readBarred_20 rfl (nar_zb (by decide)) (Nat.zero_le _) (Nat.zero_le _) (Nat.le_refl _) ⟨rfl, k2 c2⟩
set_option maxRecDepth 20000 in
set_option maxHeartbeats 8000000 in
theorem sg_X8_readBarred_27 {E : Nat × (Nat → Int32)} {P : Option Value → Mem → Prop} {mem : Mem} {o : Nat} {s0 : Int} (ho : o ∈ streetL) (w1 : -2147483648 ≤ s0 ∧ s0 < 2147483648) (t2 : ¬ s0 < 0 → TextOK (up2 mem o 7 s0))
    (k1 : s0 < 0 → P (some (vi 0)) (up2 mem o 7 s0))
    (k2 : ¬ s0 < 0 → (lookM (up2 mem o 7 s0)) = 45 → GM E (m_X8_readBarred 2) P 51 [.ref o, .ref 1] [vi 3, .ref 1, .ref o] (up2 (up2 mem o 7 s0) 1 2 (((up2 mem o 7 s0) 1 2) + 1)))
    (k3 : ¬ s0 < 0 → ¬ (lookM (up2 mem o 7 s0)) = 45 → P (some (vi 0)) (up2 mem o 7 s0)) :
    GM E (m_X8_readBarred 2) P 27 [.ref o, .ref 1] [vi s0, .ref o] mem := by
  refine G_putI (mem2 := (up2 mem o 7 s0)) dX8_readBarred_27 fp_8_15 (ltStreet0 ho) (shStreet0 ho) rfl ?_
  refine G_aload_n dX8_readBarred_30 rfl ?_
  refine G_getI (z := s0) dX8_readBarred_31 fl_8_15 (ltStreet0 ho) (shStreet0 ho) (by simp [up2, upr]) ?_
  refine G_if_lt (tgt := 46) dX8_readBarred_34 (by decide) (w1) (fun c1 => ?_) (fun c1 => ?_)
  · -- s0 < 0
    refine G_iconst (z := 0) dX8_readBarred_46 rfl ?_
    exact G_zret dX8_readBarred_47 rfl (nar_zb (by decide)) (Nat.zero_le _) (Nat.zero_le _) (Nat.le_refl _) ⟨rfl, k1 c1⟩
  · -- ¬ s0 < 0
    refine G_aload_n dX8_readBarred_37 rfl ?_
    refine G_bipush (z := 45) dX8_readBarred_38 rfl ?_
    refine cb_X8_readBarred_40 (ic_X9_accept (z := ((up2 mem o 7 s0) 1 2)) (t2 c1) (by decide) (by simp [up2, upr]) (fun c2 => ?_) (fun c3 => ?_))
    · -- (lookM (up2 mem o 7 s0)) = 45
      refine G_if_ne (tgt := 48) dX8_readBarred_43 (by decide) (by decide) (fun _ => ?_) (fun h => absurd h (by decide))
      refine G_aload_n dX8_readBarred_48 rfl ?_
      refine G_aload_n dX8_readBarred_49 rfl ?_
      refine G_iconst (z := 3) dX8_readBarred_50 rfl ?_
      exact k2 c1 c2
    · -- ¬ (lookM (up2 mem o 7 s0)) = 45
      refine G_if_ne (tgt := 48) dX8_readBarred_43 (by decide) (by decide) (fun h => absurd h (by decide)) (fun _ => ?_)
      refine G_iconst (z := 0) dX8_readBarred_46 rfl ?_
      exact G_zret dX8_readBarred_47 rfl (nar_zb (by decide)) (Nat.zero_le _) (Nat.zero_le _) (Nat.le_refl _) ⟨rfl, k3 c1 c3⟩
set_option maxRecDepth 20000 in
set_option maxHeartbeats 8000000 in
theorem sg_X8_readBarred_54 {E : Nat × (Nat → Int32)} {P : Option Value → Mem → Prop} {mem : Mem} {o : Nat} {s0 : Int} (ho : o ∈ streetL) (w1 : -2147483648 ≤ s0 ∧ s0 < 2147483648) (w2 : 0 ≤ s0 → -2147483648 ≤ (mem o 7) ∧ (mem o 7) < 2147483648)
    (k1 : 0 ≤ s0 → (mem o 7) ≤ s0 → P (some (vi 1)) (up2 mem o 8 s0))
    (k2 : 0 ≤ s0 → ¬ (mem o 7) ≤ s0 → P (some (vi 0)) (up2 (up2 mem o 8 s0) 1 2 (((up2 mem o 8 s0) 1 2) - 1)))
    (k3 : ¬ 0 ≤ s0 → P (some (vi 0)) (up2 mem o 8 s0)) :
    GM E (m_X8_readBarred 2) P 54 [.ref o, .ref 1] [vi s0, .ref o] mem := by
  refine G_putI (mem2 := (up2 mem o 8 s0)) dX8_readBarred_54 fp_8_19 (ltStreet0 ho) (shStreet0 ho) rfl ?_
  refine G_aload_n dX8_readBarred_57 rfl ?_
  refine G_getI (z := s0) dX8_readBarred_58 fl_8_19 (ltStreet0 ho) (shStreet0 ho) (by simp [up2, upr]) ?_
  refine G_if_ge (tgt := 66) dX8_readBarred_61 (by decide) (w1) (fun c1 => ?_) (fun c1 => ?_)
  · -- 0 ≤ s0
    refine G_aload_n dX8_readBarred_66 rfl ?_
    refine G_getI (z := s0) dX8_readBarred_67 fl_8_19 (ltStreet0 ho) (shStreet0 ho) (by simp [up2, upr]) ?_
    refine G_aload_n dX8_readBarred_70 rfl ?_
    refine G_getI (z := (mem o 7)) dX8_readBarred_71 fl_8_15 (ltStreet0 ho) (shStreet0 ho) (by simp [up2, upr]) ?_
    refine G_icmp_ge (tgt := 83) dX8_readBarred_74 (by decide) (w1) (w2 c1) (fun c2 => ?_) (fun c2 => ?_)
    · -- (mem o 7) ≤ s0
      refine G_iconst (z := 1) dX8_readBarred_83 rfl ?_
      exact G_zret dX8_readBarred_84 rfl (nar_zb (by decide)) (Nat.zero_le _) (Nat.zero_le _) (Nat.le_refl _) ⟨rfl, k1 c1 c2⟩
    · -- ¬ (mem o 7) ≤ s0
      refine G_aload_n dX8_readBarred_77 rfl ?_
      refine cb_X8_readBarred_78 (ic_X9_stepBack (z := ((up2 mem o 8 s0) 1 2)) (by simp [up2, upr]) ?_)
      refine G_iconst (z := 0) dX8_readBarred_81 rfl ?_
      exact G_zret dX8_readBarred_82 rfl (nar_zb (by decide)) (Nat.zero_le _) (Nat.zero_le _) (Nat.le_refl _) ⟨rfl, k2 c1 c2⟩
  · -- ¬ 0 ≤ s0
    refine G_iconst (z := 0) dX8_readBarred_64 rfl ?_
    exact G_zret dX8_readBarred_65 rfl (nar_zb (by decide)) (Nat.zero_le _) (Nat.zero_le _) (Nat.le_refl _) ⟨rfl, k3 c1⟩
set_option maxRecDepth 20000 in
set_option maxHeartbeats 8000000 in
theorem sg_X8_readSide_0 {E : Nat × (Nat → Int32)} {P : Option Value → Mem → Prop} {mem : Mem} {o : Nat} {a2 : Int} {a3 : Int} (ho : o ∈ streetL)
    (k1 : GM E (m_X8_readSide 2) P 3 [.ref o, .ref 1, vi a2, vi a3, vi 0, un, un] [] mem) :
    GM E (m_X8_readSide 2) P 0 [.ref o, .ref 1, vi a2, vi a3, un, un, un] [] mem := by
  refine G_iconst (z := 0) dX8_readSide_0 rfl ?_
  refine G_istore dX8_readSide_1 (by decide : 4 < 7) rfl ?_
  exact k1
set_option maxRecDepth 20000 in
set_option maxHeartbeats 8000000 in
theorem sg_X8_readSide_3 {E : Nat × (Nat → Int32)} {P : Option Value → Mem → Prop} {mem : Mem} {o : Nat} {a2 : Int} {a3 : Int} {a4 : Int} (ho : o ∈ streetL) (w1 : -2147483648 ≤ a4 ∧ a4 < 2147483648) (w2 : -2147483648 ≤ a3 ∧ a3 < 2147483648) (t3 : ¬ a3 ≤ a4 → TextOK mem) (w4 : ¬ a3 ≤ a4 → 48 ≤ (lookM mem) ∧ (lookM mem) < 10 + 48 → -2147483648 ≤ ((lookM mem) - 48) ∧ ((lookM mem) - 48) < 2147483648) (w5 : ¬ a3 ≤ a4 → 48 ≤ (lookM mem) ∧ (lookM mem) < 10 + 48 → ¬ ((lookM mem) - 48) < 0 → -2147483648 ≤ (a2 + a4) ∧ (a2 + a4) < 2147483648)
    (k1 : a3 ≤ a4 → P (some (vi a3)) mem)
    (k2 : ¬ a3 ≤ a4 → 48 ≤ (lookM mem) ∧ (lookM mem) < 10 + 48 → ((lookM mem) - 48) < 0 → P (some (vi a4)) (up2 mem 1 2 ((mem 1 2) + 1)))
    (k3 : ¬ a3 ≤ a4 → 48 ≤ (lookM mem) ∧ (lookM mem) < 10 + 48 → ¬ ((lookM mem) - 48) < 0 → (a2 + a4) < 0 → P (some (vi a4)) (up2 mem 1 2 ((mem 1 2) + 1)))
    (k4 : ¬ a3 ≤ a4 → 48 ≤ (lookM mem) ∧ (lookM mem) < 10 + 48 → ¬ ((lookM mem) - 48) < 0 → ¬ (a2 + a4) < 0 → (a2 + a4) < 16 → GM E (m_X8_readSide 2) P 3 [.ref o, .ref 1, vi a2, vi a3, vi (a4 + 1), un, un] [] (up2 (up2 mem 1 2 ((mem 1 2) + 1)) (o + 1) (a2 + a4) ((lookM mem) - 48)))
    (k5 : ¬ a3 ≤ a4 → 48 ≤ (lookM mem) ∧ (lookM mem) < 10 + 48 → ¬ ((lookM mem) - 48) < 0 → ¬ (a2 + a4) < 0 → ¬ (a2 + a4) < 16 → P (some (vi a4)) (up2 mem 1 2 ((mem 1 2) + 1)))
    (k6 : ¬ a3 ≤ a4 → ¬ (48 ≤ (lookM mem) ∧ (lookM mem) < 10 + 48) → P (some (vi a4)) mem) :
    GM E (m_X8_readSide 2) P 3 [.ref o, .ref 1, vi a2, vi a3, vi a4, un, un] [] mem := by
  refine G_iload dX8_readSide_3 rfl ?_
  refine G_iload_n dX8_readSide_5 rfl ?_
  refine G_icmp_ge (tgt := 61) dX8_readSide_6 (by decide) (w1) (w2) (fun c1 => ?_) (fun c1 => ?_)
  · -- a3 ≤ a4
    refine G_iload_n dX8_readSide_61 rfl ?_
    exact G_iret dX8_readSide_62 rfl (Nat.zero_le _) (Nat.zero_le _) (Nat.le_refl _) ⟨rfl, k1 c1⟩
  · -- ¬ a3 ≤ a4
    refine G_aload_n dX8_readSide_9 rfl ?_
    refine G_bipush (z := 10) dX8_readSide_10 rfl ?_
    refine cb_X8_readSide_12 (ic_X9_digitBelow (z := (mem 1 2)) (t3 c1) (by decide) rfl (fun c2 => ?_) (fun c3 => ?_))
    · -- 48 ≤ (lookM mem) ∧ (lookM mem) < 10 + 48
      refine G_istore dX8_readSide_15 (by decide : 5 < 7) rfl ?_
      refine G_iload_n dX8_readSide_17 rfl ?_
      refine G_iload dX8_readSide_18 rfl ?_
      refine G_iadd dX8_readSide_20 ?_
      refine G_istore dX8_readSide_21 (by decide : 6 < 7) rfl ?_
      refine G_iload dX8_readSide_23 rfl ?_
      refine G_if_lt (tgt := 43) dX8_readSide_25 (by decide) (w4 c1 c2) (fun c4 => ?_) (fun c4 => ?_)
      · -- ((lookM mem) - 48) < 0
        refine G_iload dX8_readSide_43 rfl ?_
        exact G_iret dX8_readSide_45 rfl (Nat.zero_le _) (Nat.zero_le _) (Nat.le_refl _) ⟨rfl, k2 c1 c2 c4⟩
      · -- ¬ ((lookM mem) - 48) < 0
        refine G_iload dX8_readSide_28 rfl ?_
        refine G_if_lt (tgt := 43) dX8_readSide_30 (by decide) (w5 c1 c2 c4) (fun c5 => ?_) (fun c5 => ?_)
        · -- (a2 + a4) < 0
          refine G_iload dX8_readSide_43 rfl ?_
          exact G_iret dX8_readSide_45 rfl (Nat.zero_le _) (Nat.zero_le _) (Nat.le_refl _) ⟨rfl, k3 c1 c2 c4 c5⟩
        · -- ¬ (a2 + a4) < 0
          refine G_iload dX8_readSide_33 rfl ?_
          refine G_aload_n dX8_readSide_35 rfl ?_
          refine G_getR (t := (o + 1)) dX8_readSide_36 fl_8_9 (ltStreet0 ho) (shStreet0 ho) (rrStreet_1 ho) ?_
          refine G_alen (z := 16) dX8_readSide_39 (ltStreet1 ho) (shStreet1 ho) (by decide) rfl ?_
          refine G_icmp_lt (tgt := 46) dX8_readSide_40 (by decide) (w5 c1 c2 c4) (by decide) (fun c6 => ?_) (fun c6 => ?_)
          · -- (a2 + a4) < 16
            refine G_aload_n dX8_readSide_46 rfl ?_
            refine G_getR (t := (o + 1)) dX8_readSide_47 fl_8_9 (ltStreet0 ho) (shStreet0 ho) (rrStreet_1 ho) ?_
            refine G_iload dX8_readSide_50 rfl ?_
            refine G_iload dX8_readSide_52 rfl ?_
            refine G_iast (mem2 := (up2 (up2 mem 1 2 ((mem 1 2) + 1)) (o + 1) (a2 + a4) ((lookM mem) - 48))) dX8_readSide_54 (ltStreet1 ho) (shStreet1 ho) (by decide) (by omega) (by omega) rfl ?_
            refine G_iinc (z := (a4 + 1)) dX8_readSide_55 rfl rfl (by decide : 4 < 7) rfl ?_
            refine G_goto (tgt := 3) dX8_readSide_58 (by decide) ?_
            refine G_weak (lv2 := [.ref o, .ref 1, vi a2, vi a3, vi (a4 + 1), un, un]) ⟨Or.inr rfl, Or.inr rfl, Or.inr rfl, Or.inr rfl, Or.inr rfl, Or.inl rfl, Or.inl rfl, trivial⟩ ?_
            exact k4 c1 c2 c4 c5 c6
          · -- ¬ (a2 + a4) < 16
            refine G_iload dX8_readSide_43 rfl ?_
            exact G_iret dX8_readSide_45 rfl (Nat.zero_le _) (Nat.zero_le _) (Nat.le_refl _) ⟨rfl, k5 c1 c2 c4 c5 c6⟩
    · -- ¬ (48 ≤ (lookM mem) ∧ (lookM mem) < 10 + 48)
      refine G_istore dX8_readSide_15 (by decide : 5 < 7) rfl ?_
      refine G_iload_n dX8_readSide_17 rfl ?_
      refine G_iload dX8_readSide_18 rfl ?_
      refine G_iadd dX8_readSide_20 ?_
      refine G_istore dX8_readSide_21 (by decide : 6 < 7) rfl ?_
      refine G_iload dX8_readSide_23 rfl ?_
      refine G_if_lt (tgt := 43) dX8_readSide_25 (by decide) (by decide) (fun _ => ?_) (fun h => absurd h (by decide))
      refine G_iload dX8_readSide_43 rfl ?_
      exact G_iret dX8_readSide_45 rfl (Nat.zero_le _) (Nat.zero_le _) (Nat.le_refl _) ⟨rfl, k6 c1 c3⟩
set_option maxRecDepth 20000 in
set_option maxHeartbeats 8000000 in
theorem sg_X8_readSides_0 {E : Nat × (Nat → Int32)} {P : Option Value → Mem → Prop} {mem : Mem} {o : Nat} (ho : o ∈ streetL)
    (k1 : GM E (m_X8_readSides 3) P 5 [.ref o, .ref 1] [vi 0, .ref (o + 1)] mem) :
    GM E (m_X8_readSides 3) P 0 [.ref o, .ref 1] [] mem := by
  refine G_aload_n dX8_readSides_0 rfl ?_
  refine G_getR (t := (o + 1)) dX8_readSides_1 fl_8_9 (ltStreet0 ho) (shStreet0 ho) (rrStreet_1 ho) ?_
  refine G_iconst (z := 0) dX8_readSides_4 rfl ?_
  exact k1
set_option maxRecDepth 20000 in
set_option maxHeartbeats 8000000 in
theorem sg_X8_readSides_8 {E : Nat × (Nat → Int32)} {P : Option Value → Mem → Prop} {mem : Mem} {o : Nat} (ho : o ∈ streetL)
    (k1 : GM E (m_X8_readSides 3) P 14 [.ref o, .ref 1] [vi 8, vi 0, .ref 1, .ref o, .ref o] mem) :
    GM E (m_X8_readSides 3) P 8 [.ref o, .ref 1] [] mem := by
  refine G_aload_n dX8_readSides_8 rfl ?_
  refine G_aload_n dX8_readSides_9 rfl ?_
  refine G_aload_n dX8_readSides_10 rfl ?_
  refine G_iconst (z := 0) dX8_readSides_11 rfl ?_
  refine G_bipush (z := 8) dX8_readSides_12 rfl ?_
  exact k1
set_option maxRecDepth 20000 in
set_option maxHeartbeats 8000000 in
theorem sg_X8_readSides_17 {E : Nat × (Nat → Int32)} {P : Option Value → Mem → Prop} {mem : Mem} {o : Nat} {s0 : Int} (ho : o ∈ streetL) (w1 : -2147483648 ≤ s0 ∧ s0 < 2147483648) (t2 : ¬ s0 ≤ 0 → TextOK (up2 mem o 3 s0))
    (k1 : s0 ≤ 0 → P (some (vi 0)) (up2 mem o 3 s0))
    (k2 : ¬ s0 ≤ 0 → (lookM (up2 mem o 3 s0)) = 47 → GM E (m_X8_readSides 3) P 44 [.ref o, .ref 1] [vi ((up2 (up2 mem o 3 s0) 1 2 (((up2 mem o 3 s0) 1 2) + 1)) o 3), vi 8, .ref 1, .ref o] (up2 (up2 mem o 3 s0) 1 2 (((up2 mem o 3 s0) 1 2) + 1)))
    (k3 : ¬ s0 ≤ 0 → ¬ (lookM (up2 mem o 3 s0)) = 47 → P (some (vi 0)) (up2 mem o 3 s0)) :
    GM E (m_X8_readSides 3) P 17 [.ref o, .ref 1] [vi s0, .ref o] mem := by
  refine G_putI (mem2 := (up2 mem o 3 s0)) dX8_readSides_17 fp_8_65 (ltStreet0 ho) (shStreet0 ho) rfl ?_
  refine G_aload_n dX8_readSides_20 rfl ?_
  refine G_getI (z := s0) dX8_readSides_21 fl_8_65 (ltStreet0 ho) (shStreet0 ho) (by simp [up2, upr]) ?_
  refine G_if_le (tgt := 58) dX8_readSides_24 (by decide) (w1) (fun c1 => ?_) (fun c1 => ?_)
  · -- s0 ≤ 0
    refine G_iconst (z := 0) dX8_readSides_58 rfl ?_
    exact G_zret dX8_readSides_59 rfl (nar_zb (by decide)) (Nat.zero_le _) (Nat.zero_le _) (Nat.le_refl _) ⟨rfl, k1 c1⟩
  · -- ¬ s0 ≤ 0
    refine G_aload_n dX8_readSides_27 rfl ?_
    refine G_bipush (z := 47) dX8_readSides_28 rfl ?_
    refine cb_X8_readSides_30 (ic_X9_accept (z := ((up2 mem o 3 s0) 1 2)) (t2 c1) (by decide) (by simp [up2, upr]) (fun c2 => ?_) (fun c3 => ?_))
    · -- (lookM (up2 mem o 3 s0)) = 47
      refine G_if_eq (tgt := 58) dX8_readSides_33 (by decide) (by decide) (fun h => absurd h (by decide)) (fun _ => ?_)
      refine G_aload_n dX8_readSides_36 rfl ?_
      refine G_aload_n dX8_readSides_37 rfl ?_
      refine G_bipush (z := 8) dX8_readSides_38 rfl ?_
      refine G_aload_n dX8_readSides_40 rfl ?_
      refine G_getI (z := ((up2 (up2 mem o 3 s0) 1 2 (((up2 mem o 3 s0) 1 2) + 1)) o 3)) dX8_readSides_41 fl_8_65 (ltStreet0 ho) (shStreet0 ho) (by simp [up2, upr]) ?_
      exact k2 c1 c2
    · -- ¬ (lookM (up2 mem o 3 s0)) = 47
      refine G_if_eq (tgt := 58) dX8_readSides_33 (by decide) (by decide) (fun _ => ?_) (fun h => absurd h (by decide))
      refine G_iconst (z := 0) dX8_readSides_58 rfl ?_
      exact G_zret dX8_readSides_59 rfl (nar_zb (by decide)) (Nat.zero_le _) (Nat.zero_le _) (Nat.le_refl _) ⟨rfl, k3 c1 c3⟩
set_option maxRecDepth 20000 in
set_option maxHeartbeats 8000000 in
theorem sg_X8_readSides_47 {E : Nat × (Nat → Int32)} {P : Option Value → Mem → Prop} {mem : Mem} {o : Nat} {s0 : Int} (ho : o ∈ streetL) (w1 : -2147483648 ≤ s0 ∧ s0 < 2147483648) (w2 : -2147483648 ≤ (mem o 3) ∧ (mem o 3) < 2147483648)
    (k1 : s0 ≠ (mem o 3) → P (some (vi 0)) mem)
    (k2 : s0 = (mem o 3) → P (some (vi 1)) mem) :
    GM E (m_X8_readSides 3) P 47 [.ref o, .ref 1] [vi s0] mem := by
  refine G_aload_n dX8_readSides_47 rfl ?_
  refine G_getI (z := (mem o 3)) dX8_readSides_48 fl_8_65 (ltStreet0 ho) (shStreet0 ho) rfl ?_
  refine G_icmp_ne (tgt := 58) dX8_readSides_51 (by decide) (w1) (w2) (fun c1 => ?_) (fun c1 => ?_)
  · -- s0 ≠ (mem o 3)
    refine G_iconst (z := 0) dX8_readSides_58 rfl ?_
    exact G_zret dX8_readSides_59 rfl (nar_zb (by decide)) (Nat.zero_le _) (Nat.zero_le _) (Nat.le_refl _) ⟨rfl, k1 c1⟩
  · -- s0 = (mem o 3)
    refine G_iconst (z := 1) dX8_readSides_54 rfl ?_
    refine G_goto (tgt := 59) dX8_readSides_55 (by decide) ?_
    exact G_zret dX8_readSides_59 rfl (nar_zb (by decide)) (Nat.zero_le _) (Nat.zero_le _) (Nat.le_refl _) ⟨rfl, k2 c1⟩
set_option maxRecDepth 20000 in
set_option maxHeartbeats 8000000 in
theorem sg_X9_append_0 {E : Nat × (Nat → Int32)} {P : Option Value → Mem → Prop} {mem : Mem} {a1 : Int} (w1 : -2147483648 ≤ ((mem 1 1) + 4) ∧ ((mem 1 1) + 4) < 2147483648)
    (k1 : ((mem 1 1) + 4) ≤ 80 → GM E (m_X9_append 0) P 19 [.ref 1, vi a1, vi 24] [] mem)
    (k2 : ¬ ((mem 1 1) + 4) ≤ 80 → P (some (vi 0)) mem) :
    GM E (m_X9_append 0) P 0 [.ref 1, vi a1, un] [] mem := by
  refine G_aload_n dX9_append_0 rfl ?_
  refine G_getI (z := (mem 1 1)) dX9_append_1 fl_9_15 (by decide) sh_1 rfl ?_
  refine G_iconst (z := 4) dX9_append_4 rfl ?_
  refine G_iadd dX9_append_5 ?_
  refine G_aload_n dX9_append_6 rfl ?_
  refine G_getR (t := 2) dX9_append_7 fl_9_9 (by decide) sh_1 rr_1_0 ?_
  refine G_alen (z := 80) dX9_append_10 (by decide) sh_2 (by decide) rfl ?_
  refine G_icmp_le (tgt := 16) dX9_append_11 (by decide) (w1) (by decide) (fun c1 => ?_) (fun c1 => ?_)
  · -- ((mem 1 1) + 4) ≤ 80
    refine G_bipush (z := 24) dX9_append_16 rfl ?_
    refine G_istore_n dX9_append_18 rfl (by decide : 2 < 3) rfl ?_
    exact k1 c1
  · -- ¬ ((mem 1 1) + 4) ≤ 80
    refine G_iconst (z := 0) dX9_append_14 rfl ?_
    exact G_zret dX9_append_15 rfl (nar_zb (by decide)) (Nat.zero_le _) (Nat.zero_le _) (Nat.le_refl _) ⟨rfl, k2 c1⟩
set_option maxRecDepth 20000 in
set_option maxHeartbeats 8000000 in
theorem sg_X9_append_19 {E : Nat × (Nat → Int32)} {P : Option Value → Mem → Prop} {mem : Mem} {a1 : Int} {a2 : Int} (w1 : -2147483648 ≤ a2 ∧ a2 < 2147483648) (q2 : ¬ a2 < 0 → 0 ≤ (mem 1 1) ∧ (mem 1 1) < 80)
    (k1 : a2 < 0 → P (some (vi 1)) mem)
    (k2 : ¬ a2 < 0 → GM E (m_X9_append 0) P 19 [.ref 1, vi a1, vi (a2 + (-8))] [] (up2 (up2 mem 2 (mem 1 1) (bandI (ushrI a1 a2) 255)) 1 1 ((mem 1 1) + 1))) :
    GM E (m_X9_append 0) P 19 [.ref 1, vi a1, vi a2] [] mem := by
  refine G_iload_n dX9_append_19 rfl ?_
  refine G_if_lt (tgt := 55) dX9_append_20 (by decide) (w1) (fun c1 => ?_) (fun c1 => ?_)
  · -- a2 < 0
    refine G_iconst (z := 1) dX9_append_55 rfl ?_
    exact G_zret dX9_append_56 rfl (nar_zb (by decide)) (Nat.zero_le _) (Nat.zero_le _) (Nat.le_refl _) ⟨rfl, k1 c1⟩
  · -- ¬ a2 < 0
    refine G_aload_n dX9_append_23 rfl ?_
    refine G_getR (t := 2) dX9_append_24 fl_9_9 (by decide) sh_1 rr_1_0 ?_
    refine G_aload_n dX9_append_27 rfl ?_
    refine G_getI (z := (mem 1 1)) dX9_append_28 fl_9_15 (by decide) sh_1 rfl ?_
    refine G_iload_n dX9_append_31 rfl ?_
    refine G_iload_n dX9_append_32 rfl ?_
    refine G_iushr (z := (ushrI a1 a2)) dX9_append_33 (iI_inv _) ?_
    refine G_sipush (z := 255) dX9_append_34 rfl ?_
    refine G_iand (z := (bandI (ushrI a1 a2) 255)) dX9_append_37 (iI_inv _) ?_
    refine G_iast (mem2 := (up2 mem 2 (mem 1 1) (bandI (ushrI a1 a2) 255))) dX9_append_38 (by decide) sh_2 (by decide) (q2 c1).1 (q2 c1).2 rfl ?_
    refine G_aload_n dX9_append_39 rfl ?_
    refine G_dup dX9_append_40 rfl ?_
    refine G_getI (z := (mem 1 1)) dX9_append_41 fl_9_15 (by decide) sh_1 (by simp [up2, upr]) ?_
    refine G_iconst (z := 1) dX9_append_44 rfl ?_
    refine G_iadd dX9_append_45 ?_
    refine G_putI (mem2 := (up2 (up2 mem 2 (mem 1 1) (bandI (ushrI a1 a2) 255)) 1 1 ((mem 1 1) + 1))) dX9_append_46 fp_9_15 (by decide) sh_1 rfl ?_
    refine G_iinc (z := (a2 + (-8))) dX9_append_49 rfl rfl (by decide : 2 < 3) rfl ?_
    refine G_goto (tgt := 19) dX9_append_52 (by decide) ?_
    exact k2 c1
set_option maxRecDepth 20000 in
set_option maxHeartbeats 8000000 in
theorem sg_X9_number_0 {E : Nat × (Nat → Int32)} {P : Option Value → Mem → Prop} {mem : Mem} {a1 : Int}
    (k1 : GM E (m_X9_number 1) P 4 [.ref 1, vi a1, vi (-1), vi 0, un] [] mem) :
    GM E (m_X9_number 1) P 0 [.ref 1, vi a1, un, un, un] [] mem := by
  refine G_iconst (z := (-1)) dX9_number_0 rfl ?_
  refine G_istore_n dX9_number_1 rfl (by decide : 2 < 5) rfl ?_
  refine G_iconst (z := 0) dX9_number_2 rfl ?_
  refine G_istore_n dX9_number_3 rfl (by decide : 3 < 5) rfl ?_
  exact k1
set_option maxRecDepth 20000 in
set_option maxHeartbeats 8000000 in
theorem sg_X9_number_4 {E : Nat × (Nat → Int32)} {P : Option Value → Mem → Prop} {mem : Mem} {a1 : Int} {a2 : Int} {a3 : Int} (w1 : -2147483648 ≤ a3 ∧ a3 < 2147483648) (w2 : -2147483648 ≤ a1 ∧ a1 < 2147483648) (t3 : ¬ a1 ≤ a3 → TextOK mem) (w4 : ¬ a1 ≤ a3 → -2147483648 ≤ ((lookM mem) - 48) ∧ ((lookM mem) - 48) < 2147483648)
    (k1 : a1 ≤ a3 → P (some (vi a2)) mem)
    (k2 : ¬ a1 ≤ a3 → ((lookM mem) - 48) < 0 → P (some (vi a2)) mem)
    (k3 : ¬ a1 ≤ a3 → ¬ ((lookM mem) - 48) < 0 → ((lookM mem) - 48) ≤ 9 → GM E (m_X9_number 1) P 4 [.ref 1, vi a1, vi (if a3 ≠ 0 then ((a2 * 10) + ((lookM mem) - 48)) else ((lookM mem) - 48)), vi (a3 + 1), un] [] (up2 mem 1 2 ((mem 1 2) + 1)))
    (k4 : ¬ a1 ≤ a3 → ¬ ((lookM mem) - 48) < 0 → ¬ ((lookM mem) - 48) ≤ 9 → P (some (vi a2)) mem) :
    GM E (m_X9_number 1) P 4 [.ref 1, vi a1, vi a2, vi a3, un] [] mem := by
  refine G_iload_n dX9_number_4 rfl ?_
  refine G_iload_n dX9_number_5 rfl ?_
  refine G_icmp_ge (tgt := 59) dX9_number_6 (by decide) (w1) (w2) (fun c1 => ?_) (fun c1 => ?_)
  · -- a1 ≤ a3
    refine G_iload_n dX9_number_59 rfl ?_
    exact G_iret dX9_number_60 rfl (Nat.zero_le _) (Nat.zero_le _) (Nat.le_refl _) ⟨rfl, k1 c1⟩
  · -- ¬ a1 ≤ a3
    refine G_aload_n dX9_number_9 rfl ?_
    refine cb_X9_number_10 (ic_X9_look (t3 c1) ?_)
    refine G_bipush (z := 48) dX9_number_13 rfl ?_
    refine G_isub dX9_number_15 ?_
    refine G_istore dX9_number_16 (by decide : 4 < 5) rfl ?_
    refine G_iload dX9_number_18 rfl ?_
    refine G_if_lt (tgt := 30) dX9_number_20 (by decide) (w4 c1) (fun c2 => ?_) (fun c2 => ?_)
    · -- ((lookM mem) - 48) < 0
      refine G_iload_n dX9_number_30 rfl ?_
      exact G_iret dX9_number_31 rfl (Nat.zero_le _) (Nat.zero_le _) (Nat.le_refl _) ⟨rfl, k2 c1 c2⟩
    · -- ¬ ((lookM mem) - 48) < 0
      refine G_iload dX9_number_23 rfl ?_
      refine G_bipush (z := 9) dX9_number_25 rfl ?_
      refine G_icmp_le (tgt := 32) dX9_number_27 (by decide) (w4 c1) (by decide) (fun c3 => ?_) (fun c3 => ?_)
      · -- ((lookM mem) - 48) ≤ 9
        refine G_aload_n dX9_number_32 rfl ?_
        refine cb_X9_number_33 (ic_X9_pass (z := (mem 1 2)) rfl ?_)
        refine G_iload_n dX9_number_36 rfl ?_
        have j1 : GM E (m_X9_number 1) P 52 [.ref 1, vi a1, vi a2, vi a3, vi ((lookM mem) - 48)] [vi (if a3 ≠ 0 then ((a2 * 10) + ((lookM mem) - 48)) else ((lookM mem) - 48))] (up2 mem 1 2 ((mem 1 2) + 1)) := by
          refine G_istore_n dX9_number_52 rfl (by decide : 2 < 5) rfl ?_
          refine G_iinc (z := (a3 + 1)) dX9_number_53 rfl rfl (by decide : 3 < 5) rfl ?_
          refine G_goto (tgt := 4) dX9_number_56 (by decide) ?_
          refine G_weak (lv2 := [.ref 1, vi a1, vi (if a3 ≠ 0 then ((a2 * 10) + ((lookM mem) - 48)) else ((lookM mem) - 48)), vi (a3 + 1), un]) ⟨Or.inr rfl, Or.inr rfl, Or.inr rfl, Or.inr rfl, Or.inl rfl, trivial⟩ ?_
          exact k3 c1 c2 c3
        refine G_if_ne (tgt := 45) dX9_number_37 (by decide) (w1) (fun c4 => ?_) (fun c4 => ?_)
        · -- a3 ≠ 0
          refine G_iload_n dX9_number_45 rfl ?_
          refine G_bipush (z := 10) dX9_number_46 rfl ?_
          refine G_imul dX9_number_48 ?_
          refine G_iload dX9_number_49 rfl ?_
          refine G_iadd dX9_number_51 ?_
          have qj1 := j1
          simp only [if_pos c4] at qj1
          exact qj1
        · -- a3 = 0
          refine G_iload dX9_number_40 rfl ?_
          refine G_goto (tgt := 52) dX9_number_42 (by decide) ?_
          have qj1 := j1
          simp only [if_neg (show ¬ (a3 ≠ 0) from fun q => q c4)] at qj1
          exact qj1
      · -- ¬ ((lookM mem) - 48) ≤ 9
        refine G_iload_n dX9_number_30 rfl ?_
        exact G_iret dX9_number_31 rfl (Nat.zero_le _) (Nat.zero_le _) (Nat.le_refl _) ⟨rfl, k4 c1 c2 c3⟩
set_option maxRecDepth 20000 in
set_option maxHeartbeats 8000000 in
theorem sg_X9_shorten_0 {E : Nat × (Nat → Int32)} {P : Option Value → Mem → Prop} {mem : Mem} {a1 : Int} (w1 : -2147483648 ≤ a1 ∧ a1 < 2147483648) (w2 : ¬ a1 < 0 → -2147483648 ≤ (mem 1 1) ∧ (mem 1 1) < 2147483648)
    (k1 : a1 < 0 → P (some (vi 0)) mem)
    (k2 : ¬ a1 < 0 → a1 ≤ (mem 1 1) → P (some (vi 1)) (up2 mem 1 1 a1))
    (k3 : ¬ a1 < 0 → ¬ a1 ≤ (mem 1 1) → P (some (vi 0)) mem) :
    GM E (m_X9_shorten 0) P 0 [.ref 1, vi a1] [] mem := by
  refine G_iload_n dX9_shorten_0 rfl ?_
  refine G_if_lt (tgt := 12) dX9_shorten_1 (by decide) (w1) (fun c1 => ?_) (fun c1 => ?_)
  · -- a1 < 0
    refine G_iconst (z := 0) dX9_shorten_12 rfl ?_
    exact G_zret dX9_shorten_13 rfl (nar_zb (by decide)) (Nat.zero_le _) (Nat.zero_le _) (Nat.le_refl _) ⟨rfl, k1 c1⟩
  · -- ¬ a1 < 0
    refine G_iload_n dX9_shorten_4 rfl ?_
    refine G_aload_n dX9_shorten_5 rfl ?_
    refine G_getI (z := (mem 1 1)) dX9_shorten_6 fl_9_15 (by decide) sh_1 rfl ?_
    refine G_icmp_le (tgt := 14) dX9_shorten_9 (by decide) (w1) (w2 c1) (fun c2 => ?_) (fun c2 => ?_)
    · -- a1 ≤ (mem 1 1)
      refine G_aload_n dX9_shorten_14 rfl ?_
      refine G_iload_n dX9_shorten_15 rfl ?_
      refine G_putI (mem2 := (up2 mem 1 1 a1)) dX9_shorten_16 fp_9_15 (by decide) sh_1 rfl ?_
      refine G_iconst (z := 1) dX9_shorten_19 rfl ?_
      exact G_zret dX9_shorten_20 rfl (nar_zb (by decide)) (Nat.zero_le _) (Nat.zero_le _) (Nat.le_refl _) ⟨rfl, k2 c1 c2⟩
    · -- ¬ a1 ≤ (mem 1 1)
      refine G_iconst (z := 0) dX9_shorten_12 rfl ?_
      exact G_zret dX9_shorten_13 rfl (nar_zb (by decide)) (Nat.zero_le _) (Nat.zero_le _) (Nat.le_refl _) ⟨rfl, k3 c1 c2⟩
