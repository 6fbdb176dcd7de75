abbrev m_J6_bitCount_0f7a4 (d : Nat) : Mu := (cJ6_bitCount_0f7a4, 1, RJ6, (some .int), ⟨d, 0, 0, 40 * d⟩, "bitCount")
set_option maxRecDepth 20000 in
set_option maxHeartbeats 1000000 in
theorem sg_J6_bitCount_0f7a4_0 {E : Nat × (Nat → Int32)} {d : Nat} {P : Option Value → Mem → Prop} {mem : Mem} {a0 : Int}
    (k1 : P (some (vi (bandI (((bandI (((bandI (a0 - (bandI (ushrI a0 1) 1431655765)) 858993459) + (bandI (ushrI (a0 - (bandI (ushrI a0 1) 1431655765)) 2) 858993459)) + (ushrI ((bandI (a0 - (bandI (ushrI a0 1) 1431655765)) 858993459) + (bandI (ushrI (a0 - (bandI (ushrI a0 1) 1431655765)) 2) 858993459)) 4)) 252645135) + (ushrI (bandI (((bandI (a0 - (bandI (ushrI a0 1) 1431655765)) 858993459) + (bandI (ushrI (a0 - (bandI (ushrI a0 1) 1431655765)) 2) 858993459)) + (ushrI ((bandI (a0 - (bandI (ushrI a0 1) 1431655765)) 858993459) + (bandI (ushrI (a0 - (bandI (ushrI a0 1) 1431655765)) 2) 858993459)) 4)) 252645135) 8)) + (ushrI ((bandI (((bandI (a0 - (bandI (ushrI a0 1) 1431655765)) 858993459) + (bandI (ushrI (a0 - (bandI (ushrI a0 1) 1431655765)) 2) 858993459)) + (ushrI ((bandI (a0 - (bandI (ushrI a0 1) 1431655765)) 858993459) + (bandI (ushrI (a0 - (bandI (ushrI a0 1) 1431655765)) 2) 858993459)) 4)) 252645135) + (ushrI (bandI (((bandI (a0 - (bandI (ushrI a0 1) 1431655765)) 858993459) + (bandI (ushrI (a0 - (bandI (ushrI a0 1) 1431655765)) 2) 858993459)) + (ushrI ((bandI (a0 - (bandI (ushrI a0 1) 1431655765)) 858993459) + (bandI (ushrI (a0 - (bandI (ushrI a0 1) 1431655765)) 2) 858993459)) 4)) 252645135) 8)) 16)) 63))) mem) :
    GM E (m_J6_bitCount_0f7a4 d) P 0 [vi a0] [] mem := by
  refine G_iload_n dJ6_bitCount_0f7a4_0 rfl ?_
  refine G_iload_n dJ6_bitCount_0f7a4_1 rfl ?_
  refine G_iconst (z := 1) dJ6_bitCount_0f7a4_2 rfl ?_
  refine G_iushr (z := (ushrI a0 1)) dJ6_bitCount_0f7a4_3 (iI_inv _) ?_
  refine G_ldcw (z := 1431655765) dJ6_bitCount_0f7a4_4 kc_J6_265 ?_
  refine G_iand (z := (bandI (ushrI a0 1) 1431655765)) dJ6_bitCount_0f7a4_7 (iI_inv _) ?_
  refine G_isub dJ6_bitCount_0f7a4_8 ?_
  refine G_istore_n dJ6_bitCount_0f7a4_9 rfl (by decide : 0 < 1) rfl ?_
  refine G_iload_n dJ6_bitCount_0f7a4_10 rfl ?_
  refine G_ldcw (z := 858993459) dJ6_bitCount_0f7a4_11 kc_J6_266 ?_
  refine G_iand (z := (bandI (a0 - (bandI (ushrI a0 1) 1431655765)) 858993459)) dJ6_bitCount_0f7a4_14 (iI_inv _) ?_
  refine G_iload_n dJ6_bitCount_0f7a4_15 rfl ?_
  refine G_iconst (z := 2) dJ6_bitCount_0f7a4_16 rfl ?_
  refine G_iushr (z := (ushrI (a0 - (bandI (ushrI a0 1) 1431655765)) 2)) dJ6_bitCount_0f7a4_17 (iI_inv _) ?_
  refine G_ldcw (z := 858993459) dJ6_bitCount_0f7a4_18 kc_J6_266 ?_
  refine G_iand (z := (bandI (ushrI (a0 - (bandI (ushrI a0 1) 1431655765)) 2) 858993459)) dJ6_bitCount_0f7a4_21 (iI_inv _) ?_
  refine G_iadd dJ6_bitCount_0f7a4_22 ?_
  refine G_istore_n dJ6_bitCount_0f7a4_23 rfl (by decide : 0 < 1) rfl ?_
  refine G_iload_n dJ6_bitCount_0f7a4_24 rfl ?_
  refine G_iload_n dJ6_bitCount_0f7a4_25 rfl ?_
  refine G_iconst (z := 4) dJ6_bitCount_0f7a4_26 rfl ?_
  refine G_iushr (z := (ushrI ((bandI (a0 - (bandI (ushrI a0 1) 1431655765)) 858993459) + (bandI (ushrI (a0 - (bandI (ushrI a0 1) 1431655765)) 2) 858993459)) 4)) dJ6_bitCount_0f7a4_27 (iI_inv _) ?_
  refine G_iadd dJ6_bitCount_0f7a4_28 ?_
  refine G_ldcw (z := 252645135) dJ6_bitCount_0f7a4_29 kc_J6_267 ?_
  refine G_iand (z := (bandI (((bandI (a0 - (bandI (ushrI a0 1) 1431655765)) 858993459) + (bandI (ushrI (a0 - (bandI (ushrI a0 1) 1431655765)) 2) 858993459)) + (ushrI ((bandI (a0 - (bandI (ushrI a0 1) 1431655765)) 858993459) + (bandI (ushrI (a0 - (bandI (ushrI a0 1) 1431655765)) 2) 858993459)) 4)) 252645135)) dJ6_bitCount_0f7a4_32 (iI_inv _) ?_
  refine G_istore_n dJ6_bitCount_0f7a4_33 rfl (by decide : 0 < 1) rfl ?_
  refine G_iload_n dJ6_bitCount_0f7a4_34 rfl ?_
  refine G_iload_n dJ6_bitCount_0f7a4_35 rfl ?_
  refine G_bipush (z := 8) dJ6_bitCount_0f7a4_36 rfl ?_
  refine G_iushr (z := (ushrI (bandI (((bandI (a0 - (bandI (ushrI a0 1) 1431655765)) 858993459) + (bandI (ushrI (a0 - (bandI (ushrI a0 1) 1431655765)) 2) 858993459)) + (ushrI ((bandI (a0 - (bandI (ushrI a0 1) 1431655765)) 858993459) + (bandI (ushrI (a0 - (bandI (ushrI a0 1) 1431655765)) 2) 858993459)) 4)) 252645135) 8)) dJ6_bitCount_0f7a4_38 (iI_inv _) ?_
  refine G_iadd dJ6_bitCount_0f7a4_39 ?_
  refine G_istore_n dJ6_bitCount_0f7a4_40 rfl (by decide : 0 < 1) rfl ?_
  refine G_iload_n dJ6_bitCount_0f7a4_41 rfl ?_
  refine G_iload_n dJ6_bitCount_0f7a4_42 rfl ?_
  refine G_bipush (z := 16) dJ6_bitCount_0f7a4_43 rfl ?_
  refine G_iushr (z := (ushrI ((bandI (((bandI (a0 - (bandI (ushrI a0 1) 1431655765)) 858993459) + (bandI (ushrI (a0 - (bandI (ushrI a0 1) 1431655765)) 2) 858993459)) + (ushrI ((bandI (a0 - (bandI (ushrI a0 1) 1431655765)) 858993459) + (bandI (ushrI (a0 - (bandI (ushrI a0 1) 1431655765)) 2) 858993459)) 4)) 252645135) + (ushrI (bandI (((bandI (a0 - (bandI (ushrI a0 1) 1431655765)) 858993459) + (bandI (ushrI (a0 - (bandI (ushrI a0 1) 1431655765)) 2) 858993459)) + (ushrI ((bandI (a0 - (bandI (ushrI a0 1) 1431655765)) 858993459) + (bandI (ushrI (a0 - (bandI (ushrI a0 1) 1431655765)) 2) 858993459)) 4)) 252645135) 8)) 16)) dJ6_bitCount_0f7a4_45 (iI_inv _) ?_
  refine G_iadd dJ6_bitCount_0f7a4_46 ?_
  refine G_istore_n dJ6_bitCount_0f7a4_47 rfl (by decide : 0 < 1) rfl ?_
  refine G_iload_n dJ6_bitCount_0f7a4_48 rfl ?_
  refine G_bipush (z := 63) dJ6_bitCount_0f7a4_49 rfl ?_
  refine G_iand (z := (bandI (((bandI (((bandI (a0 - (bandI (ushrI a0 1) 1431655765)) 858993459) + (bandI (ushrI (a0 - (bandI (ushrI a0 1) 1431655765)) 2) 858993459)) + (ushrI ((bandI (a0 - (bandI (ushrI a0 1) 1431655765)) 858993459) + (bandI (ushrI (a0 - (bandI (ushrI a0 1) 1431655765)) 2) 858993459)) 4)) 252645135) + (ushrI (bandI (((bandI (a0 - (bandI (ushrI a0 1) 1431655765)) 858993459) + (bandI (ushrI (a0 - (bandI (ushrI a0 1) 1431655765)) 2) 858993459)) + (ushrI ((bandI (a0 - (bandI (ushrI a0 1) 1431655765)) 858993459) + (bandI (ushrI (a0 - (bandI (ushrI a0 1) 1431655765)) 2) 858993459)) 4)) 252645135) 8)) + (ushrI ((bandI (((bandI (a0 - (bandI (ushrI a0 1) 1431655765)) 858993459) + (bandI (ushrI (a0 - (bandI (ushrI a0 1) 1431655765)) 2) 858993459)) + (ushrI ((bandI (a0 - (bandI (ushrI a0 1) 1431655765)) 858993459) + (bandI (ushrI (a0 - (bandI (ushrI a0 1) 1431655765)) 2) 858993459)) 4)) 252645135) + (ushrI (bandI (((bandI (a0 - (bandI (ushrI a0 1) 1431655765)) 858993459) + (bandI (ushrI (a0 - (bandI (ushrI a0 1) 1431655765)) 2) 858993459)) + (ushrI ((bandI (a0 - (bandI (ushrI a0 1) 1431655765)) 858993459) + (bandI (ushrI (a0 - (bandI (ushrI a0 1) 1431655765)) 2) 858993459)) 4)) 252645135) 8)) 16)) 63)) dJ6_bitCount_0f7a4_51 (iI_inv _) ?_
  exact G_iret dJ6_bitCount_0f7a4_52 rfl (Nat.zero_le _) (Nat.zero_le _) (Nat.le_refl _) ⟨rfl, k1⟩
abbrev m_J7_fill_53178 (d : Nat) : Mu := (cJ7_fill_53178, 4, RJ7, none, ⟨d, 0, 0, 40 * d⟩, "fill")
set_option maxRecDepth 20000 in
set_option maxHeartbeats 1000000 in
theorem sg_J7_fill_53178_0 {E : Nat × (Nat → Int32)} {d : Nat} {P : Option Value → Mem → Prop} {mem : Mem} {r0 : Nat} {n0 : Nat} {a1 : Int} (hl0 : r0 < 209) (hs0 : SH[r0]? = some (.inr (0, n0)))
    (k1 : GM E (m_J7_fill_53178 d) P 5 [.ref r0, vi a1, vi 0, vi (n0 : Int)] [] mem) :
    GM E (m_J7_fill_53178 d) P 0 [.ref r0, vi a1, un, un] [] mem := by
  refine G_iconst (z := 0) dJ7_fill_53178_0 rfl ?_
  refine G_istore_n dJ7_fill_53178_1 rfl (by decide : 2 < 4) rfl ?_
  refine G_aload_n dJ7_fill_53178_2 rfl ?_
  refine G_alen (z := (n0 : Int)) dJ7_fill_53178_3 hl0 hs0 (by decide) rfl ?_
  refine G_istore_n dJ7_fill_53178_4 rfl (by decide : 3 < 4) rfl ?_
  exact k1
set_option maxRecDepth 20000 in
set_option maxHeartbeats 1000000 in
theorem sg_J7_fill_53178_5 {E : Nat × (Nat → Int32)} {d : Nat} {P : Option Value → Mem → Prop} {mem : Mem} {r0 : Nat} {n0 : Nat} {a1 : Int} {a2 : Int} {a3 : Int} (hl0 : r0 < 209) (hs0 : SH[r0]? = some (.inr (0, n0))) (w1 : -2147483648 ≤ a2 ∧ a2 < 2147483648) (w2 : -2147483648 ≤ a3 ∧ a3 < 2147483648) (q3 : ¬ a3 ≤ a2 → 0 ≤ a2 ∧ a2 < (n0 : Int)) (n4 : n0 < 2147483648)
    (k1 : a3 ≤ a2 → P none mem)
    (k2 : ¬ a3 ≤ a2 → GM E (m_J7_fill_53178 d) P 5 [.ref r0, vi a1, vi (a2 + 1), vi a3] [] (up2 mem r0 a2 a1)) :
    GM E (m_J7_fill_53178 d) P 5 [.ref r0, vi a1, vi a2, vi a3] [] mem := by
  refine G_iload_n dJ7_fill_53178_5 rfl ?_
  refine G_iload_n dJ7_fill_53178_6 rfl ?_
  refine G_icmp_ge (tgt := 20) dJ7_fill_53178_7 (by decide) (w1) (w2) (fun c1 => ?_) (fun c1 => ?_)
  · -- a3 ≤ a2
    exact G_vret dJ7_fill_53178_20 rfl (Nat.zero_le _) (Nat.zero_le _) (Nat.le_refl _) ⟨rfl, k1 c1⟩
  · -- ¬ a3 ≤ a2
    refine G_aload_n dJ7_fill_53178_10 rfl ?_
    refine G_iload_n dJ7_fill_53178_11 rfl ?_
    refine G_iload_n dJ7_fill_53178_12 rfl ?_
    refine G_iast (mem2 := (up2 mem r0 a2 a1)) dJ7_fill_53178_13 hl0 hs0 (n4) (q3 c1).1 (q3 c1).2 rfl ?_
    refine G_iinc (z := (a2 + 1)) dJ7_fill_53178_14 rfl rfl (by decide : 2 < 4) rfl ?_
    refine G_goto (tgt := 5) dJ7_fill_53178_17 (by decide) ?_
    exact k2 c1
