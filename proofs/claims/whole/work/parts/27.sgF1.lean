set_option maxRecDepth 20000 in
set_option maxHeartbeats 8000000 in
theorem sg_X12_adds_0 {E : Nat × (Nat → Int32)} {P : Option Value → Mem → Prop} {mem : Mem} {a1 : Int} (w1 : -2147483648 ≤ ((mem 169 40) + 1) ∧ ((mem 169 40) + 1) < 2147483648)
    (k1 : ((mem 169 40) + 1) ≤ 15 → P (some (vi a1)) (up2 mem 169 40 ((mem 169 40) + 1)))
    (k2 : ¬ ((mem 169 40) + 1) ≤ 15 → GM E (m_X12_adds 0) P 21 [.ref 169, vi a1, vi 0] [] (up2 mem 169 40 ((mem 169 40) + 1))) :
    GM E (m_X12_adds 0) P 0 [.ref 169, vi a1, un] [] mem := by
  refine G_aload_n dX12_adds_0 rfl ?_
  refine G_dup dX12_adds_1 rfl ?_
  refine G_getI (z := (mem 169 40)) dX12_adds_2 fl_12_224 (by decide) sh_169 rfl ?_
  refine G_iconst (z := 1) dX12_adds_5 rfl ?_
  refine G_iadd dX12_adds_6 ?_
  refine G_putI (mem2 := (up2 mem 169 40 ((mem 169 40) + 1))) dX12_adds_7 fp_12_224 (by decide) sh_169 rfl ?_
  refine G_aload_n dX12_adds_10 rfl ?_
  refine G_getI (z := ((mem 169 40) + 1)) dX12_adds_11 fl_12_224 (by decide) sh_169 (by simp [up2, upr]) ?_
  refine G_bipush (z := 15) dX12_adds_14 rfl ?_
  refine G_icmp_le (tgt := 59) dX12_adds_16 (by decide) (w1) (by decide) (fun c1 => ?_) (fun c1 => ?_)
  · -- ((mem 169 40) + 1) ≤ 15
    refine G_iload_n dX12_adds_59 rfl ?_
    exact G_iret dX12_adds_60 rfl (Nat.zero_le _) (Nat.zero_le _) (Nat.le_refl _) ⟨rfl, k1 c1⟩
  · -- ¬ ((mem 169 40) + 1) ≤ 15
    refine G_iconst (z := 0) dX12_adds_19 rfl ?_
    refine G_istore_n dX12_adds_20 rfl (by decide : 2 < 3) rfl ?_
    exact k2 c1
set_option maxRecDepth 20000 in
set_option maxHeartbeats 8000000 in
theorem sg_X12_adds_21 {E : Nat × (Nat → Int32)} {P : Option Value → Mem → Prop} {mem : Mem} {a1 : Int} {a2 : Int} (w1 : -2147483648 ≤ a2 ∧ a2 < 2147483648) (q2 : ¬ 1485 ≤ a2 → 0 ≤ (a2 + 99) ∧ (a2 + 99) < 1584) (q3 : ¬ 1485 ≤ a2 → 0 ≤ a2 ∧ a2 < 1584)
    (k1 : 1485 ≤ a2 → P (some (vi a1)) (up2 mem 169 40 ((mem 169 40) - 1)))
    (k2 : ¬ 1485 ≤ a2 → GM E (m_X12_adds 0) P 21 [.ref 169, vi a1, vi (a2 + 1)] [] (up2 mem 190 a2 (mem 190 (a2 + 99)))) :
    GM E (m_X12_adds 0) P 21 [.ref 169, vi a1, vi a2] [] mem := by
  refine G_iload_n dX12_adds_21 rfl ?_
  refine G_sipush (z := 1485) dX12_adds_22 rfl ?_
  refine G_icmp_ge (tgt := 49) dX12_adds_25 (by decide) (w1) (by decide) (fun c1 => ?_) (fun c1 => ?_)
  · -- 1485 ≤ a2
    refine G_aload_n dX12_adds_49 rfl ?_
    refine G_dup dX12_adds_50 rfl ?_
    refine G_getI (z := (mem 169 40)) dX12_adds_51 fl_12_224 (by decide) sh_169 rfl ?_
    refine G_iconst (z := 1) dX12_adds_54 rfl ?_
    refine G_isub dX12_adds_55 ?_
    refine G_putI (mem2 := (up2 mem 169 40 ((mem 169 40) - 1))) dX12_adds_56 fp_12_224 (by decide) sh_169 rfl ?_
    refine G_iload_n dX12_adds_59 rfl ?_
    exact G_iret dX12_adds_60 rfl (Nat.zero_le _) (Nat.zero_le _) (Nat.le_refl _) ⟨rfl, k1 c1⟩
  · -- ¬ 1485 ≤ a2
    refine G_aload_n dX12_adds_28 rfl ?_
    refine G_getR (t := 190) dX12_adds_29 fl_12_72 (by decide) sh_169 rr_169_41 ?_
    refine G_iload_n dX12_adds_32 rfl ?_
    refine G_aload_n dX12_adds_33 rfl ?_
    refine G_getR (t := 190) dX12_adds_34 fl_12_72 (by decide) sh_169 rr_169_41 ?_
    refine G_iload_n dX12_adds_37 rfl ?_
    refine G_bipush (z := 99) dX12_adds_38 rfl ?_
    refine G_iadd dX12_adds_40 ?_
    refine G_iald (z := (mem 190 (a2 + 99))) dX12_adds_41 (by decide) sh_190 (by decide) (q2 c1).1 (q2 c1).2 rfl ?_
    refine G_iast (mem2 := (up2 mem 190 a2 (mem 190 (a2 + 99)))) dX12_adds_42 (by decide) sh_190 (by decide) (q3 c1).1 (q3 c1).2 rfl ?_
    refine G_iinc (z := (a2 + 1)) dX12_adds_43 rfl rfl (by decide : 2 < 3) rfl ?_
    refine G_goto (tgt := 21) dX12_adds_46 (by decide) ?_
    exact k2 c1
set_option maxRecDepth 20000 in
set_option maxHeartbeats 8000000 in
theorem sg_X12_again_0 {E : Nat × (Nat → Int32)} {P : Option Value → Mem → Prop} {mem : Mem} {a1 : Int} (w1 : -2147483648 ≤ a1 ∧ a1 < 2147483648) (w2 : -9223372036854775808 ≤ a1 ∧ a1 < 9223372036854775808) (q3 : 0 ≤ a1 ∧ a1 ≤ 2 → 0 ≤ a1 ∧ a1 < 3) (w4 : 0 ≤ a1 ∧ a1 ≤ 2 → -2147483648 ≤ (mem 205 a1) ∧ (mem 205 a1) < 2147483648) (w5 : 0 ≤ a1 ∧ a1 ≤ 2 → ¬ (mem 205 a1) = 0 → -2147483648 ≤ (mem 206 a1) ∧ (mem 206 a1) < 2147483648) (w6 : 0 ≤ a1 ∧ a1 ≤ 2 → ¬ (mem 205 a1) = 0 → -2147483648 ≤ (mem 169 4) ∧ (mem 169 4) < 2147483648) (q7 : 0 ≤ a1 ∧ a1 ≤ 2 → ¬ (mem 205 a1) = 0 → (mem 206 a1) = (mem 169 4) → 0 ≤ ((99 * a1) + 96) ∧ ((99 * a1) + 96) < 297) (w8 : 0 ≤ a1 ∧ a1 ≤ 2 → ¬ (mem 205 a1) = 0 → (mem 206 a1) = (mem 169 4) → -2147483648 ≤ (mem 207 ((99 * a1) + 96)) ∧ (mem 207 ((99 * a1) + 96)) < 2147483648) (w9 : 0 ≤ a1 ∧ a1 ≤ 2 → ¬ (mem 205 a1) = 0 → (mem 206 a1) = (mem 169 4) → -2147483648 ≤ (mem 179 0) ∧ (mem 179 0) < 2147483648)
    (k1 : 0 ≤ a1 ∧ a1 ≤ 2 → (mem 205 a1) = 0 → P (some (vi 0)) (up2 mem 169 0 0))
    (k2 : 0 ≤ a1 ∧ a1 ≤ 2 → ¬ (mem 205 a1) = 0 → (mem 206 a1) ≠ (mem 169 4) → P (some (vi 0)) (up2 mem 169 0 0))
    (k3 : 0 ≤ a1 ∧ a1 ≤ 2 → ¬ (mem 205 a1) = 0 → (mem 206 a1) = (mem 169 4) → (mem 207 ((99 * a1) + 96)) ≤ (mem 179 0) → GM E (m_X12_again 1) P 64 [.ref 169, vi a1, vi 0] [] (up2 mem 169 0 0))
    (k4 : 0 ≤ a1 ∧ a1 ≤ 2 → ¬ (mem 205 a1) = 0 → (mem 206 a1) = (mem 169 4) → ¬ (mem 207 ((99 * a1) + 96)) ≤ (mem 179 0) → P (some (vi 0)) (up2 mem 169 0 0))
    (k5 : ¬ (0 ≤ a1 ∧ a1 ≤ 2) → P (some (vi 0)) (up2 mem 169 0 0)) :
    GM E (m_X12_again 1) P 0 [.ref 169, vi a1, un] [] mem := by
  refine G_aload_n dX12_again_0 rfl ?_
  refine G_iconst (z := 0) dX12_again_1 rfl ?_
  refine G_putI (mem2 := (up2 mem 169 0 0)) dX12_again_2 fp_12_126 (by decide) sh_169 rfl ?_
  refine G_iload_n dX12_again_5 rfl ?_
  refine G_i2l dX12_again_6 (w1) ?_
  refine G_lconst (z := 0) dX12_again_7 rfl ?_
  refine G_ldc2 (z := 2) dX12_again_8 kc_12_346 ?_
  refine cb_X12_again_11 (ic_X12_in (w2) (by decide) (by decide) (fun c1 => ?_) (fun c2 => ?_))
  · -- 0 ≤ a1 ∧ a1 ≤ 2
    refine G_if_eq (tgt := 60) dX12_again_14 (by decide) (by decide) (fun h => absurd h (by decide)) (fun _ => ?_)
    refine G_aload_n dX12_again_17 rfl ?_
    refine G_getR (t := 205) dX12_again_18 fl_12_117 (by decide) sh_169 rr_169_69 ?_
    refine G_iload_n dX12_again_21 rfl ?_
    refine G_zald (z := (mem 205 a1)) dX12_again_22 (by decide) sh_205 (by decide) (q3 c1).1 (q3 c1).2 (by simp [up2, upr]) ?_
    refine G_if_eq (tgt := 60) dX12_again_23 (by decide) (w4 c1) (fun c3 => ?_) (fun c3 => ?_)
    · -- (mem 205 a1) = 0
      refine G_iconst (z := 0) dX12_again_60 rfl ?_
      exact G_zret dX12_again_61 rfl (nar_zb (by decide)) (Nat.zero_le _) (Nat.zero_le _) (Nat.le_refl _) ⟨rfl, k1 c1 c3⟩
    · -- ¬ (mem 205 a1) = 0
      refine G_aload_n dX12_again_26 rfl ?_
      refine G_getR (t := 206) dX12_again_27 fl_12_120 (by decide) sh_169 rr_169_70 ?_
      refine G_iload_n dX12_again_30 rfl ?_
      refine G_iald (z := (mem 206 a1)) dX12_again_31 (by decide) sh_206 (by decide) (q3 c1).1 (q3 c1).2 (by simp [up2, upr]) ?_
      refine G_aload_n dX12_again_32 rfl ?_
      refine G_getI (z := (mem 169 4)) dX12_again_33 fl_12_227 (by decide) sh_169 (by simp [up2, upr]) ?_
      refine G_icmp_ne (tgt := 60) dX12_again_36 (by decide) (w5 c1 c3) (w6 c1 c3) (fun c4 => ?_) (fun c4 => ?_)
      · -- (mem 206 a1) ≠ (mem 169 4)
        refine G_iconst (z := 0) dX12_again_60 rfl ?_
        exact G_zret dX12_again_61 rfl (nar_zb (by decide)) (Nat.zero_le _) (Nat.zero_le _) (Nat.le_refl _) ⟨rfl, k2 c1 c3 c4⟩
      · -- (mem 206 a1) = (mem 169 4)
        refine G_aload_n dX12_again_39 rfl ?_
        refine G_getR (t := 207) dX12_again_40 fl_12_123 (by decide) sh_169 rr_169_71 ?_
        refine G_bipush (z := 99) dX12_again_43 rfl ?_
        refine G_iload_n dX12_again_45 rfl ?_
        refine G_imul dX12_again_46 ?_
        refine G_bipush (z := 96) dX12_again_47 rfl ?_
        refine G_iadd dX12_again_49 ?_
        refine G_iald (z := (mem 207 ((99 * a1) + 96))) dX12_again_50 (by decide) sh_207 (by decide) (q7 c1 c3 c4).1 (q7 c1 c3 c4).2 (by simp [up2, upr]) ?_
        refine G_aload_n dX12_again_51 rfl ?_
        refine G_getR (t := 179) dX12_again_52 fl_12_39 (by decide) sh_169 rr_169_13 ?_
        refine G_iconst (z := 0) dX12_again_55 rfl ?_
        refine G_iald (z := (mem 179 0)) dX12_again_56 (by decide) sh_179 (by decide) (by decide) (by decide) (by simp [up2, upr]) ?_
        refine G_icmp_le (tgt := 62) dX12_again_57 (by decide) (w8 c1 c3 c4) (w9 c1 c3 c4) (fun c5 => ?_) (fun c5 => ?_)
        · -- (mem 207 ((99 * a1) + 96)) ≤ (mem 179 0)
          refine G_iconst (z := 0) dX12_again_62 rfl ?_
          refine G_istore_n dX12_again_63 rfl (by decide : 2 < 3) rfl ?_
          exact k3 c1 c3 c4 c5
        · -- ¬ (mem 207 ((99 * a1) + 96)) ≤ (mem 179 0)
          refine G_iconst (z := 0) dX12_again_60 rfl ?_
          exact G_zret dX12_again_61 rfl (nar_zb (by decide)) (Nat.zero_le _) (Nat.zero_le _) (Nat.le_refl _) ⟨rfl, k4 c1 c3 c4 c5⟩
  · -- ¬ (0 ≤ a1 ∧ a1 ≤ 2)
    refine G_if_eq (tgt := 60) dX12_again_14 (by decide) (by decide) (fun _ => ?_) (fun h => absurd h (by decide))
    refine G_iconst (z := 0) dX12_again_60 rfl ?_
    exact G_zret dX12_again_61 rfl (nar_zb (by decide)) (Nat.zero_le _) (Nat.zero_le _) (Nat.le_refl _) ⟨rfl, k5 c2⟩
set_option maxRecDepth 20000 in
set_option maxHeartbeats 8000000 in
theorem sg_X12_again_64 {E : Nat × (Nat → Int32)} {P : Option Value → Mem → Prop} {mem : Mem} {a1 : Int} {a2 : Int} (w1 : -2147483648 ≤ a2 ∧ a2 < 2147483648) (q2 : ¬ 99 ≤ a2 → 0 ≤ ((99 * a1) + a2) ∧ ((99 * a1) + a2) < 297) (q3 : ¬ 99 ≤ a2 → 0 ≤ a2 ∧ a2 < 99)
    (k1 : 99 ≤ a2 → P (some (vi 1)) (up2 mem 169 40 0))
    (k2 : ¬ 99 ≤ a2 → GM E (m_X12_again 1) P 64 [.ref 169, vi a1, vi (a2 + 1)] [] (up2 mem 180 a2 (mem 207 ((99 * a1) + a2)))) :
    GM E (m_X12_again 1) P 64 [.ref 169, vi a1, vi a2] [] mem := by
  refine G_iload_n dX12_again_64 rfl ?_
  refine G_bipush (z := 99) dX12_again_65 rfl ?_
  refine G_icmp_ge (tgt := 93) dX12_again_67 (by decide) (w1) (by decide) (fun c1 => ?_) (fun c1 => ?_)
  · -- 99 ≤ a2
    refine G_aload_n dX12_again_93 rfl ?_
    refine G_iconst (z := 0) dX12_again_94 rfl ?_
    refine G_putI (mem2 := (up2 mem 169 40 0)) dX12_again_95 fp_12_224 (by decide) sh_169 rfl ?_
    refine G_iconst (z := 1) dX12_again_98 rfl ?_
    exact G_zret dX12_again_99 rfl (nar_zb (by decide)) (Nat.zero_le _) (Nat.zero_le _) (Nat.le_refl _) ⟨rfl, k1 c1⟩
  · -- ¬ 99 ≤ a2
    refine G_aload_n dX12_again_70 rfl ?_
    refine G_getR (t := 180) dX12_again_71 fl_12_42 (by decide) sh_169 rr_169_14 ?_
    refine G_iload_n dX12_again_74 rfl ?_
    refine G_aload_n dX12_again_75 rfl ?_
    refine G_getR (t := 207) dX12_again_76 fl_12_123 (by decide) sh_169 rr_169_71 ?_
    refine G_bipush (z := 99) dX12_again_79 rfl ?_
    refine G_iload_n dX12_again_81 rfl ?_
    refine G_imul dX12_again_82 ?_
    refine G_iload_n dX12_again_83 rfl ?_
    refine G_iadd dX12_again_84 ?_
    refine G_iald (z := (mem 207 ((99 * a1) + a2))) dX12_again_85 (by decide) sh_207 (by decide) (q2 c1).1 (q2 c1).2 rfl ?_
    refine G_iast (mem2 := (up2 mem 180 a2 (mem 207 ((99 * a1) + a2)))) dX12_again_86 (by decide) sh_180 (by decide) (q3 c1).1 (q3 c1).2 rfl ?_
    refine G_iinc (z := (a2 + 1)) dX12_again_87 rfl rfl (by decide : 2 < 3) rfl ?_
    refine G_goto (tgt := 64) dX12_again_90 (by decide) ?_
    exact k2 c1
set_option maxRecDepth 20000 in
set_option maxHeartbeats 8000000 in
theorem sg_X12_allBy_0 {E : Nat × (Nat → Int32)} {P : Option Value → Mem → Prop} {mem : Mem} {a1 : Int}
    (k1 : GM E (m_X12_allBy 1) P 4 [.ref 169, vi a1, vi 0, vi 0] [] mem) :
    GM E (m_X12_allBy 1) P 0 [.ref 169, vi a1, un, un] [] mem := by
  refine G_iconst (z := 0) dX12_allBy_0 rfl ?_
  refine G_istore_n dX12_allBy_1 rfl (by decide : 2 < 4) rfl ?_
  refine G_iconst (z := 0) dX12_allBy_2 rfl ?_
  refine G_istore_n dX12_allBy_3 rfl (by decide : 3 < 4) rfl ?_
  exact k1
set_option maxRecDepth 20000 in
set_option maxHeartbeats 8000000 in
theorem sg_X12_allBy_4 {E : Nat × (Nat → Int32)} {P : Option Value → Mem → Prop} {mem : Mem} {a1 : Int} {a2 : Int} {a3 : Int} (w1 : -2147483648 ≤ a3 ∧ a3 < 2147483648) (q2 : ¬ 96 ≤ a3 → 0 ≤ a3 ∧ a3 < 99) (w3 : ¬ 96 ≤ a3 → -2147483648 ≤ (mem 180 a3) ∧ (mem 180 a3) < 2147483648) (w4 : -2147483648 ≤ a1 ∧ a1 < 2147483648)
    (k1 : 96 ≤ a3 → P (some (vi a2)) mem)
    (k2 : ¬ 96 ≤ a3 → (mem 180 a3) ≠ a1 → GM E (m_X12_allBy 1) P 4 [.ref 169, vi a1, vi (a2 + 0), vi (a3 + 1)] [] mem)
    (k3 : ¬ 96 ≤ a3 → (mem 180 a3) = a1 → GM E (m_X12_allBy 1) P 4 [.ref 169, vi a1, vi (a2 + 1), vi (a3 + 1)] [] mem) :
    GM E (m_X12_allBy 1) P 4 [.ref 169, vi a1, vi a2, vi a3] [] mem := by
  refine G_iload_n dX12_allBy_4 rfl ?_
  refine G_bipush (z := 96) dX12_allBy_5 rfl ?_
  refine G_icmp_ge (tgt := 37) dX12_allBy_7 (by decide) (w1) (by decide) (fun c1 => ?_) (fun c1 => ?_)
  · -- 96 ≤ a3
    refine G_iload_n dX12_allBy_37 rfl ?_
    exact G_iret dX12_allBy_38 rfl (Nat.zero_le _) (Nat.zero_le _) (Nat.le_refl _) ⟨rfl, k1 c1⟩
  · -- ¬ 96 ≤ a3
    refine G_iload_n dX12_allBy_10 rfl ?_
    refine G_aload_n dX12_allBy_11 rfl ?_
    refine G_getR (t := 180) dX12_allBy_12 fl_12_42 (by decide) sh_169 rr_169_14 ?_
    refine G_iload_n dX12_allBy_15 rfl ?_
    refine G_iald (z := (mem 180 a3)) dX12_allBy_16 (by decide) sh_180 (by decide) (q2 c1).1 (q2 c1).2 rfl ?_
    refine G_iload_n dX12_allBy_17 rfl ?_
    refine G_icmp_ne (tgt := 25) dX12_allBy_18 (by decide) (w3 c1) (w4) (fun c2 => ?_) (fun c2 => ?_)
    · -- (mem 180 a3) ≠ a1
      refine G_iconst (z := 0) dX12_allBy_25 rfl ?_
      refine cb_X12_allBy_26 (ic_X12_flagL (by decide) ?_)
      refine G_iadd dX12_allBy_29 ?_
      refine G_istore_n dX12_allBy_30 rfl (by decide : 2 < 4) rfl ?_
      refine G_iinc (z := (a3 + 1)) dX12_allBy_31 rfl rfl (by decide : 3 < 4) rfl ?_
      refine G_goto (tgt := 4) dX12_allBy_34 (by decide) ?_
      exact k2 c1 c2
    · -- (mem 180 a3) = a1
      refine G_iconst (z := 1) dX12_allBy_21 rfl ?_
      refine G_goto (tgt := 26) dX12_allBy_22 (by decide) ?_
      refine cb_X12_allBy_26 (ic_X12_flagL (by decide) ?_)
      refine G_iadd dX12_allBy_29 ?_
      refine G_istore_n dX12_allBy_30 rfl (by decide : 2 < 4) rfl ?_
      refine G_iinc (z := (a3 + 1)) dX12_allBy_31 rfl rfl (by decide : 3 < 4) rfl ?_
      refine G_goto (tgt := 4) dX12_allBy_34 (by decide) ?_
      exact k3 c1 c2
set_option maxRecDepth 20000 in
set_option maxHeartbeats 8000000 in
theorem sg_X12_among_0 {E : Nat × (Nat → Int32)} {P : Option Value → Mem → Prop} {mem : Mem} {o1 : Nat}
    (k1 : GM E (m_X12_among 5) P 2 [.ref 169, .ref (1100 + o1), vi 0] [] mem) :
    GM E (m_X12_among 5) P 0 [.ref 169, .ref (1100 + o1), un] [] mem := by
  refine G_iconst (z := 0) dX12_among_0 rfl ?_
  refine G_istore_n dX12_among_1 rfl (by decide : 2 < 3) rfl ?_
  exact k1
set_option maxRecDepth 20000 in
set_option maxHeartbeats 8000000 in
theorem sg_X12_among_2 {E : Nat × (Nat → Int32)} {P : Option Value → Mem → Prop} {mem : Mem} {o1 : Nat} {a2 : Int}
    (k1 : GM E (m_X12_among 5) P 4 [.ref 169, .ref (1100 + o1), vi a2] [.ref (1100 + o1), vi a2] mem) :
    GM E (m_X12_among 5) P 2 [.ref 169, .ref (1100 + o1), vi a2] [] mem := by
  refine G_iload_n dX12_among_2 rfl ?_
  refine G_aload_n dX12_among_3 rfl ?_
  exact k1
set_option maxRecDepth 20000 in
set_option maxHeartbeats 8000000 in
theorem sg_X12_among_7 {E : Nat × (Nat → Int32)} {P : Option Value → Mem → Prop} {mem : Mem} {o1 : Nat} {a2 : Int} {s0 : Int} {s1 : Int} (w1 : -2147483648 ≤ s1 ∧ s1 < 2147483648) (w2 : -2147483648 ≤ s0 ∧ s0 < 2147483648) (w3 : ¬ s0 ≤ s1 → -2147483648 ≤ (mem 169 18) ∧ (mem 169 18) < 2147483648) (w4 : ¬ s0 ≤ s1 → -2147483648 ≤ (mem 169 19) ∧ (mem 169 19) < 2147483648)
    (k1 : s0 ≤ s1 → P (some (vi (-1))) mem)
    (k2 : ¬ s0 ≤ s1 → (mem 169 19) ≤ (mem 169 18) → P (some (vi (-1))) mem)
    (k3 : ¬ s0 ≤ s1 → ¬ (mem 169 19) ≤ (mem 169 18) → GM E (m_X12_among 5) P 23 [.ref 169, .ref (1100 + o1), vi a2] [vi a2, .ref (1100 + o1)] mem) :
    GM E (m_X12_among 5) P 7 [.ref 169, .ref (1100 + o1), vi a2] [vi s0, vi s1] mem := by
  refine G_icmp_ge (tgt := 46) dX12_among_7 (by decide) (w1) (w2) (fun c1 => ?_) (fun c1 => ?_)
  · -- s0 ≤ s1
    refine G_iconst (z := (-1)) dX12_among_46 rfl ?_
    exact G_iret dX12_among_47 rfl (Nat.zero_le _) (Nat.zero_le _) (Nat.le_refl _) ⟨rfl, k1 c1⟩
  · -- ¬ s0 ≤ s1
    refine G_aload_n dX12_among_10 rfl ?_
    refine G_getI (z := (mem 169 18)) dX12_among_11 fl_12_151 (by decide) sh_169 rfl ?_
    refine G_aload_n dX12_among_14 rfl ?_
    refine G_getI (z := (mem 169 19)) dX12_among_15 fl_12_163 (by decide) sh_169 rfl ?_
    refine G_icmp_ge (tgt := 46) dX12_among_18 (by decide) (w3 c1) (w4 c1) (fun c2 => ?_) (fun c2 => ?_)
    · -- (mem 169 19) ≤ (mem 169 18)
      refine G_iconst (z := (-1)) dX12_among_46 rfl ?_
      exact G_iret dX12_among_47 rfl (Nat.zero_le _) (Nat.zero_le _) (Nat.le_refl _) ⟨rfl, k2 c1 c2⟩
    · -- ¬ (mem 169 19) ≤ (mem 169 18)
      refine G_aload_n dX12_among_21 rfl ?_
      refine G_iload_n dX12_among_22 rfl ?_
      exact k3 c1 c2
set_option maxRecDepth 20000 in
set_option maxHeartbeats 8000000 in
theorem sg_X12_among_26 {E : Nat × (Nat → Int32)} {P : Option Value → Mem → Prop} {mem : Mem} {o1 : Nat} {a2 : Int} {s0 : Int} (q1 : 0 ≤ (mem 169 18) ∧ (mem 169 18) < 80) (w2 : -2147483648 ≤ s0 ∧ s0 < 2147483648) (w3 : -2147483648 ≤ (mem 182 (mem 169 18)) ∧ (mem 182 (mem 169 18)) < 2147483648)
    (k1 : s0 ≠ (mem 182 (mem 169 18)) → GM E (m_X12_among 5) P 2 [.ref 169, .ref (1100 + o1), vi (a2 + 1)] [] mem)
    (k2 : s0 = (mem 182 (mem 169 18)) → P (some (vi a2)) mem) :
    GM E (m_X12_among 5) P 26 [.ref 169, .ref (1100 + o1), vi a2] [vi s0] mem := by
  refine G_aload_n dX12_among_26 rfl ?_
  refine G_getR (t := 182) dX12_among_27 fl_12_48 (by decide) sh_169 rr_169_16 ?_
  refine G_aload_n dX12_among_30 rfl ?_
  refine G_getI (z := (mem 169 18)) dX12_among_31 fl_12_151 (by decide) sh_169 rfl ?_
  refine G_iald (z := (mem 182 (mem 169 18))) dX12_among_34 (by decide) sh_182 (by decide) (q1).1 (q1).2 rfl ?_
  refine G_icmp_ne (tgt := 40) dX12_among_35 (by decide) (w2) (w3) (fun c1 => ?_) (fun c1 => ?_)
  · -- s0 ≠ (mem 182 (mem 169 18))
    refine G_iinc (z := (a2 + 1)) dX12_among_40 rfl rfl (by decide : 2 < 3) rfl ?_
    refine G_goto (tgt := 2) dX12_among_43 (by decide) ?_
    exact k1 c1
  · -- s0 = (mem 182 (mem 169 18))
    refine G_iload_n dX12_among_38 rfl ?_
    exact G_iret dX12_among_39 rfl (Nat.zero_le _) (Nat.zero_le _) (Nat.le_refl _) ⟨rfl, k2 c1⟩
set_option maxRecDepth 20000 in
set_option maxHeartbeats 8000000 in
theorem sg_X12_best_0 {E : Nat × (Nat → Int32)} {P : Option Value → Mem → Prop} {mem : Mem} {a1 : Int} (w1 : 0 ≤ (mem 169 3) ∧ (mem 169 3) < 2147483648) (w2 : -2147483648 ≤ a1 ∧ a1 < 2147483648) (q3 : 0 ≤ a1 ∧ a1 < (mem 169 3) → 0 ≤ a1 ∧ a1 < 6)
    (k1 : 0 ≤ a1 ∧ a1 < (mem 169 3) → GM E (m_X12_best 8) P 27 [.ref 169, vi a1, vi 0] [] (up2 (up2 (up2 (up2 mem 169 0 0) 169 30 (mem 179 1)) 169 31 (mem 173 a1)) 169 1 0))
    (k2 : ¬ (0 ≤ a1 ∧ a1 < (mem 169 3)) → P (some (vi (-1))) (up2 mem 169 0 0)) :
    GM E (m_X12_best 8) P 0 [.ref 169, vi a1, un] [] mem := by
  refine G_aload_n dX12_best_0 rfl ?_
  refine G_iconst (z := 0) dX12_best_1 rfl ?_
  refine G_putI (mem2 := (up2 mem 169 0 0)) dX12_best_2 fp_12_126 (by decide) sh_169 rfl ?_
  refine G_aload_n dX12_best_5 rfl ?_
  refine G_iload_n dX12_best_6 rfl ?_
  refine cb_X12_best_7 (ic_X12_isStreet (z := (mem 169 3)) (by simp [up2, upr]) (w2) (w1) (fun c1 => ?_) (fun c2 => ?_))
  · -- 0 ≤ a1 ∧ a1 < (mem 169 3)
    refine G_if_ne (tgt := 15) dX12_best_10 (by decide) (by decide) (fun _ => ?_) (fun h => absurd h (by decide))
    refine G_aload_n dX12_best_15 rfl ?_
    refine G_iload_n dX12_best_16 rfl ?_
    refine cb_X12_best_17 (ic_X12_thinksAsIs (a := (mem 179 1)) (b := (mem 173 a1)) ⟨(q3 c1).1, (q3 c1).2⟩ (by simp [up2, upr]) (by simp [up2, upr]) ?_)
    refine G_aload_n dX12_best_20 rfl ?_
    refine G_iconst (z := 0) dX12_best_21 rfl ?_
    refine G_putI (mem2 := (up2 (up2 (up2 (up2 mem 169 0 0) 169 30 (mem 179 1)) 169 31 (mem 173 a1)) 169 1 0)) dX12_best_22 fp_12_134 (by decide) sh_169 rfl ?_
    refine G_iconst (z := 0) dX12_best_25 rfl ?_
    refine G_istore_n dX12_best_26 rfl (by decide : 2 < 3) rfl ?_
    exact k1 c1
  · -- ¬ (0 ≤ a1 ∧ a1 < (mem 169 3))
    refine G_if_ne (tgt := 15) dX12_best_10 (by decide) (by decide) (fun h => absurd h (by decide)) (fun _ => ?_)
    refine G_iconst (z := (-1)) dX12_best_13 rfl ?_
    exact G_iret dX12_best_14 rfl (Nat.zero_le _) (Nat.zero_le _) (Nat.le_refl _) ⟨rfl, k2 c2⟩
set_option maxRecDepth 20000 in
set_option maxHeartbeats 8000000 in
theorem sg_X12_best_27 {E : Nat × (Nat → Int32)} {P : Option Value → Mem → Prop} {mem : Mem} {a1 : Int} {a2 : Int} (w1 : -2147483648 ≤ a2 ∧ a2 < 2147483648)
    (k1 : 3 ≤ a2 → GM E (m_X12_best 8) P 59 [.ref 169, vi a1, vi a2] [vi a1, .ref 180, .ref 169] mem)
    (k2 : ¬ 3 ≤ a2 → GM E (m_X12_best 8) P 40 [.ref 169, vi a1, vi a2] [vi a2, vi a1, .ref 180, .ref 169, .ref 169] mem) :
    GM E (m_X12_best 8) P 27 [.ref 169, vi a1, vi a2] [] mem := by
  refine G_iload_n dX12_best_27 rfl ?_
  refine G_iconst (z := 3) dX12_best_28 rfl ?_
  refine G_icmp_ge (tgt := 53) dX12_best_29 (by decide) (w1) (by decide) (fun c1 => ?_) (fun c1 => ?_)
  · -- 3 ≤ a2
    refine G_aload_n dX12_best_53 rfl ?_
    refine G_aload_n dX12_best_54 rfl ?_
    refine G_getR (t := 180) dX12_best_55 fl_12_42 (by decide) sh_169 rr_169_14 ?_
    refine G_iload_n dX12_best_58 rfl ?_
    exact k1 c1
  · -- ¬ 3 ≤ a2
    refine G_aload_n dX12_best_32 rfl ?_
    refine G_aload_n dX12_best_33 rfl ?_
    refine G_aload_n dX12_best_34 rfl ?_
    refine G_getR (t := 180) dX12_best_35 fl_12_42 (by decide) sh_169 rr_169_14 ?_
    refine G_iload_n dX12_best_38 rfl ?_
    refine G_iload_n dX12_best_39 rfl ?_
    exact k2 c1
set_option maxRecDepth 20000 in
set_option maxHeartbeats 8000000 in
theorem sg_X12_best_43 {E : Nat × (Nat → Int32)} {P : Option Value → Mem → Prop} {mem : Mem} {a1 : Int} {a2 : Int} {s0 : Int} (w1 : -2147483648 ≤ s0 ∧ s0 < 2147483648) (q2 : 0 ≤ (mem 169 1) ∧ (mem 169 1) < 24)
    (k1 : GM E (m_X12_best 8) P 27 [.ref 169, vi a1, vi (a2 + 1)] [] (up2 (up2 mem 170 (mem 169 1) s0) 169 1 ((mem 169 1) + 1))) :
    GM E (m_X12_best 8) P 43 [.ref 169, vi a1, vi a2] [vi s0, .ref 169] mem := by
  refine G_i2l dX12_best_43 (w1) ?_
  refine cb_X12_best_44 (ic_X12_enters (z := (mem 169 1)) (z2 := ((mem 169 1) + 1)) rfl (q2) rfl ?_)
  refine G_iinc (z := (a2 + 1)) dX12_best_47 rfl rfl (by decide : 2 < 3) rfl ?_
  refine G_goto (tgt := 27) dX12_best_50 (by decide) ?_
  exact k1
set_option maxRecDepth 20000 in
set_option maxHeartbeats 8000000 in
theorem sg_X12_best_62 {E : Nat × (Nat → Int32)} {P : Option Value → Mem → Prop} {mem : Mem} {a1 : Int} {a2 : Int} {s0 : Int}
    (k1 : P (some (vi (mem 169 39))) mem) :
    GM E (m_X12_best 8) P 62 [.ref 169, vi a1, vi a2] [vi s0] mem := by
  refine G_pop dX12_best_62 rfl ?_
  refine G_aload_n dX12_best_63 rfl ?_
  refine G_getI (z := (mem 169 39)) dX12_best_64 fl_12_314 (by decide) sh_169 rfl ?_
  exact G_iret dX12_best_67 rfl (Nat.zero_le _) (Nat.zero_le _) (Nat.le_refl _) ⟨rfl, k1⟩
set_option maxRecDepth 20000 in
set_option maxHeartbeats 8000000 in
theorem sg_X12_bestNow_0 {E : Nat × (Nat → Int32)} {P : Option Value → Mem → Prop} {mem : Mem} {a1 : Int} (q1 : 0 ≤ a1 ∧ a1 < 6)
    (k1 : GM E (m_X12_bestNow 8) P 11 [.ref 169, vi a1] [vi a1, .ref 180, .ref 169] (up2 (up2 mem 169 30 (mem 179 1)) 169 31 (mem 173 a1))) :
    GM E (m_X12_bestNow 8) P 0 [.ref 169, vi a1] [] mem := by
  refine G_aload_n dX12_bestNow_0 rfl ?_
  refine G_iload_n dX12_bestNow_1 rfl ?_
  refine cb_X12_bestNow_2 (ic_X12_thinksAsIs (a := (mem 179 1)) (b := (mem 173 a1)) ⟨(q1).1, (q1).2⟩ rfl rfl ?_)
  refine G_aload_n dX12_bestNow_5 rfl ?_
  refine G_aload_n dX12_bestNow_6 rfl ?_
  refine G_getR (t := 180) dX12_bestNow_7 fl_12_42 (by decide) sh_169 rr_169_14 ?_
  refine G_iload_n dX12_bestNow_10 rfl ?_
  exact k1
set_option maxRecDepth 20000 in
set_option maxHeartbeats 8000000 in
theorem sg_X12_bestNow_14 {E : Nat × (Nat → Int32)} {P : Option Value → Mem → Prop} {mem : Mem} {a1 : Int} {s0 : Int}
    (k1 : P (some (vi s0)) mem) :
    GM E (m_X12_bestNow 8) P 14 [.ref 169, vi a1] [vi s0] mem := by
  exact G_iret dX12_bestNow_14 rfl (Nat.zero_le _) (Nat.zero_le _) (Nat.le_refl _) ⟨rfl, k1⟩
set_option maxRecDepth 20000 in
set_option maxHeartbeats 8000000 in
theorem sg_X12_bestOf_0 {E : Nat × (Nat → Int32)} {P : Option Value → Mem → Prop} {mem : Mem} {r1 : Nat} {a2 : Int} (hl1 : r1 < 209) (hs1 : SH[r1]? = some (.inr (0, 99)))
    (k1 : GM E (m_X12_bestOf 7) P 5 [.ref 169, .ref r1, vi a2, vi 0, vi 0, un] [] mem) :
    GM E (m_X12_bestOf 7) P 0 [.ref 169, .ref r1, vi a2, un, un, un] [] mem := by
  refine G_iconst (z := 0) dX12_bestOf_0 rfl ?_
  refine G_istore_n dX12_bestOf_1 rfl (by decide : 3 < 6) rfl ?_
  refine G_iconst (z := 0) dX12_bestOf_2 rfl ?_
  refine G_istore dX12_bestOf_3 (by decide : 4 < 6) rfl ?_
  exact k1
set_option maxRecDepth 20000 in
set_option maxHeartbeats 8000000 in
theorem sg_X12_bestOf_5 {E : Nat × (Nat → Int32)} {P : Option Value → Mem → Prop} {mem : Mem} {r1 : Nat} {a2 : Int} {a3 : Int} {a4 : Int} (hl1 : r1 < 209) (hs1 : SH[r1]? = some (.inr (0, 99))) (w1 : -2147483648 ≤ a4 ∧ a4 < 2147483648)
    (k1 : 3 ≤ a4 → P (some (vi a3)) mem)
    (k2 : ¬ 3 ≤ a4 → GM E (m_X12_bestOf 7) P 16 [.ref 169, .ref r1, vi a2, vi a3, vi a4, un] [vi a4, vi a2, .ref r1, .ref 169] mem) :
    GM E (m_X12_bestOf 7) P 5 [.ref 169, .ref r1, vi a2, vi a3, vi a4, un] [] mem := by
  refine G_iload dX12_bestOf_5 rfl ?_
  refine G_iconst (z := 3) dX12_bestOf_7 rfl ?_
  refine G_icmp_ge (tgt := 68) dX12_bestOf_8 (by decide) (w1) (by decide) (fun c1 => ?_) (fun c1 => ?_)
  · -- 3 ≤ a4
    refine G_iload_n dX12_bestOf_68 rfl ?_
    exact G_iret dX12_bestOf_69 rfl (Nat.zero_le _) (Nat.zero_le _) (Nat.le_refl _) ⟨rfl, k1 c1⟩
  · -- ¬ 3 ≤ a4
    refine G_aload_n dX12_bestOf_11 rfl ?_
    refine G_aload_n dX12_bestOf_12 rfl ?_
    refine G_iload_n dX12_bestOf_13 rfl ?_
    refine G_iload dX12_bestOf_14 rfl ?_
    exact k2 c1
set_option maxRecDepth 20000 in
set_option maxHeartbeats 8000000 in
theorem sg_X12_bestOf_19 {E : Nat × (Nat → Int32)} {P : Option Value → Mem → Prop} {mem : Mem} {r1 : Nat} {a2 : Int} {a3 : Int} {a4 : Int} {s0 : Int} (hl1 : r1 < 209) (hs1 : SH[r1]? = some (.inr (0, 99))) (w1 : -2147483648 ≤ a4 ∧ a4 < 2147483648) (w2 : -2147483648 ≤ s0 ∧ s0 < 2147483648) (w3 : -2147483648 ≤ a3 ∧ a3 < 2147483648)
    (k1 : GM E (m_X12_bestOf 7) P 5 [.ref 169, .ref r1, vi a2, vi (if a4 ≠ 0 then (min a3 s0) else s0), vi (a4 + 1), un] [] (up2 mem 169 39 (if a4 = 0 then a4 else (if a3 ≤ s0 then (mem 169 39) else a4)))) :
    GM E (m_X12_bestOf 7) P 19 [.ref 169, .ref r1, vi a2, vi a3, vi a4, un] [vi s0] mem := by
  refine G_istore dX12_bestOf_19 (by decide : 5 < 6) rfl ?_
  refine G_aload_n dX12_bestOf_21 rfl ?_
  refine G_iload dX12_bestOf_22 rfl ?_
  have j1 : GM E (m_X12_bestOf 7) P 42 [.ref 169, .ref r1, vi a2, vi a3, vi a4, vi s0] [vi (if a4 = 0 then a4 else (if a3 ≤ s0 then (mem 169 39) else a4)), .ref 169] mem := by
    refine G_putI (mem2 := (up2 mem 169 39 (if a4 = 0 then a4 else (if a3 ≤ s0 then (mem 169 39) else a4)))) dX12_bestOf_42 fp_12_314 (by decide) sh_169 rfl ?_
    refine G_iload dX12_bestOf_45 rfl ?_
    have j3 : GM E (m_X12_bestOf 7) P 61 [.ref 169, .ref r1, vi a2, vi a3, vi a4, vi s0] [vi (if a4 ≠ 0 then (min a3 s0) else s0)] (up2 mem 169 39 (if a4 = 0 then a4 else (if a3 ≤ s0 then (mem 169 39) else a4))) := by
      refine G_istore_n dX12_bestOf_61 rfl (by decide : 3 < 6) rfl ?_
      refine G_iinc (z := (a4 + 1)) dX12_bestOf_62 rfl rfl (by decide : 4 < 6) rfl ?_
      refine G_goto (tgt := 5) dX12_bestOf_65 (by decide) ?_
      refine G_weak (lv2 := [.ref 169, .ref r1, vi a2, vi (if a4 ≠ 0 then (min a3 s0) else s0), vi (a4 + 1), un]) ⟨Or.inr rfl, Or.inr rfl, Or.inr rfl, Or.inr rfl, Or.inr rfl, Or.inl rfl, trivial⟩ ?_
      exact k1
    refine G_if_ne (tgt := 55) dX12_bestOf_47 (by decide) (w1) (fun c3 => ?_) (fun c3 => ?_)
    · -- a4 ≠ 0
      refine G_iload_n dX12_bestOf_55 rfl ?_
      refine G_iload dX12_bestOf_56 rfl ?_
      refine G_min (z := (min a3 s0)) dX12_bestOf_58 ml_12_157 mw_min (w3) (w2) ⟨by show 1 ≤ 7; first | decide | omega, by show 21 ≤ 40 * 7; first | decide | omega, Nat.zero_le _, Nat.zero_le _⟩ (Nat.le_of_ble_eq_true rfl) rfl ?_
      have qj3 := j3
      simp only [if_pos c3] at qj3
      exact qj3
    · -- a4 = 0
      refine G_iload dX12_bestOf_50 rfl ?_
      refine G_goto (tgt := 61) dX12_bestOf_52 (by decide) ?_
      have qj3 := j3
      simp only [if_neg (show ¬ (a4 ≠ 0) from fun q => q c3)] at qj3
      exact qj3
  refine G_if_eq (tgt := 33) dX12_bestOf_24 (by decide) (w1) (fun c1 => ?_) (fun c1 => ?_)
  · -- a4 = 0
    refine G_iload dX12_bestOf_33 rfl ?_
    refine G_goto (tgt := 42) dX12_bestOf_35 (by decide) ?_
    have qj1 := j1
    simp only [if_pos c1] at qj1
    exact qj1
  · -- ¬ a4 = 0
    refine G_iload dX12_bestOf_27 rfl ?_
    refine G_iload_n dX12_bestOf_29 rfl ?_
    have j2 : GM E (m_X12_bestOf 7) P 42 [.ref 169, .ref r1, vi a2, vi a3, vi a4, vi s0] [vi (if a3 ≤ s0 then (mem 169 39) else a4), .ref 169] mem := by
      have qj1 := j1
      simp only [if_neg c1] at qj1
      exact qj1
    refine G_icmp_ge (tgt := 38) dX12_bestOf_30 (by decide) (w2) (w3) (fun c2 => ?_) (fun c2 => ?_)
    · -- a3 ≤ s0
      refine G_aload_n dX12_bestOf_38 rfl ?_
      refine G_getI (z := (mem 169 39)) dX12_bestOf_39 fl_12_314 (by decide) sh_169 rfl ?_
      have qj2 := j2
      simp only [if_pos c2] at qj2
      exact qj2
    · -- ¬ a3 ≤ s0
      refine G_iload dX12_bestOf_33 rfl ?_
      refine G_goto (tgt := 42) dX12_bestOf_35 (by decide) ?_
      have qj2 := j2
      simp only [if_neg c2] at qj2
      exact qj2
set_option maxRecDepth 20000 in
set_option maxHeartbeats 8000000 in
theorem sg_X12_bets_0 {E : Nat × (Nat → Int32)} {P : Option Value → Mem → Prop} {mem : Mem} {a1 : Int} {a2 : Int}
    (k1 : GM E (m_X12_bets 2) P 16 [.ref 169, vi a1, vi a2, un] [vi a1, .ref 180, .ref 169] (up2 (up2 mem 169 67 1) 169 68 1)) :
    GM E (m_X12_bets 2) P 0 [.ref 169, vi a1, vi a2, un] [] mem := by
  refine G_aload_n dX12_bets_0 rfl ?_
  refine G_lconst (z := 1) dX12_bets_1 rfl ?_
  refine G_putJ (mem2 := (up2 mem 169 67 1)) dX12_bets_2 fp_12_482 (by decide) sh_169 rfl ?_
  refine G_aload_n dX12_bets_5 rfl ?_
  refine G_lconst (z := 1) dX12_bets_6 rfl ?_
  refine G_putJ (mem2 := (up2 (up2 mem 169 67 1) 169 68 1)) dX12_bets_7 fp_12_486 (by decide) sh_169 rfl ?_
  refine G_aload_n dX12_bets_10 rfl ?_
  refine G_aload_n dX12_bets_11 rfl ?_
  refine G_getR (t := 180) dX12_bets_12 fl_12_42 (by decide) sh_169 rr_169_14 ?_
  refine G_iload_n dX12_bets_15 rfl ?_
  exact k1
set_option maxRecDepth 20000 in
set_option maxHeartbeats 8000000 in
theorem sg_X12_bets_19 {E : Nat × (Nat → Int32)} {P : Option Value → Mem → Prop} {mem : Mem} {a1 : Int} {a2 : Int} {s0 : Int}
    (k1 : GM E (m_X12_bets 2) P 20 [.ref 169, vi a1, vi a2, vi s0] [] mem) :
    GM E (m_X12_bets 2) P 19 [.ref 169, vi a1, vi a2, un] [vi s0] mem := by
  refine G_istore_n dX12_bets_19 rfl (by decide : 3 < 4) rfl ?_
  exact k1
set_option maxRecDepth 20000 in
set_option maxHeartbeats 8000000 in
theorem sg_X12_bets_20 {E : Nat × (Nat → Int32)} {P : Option Value → Mem → Prop} {mem : Mem} {a1 : Int} {a2 : Int} {a3 : Int} (w1 : -2147483648 ≤ a3 ∧ a3 < 2147483648) (w2 : -2147483648 ≤ a2 ∧ a2 < 2147483648)
    (k1 : a3 ≤ 0 → P none mem)
    (k2 : ¬ a3 ≤ 0 → GM E (m_X12_bets 2) P 20 [.ref 169, vi a1, vi a2, vi (a3 + (-1))] [] (up2 (up2 mem 169 67 ((mem 169 67) * a2)) 169 68 ((mem 169 68) * 10))) :
    GM E (m_X12_bets 2) P 20 [.ref 169, vi a1, vi a2, vi a3] [] mem := by
  refine G_iload_n dX12_bets_20 rfl ?_
  refine G_if_le (tgt := 53) dX12_bets_21 (by decide) (w1) (fun c1 => ?_) (fun c1 => ?_)
  · -- a3 ≤ 0
    exact G_vret dX12_bets_53 rfl (Nat.zero_le _) (Nat.zero_le _) (Nat.le_refl _) ⟨rfl, k1 c1⟩
  · -- ¬ a3 ≤ 0
    refine G_aload_n dX12_bets_24 rfl ?_
    refine G_dup dX12_bets_25 rfl ?_
    refine G_getL (z := (mem 169 67)) dX12_bets_26 fl_12_482 (by decide) sh_169 rfl ?_
    refine G_iload_n dX12_bets_29 rfl ?_
    refine G_i2l dX12_bets_30 (w2) ?_
    refine G_lmul dX12_bets_31 ?_
    refine G_putJ (mem2 := (up2 mem 169 67 ((mem 169 67) * a2))) dX12_bets_32 fp_12_482 (by decide) sh_169 rfl ?_
    refine G_aload_n dX12_bets_35 rfl ?_
    refine G_dup dX12_bets_36 rfl ?_
    refine G_getL (z := (mem 169 68)) dX12_bets_37 fl_12_486 (by decide) sh_169 (by simp [up2, upr]) ?_
    refine G_ldc2 (z := 10) dX12_bets_40 kc_12_489 ?_
    refine G_lmul dX12_bets_43 ?_
    refine G_putJ (mem2 := (up2 (up2 mem 169 67 ((mem 169 67) * a2)) 169 68 ((mem 169 68) * 10))) dX12_bets_44 fp_12_486 (by decide) sh_169 rfl ?_
    refine G_iinc (z := (a3 + (-1))) dX12_bets_47 rfl rfl (by decide : 3 < 4) rfl ?_
    refine G_goto (tgt := 20) dX12_bets_50 (by decide) ?_
    exact k2 c1
set_option maxRecDepth 20000 in
set_option maxHeartbeats 8000000 in
theorem sg_X12_bin_0 {E : Nat × (Nat → Int32)} {P : Option Value → Mem → Prop} {mem : Mem} {a1 : Int} {a2 : Int} {a3 : Int} {a4 : Int}
    (k1 : GM E (m_X12_bin 4) P 9 [.ref 169, vi a1, vi a2, vi a3, vi a4, un] [vi a3, vi a2, vi a1, .ref 169] (up2 mem 169 0 0)) :
    GM E (m_X12_bin 4) P 0 [.ref 169, vi a1, vi a2, vi a3, vi a4, un] [] mem := by
  refine G_aload_n dX12_bin_0 rfl ?_
  refine G_iconst (z := 0) dX12_bin_1 rfl ?_
  refine G_putI (mem2 := (up2 mem 169 0 0)) dX12_bin_2 fp_12_126 (by decide) sh_169 rfl ?_
  refine G_aload_n dX12_bin_5 rfl ?_
  refine G_iload_n dX12_bin_6 rfl ?_
  refine G_iload_n dX12_bin_7 rfl ?_
  refine G_iload_n dX12_bin_8 rfl ?_
  exact k1
set_option maxRecDepth 20000 in
set_option maxHeartbeats 8000000 in
theorem sg_X12_bin_12 {E : Nat × (Nat → Int32)} {P : Option Value → Mem → Prop} {mem : Mem} {a1 : Int} {a2 : Int} {a3 : Int} {a4 : Int} {s0 : Int} (w1 : -2147483648 ≤ s0 ∧ s0 < 2147483648) (w2 : -2147483648 ≤ a4 ∧ a4 < 2147483648) (w3 : -9223372036854775808 ≤ a4 ∧ a4 < 9223372036854775808) (q4 : ¬ s0 = 0 → 0 ≤ a4 ∧ a4 ≤ 3 → 0 ≤ a1 ∧ a1 < 6) (q5 : ¬ s0 = 0 → 0 ≤ a4 ∧ a4 ≤ 3 → a4 ≠ 0 → a4 ≠ 1 → a4 = 2 → 0 ≤ (((16 * a1) + (8 * a2)) + a3) ∧ (((16 * a1) + (8 * a2)) + a3) < 99) (q6 : ¬ s0 = 0 → 0 ≤ a4 ∧ a4 ≤ 3 → a4 ≠ 0 → a4 = 1 → 0 ≤ (((16 * a1) + (8 * a2)) + a3) ∧ (((16 * a1) + (8 * a2)) + a3) < 96) (q7 : ¬ s0 = 0 → 0 ≤ a4 ∧ a4 ≤ 3 → a4 = 0 → 0 ≤ (((16 * a1) + (8 * a2)) + a3) ∧ (((16 * a1) + (8 * a2)) + a3) < 96)
    (k1 : s0 = 0 → P (some (vi 0)) (up2 mem 169 0 1))
    (k2 : ¬ s0 = 0 → 0 ≤ a4 ∧ a4 ≤ 3 → a4 ≠ 0 → a4 ≠ 1 → a4 ≠ 2 → GM E (m_X12_bin 4) P 97 [.ref 169, vi a1, vi a2, vi a3, vi a4, vi (((16 * a1) + (8 * a2)) + a3)] [vi 0, vi a3, vi a2, vi a1, .ref 169] (up2 (up2 mem 169 30 (mem 179 1)) 169 31 (mem 173 a1)))
    (k3 : ¬ s0 = 0 → 0 ≤ a4 ∧ a4 ≤ 3 → a4 ≠ 0 → a4 ≠ 1 → a4 = 2 → P (some (vi (mem 180 (((16 * a1) + (8 * a2)) + a3)))) (up2 (up2 mem 169 30 (mem 179 1)) 169 31 (mem 173 a1)))
    (k4 : ¬ s0 = 0 → 0 ≤ a4 ∧ a4 ≤ 3 → a4 ≠ 0 → a4 = 1 → P (some (vi (divI (((mem 178 (((16 * a1) + (8 * a2)) + a3)) * (mem 179 3)) * (10 + (mem 179 2))) 10))) (up2 (up2 mem 169 30 (mem 179 1)) 169 31 (mem 173 a1)))
    (k5 : ¬ s0 = 0 → 0 ≤ a4 ∧ a4 ≤ 3 → a4 = 0 → P (some (vi (mem 178 (((16 * a1) + (8 * a2)) + a3)))) (up2 (up2 mem 169 30 (mem 179 1)) 169 31 (mem 173 a1)))
    (k6 : ¬ s0 = 0 → ¬ (0 ≤ a4 ∧ a4 ≤ 3) → P (some (vi 0)) (up2 mem 169 0 1)) :
    GM E (m_X12_bin 4) P 12 [.ref 169, vi a1, vi a2, vi a3, vi a4, un] [vi s0] mem := by
  refine G_if_eq (tgt := 28) dX12_bin_12 (by decide) (w1) (fun c1 => ?_) (fun c1 => ?_)
  · -- s0 = 0
    refine G_aload_n dX12_bin_28 rfl ?_
    refine cb_X12_bin_29 (ic_X12_refuse ?_)
    exact G_iret dX12_bin_32 rfl (Nat.zero_le _) (Nat.zero_le _) (Nat.le_refl _) ⟨rfl, k1 c1⟩
  · -- ¬ s0 = 0
    refine G_iload dX12_bin_15 rfl ?_
    refine G_i2l dX12_bin_17 (w2) ?_
    refine G_lconst (z := 0) dX12_bin_18 rfl ?_
    refine G_ldc2 (z := 3) dX12_bin_19 kc_12_336 ?_
    refine cb_X12_bin_22 (ic_X12_in (w3) (by decide) (by decide) (fun c2 => ?_) (fun c3 => ?_))
    · -- 0 ≤ a4 ∧ a4 ≤ 3
      refine G_if_ne (tgt := 33) dX12_bin_25 (by decide) (by decide) (fun _ => ?_) (fun h => absurd h (by decide))
      refine G_iload_n dX12_bin_33 rfl ?_
      refine G_iload_n dX12_bin_34 rfl ?_
      refine G_iload_n dX12_bin_35 rfl ?_
      refine cb_X12_bin_36 (ic_X12_at ?_)
      refine G_istore dX12_bin_39 (by decide : 5 < 6) rfl ?_
      refine G_aload_n dX12_bin_41 rfl ?_
      refine G_iload_n dX12_bin_42 rfl ?_
      refine cb_X12_bin_43 (ic_X12_thinksAsIs (a := (mem 179 1)) (b := (mem 173 a1)) ⟨(q4 c1 c2).1, (q4 c1 c2).2⟩ rfl rfl ?_)
      refine G_iload dX12_bin_46 rfl ?_
      refine G_if_ne (tgt := 61) dX12_bin_48 (by decide) (w2) (fun c4 => ?_) (fun c4 => ?_)
      · -- a4 ≠ 0
        refine G_iload dX12_bin_61 rfl ?_
        refine G_iconst (z := 1) dX12_bin_63 rfl ?_
        refine G_icmp_ne (tgt := 76) dX12_bin_64 (by decide) (w2) (by decide) (fun c5 => ?_) (fun c5 => ?_)
        · -- a4 ≠ 1
          refine G_iload dX12_bin_76 rfl ?_
          refine G_iconst (z := 2) dX12_bin_78 rfl ?_
          refine G_icmp_ne (tgt := 92) dX12_bin_79 (by decide) (w2) (by decide) (fun c6 => ?_) (fun c6 => ?_)
          · -- a4 ≠ 2
            refine G_aload_n dX12_bin_92 rfl ?_
            refine G_iload_n dX12_bin_93 rfl ?_
            refine G_iload_n dX12_bin_94 rfl ?_
            refine G_iload_n dX12_bin_95 rfl ?_
            refine G_iconst (z := 0) dX12_bin_96 rfl ?_
            exact k2 c1 c2 c4 c5 c6
          · -- a4 = 2
            refine G_aload_n dX12_bin_82 rfl ?_
            refine G_getR (t := 180) dX12_bin_83 fl_12_42 (by decide) sh_169 rr_169_14 ?_
            refine G_iload dX12_bin_86 rfl ?_
            refine G_iald (z := (mem 180 (((16 * a1) + (8 * a2)) + a3))) dX12_bin_88 (by decide) sh_180 (by decide) (q5 c1 c2 c4 c5 c6).1 (q5 c1 c2 c4 c5 c6).2 (by simp [up2, upr]) ?_
            refine G_goto (tgt := 100) dX12_bin_89 (by decide) ?_
            exact G_iret dX12_bin_100 rfl (Nat.zero_le _) (Nat.zero_le _) (Nat.le_refl _) ⟨rfl, k3 c1 c2 c4 c5 c6⟩
        · -- a4 = 1
          refine G_aload_n dX12_bin_67 rfl ?_
          refine G_iload dX12_bin_68 rfl ?_
          refine cb_X12_bin_70 (ic_X12_heavy (w := (mem 178 (((16 * a1) + (8 * a2)) + a3))) (z := (mem 179 3)) (r := (mem 179 2)) ⟨(q6 c1 c2 c4 c5).1, (q6 c1 c2 c4 c5).2⟩ (by simp [up2, upr]) (by simp [up2, upr]) (by simp [up2, upr]) ?_)
          refine G_goto (tgt := 100) dX12_bin_73 (by decide) ?_
          exact G_iret dX12_bin_100 rfl (Nat.zero_le _) (Nat.zero_le _) (Nat.le_refl _) ⟨rfl, k4 c1 c2 c4 c5⟩
      · -- a4 = 0
        refine G_aload_n dX12_bin_51 rfl ?_
        refine G_getR (t := 178) dX12_bin_52 fl_12_36 (by decide) sh_169 rr_169_12 ?_
        refine G_iload dX12_bin_55 rfl ?_
        refine G_iald (z := (mem 178 (((16 * a1) + (8 * a2)) + a3))) dX12_bin_57 (by decide) sh_178 (by decide) (q7 c1 c2 c4).1 (q7 c1 c2 c4).2 (by simp [up2, upr]) ?_
        refine G_goto (tgt := 100) dX12_bin_58 (by decide) ?_
        exact G_iret dX12_bin_100 rfl (Nat.zero_le _) (Nat.zero_le _) (Nat.le_refl _) ⟨rfl, k5 c1 c2 c4⟩
    · -- ¬ (0 ≤ a4 ∧ a4 ≤ 3)
      refine G_if_ne (tgt := 33) dX12_bin_25 (by decide) (by decide) (fun h => absurd h (by decide)) (fun _ => ?_)
      refine G_aload_n dX12_bin_28 rfl ?_
      refine cb_X12_bin_29 (ic_X12_refuse ?_)
      exact G_iret dX12_bin_32 rfl (Nat.zero_le _) (Nat.zero_le _) (Nat.le_refl _) ⟨rfl, k6 c1 c3⟩
set_option maxRecDepth 20000 in
set_option maxHeartbeats 8000000 in
theorem sg_X12_bin_100 {E : Nat × (Nat → Int32)} {P : Option Value → Mem → Prop} {mem : Mem} {a1 : Int} {a2 : Int} {a3 : Int} {a4 : Int} {a5 : Int} {s0 : Int}
    (k1 : P (some (vi s0)) mem) :
    GM E (m_X12_bin 4) P 100 [.ref 169, vi a1, vi a2, vi a3, vi a4, vi a5] [vi s0] mem := by
  exact G_iret dX12_bin_100 rfl (Nat.zero_le _) (Nat.zero_le _) (Nat.le_refl _) ⟨rfl, k1⟩
set_option maxRecDepth 20000 in
set_option maxHeartbeats 8000000 in
theorem sg_X12_binGoes_0 {E : Nat × (Nat → Int32)} {P : Option Value → Mem → Prop} {mem : Mem} {r1 : Nat} {a2 : Int} {a3 : Int} {a4 : Int} {a5 : Int} {a6 : Int} (hl1 : r1 < 209) (hs1 : SH[r1]? = some (.inr (0, 99))) (q1 : 0 ≤ (((16 * a2) + (8 * a3)) + a4) ∧ (((16 * a2) + (8 * a3)) + a4) < 99) (w2 : -2147483648 ≤ (mem r1 (((16 * a2) + (8 * a3)) + a4)) ∧ (mem r1 (((16 * a2) + (8 * a3)) + a4)) < 2147483648) (w3 : (mem r1 (((16 * a2) + (8 * a3)) + a4)) = 1 → -2147483648 ≤ (mem 169 37) ∧ (mem 169 37) < 2147483648) (q4 : (mem r1 (((16 * a2) + (8 * a3)) + a4)) = 1 → (mem 169 37) = 0 → 0 ≤ (((16 * a2) + (8 * a3)) + a4) ∧ (((16 * a2) + (8 * a3)) + a4) < 96) (w5 : (mem r1 (((16 * a2) + (8 * a3)) + a4)) = 1 → (mem 169 37) = 0 → -2147483648 ≤ (mem 179 4) ∧ (mem 179 4) < 2147483648) (w6 : (mem r1 (((16 * a2) + (8 * a3)) + a4)) = 1 → (mem 169 37) = 0 → (divI (((mem 178 (((16 * a2) + (8 * a3)) + a4)) * (mem 179 3)) * (10 + (mem 179 2))) 10) ≤ (mem 179 4) → -2147483648 ≤ ((mem r1 96) + (divI (((mem 178 (((16 * a2) + (8 * a3)) + a4)) * (mem 179 3)) * (10 + (mem 179 2))) 10)) ∧ ((mem r1 96) + (divI (((mem 178 (((16 * a2) + (8 * a3)) + a4)) * (mem 179 3)) * (10 + (mem 179 2))) 10)) < 2147483648) (w7 : -2147483648 ≤ a6 ∧ a6 < 2147483648) (w8 : -2147483648 ≤ a5 ∧ a5 < 2147483648)
    (k1 : (mem r1 (((16 * a2) + (8 * a3)) + a4)) ≠ 1 → P none mem)
    (k2 : (mem r1 (((16 * a2) + (8 * a3)) + a4)) = 1 → (mem 169 37) = 0 → (divI (((mem 178 (((16 * a2) + (8 * a3)) + a4)) * (mem 179 3)) * (10 + (mem 179 2))) 10) ≤ (mem 179 4) → ((mem r1 96) + (divI (((mem 178 (((16 * a2) + (8 * a3)) + a4)) * (mem 179 3)) * (10 + (mem 179 2))) 10)) ≤ a6 → GM E (m_X12_binGoes 4) P 147 [.ref 169, .ref r1, vi a2, vi a3, vi a4, vi a5, vi a6, vi (((16 * a2) + (8 * a3)) + a4), vi (divI (((mem 178 (((16 * a2) + (8 * a3)) + a4)) * (mem 179 3)) * (10 + (mem 179 2))) 10)] [vi (if a5 ≠ 2 then (0 : Int) else (a4 + 1)), vi a4, vi a3, vi a2, .ref 169, vi ((up2 (up2 (up2 mem r1 96 ((mem r1 96) + (divI (((mem 178 (((16 * a2) + (8 * a3)) + a4)) * (mem 179 3)) * (10 + (mem 179 2))) 10))) 169 36 (((up2 mem r1 96 ((mem r1 96) + (divI (((mem 178 (((16 * a2) + (8 * a3)) + a4)) * (mem 179 3)) * (10 + (mem 179 2))) 10))) 169 36) + (divI (((mem 178 (((16 * a2) + (8 * a3)) + a4)) * (mem 179 3)) * (10 + (mem 179 2))) 10))) r1 (((16 * a2) + (8 * a3)) + a4) 2) 169 32), .ref 169] (up2 (up2 (up2 (up2 mem r1 96 ((mem r1 96) + (divI (((mem 178 (((16 * a2) + (8 * a3)) + a4)) * (mem 179 3)) * (10 + (mem 179 2))) 10))) 169 36 (((up2 mem r1 96 ((mem r1 96) + (divI (((mem 178 (((16 * a2) + (8 * a3)) + a4)) * (mem 179 3)) * (10 + (mem 179 2))) 10))) 169 36) + (divI (((mem 178 (((16 * a2) + (8 * a3)) + a4)) * (mem 179 3)) * (10 + (mem 179 2))) 10))) r1 (((16 * a2) + (8 * a3)) + a4) 2) 169 34 (((up2 (up2 (up2 mem r1 96 ((mem r1 96) + (divI (((mem 178 (((16 * a2) + (8 * a3)) + a4)) * (mem 179 3)) * (10 + (mem 179 2))) 10))) 169 36 (((up2 mem r1 96 ((mem r1 96) + (divI (((mem 178 (((16 * a2) + (8 * a3)) + a4)) * (mem 179 3)) * (10 + (mem 179 2))) 10))) 169 36) + (divI (((mem 178 (((16 * a2) + (8 * a3)) + a4)) * (mem 179 3)) * (10 + (mem 179 2))) 10))) r1 (((16 * a2) + (8 * a3)) + a4) 2) 169 34) + 1)))
    (k3 : (mem r1 (((16 * a2) + (8 * a3)) + a4)) = 1 → (mem 169 37) = 0 → (divI (((mem 178 (((16 * a2) + (8 * a3)) + a4)) * (mem 179 3)) * (10 + (mem 179 2))) 10) ≤ (mem 179 4) → ¬ ((mem r1 96) + (divI (((mem 178 (((16 * a2) + (8 * a3)) + a4)) * (mem 179 3)) * (10 + (mem 179 2))) 10)) ≤ a6 → P none (up2 mem 169 37 1))
    (k4 : (mem r1 (((16 * a2) + (8 * a3)) + a4)) = 1 → (mem 169 37) = 0 → ¬ (divI (((mem 178 (((16 * a2) + (8 * a3)) + a4)) * (mem 179 3)) * (10 + (mem 179 2))) 10) ≤ (mem 179 4) → P none (up2 (up2 (up2 mem r1 (((16 * a2) + (8 * a3)) + a4) 3) 169 35 (((up2 mem r1 (((16 * a2) + (8 * a3)) + a4) 3) 169 35) + 1)) 169 32 (((up2 mem r1 (((16 * a2) + (8 * a3)) + a4) 3) 169 32) + 3)))
    (k5 : (mem r1 (((16 * a2) + (8 * a3)) + a4)) = 1 → ¬ (mem 169 37) = 0 → P none mem) :
    GM E (m_X12_binGoes 4) P 0 [.ref 169, .ref r1, vi a2, vi a3, vi a4, vi a5, vi a6, un, un] [] mem := by
  refine G_iload_n dX12_binGoes_0 rfl ?_
  refine G_iload_n dX12_binGoes_1 rfl ?_
  refine G_iload dX12_binGoes_2 rfl ?_
  refine cb_X12_binGoes_4 (ic_X12_at ?_)
  refine G_istore dX12_binGoes_7 (by decide : 7 < 9) rfl ?_
  refine G_aload_n dX12_binGoes_9 rfl ?_
  refine G_iload dX12_binGoes_10 rfl ?_
  refine G_iald (z := (mem r1 (((16 * a2) + (8 * a3)) + a4))) dX12_binGoes_12 hl1 hs1 (by decide) (q1).1 (q1).2 rfl ?_
  refine G_iconst (z := 1) dX12_binGoes_13 rfl ?_
  refine G_icmp_ne (tgt := 24) dX12_binGoes_14 (by decide) (w2) (by decide) (fun c1 => ?_) (fun c1 => ?_)
  · -- (mem r1 (((16 * a2) + (8 * a3)) + a4)) ≠ 1
    exact G_vret dX12_binGoes_24 rfl (Nat.zero_le _) (Nat.zero_le _) (Nat.le_refl _) ⟨rfl, k1 c1⟩
  · -- (mem r1 (((16 * a2) + (8 * a3)) + a4)) = 1
    refine G_aload_n dX12_binGoes_17 rfl ?_
    refine G_getI (z := (mem 169 37)) dX12_binGoes_18 fl_12_275 (by decide) sh_169 rfl ?_
    refine G_if_eq (tgt := 25) dX12_binGoes_21 (by decide) (w3 c1) (fun c2 => ?_) (fun c2 => ?_)
    · -- (mem 169 37) = 0
      refine G_aload_n dX12_binGoes_25 rfl ?_
      refine G_iload dX12_binGoes_26 rfl ?_
      refine cb_X12_binGoes_28 (ic_X12_heavy (w := (mem 178 (((16 * a2) + (8 * a3)) + a4))) (z := (mem 179 3)) (r := (mem 179 2)) ⟨(q4 c1 c2).1, (q4 c1 c2).2⟩ rfl rfl rfl ?_)
      refine G_istore dX12_binGoes_31 (by decide : 8 < 9) rfl ?_
      refine G_iload dX12_binGoes_33 rfl ?_
      refine G_aload_n dX12_binGoes_35 rfl ?_
      refine G_getR (t := 179) dX12_binGoes_36 fl_12_39 (by decide) sh_169 rr_169_13 ?_
      refine G_iconst (z := 4) dX12_binGoes_39 rfl ?_
      refine G_iald (z := (mem 179 4)) dX12_binGoes_40 (by decide) sh_179 (by decide) (by decide) (by decide) rfl ?_
      refine G_icmp_le (tgt := 70) dX12_binGoes_41 (by decide) (iI_rng _) (w5 c1 c2) (fun c3 => ?_) (fun c3 => ?_)
      · -- (divI (((mem 178 (((16 * a2) + (8 * a3)) + a4)) * (mem 179 3)) * (10 + (mem 179 2))) 10) ≤ (mem 179 4)
        refine G_aload_n dX12_binGoes_70 rfl ?_
        refine G_bipush (z := 96) dX12_binGoes_71 rfl ?_
        refine G_iald (z := (mem r1 96)) dX12_binGoes_73 hl1 hs1 (by decide) (by decide) (by decide) rfl ?_
        refine G_iload dX12_binGoes_74 rfl ?_
        refine G_iadd dX12_binGoes_76 ?_
        refine G_iload dX12_binGoes_77 rfl ?_
        refine G_icmp_le (tgt := 88) dX12_binGoes_79 (by decide) (w6 c1 c2 c3) (w7) (fun c4 => ?_) (fun c4 => ?_)
        · -- ((mem r1 96) + (divI (((mem 178 (((16 * a2) + (8 * a3)) + a4)) * (mem 179 3)) * (10 + (mem 179 2))) 10)) ≤ a6
          refine G_aload_n dX12_binGoes_88 rfl ?_
          refine G_bipush (z := 96) dX12_binGoes_89 rfl ?_
          refine G_dup2 dX12_binGoes_91 rfl rfl ?_
          refine G_iald (z := (mem r1 96)) dX12_binGoes_92 hl1 hs1 (by decide) (by decide) (by decide) rfl ?_
          refine G_iload dX12_binGoes_93 rfl ?_
          refine G_iadd dX12_binGoes_95 ?_
          refine G_iast (mem2 := (up2 mem r1 96 ((mem r1 96) + (divI (((mem 178 (((16 * a2) + (8 * a3)) + a4)) * (mem 179 3)) * (10 + (mem 179 2))) 10)))) dX12_binGoes_96 hl1 hs1 (by decide) (by decide) (by decide) rfl ?_
          refine G_aload_n dX12_binGoes_97 rfl ?_
          refine G_dup dX12_binGoes_98 rfl ?_
          refine G_getI (z := ((up2 mem r1 96 ((mem r1 96) + (divI (((mem 178 (((16 * a2) + (8 * a3)) + a4)) * (mem 179 3)) * (10 + (mem 179 2))) 10))) 169 36)) dX12_binGoes_99 fl_12_285 (by decide) sh_169 (by simp [up2, upr]) ?_
          refine G_iload dX12_binGoes_102 rfl ?_
          refine G_iadd dX12_binGoes_104 ?_
          refine G_putI (mem2 := (up2 (up2 mem r1 96 ((mem r1 96) + (divI (((mem 178 (((16 * a2) + (8 * a3)) + a4)) * (mem 179 3)) * (10 + (mem 179 2))) 10))) 169 36 (((up2 mem r1 96 ((mem r1 96) + (divI (((mem 178 (((16 * a2) + (8 * a3)) + a4)) * (mem 179 3)) * (10 + (mem 179 2))) 10))) 169 36) + (divI (((mem 178 (((16 * a2) + (8 * a3)) + a4)) * (mem 179 3)) * (10 + (mem 179 2))) 10)))) dX12_binGoes_105 fp_12_285 (by decide) sh_169 rfl ?_
          refine G_aload_n dX12_binGoes_108 rfl ?_
          refine G_iload dX12_binGoes_109 rfl ?_
          refine G_iconst (z := 2) dX12_binGoes_111 rfl ?_
          refine G_iast (mem2 := (up2 (up2 (up2 mem r1 96 ((mem r1 96) + (divI (((mem 178 (((16 * a2) + (8 * a3)) + a4)) * (mem 179 3)) * (10 + (mem 179 2))) 10))) 169 36 (((up2 mem r1 96 ((mem r1 96) + (divI (((mem 178 (((16 * a2) + (8 * a3)) + a4)) * (mem 179 3)) * (10 + (mem 179 2))) 10))) 169 36) + (divI (((mem 178 (((16 * a2) + (8 * a3)) + a4)) * (mem 179 3)) * (10 + (mem 179 2))) 10))) r1 (((16 * a2) + (8 * a3)) + a4) 2)) dX12_binGoes_112 hl1 hs1 (by decide) (q1).1 (q1).2 rfl ?_
          refine G_aload_n dX12_binGoes_113 rfl ?_
          refine G_dup dX12_binGoes_114 rfl ?_
          refine G_getI (z := ((up2 (up2 (up2 mem r1 96 ((mem r1 96) + (divI (((mem 178 (((16 * a2) + (8 * a3)) + a4)) * (mem 179 3)) * (10 + (mem 179 2))) 10))) 169 36 (((up2 mem r1 96 ((mem r1 96) + (divI (((mem 178 (((16 * a2) + (8 * a3)) + a4)) * (mem 179 3)) * (10 + (mem 179 2))) 10))) 169 36) + (divI (((mem 178 (((16 * a2) + (8 * a3)) + a4)) * (mem 179 3)) * (10 + (mem 179 2))) 10))) r1 (((16 * a2) + (8 * a3)) + a4) 2) 169 34)) dX12_binGoes_115 fl_12_288 (by decide) sh_169 (by simp [up2, upr]) ?_
          refine G_iconst (z := 1) dX12_binGoes_118 rfl ?_
          refine G_iadd dX12_binGoes_119 ?_
          refine G_putI (mem2 := (up2 (up2 (up2 (up2 mem r1 96 ((mem r1 96) + (divI (((mem 178 (((16 * a2) + (8 * a3)) + a4)) * (mem 179 3)) * (10 + (mem 179 2))) 10))) 169 36 (((up2 mem r1 96 ((mem r1 96) + (divI (((mem 178 (((16 * a2) + (8 * a3)) + a4)) * (mem 179 3)) * (10 + (mem 179 2))) 10))) 169 36) + (divI (((mem 178 (((16 * a2) + (8 * a3)) + a4)) * (mem 179 3)) * (10 + (mem 179 2))) 10))) r1 (((16 * a2) + (8 * a3)) + a4) 2) 169 34 (((up2 (up2 (up2 mem r1 96 ((mem r1 96) + (divI (((mem 178 (((16 * a2) + (8 * a3)) + a4)) * (mem 179 3)) * (10 + (mem 179 2))) 10))) 169 36 (((up2 mem r1 96 ((mem r1 96) + (divI (((mem 178 (((16 * a2) + (8 * a3)) + a4)) * (mem 179 3)) * (10 + (mem 179 2))) 10))) 169 36) + (divI (((mem 178 (((16 * a2) + (8 * a3)) + a4)) * (mem 179 3)) * (10 + (mem 179 2))) 10))) r1 (((16 * a2) + (8 * a3)) + a4) 2) 169 34) + 1))) dX12_binGoes_120 fp_12_288 (by decide) sh_169 rfl ?_
          refine G_aload_n dX12_binGoes_123 rfl ?_
          refine G_dup dX12_binGoes_124 rfl ?_
          refine G_getI (z := ((up2 (up2 (up2 mem r1 96 ((mem r1 96) + (divI (((mem 178 (((16 * a2) + (8 * a3)) + a4)) * (mem 179 3)) * (10 + (mem 179 2))) 10))) 169 36 (((up2 mem r1 96 ((mem r1 96) + (divI (((mem 178 (((16 * a2) + (8 * a3)) + a4)) * (mem 179 3)) * (10 + (mem 179 2))) 10))) 169 36) + (divI (((mem 178 (((16 * a2) + (8 * a3)) + a4)) * (mem 179 3)) * (10 + (mem 179 2))) 10))) r1 (((16 * a2) + (8 * a3)) + a4) 2) 169 32)) dX12_binGoes_125 fl_12_282 (by decide) sh_169 (by simp [up2, upr]) ?_
          refine G_aload_n dX12_binGoes_128 rfl ?_
          refine G_iload_n dX12_binGoes_129 rfl ?_
          refine G_iload_n dX12_binGoes_130 rfl ?_
          refine G_iload dX12_binGoes_131 rfl ?_
          refine G_iload dX12_binGoes_133 rfl ?_
          refine G_iconst (z := 2) dX12_binGoes_135 rfl ?_
          have j1 : GM E (m_X12_binGoes 4) P 147 [.ref 169, .ref r1, vi a2, vi a3, vi a4, vi a5, vi a6, vi (((16 * a2) + (8 * a3)) + a4), vi (divI (((mem 178 (((16 * a2) + (8 * a3)) + a4)) * (mem 179 3)) * (10 + (mem 179 2))) 10)] [vi (if a5 ≠ 2 then (0 : Int) else (a4 + 1)), vi a4, vi a3, vi a2, .ref 169, vi ((up2 (up2 (up2 mem r1 96 ((mem r1 96) + (divI (((mem 178 (((16 * a2) + (8 * a3)) + a4)) * (mem 179 3)) * (10 + (mem 179 2))) 10))) 169 36 (((up2 mem r1 96 ((mem r1 96) + (divI (((mem 178 (((16 * a2) + (8 * a3)) + a4)) * (mem 179 3)) * (10 + (mem 179 2))) 10))) 169 36) + (divI (((mem 178 (((16 * a2) + (8 * a3)) + a4)) * (mem 179 3)) * (10 + (mem 179 2))) 10))) r1 (((16 * a2) + (8 * a3)) + a4) 2) 169 32), .ref 169] (up2 (up2 (up2 (up2 mem r1 96 ((mem r1 96) + (divI (((mem 178 (((16 * a2) + (8 * a3)) + a4)) * (mem 179 3)) * (10 + (mem 179 2))) 10))) 169 36 (((up2 mem r1 96 ((mem r1 96) + (divI (((mem 178 (((16 * a2) + (8 * a3)) + a4)) * (mem 179 3)) * (10 + (mem 179 2))) 10))) 169 36) + (divI (((mem 178 (((16 * a2) + (8 * a3)) + a4)) * (mem 179 3)) * (10 + (mem 179 2))) 10))) r1 (((16 * a2) + (8 * a3)) + a4) 2) 169 34 (((up2 (up2 (up2 mem r1 96 ((mem r1 96) + (divI (((mem 178 (((16 * a2) + (8 * a3)) + a4)) * (mem 179 3)) * (10 + (mem 179 2))) 10))) 169 36 (((up2 mem r1 96 ((mem r1 96) + (divI (((mem 178 (((16 * a2) + (8 * a3)) + a4)) * (mem 179 3)) * (10 + (mem 179 2))) 10))) 169 36) + (divI (((mem 178 (((16 * a2) + (8 * a3)) + a4)) * (mem 179 3)) * (10 + (mem 179 2))) 10))) r1 (((16 * a2) + (8 * a3)) + a4) 2) 169 34) + 1)) := by
            exact k2 c1 c2 c3 c4
          refine G_icmp_ne (tgt := 146) dX12_binGoes_136 (by decide) (w8) (by decide) (fun c5 => ?_) (fun c5 => ?_)
          · -- a5 ≠ 2
            refine G_iconst (z := 0) dX12_binGoes_146 rfl ?_
            have qj1 := j1
            simp only [if_pos c5] at qj1
            exact qj1
          · -- a5 = 2
            refine G_iload dX12_binGoes_139 rfl ?_
            refine G_iconst (z := 1) dX12_binGoes_141 rfl ?_
            refine G_iadd dX12_binGoes_142 ?_
            refine G_goto (tgt := 147) dX12_binGoes_143 (by decide) ?_
            have qj1 := j1
            simp only [if_neg (show ¬ (a5 ≠ 2) from fun q => q c5)] at qj1
            exact qj1
        · -- ¬ ((mem r1 96) + (divI (((mem 178 (((16 * a2) + (8 * a3)) + a4)) * (mem 179 3)) * (10 + (mem 179 2))) 10)) ≤ a6
          refine G_aload_n dX12_binGoes_82 rfl ?_
          refine G_iconst (z := 1) dX12_binGoes_83 rfl ?_
          refine G_putZ (mem2 := (up2 mem 169 37 1)) (by decide) dX12_binGoes_84 fp_12_275 (by decide) sh_169 rfl ?_
          exact G_vret dX12_binGoes_87 rfl (Nat.zero_le _) (Nat.zero_le _) (Nat.le_refl _) ⟨rfl, k3 c1 c2 c3 c4⟩
      · -- ¬ (divI (((mem 178 (((16 * a2) + (8 * a3)) + a4)) * (mem 179 3)) * (10 + (mem 179 2))) 10) ≤ (mem 179 4)
        refine G_aload_n dX12_binGoes_44 rfl ?_
        refine G_iload dX12_binGoes_45 rfl ?_
        refine G_iconst (z := 3) dX12_binGoes_47 rfl ?_
        refine G_iast (mem2 := (up2 mem r1 (((16 * a2) + (8 * a3)) + a4) 3)) dX12_binGoes_48 hl1 hs1 (by decide) (q1).1 (q1).2 rfl ?_
        refine G_aload_n dX12_binGoes_49 rfl ?_
        refine G_dup dX12_binGoes_50 rfl ?_
        refine G_getI (z := ((up2 mem r1 (((16 * a2) + (8 * a3)) + a4) 3) 169 35)) dX12_binGoes_51 fl_12_279 (by decide) sh_169 (by simp [up2, upr]) ?_
        refine G_iconst (z := 1) dX12_binGoes_54 rfl ?_
        refine G_iadd dX12_binGoes_55 ?_
        refine G_putI (mem2 := (up2 (up2 mem r1 (((16 * a2) + (8 * a3)) + a4) 3) 169 35 (((up2 mem r1 (((16 * a2) + (8 * a3)) + a4) 3) 169 35) + 1))) dX12_binGoes_56 fp_12_279 (by decide) sh_169 rfl ?_
        refine G_aload_n dX12_binGoes_59 rfl ?_
        refine G_dup dX12_binGoes_60 rfl ?_
        refine G_getI (z := ((up2 mem r1 (((16 * a2) + (8 * a3)) + a4) 3) 169 32)) dX12_binGoes_61 fl_12_282 (by decide) sh_169 (by simp [up2, upr]) ?_
        refine G_iconst (z := 3) dX12_binGoes_64 rfl ?_
        refine G_iadd dX12_binGoes_65 ?_
        refine G_putI (mem2 := (up2 (up2 (up2 mem r1 (((16 * a2) + (8 * a3)) + a4) 3) 169 35 (((up2 mem r1 (((16 * a2) + (8 * a3)) + a4) 3) 169 35) + 1)) 169 32 (((up2 mem r1 (((16 * a2) + (8 * a3)) + a4) 3) 169 32) + 3))) dX12_binGoes_66 fp_12_282 (by decide) sh_169 rfl ?_
        exact G_vret dX12_binGoes_69 rfl (Nat.zero_le _) (Nat.zero_le _) (Nat.le_refl _) ⟨rfl, k4 c1 c2 c3⟩
    · -- ¬ (mem 169 37) = 0
      exact G_vret dX12_binGoes_24 rfl (Nat.zero_le _) (Nat.zero_le _) (Nat.le_refl _) ⟨rfl, k5 c1 c2⟩
set_option maxRecDepth 20000 in
set_option maxHeartbeats 8000000 in
theorem sg_X12_binGoes_150 {E : Nat × (Nat → Int32)} {P : Option Value → Mem → Prop} {mem : Mem} {r1 : Nat} {a2 : Int} {a3 : Int} {a4 : Int} {a5 : Int} {a6 : Int} {a7 : Int} {a8 : Int} {s0 : Int} {s1 : Int} (hl1 : r1 < 209) (hs1 : SH[r1]? = some (.inr (0, 99))) (w1 : -2147483648 ≤ a5 ∧ a5 < 2147483648)
    (k1 : P none (up2 mem 169 32 (s1 + (s0 + (if a5 ≠ 1 then (if a5 ≠ 2 then (0 : Int) else (4 * (a4 + 1))) else (11 * a3)))))) :
    GM E (m_X12_binGoes 4) P 150 [.ref 169, .ref r1, vi a2, vi a3, vi a4, vi a5, vi a6, vi a7, vi a8] [vi s0, vi s1, .ref 169] mem := by
  refine G_iload dX12_binGoes_150 rfl ?_
  refine G_iconst (z := 1) dX12_binGoes_152 rfl ?_
  have j1 : GM E (m_X12_binGoes 4) P 179 [.ref 169, .ref r1, vi a2, vi a3, vi a4, vi a5, vi a6, vi a7, vi a8] [vi (if a5 ≠ 1 then (if a5 ≠ 2 then (0 : Int) else (4 * (a4 + 1))) else (11 * a3)), vi s0, vi s1, .ref 169] mem := by
    refine G_iadd dX12_binGoes_179 ?_
    refine G_iadd dX12_binGoes_180 ?_
    refine G_putI (mem2 := (up2 mem 169 32 (s1 + (s0 + (if a5 ≠ 1 then (if a5 ≠ 2 then (0 : Int) else (4 * (a4 + 1))) else (11 * a3)))))) dX12_binGoes_181 fp_12_282 (by decide) sh_169 rfl ?_
    exact G_vret dX12_binGoes_184 rfl (Nat.zero_le _) (Nat.zero_le _) (Nat.le_refl _) ⟨rfl, k1⟩
  refine G_icmp_ne (tgt := 163) dX12_binGoes_153 (by decide) (w1) (by decide) (fun c1 => ?_) (fun c1 => ?_)
  · -- a5 ≠ 1
    refine G_iload dX12_binGoes_163 rfl ?_
    refine G_iconst (z := 2) dX12_binGoes_165 rfl ?_
    have j2 : GM E (m_X12_binGoes 4) P 179 [.ref 169, .ref r1, vi a2, vi a3, vi a4, vi a5, vi a6, vi a7, vi a8] [vi (if a5 ≠ 2 then (0 : Int) else (4 * (a4 + 1))), vi s0, vi s1, .ref 169] mem := by
      have qj1 := j1
      simp only [if_pos c1] at qj1
      exact qj1
    refine G_icmp_ne (tgt := 178) dX12_binGoes_166 (by decide) (w1) (by decide) (fun c2 => ?_) (fun c2 => ?_)
    · -- a5 ≠ 2
      refine G_iconst (z := 0) dX12_binGoes_178 rfl ?_
      have qj2 := j2
      simp only [if_pos c2] at qj2
      exact qj2
    · -- a5 = 2
      refine G_iconst (z := 4) dX12_binGoes_169 rfl ?_
      refine G_iload dX12_binGoes_170 rfl ?_
      refine G_iconst (z := 1) dX12_binGoes_172 rfl ?_
      refine G_iadd dX12_binGoes_173 ?_
      refine G_imul dX12_binGoes_174 ?_
      refine G_goto (tgt := 179) dX12_binGoes_175 (by decide) ?_
      have qj2 := j2
      simp only [if_neg (show ¬ (a5 ≠ 2) from fun q => q c2)] at qj2
      exact qj2
  · -- a5 = 1
    refine G_bipush (z := 11) dX12_binGoes_156 rfl ?_
    refine G_iload_n dX12_binGoes_158 rfl ?_
    refine G_imul dX12_binGoes_159 ?_
    refine G_goto (tgt := 179) dX12_binGoes_160 (by decide) ?_
    have qj1 := j1
    simp only [if_neg (show ¬ (a5 ≠ 1) from fun q => q c1)] at qj1
    exact qj1
set_option maxRecDepth 20000 in
set_option maxHeartbeats 8000000 in
theorem sg_X12_busiest_0 {E : Nat × (Nat → Int32)} {P : Option Value → Mem → Prop} {mem : Mem}
    (k1 : GM E (m_X12_busiest 10) P 6 [.ref 169, un, un, un] [.ref 169] (up2 mem 169 0 0)) :
    GM E (m_X12_busiest 10) P 0 [.ref 169, un, un, un] [] mem := by
  refine G_aload_n dX12_busiest_0 rfl ?_
  refine G_iconst (z := 0) dX12_busiest_1 rfl ?_
  refine G_putI (mem2 := (up2 mem 169 0 0)) dX12_busiest_2 fp_12_126 (by decide) sh_169 rfl ?_
  refine G_aload_n dX12_busiest_5 rfl ?_
  exact k1
set_option maxRecDepth 20000 in
set_option maxHeartbeats 8000000 in
theorem sg_X12_busiest_9 {E : Nat × (Nat → Int32)} {P : Option Value → Mem → Prop} {mem : Mem}
    (k1 : GM E (m_X12_busiest 10) P 20 [.ref 169, vi 0, vi (mem 197 0), vi 1] [] mem) :
    GM E (m_X12_busiest 10) P 9 [.ref 169, un, un, un] [] mem := by
  refine G_iconst (z := 0) dX12_busiest_9 rfl ?_
  refine G_istore_n dX12_busiest_10 rfl (by decide : 1 < 4) rfl ?_
  refine G_aload_n dX12_busiest_11 rfl ?_
  refine G_getR (t := 197) dX12_busiest_12 fl_12_93 (by decide) sh_169 rr_169_55 ?_
  refine G_iconst (z := 0) dX12_busiest_15 rfl ?_
  refine G_iald (z := (mem 197 0)) dX12_busiest_16 (by decide) sh_197 (by decide) (by decide) (by decide) rfl ?_
  refine G_istore_n dX12_busiest_17 rfl (by decide : 2 < 4) rfl ?_
  refine G_iconst (z := 1) dX12_busiest_18 rfl ?_
  refine G_istore_n dX12_busiest_19 rfl (by decide : 3 < 4) rfl ?_
  exact k1
set_option maxRecDepth 20000 in
set_option maxHeartbeats 8000000 in
theorem sg_X12_busiest_20 {E : Nat × (Nat → Int32)} {P : Option Value → Mem → Prop} {mem : Mem} {a1 : Int} {a2 : Int} {a3 : Int} (w1 : -2147483648 ≤ a3 ∧ a3 < 2147483648) (q2 : 6 < a3 → 0 ≤ a1 ∧ a1 < 7) (w3 : 6 < a3 → -2147483648 ≤ (mem 197 a1) ∧ (mem 197 a1) < 2147483648) (w4 : -2147483648 ≤ a2 ∧ a2 < 2147483648) (q5 : ¬ 6 < a3 → 0 ≤ a3 ∧ a3 < 7) (q6 : ¬ 6 < a3 → 0 ≤ a1 ∧ a1 < 7) (w7 : ¬ 6 < a3 → -2147483648 ≤ (mem 197 a3) ∧ (mem 197 a3) < 2147483648) (w8 : ¬ 6 < a3 → -2147483648 ≤ (mem 197 a1) ∧ (mem 197 a1) < 2147483648)
    (k1 : 6 < a3 → P (some (vi a1)) (up2 (up2 (up2 (up2 (up2 mem 169 1 0) 170 0 (mem 197 a1)) 169 1 1) 170 1 a2) 169 1 2))
    (k2 : ¬ 6 < a3 → GM E (m_X12_busiest 10) P 20 [.ref 169, vi (if (mem 197 a3) ≤ (mem 197 a1) then a1 else a3), vi (min a2 (mem 197 a3)), vi (a3 + 1)] [] mem) :
    GM E (m_X12_busiest 10) P 20 [.ref 169, vi a1, vi a2, vi a3] [] mem := by
  refine G_iload_n dX12_busiest_20 rfl ?_
  refine G_bipush (z := 6) dX12_busiest_21 rfl ?_
  refine G_icmp_gt (tgt := 64) dX12_busiest_23 (by decide) (w1) (by decide) (fun c1 => ?_) (fun c1 => ?_)
  · -- 6 < a3
    refine G_aload_n dX12_busiest_64 rfl ?_
    refine G_iconst (z := 0) dX12_busiest_65 rfl ?_
    refine G_putI (mem2 := (up2 mem 169 1 0)) dX12_busiest_66 fp_12_134 (by decide) sh_169 rfl ?_
    refine G_aload_n dX12_busiest_69 rfl ?_
    refine G_aload_n dX12_busiest_70 rfl ?_
    refine G_getR (t := 197) dX12_busiest_71 fl_12_93 (by decide) sh_169 rr_169_55 ?_
    refine G_iload_n dX12_busiest_74 rfl ?_
    refine G_iald (z := (mem 197 a1)) dX12_busiest_75 (by decide) sh_197 (by decide) (q2 c1).1 (q2 c1).2 (by simp [up2, upr]) ?_
    refine G_i2l dX12_busiest_76 (w3 c1) ?_
    refine cb_X12_busiest_77 (ic_X12_enters (z := 0) (z2 := 1) (by simp [up2, upr]) (by decide) rfl ?_)
    refine G_aload_n dX12_busiest_80 rfl ?_
    refine G_iload_n dX12_busiest_81 rfl ?_
    refine G_i2l dX12_busiest_82 (w4) ?_
    refine cb_X12_busiest_83 (ic_X12_enters (z := 1) (z2 := 2) (by simp [up2, upr]) (by decide) rfl ?_)
    refine G_iload_n dX12_busiest_86 rfl ?_
    exact G_iret dX12_busiest_87 rfl (Nat.zero_le _) (Nat.zero_le _) (Nat.le_refl _) ⟨rfl, k1 c1⟩
  · -- ¬ 6 < a3
    refine G_aload_n dX12_busiest_26 rfl ?_
    refine G_getR (t := 197) dX12_busiest_27 fl_12_93 (by decide) sh_169 rr_169_55 ?_
    refine G_iload_n dX12_busiest_30 rfl ?_
    refine G_iald (z := (mem 197 a3)) dX12_busiest_31 (by decide) sh_197 (by decide) (q5 c1).1 (q5 c1).2 rfl ?_
    refine G_aload_n dX12_busiest_32 rfl ?_
    refine G_getR (t := 197) dX12_busiest_33 fl_12_93 (by decide) sh_169 rr_169_55 ?_
    refine G_iload_n dX12_busiest_36 rfl ?_
    refine G_iald (z := (mem 197 a1)) dX12_busiest_37 (by decide) sh_197 (by decide) (q6 c1).1 (q6 c1).2 rfl ?_
    have j1 : GM E (m_X12_busiest 10) P 46 [.ref 169, vi a1, vi a2, vi a3] [vi (if (mem 197 a3) ≤ (mem 197 a1) then a1 else a3)] mem := by
      refine G_istore_n dX12_busiest_46 rfl (by decide : 1 < 4) rfl ?_
      refine G_iload_n dX12_busiest_47 rfl ?_
      refine G_aload_n dX12_busiest_48 rfl ?_
      refine G_getR (t := 197) dX12_busiest_49 fl_12_93 (by decide) sh_169 rr_169_55 ?_
      refine G_iload_n dX12_busiest_52 rfl ?_
      refine G_iald (z := (mem 197 a3)) dX12_busiest_53 (by decide) sh_197 (by decide) (q5 c1).1 (q5 c1).2 rfl ?_
      refine G_min (z := (min a2 (mem 197 a3))) dX12_busiest_54 ml_12_157 mw_min (w4) (w7 c1) ⟨by show 1 ≤ 10; first | decide | omega, by show 21 ≤ 40 * 10; first | decide | omega, Nat.zero_le _, Nat.zero_le _⟩ (Nat.le_of_ble_eq_true rfl) rfl ?_
      refine G_istore_n dX12_busiest_57 rfl (by decide : 2 < 4) rfl ?_
      refine G_iinc (z := (a3 + 1)) dX12_busiest_58 rfl rfl (by decide : 3 < 4) rfl ?_
      refine G_goto (tgt := 20) dX12_busiest_61 (by decide) ?_
      exact k2 c1
    refine G_icmp_le (tgt := 45) dX12_busiest_38 (by decide) (w7 c1) (w8 c1) (fun c2 => ?_) (fun c2 => ?_)
    · -- (mem 197 a3) ≤ (mem 197 a1)
      refine G_iload_n dX12_busiest_45 rfl ?_
      have qj1 := j1
      simp only [if_pos c2] at qj1
      exact qj1
    · -- ¬ (mem 197 a3) ≤ (mem 197 a1)
      refine G_iload_n dX12_busiest_41 rfl ?_
      refine G_goto (tgt := 46) dX12_busiest_42 (by decide) ?_
      have qj1 := j1
      simp only [if_neg c2] at qj1
      exact qj1
set_option maxRecDepth 20000 in
set_option maxHeartbeats 8000000 in
theorem sg_X12_care_0 {E : Nat × (Nat → Int32)} {P : Option Value → Mem → Prop} {mem : Mem} {a1 : Int} {a2 : Int} (w1 : 0 ≤ (mem 169 3) ∧ (mem 169 3) < 2147483648) (w2 : -2147483648 ≤ a1 ∧ a1 < 2147483648) (w3 : -2147483648 ≤ a2 ∧ a2 < 2147483648) (w4 : -9223372036854775808 ≤ a2 ∧ a2 < 9223372036854775808)
    (k1 : 0 ≤ a1 ∧ a1 < (mem 169 3) → 0 ≤ a2 ∧ a2 ≤ 100 → GM E (m_X12_care 3) P 32 [.ref 169, vi a1, vi a2, vi 0] [vi 0, vi a1, .ref 169] (up2 mem 169 0 0))
    (k2 : 0 ≤ a1 ∧ a1 < (mem 169 3) → ¬ (0 ≤ a2 ∧ a2 ≤ 100) → P (some (vi (-1))) (up2 mem 169 0 0))
    (k3 : ¬ (0 ≤ a1 ∧ a1 < (mem 169 3)) → P (some (vi (-1))) (up2 mem 169 0 0)) :
    GM E (m_X12_care 3) P 0 [.ref 169, vi a1, vi a2, un] [] mem := by
  refine G_aload_n dX12_care_0 rfl ?_
  refine G_iconst (z := 0) dX12_care_1 rfl ?_
  refine G_putI (mem2 := (up2 mem 169 0 0)) dX12_care_2 fp_12_126 (by decide) sh_169 rfl ?_
  refine G_aload_n dX12_care_5 rfl ?_
  refine G_iload_n dX12_care_6 rfl ?_
  refine cb_X12_care_7 (ic_X12_isStreet (z := (mem 169 3)) (by simp [up2, upr]) (w2) (w1) (fun c1 => ?_) (fun c2 => ?_))
  · -- 0 ≤ a1 ∧ a1 < (mem 169 3)
    refine G_if_eq (tgt := 25) dX12_care_10 (by decide) (by decide) (fun h => absurd h (by decide)) (fun _ => ?_)
    refine G_iload_n dX12_care_13 rfl ?_
    refine G_i2l dX12_care_14 (w3) ?_
    refine G_lconst (z := 0) dX12_care_15 rfl ?_
    refine G_ldc2 (z := 100) dX12_care_16 kc_12_494 ?_
    refine cb_X12_care_19 (ic_X12_in (w4) (by decide) (by decide) (fun c3 => ?_) (fun c4 => ?_))
    · -- 0 ≤ a2 ∧ a2 ≤ 100
      refine G_if_ne (tgt := 27) dX12_care_22 (by decide) (by decide) (fun _ => ?_) (fun h => absurd h (by decide))
      refine G_iconst (z := 0) dX12_care_27 rfl ?_
      refine G_istore_n dX12_care_28 rfl (by decide : 3 < 4) rfl ?_
      refine G_aload_n dX12_care_29 rfl ?_
      refine G_iload_n dX12_care_30 rfl ?_
      refine G_iload_n dX12_care_31 rfl ?_
      exact k1 c1 c3
    · -- ¬ (0 ≤ a2 ∧ a2 ≤ 100)
      refine G_if_ne (tgt := 27) dX12_care_22 (by decide) (by decide) (fun h => absurd h (by decide)) (fun _ => ?_)
      refine G_iconst (z := (-1)) dX12_care_25 rfl ?_
      exact G_iret dX12_care_26 rfl (Nat.zero_le _) (Nat.zero_le _) (Nat.le_refl _) ⟨rfl, k2 c1 c4⟩
  · -- ¬ (0 ≤ a1 ∧ a1 < (mem 169 3))
    refine G_if_eq (tgt := 25) dX12_care_10 (by decide) (by decide) (fun _ => ?_) (fun h => absurd h (by decide))
    refine G_iconst (z := (-1)) dX12_care_25 rfl ?_
    exact G_iret dX12_care_26 rfl (Nat.zero_le _) (Nat.zero_le _) (Nat.le_refl _) ⟨rfl, k3 c2⟩
set_option maxRecDepth 20000 in
set_option maxHeartbeats 8000000 in
theorem sg_X12_care_35 {E : Nat × (Nat → Int32)} {P : Option Value → Mem → Prop} {mem : Mem} {a1 : Int} {a2 : Int} {a3 : Int} (w1 : -2147483648 ≤ a2 ∧ a2 < 2147483648) (w2 : -9223372036854775808 ≤ (100 * (mem 169 67)) ∧ (100 * (mem 169 67)) < 9223372036854775808) (w3 : -9223372036854775808 ≤ (a2 * (mem 169 68)) ∧ (a2 * (mem 169 68)) < 9223372036854775808)
    (k1 : (a2 * (mem 169 68)) ≤ (100 * (mem 169 67)) → P (some (vi a3)) mem)
    (k2 : ¬ (a2 * (mem 169 68)) ≤ (100 * (mem 169 67)) → GM E (m_X12_care 3) P 60 [.ref 169, vi a1, vi a2, vi (a3 + 1)] [vi (a3 + 1), vi a1, .ref 169] mem) :
    GM E (m_X12_care 3) P 35 [.ref 169, vi a1, vi a2, vi a3] [] mem := by
  refine G_ldc2 (z := 100) dX12_care_35 kc_12_494 ?_
  refine G_aload_n dX12_care_38 rfl ?_
  refine G_getL (z := (mem 169 67)) dX12_care_39 fl_12_482 (by decide) sh_169 rfl ?_
  refine G_lmul dX12_care_42 ?_
  refine G_iload_n dX12_care_43 rfl ?_
  refine G_i2l dX12_care_44 (w1) ?_
  refine G_aload_n dX12_care_45 rfl ?_
  refine G_getL (z := (mem 169 68)) dX12_care_46 fl_12_486 (by decide) sh_169 rfl ?_
  refine G_lmul dX12_care_49 ?_
  refine G_lcmp_ge (tgt := 66) dX12_care_50 dX12_care_51 (by decide) (w2) (w3) (fun c1 => ?_) (fun c1 => ?_)
  · -- (a2 * (mem 169 68)) ≤ (100 * (mem 169 67))
    refine G_iload_n dX12_care_66 rfl ?_
    exact G_iret dX12_care_67 rfl (Nat.zero_le _) (Nat.zero_le _) (Nat.le_refl _) ⟨rfl, k1 c1⟩
  · -- ¬ (a2 * (mem 169 68)) ≤ (100 * (mem 169 67))
    refine G_iinc (z := (a3 + 1)) dX12_care_54 rfl rfl (by decide : 3 < 4) rfl ?_
    refine G_aload_n dX12_care_57 rfl ?_
    refine G_iload_n dX12_care_58 rfl ?_
    refine G_iload_n dX12_care_59 rfl ?_
    exact k2 c1
set_option maxRecDepth 20000 in
set_option maxHeartbeats 8000000 in
theorem sg_X12_care_63 {E : Nat × (Nat → Int32)} {P : Option Value → Mem → Prop} {mem : Mem} {a1 : Int} {a2 : Int} {a3 : Int}
    (k1 : GM E (m_X12_care 3) P 35 [.ref 169, vi a1, vi a2, vi a3] [] mem) :
    GM E (m_X12_care 3) P 63 [.ref 169, vi a1, vi a2, vi a3] [] mem := by
  refine G_goto (tgt := 35) dX12_care_63 (by decide) ?_
  exact k1
set_option maxRecDepth 20000 in
set_option maxHeartbeats 8000000 in
theorem sg_X12_common_0 {E : Nat × (Nat → Int32)} {d : Nat} {P : Option Value → Mem → Prop} {mem : Mem} {a0 : Int} {a2 : Int} (w1 : -9223372036854775808 ≤ a2 ∧ a2 < 9223372036854775808) (z2 : a2 ≠ 0 → a2 ≠ 0)
    (k1 : a2 ≠ 0 → GM E (m_X12_common d) P 14 [vl a0, un, vl a2, un] [vl (remL a0 a2), vl a2] mem)
    (k2 : a2 = 0 → P (some (vl a0)) mem) :
    GM E (m_X12_common d) P 0 [vl a0, un, vl a2, un] [] mem := by
  refine G_lload_n dX12_common_0 rfl ?_
  refine G_lconst (z := 0) dX12_common_1 rfl ?_
  refine G_lcmp_ne (tgt := 10) dX12_common_2 dX12_common_3 (by decide) (w1) (by decide) (fun c1 => ?_) (fun c1 => ?_)
  · -- a2 ≠ 0
    refine G_lload_n dX12_common_10 rfl ?_
    refine G_lload_n dX12_common_11 rfl ?_
    refine G_lload_n dX12_common_12 rfl ?_
    refine G_lrem (z := (remL a0 a2)) dX12_common_13 (iL_ne0 (w1) (z2 c1)) (iL_inv _) ?_
    exact k1 c1
  · -- a2 = 0
    refine G_lload_n dX12_common_6 rfl ?_
    refine G_goto (tgt := 17) dX12_common_7 (by decide) ?_
    exact G_lret dX12_common_17 rfl (Nat.zero_le _) (Nat.zero_le _) (Nat.le_refl _) ⟨rfl, k2 c1⟩
set_option maxRecDepth 20000 in
set_option maxHeartbeats 8000000 in
theorem sg_X12_common_17 {E : Nat × (Nat → Int32)} {d : Nat} {P : Option Value → Mem → Prop} {mem : Mem} {a0 : Int} {a2 : Int} {s0 : Int}
    (k1 : P (some (vl s0)) mem) :
    GM E (m_X12_common d) P 17 [vl a0, un, vl a2, un] [vl s0] mem := by
  exact G_lret dX12_common_17 rfl (Nat.zero_le _) (Nat.zero_le _) (Nat.le_refl _) ⟨rfl, k1⟩
set_option maxRecDepth 20000 in
set_option maxHeartbeats 8000000 in
theorem sg_X12_count_0 {E : Nat × (Nat → Int32)} {P : Option Value → Mem → Prop} {mem : Mem} {a1 : Int} (w1 : -2147483648 ≤ a1 ∧ a1 < 2147483648)
    (k1 : a1 = 0 → P (some (vi (mem 169 3))) (up2 mem 169 0 0))
    (k2 : ¬ a1 = 0 → a1 = 1 → P (some (vi (mem 180 97))) (up2 mem 169 0 0))
    (k3 : ¬ a1 = 0 → ¬ a1 = 1 → a1 = 2 → P (some (vi (mem 180 96))) (up2 mem 169 0 0))
    (k4 : ¬ a1 = 0 → ¬ a1 = 1 → ¬ a1 = 2 → a1 = 3 → P (some (vi (mem 180 98))) (up2 mem 169 0 0))
    (k5 : ¬ a1 = 0 → ¬ a1 = 1 → ¬ a1 = 2 → ¬ a1 = 3 → a1 = 4 → GM E (m_X12_count 2) P 99 [.ref 169, vi a1] [vi 1, .ref 169] (up2 mem 169 0 0))
    (k6 : ¬ a1 = 0 → ¬ a1 = 1 → ¬ a1 = 2 → ¬ a1 = 3 → ¬ a1 = 4 → a1 = 5 → GM E (m_X12_count 2) P 105 [.ref 169, vi a1] [vi 2, .ref 169] (up2 mem 169 0 0))
    (k7 : ¬ a1 = 0 → ¬ a1 = 1 → ¬ a1 = 2 → ¬ a1 = 3 → ¬ a1 = 4 → ¬ a1 = 5 → a1 = 6 → GM E (m_X12_count 2) P 111 [.ref 169, vi a1] [vi 3, .ref 169] (up2 mem 169 0 0))
    (k8 : ¬ a1 = 0 → ¬ a1 = 1 → ¬ a1 = 2 → ¬ a1 = 3 → ¬ a1 = 4 → ¬ a1 = 5 → ¬ a1 = 6 → a1 = 7 → P (some (vi (mem 169 62))) (up2 mem 169 0 0))
    (k9 : ¬ a1 = 0 → ¬ a1 = 1 → ¬ a1 = 2 → ¬ a1 = 3 → ¬ a1 = 4 → ¬ a1 = 5 → ¬ a1 = 6 → ¬ a1 = 7 → a1 = 8 → P (some (vi (mem 169 40))) (up2 mem 169 0 0))
    (k10 : ¬ a1 = 0 → ¬ a1 = 1 → ¬ a1 = 2 → ¬ a1 = 3 → ¬ a1 = 4 → ¬ a1 = 5 → ¬ a1 = 6 → ¬ a1 = 7 → ¬ a1 = 8 → a1 = 9 → P (some (vi (mem 169 1))) (up2 mem 169 0 0))
    (k11 : ¬ a1 = 0 → ¬ a1 = 1 → ¬ a1 = 2 → ¬ a1 = 3 → ¬ a1 = 4 → ¬ a1 = 5 → ¬ a1 = 6 → ¬ a1 = 7 → ¬ a1 = 8 → ¬ a1 = 9 → a1 = 10 → P (some (vi (mem 169 17))) (up2 mem 169 0 0))
    (k12 : ¬ a1 = 0 → ¬ a1 = 1 → ¬ a1 = 2 → ¬ a1 = 3 → ¬ a1 = 4 → ¬ a1 = 5 → ¬ a1 = 6 → ¬ a1 = 7 → ¬ a1 = 8 → ¬ a1 = 9 → ¬ a1 = 10 → a1 = 11 → P (some (vi (mem 179 0))) (up2 mem 169 0 0))
    (k13 : ¬ a1 = 0 → ¬ a1 = 1 → ¬ a1 = 2 → ¬ a1 = 3 → ¬ a1 = 4 → ¬ a1 = 5 → ¬ a1 = 6 → ¬ a1 = 7 → ¬ a1 = 8 → ¬ a1 = 9 → ¬ a1 = 10 → ¬ a1 = 11 → P (some (vi (-100))) (up2 mem 169 0 0)) :
    GM E (m_X12_count 2) P 0 [.ref 169, vi a1] [] mem := by
  refine G_aload_n dX12_count_0 rfl ?_
  refine G_iconst (z := 0) dX12_count_1 rfl ?_
  refine G_putI (mem2 := (up2 mem 169 0 0)) dX12_count_2 fp_12_126 (by decide) sh_169 rfl ?_
  refine G_iload_n dX12_count_5 rfl ?_
  by_cases c1 : a1 = 0
  · refine G_tableIn (off := 62) (tgt := 68) dX12_count_6 (w1) (by omega) (by omega) (by rw [c1]; rfl) (by decide) ?_
    refine G_aload_n dX12_count_68 rfl ?_
    refine G_getI (z := (mem 169 3)) dX12_count_69 fl_12_137 (by decide) sh_169 (by simp [up2, upr]) ?_
    exact G_iret dX12_count_72 rfl (Nat.zero_le _) (Nat.zero_le _) (Nat.le_refl _) ⟨rfl, k1 c1⟩
  by_cases c2 : a1 = 1
  · refine G_tableIn (off := 67) (tgt := 73) dX12_count_6 (w1) (by omega) (by omega) (by rw [c2]; rfl) (by decide) ?_
    refine G_aload_n dX12_count_73 rfl ?_
    refine G_getR (t := 180) dX12_count_74 fl_12_42 (by decide) sh_169 rr_169_14 ?_
    refine G_bipush (z := 97) dX12_count_77 rfl ?_
    refine G_iald (z := (mem 180 97)) dX12_count_79 (by decide) sh_180 (by decide) (by decide) (by decide) (by simp [up2, upr]) ?_
    exact G_iret dX12_count_80 rfl (Nat.zero_le _) (Nat.zero_le _) (Nat.le_refl _) ⟨rfl, k2 c1 c2⟩
  by_cases c3 : a1 = 2
  · refine G_tableIn (off := 75) (tgt := 81) dX12_count_6 (w1) (by omega) (by omega) (by rw [c3]; rfl) (by decide) ?_
    refine G_aload_n dX12_count_81 rfl ?_
    refine G_getR (t := 180) dX12_count_82 fl_12_42 (by decide) sh_169 rr_169_14 ?_
    refine G_bipush (z := 96) dX12_count_85 rfl ?_
    refine G_iald (z := (mem 180 96)) dX12_count_87 (by decide) sh_180 (by decide) (by decide) (by decide) (by simp [up2, upr]) ?_
    exact G_iret dX12_count_88 rfl (Nat.zero_le _) (Nat.zero_le _) (Nat.le_refl _) ⟨rfl, k3 c1 c2 c3⟩
  by_cases c4 : a1 = 3
  · refine G_tableIn (off := 83) (tgt := 89) dX12_count_6 (w1) (by omega) (by omega) (by rw [c4]; rfl) (by decide) ?_
    refine G_aload_n dX12_count_89 rfl ?_
    refine G_getR (t := 180) dX12_count_90 fl_12_42 (by decide) sh_169 rr_169_14 ?_
    refine G_bipush (z := 98) dX12_count_93 rfl ?_
    refine G_iald (z := (mem 180 98)) dX12_count_95 (by decide) sh_180 (by decide) (by decide) (by decide) (by simp [up2, upr]) ?_
    exact G_iret dX12_count_96 rfl (Nat.zero_le _) (Nat.zero_le _) (Nat.le_refl _) ⟨rfl, k4 c1 c2 c3 c4⟩
  by_cases c5 : a1 = 4
  · refine G_tableIn (off := 91) (tgt := 97) dX12_count_6 (w1) (by omega) (by omega) (by rw [c5]; rfl) (by decide) ?_
    refine G_aload_n dX12_count_97 rfl ?_
    refine G_iconst (z := 1) dX12_count_98 rfl ?_
    exact k5 c1 c2 c3 c4 c5
  by_cases c6 : a1 = 5
  · refine G_tableIn (off := 97) (tgt := 103) dX12_count_6 (w1) (by omega) (by omega) (by rw [c6]; rfl) (by decide) ?_
    refine G_aload_n dX12_count_103 rfl ?_
    refine G_iconst (z := 2) dX12_count_104 rfl ?_
    exact k6 c1 c2 c3 c4 c5 c6
  by_cases c7 : a1 = 6
  · refine G_tableIn (off := 103) (tgt := 109) dX12_count_6 (w1) (by omega) (by omega) (by rw [c7]; rfl) (by decide) ?_
    refine G_aload_n dX12_count_109 rfl ?_
    refine G_iconst (z := 3) dX12_count_110 rfl ?_
    exact k7 c1 c2 c3 c4 c5 c6 c7
  by_cases c8 : a1 = 7
  · refine G_tableIn (off := 109) (tgt := 115) dX12_count_6 (w1) (by omega) (by omega) (by rw [c8]; rfl) (by decide) ?_
    refine G_aload_n dX12_count_115 rfl ?_
    refine G_getI (z := (mem 169 62)) dX12_count_116 fl_12_470 (by decide) sh_169 (by simp [up2, upr]) ?_
    exact G_iret dX12_count_119 rfl (Nat.zero_le _) (Nat.zero_le _) (Nat.le_refl _) ⟨rfl, k8 c1 c2 c3 c4 c5 c6 c7 c8⟩
  by_cases c9 : a1 = 8
  · refine G_tableIn (off := 114) (tgt := 120) dX12_count_6 (w1) (by omega) (by omega) (by rw [c9]; rfl) (by decide) ?_
    refine G_aload_n dX12_count_120 rfl ?_
    refine G_getI (z := (mem 169 40)) dX12_count_121 fl_12_224 (by decide) sh_169 (by simp [up2, upr]) ?_
    exact G_iret dX12_count_124 rfl (Nat.zero_le _) (Nat.zero_le _) (Nat.le_refl _) ⟨rfl, k9 c1 c2 c3 c4 c5 c6 c7 c8 c9⟩
  by_cases c10 : a1 = 9
  · refine G_tableIn (off := 119) (tgt := 125) dX12_count_6 (w1) (by omega) (by omega) (by rw [c10]; rfl) (by decide) ?_
    refine G_aload_n dX12_count_125 rfl ?_
    refine G_getI (z := (mem 169 1)) dX12_count_126 fl_12_134 (by decide) sh_169 (by simp [up2, upr]) ?_
    exact G_iret dX12_count_129 rfl (Nat.zero_le _) (Nat.zero_le _) (Nat.le_refl _) ⟨rfl, k10 c1 c2 c3 c4 c5 c6 c7 c8 c9 c10⟩
  by_cases c11 : a1 = 10
  · refine G_tableIn (off := 124) (tgt := 130) dX12_count_6 (w1) (by omega) (by omega) (by rw [c11]; rfl) (by decide) ?_
    refine G_aload_n dX12_count_130 rfl ?_
    refine G_getI (z := (mem 169 17)) dX12_count_131 fl_12_148 (by decide) sh_169 (by simp [up2, upr]) ?_
    exact G_iret dX12_count_134 rfl (Nat.zero_le _) (Nat.zero_le _) (Nat.le_refl _) ⟨rfl, k11 c1 c2 c3 c4 c5 c6 c7 c8 c9 c10 c11⟩
  by_cases c12 : a1 = 11
  · refine G_tableIn (off := 129) (tgt := 135) dX12_count_6 (w1) (by omega) (by omega) (by rw [c12]; rfl) (by decide) ?_
    refine G_aload_n dX12_count_135 rfl ?_
    refine G_getR (t := 179) dX12_count_136 fl_12_39 (by decide) sh_169 rr_169_13 ?_
    refine G_iconst (z := 0) dX12_count_139 rfl ?_
    refine G_iald (z := (mem 179 0)) dX12_count_140 (by decide) sh_179 (by decide) (by decide) (by decide) (by simp [up2, upr]) ?_
    exact G_iret dX12_count_141 rfl (Nat.zero_le _) (Nat.zero_le _) (Nat.le_refl _) ⟨rfl, k12 c1 c2 c3 c4 c5 c6 c7 c8 c9 c10 c11 c12⟩
  refine G_tableOut (tgt := 142) dX12_count_6 (w1) (by omega) (by decide) ?_
  refine G_bipush (z := (-100)) dX12_count_142 rfl ?_
  exact G_iret dX12_count_144 rfl (Nat.zero_le _) (Nat.zero_le _) (Nat.le_refl _) ⟨rfl, k13 c1 c2 c3 c4 c5 c6 c7 c8 c9 c10 c11 c12⟩
set_option maxRecDepth 20000 in
set_option maxHeartbeats 8000000 in
theorem sg_X12_count_102 {E : Nat × (Nat → Int32)} {P : Option Value → Mem → Prop} {mem : Mem} {a1 : Int} {s0 : Int}
    (k1 : P (some (vi s0)) mem) :
    GM E (m_X12_count 2) P 102 [.ref 169, vi a1] [vi s0] mem := by
  exact G_iret dX12_count_102 rfl (Nat.zero_le _) (Nat.zero_le _) (Nat.le_refl _) ⟨rfl, k1⟩
set_option maxRecDepth 20000 in
set_option maxHeartbeats 8000000 in
theorem sg_X12_count_108 {E : Nat × (Nat → Int32)} {P : Option Value → Mem → Prop} {mem : Mem} {a1 : Int} {s0 : Int}
    (k1 : P (some (vi s0)) mem) :
    GM E (m_X12_count 2) P 108 [.ref 169, vi a1] [vi s0] mem := by
  exact G_iret dX12_count_108 rfl (Nat.zero_le _) (Nat.zero_le _) (Nat.le_refl _) ⟨rfl, k1⟩
set_option maxRecDepth 20000 in
set_option maxHeartbeats 8000000 in
theorem sg_X12_count_114 {E : Nat × (Nat → Int32)} {P : Option Value → Mem → Prop} {mem : Mem} {a1 : Int} {s0 : Int}
    (k1 : P (some (vi s0)) mem) :
    GM E (m_X12_count 2) P 114 [.ref 169, vi a1] [vi s0] mem := by
  exact G_iret dX12_count_114 rfl (Nat.zero_le _) (Nat.zero_le _) (Nat.le_refl _) ⟨rfl, k1⟩
set_option maxRecDepth 20000 in
set_option maxHeartbeats 8000000 in
theorem sg_X12_counts_0 {E : Nat × (Nat → Int32)} {P : Option Value → Mem → Prop} {mem : Mem} {a1 : Int} (w1 : -2147483648 ≤ a1 ∧ a1 < 2147483648)
    (k1 : 0 ≤ a1 → GM E (m_X12_counts 1) P 10 [.ref 169, vi a1] [vi a1, .ref 169] mem)
    (k2 : ¬ 0 ≤ a1 → P (some (vi a1)) mem) :
    GM E (m_X12_counts 1) P 0 [.ref 169, vi a1] [] mem := by
  refine G_iload_n dX12_counts_0 rfl ?_
  refine G_if_ge (tgt := 8) dX12_counts_1 (by decide) (w1) (fun c1 => ?_) (fun c1 => ?_)
  · -- 0 ≤ a1
    refine G_aload_n dX12_counts_8 rfl ?_
    refine G_iload_n dX12_counts_9 rfl ?_
    exact k1 c1
  · -- ¬ 0 ≤ a1
    refine G_iload_n dX12_counts_4 rfl ?_
    refine G_goto (tgt := 13) dX12_counts_5 (by decide) ?_
    exact G_iret dX12_counts_13 rfl (Nat.zero_le _) (Nat.zero_le _) (Nat.le_refl _) ⟨rfl, k2 c1⟩
set_option maxRecDepth 20000 in
set_option maxHeartbeats 8000000 in
theorem sg_X12_counts_13 {E : Nat × (Nat → Int32)} {P : Option Value → Mem → Prop} {mem : Mem} {a1 : Int} {s0 : Int}
    (k1 : P (some (vi s0)) mem) :
    GM E (m_X12_counts 1) P 13 [.ref 169, vi a1] [vi s0] mem := by
  exact G_iret dX12_counts_13 rfl (Nat.zero_le _) (Nat.zero_le _) (Nat.le_refl _) ⟨rfl, k1⟩
set_option maxRecDepth 20000 in
set_option maxHeartbeats 8000000 in
theorem sg_X12_dayOf_0 {E : Nat × (Nat → Int32)} {P : Option Value → Mem → Prop} {mem : Mem} {a1 : Int} {a2 : Int} (w1 : 0 ≤ (mem 169 3) ∧ (mem 169 3) < 2147483648) (w2 : -2147483648 ≤ a1 ∧ a1 < 2147483648) (w3 : -2147483648 ≤ a2 ∧ a2 < 2147483648) (w4 : -9223372036854775808 ≤ a2 ∧ a2 < 9223372036854775808) (q5 : 0 ≤ a1 ∧ a1 < (mem 169 3) → 0 ≤ a2 ∧ a2 ≤ 6 → 0 ≤ a1 ∧ a1 < 6)
    (k1 : 0 ≤ a1 ∧ a1 < (mem 169 3) → 0 ≤ a2 ∧ a2 ≤ 6 → P (some (vi (mem 175 a1))) (up2 (up2 mem 169 0 0) 175 a1 a2))
    (k2 : 0 ≤ a1 ∧ a1 < (mem 169 3) → ¬ (0 ≤ a2 ∧ a2 ≤ 6) → P (some (vi (-1))) (up2 mem 169 0 0))
    (k3 : ¬ (0 ≤ a1 ∧ a1 < (mem 169 3)) → P (some (vi (-1))) (up2 mem 169 0 0)) :
    GM E (m_X12_dayOf 2) P 0 [.ref 169, vi a1, vi a2, un] [] mem := by
  refine G_aload_n dX12_dayOf_0 rfl ?_
  refine G_iconst (z := 0) dX12_dayOf_1 rfl ?_
  refine G_putI (mem2 := (up2 mem 169 0 0)) dX12_dayOf_2 fp_12_126 (by decide) sh_169 rfl ?_
  refine G_aload_n dX12_dayOf_5 rfl ?_
  refine G_iload_n dX12_dayOf_6 rfl ?_
  refine cb_X12_dayOf_7 (ic_X12_isStreet (z := (mem 169 3)) (by simp [up2, upr]) (w2) (w1) (fun c1 => ?_) (fun c2 => ?_))
  · -- 0 ≤ a1 ∧ a1 < (mem 169 3)
    refine G_if_eq (tgt := 25) dX12_dayOf_10 (by decide) (by decide) (fun h => absurd h (by decide)) (fun _ => ?_)
    refine G_iload_n dX12_dayOf_13 rfl ?_
    refine G_i2l dX12_dayOf_14 (w3) ?_
    refine G_lconst (z := 0) dX12_dayOf_15 rfl ?_
    refine G_ldc2 (z := 6) dX12_dayOf_16 kc_12_338 ?_
    refine cb_X12_dayOf_19 (ic_X12_in (w4) (by decide) (by decide) (fun c3 => ?_) (fun c4 => ?_))
    · -- 0 ≤ a2 ∧ a2 ≤ 6
      refine G_if_ne (tgt := 27) dX12_dayOf_22 (by decide) (by decide) (fun _ => ?_) (fun h => absurd h (by decide))
      refine G_aload_n dX12_dayOf_27 rfl ?_
      refine G_getR (t := 175) dX12_dayOf_28 fl_12_27 (by decide) sh_169 rr_169_9 ?_
      refine G_iload_n dX12_dayOf_31 rfl ?_
      refine G_iald (z := (mem 175 a1)) dX12_dayOf_32 (by decide) sh_175 (by decide) (q5 c1 c3).1 (q5 c1 c3).2 (by simp [up2, upr]) ?_
      refine G_istore_n dX12_dayOf_33 rfl (by decide : 3 < 4) rfl ?_
      refine G_aload_n dX12_dayOf_34 rfl ?_
      refine G_getR (t := 175) dX12_dayOf_35 fl_12_27 (by decide) sh_169 rr_169_9 ?_
      refine G_iload_n dX12_dayOf_38 rfl ?_
      refine G_iload_n dX12_dayOf_39 rfl ?_
      refine G_iast (mem2 := (up2 (up2 mem 169 0 0) 175 a1 a2)) dX12_dayOf_40 (by decide) sh_175 (by decide) (q5 c1 c3).1 (q5 c1 c3).2 rfl ?_
      refine G_iload_n dX12_dayOf_41 rfl ?_
      exact G_iret dX12_dayOf_42 rfl (Nat.zero_le _) (Nat.zero_le _) (Nat.le_refl _) ⟨rfl, k1 c1 c3⟩
    · -- ¬ (0 ≤ a2 ∧ a2 ≤ 6)
      refine G_if_ne (tgt := 27) dX12_dayOf_22 (by decide) (by decide) (fun h => absurd h (by decide)) (fun _ => ?_)
      refine G_iconst (z := (-1)) dX12_dayOf_25 rfl ?_
      exact G_iret dX12_dayOf_26 rfl (Nat.zero_le _) (Nat.zero_le _) (Nat.le_refl _) ⟨rfl, k2 c1 c4⟩
  · -- ¬ (0 ≤ a1 ∧ a1 < (mem 169 3))
    refine G_if_eq (tgt := 25) dX12_dayOf_10 (by decide) (by decide) (fun _ => ?_) (fun h => absurd h (by decide))
    refine G_iconst (z := (-1)) dX12_dayOf_25 rfl ?_
    exact G_iret dX12_dayOf_26 rfl (Nat.zero_le _) (Nat.zero_le _) (Nat.le_refl _) ⟨rfl, k3 c2⟩
set_option maxRecDepth 20000 in
set_option maxHeartbeats 8000000 in
theorem sg_X12_does_0 {E : Nat × (Nat → Int32)} {P : Option Value → Mem → Prop} {mem : Mem} {a1 : Int} (q1 : 0 ≤ a1 ∧ a1 < 60) (w2 : -2147483648 ≤ (mem 191 a1) ∧ (mem 191 a1) < 2147483648) (w3 : (mem 191 a1) = 0 → 0 ≤ (mem 169 3) ∧ (mem 169 3) < 2147483648) (w4 : (mem 191 a1) = 0 → -2147483648 ≤ (mem 192 a1) ∧ (mem 192 a1) < 2147483648) (q5 : (mem 191 a1) = 0 → 0 ≤ (mem 192 a1) ∧ (mem 192 a1) < (mem 169 3) → 0 ≤ (mem 192 a1) ∧ (mem 192 a1) < 6) (w6 : (mem 191 a1) = 0 → 0 ≤ (mem 192 a1) ∧ (mem 192 a1) < (mem 169 3) → -2147483648 ≤ ((mem 180 97) - (mem 171 (mem 192 a1))) ∧ ((mem 180 97) - (mem 171 (mem 192 a1))) < 2147483648)
    (k1 : (mem 191 a1) = 0 → 0 ≤ (mem 192 a1) ∧ (mem 192 a1) < (mem 169 3) → 0 ≤ (mem 192 a1) ∧ (mem 192 a1) < (mem 169 3) → P (some (vi 1)) (up2 (up2 mem 180 97 (mem 171 (mem 192 a1))) 180 98 ((mem 180 98) + (10 * (if 0 ≤ ((mem 180 97) - (mem 171 (mem 192 a1))) then ((mem 180 97) - (mem 171 (mem 192 a1))) else -((mem 180 97) - (mem 171 (mem 192 a1))))))))
    (k2 : (mem 191 a1) = 0 → 0 ≤ (mem 192 a1) ∧ (mem 192 a1) < (mem 169 3) → ¬ (0 ≤ (mem 192 a1) ∧ (mem 192 a1) < (mem 169 3)) → P (some (vi 0)) (up2 (up2 mem 180 97 (mem 171 (mem 192 a1))) 180 98 ((mem 180 98) + (10 * (if 0 ≤ ((mem 180 97) - (mem 171 (mem 192 a1))) then ((mem 180 97) - (mem 171 (mem 192 a1))) else -((mem 180 97) - (mem 171 (mem 192 a1))))))))
    (k3 : (mem 191 a1) = 0 → ¬ (0 ≤ (mem 192 a1) ∧ (mem 192 a1) < (mem 169 3)) → 0 ≤ (mem 192 a1) ∧ (mem 192 a1) < (mem 169 3) → P (some (vi 1)) mem)
    (k4 : (mem 191 a1) = 0 → ¬ (0 ≤ (mem 192 a1) ∧ (mem 192 a1) < (mem 169 3)) → ¬ (0 ≤ (mem 192 a1) ∧ (mem 192 a1) < (mem 169 3)) → P (some (vi 0)) mem)
    (k5 : ¬ (mem 191 a1) = 0 → (mem 191 a1) = 1 → GM E (m_X12_does 7) P 77 [.ref 169, vi a1, vi (mem 192 a1), un] [vi (mem 193 a1), vi (mem 192 a1), .ref 169] mem)
    (k6 : ¬ (mem 191 a1) = 0 → ¬ (mem 191 a1) = 1 → (mem 191 a1) = 2 → GM E (m_X12_does 7) P 117 [.ref 169, vi a1, vi (mem 192 a1), un] [.ref 180, .ref 169] mem)
    (k7 : ¬ (mem 191 a1) = 0 → ¬ (mem 191 a1) = 1 → ¬ (mem 191 a1) = 2 → P (some (vi 1)) (up2 mem 180 98 ((mem 180 98) + (mem 192 a1)))) :
    GM E (m_X12_does 7) P 0 [.ref 169, vi a1, un, un] [] mem := by
  refine G_aload_n dX12_does_0 rfl ?_
  refine G_getR (t := 192) dX12_does_1 fl_12_78 (by decide) sh_169 rr_169_44 ?_
  refine G_iload_n dX12_does_4 rfl ?_
  refine G_iald (z := (mem 192 a1)) dX12_does_5 (by decide) sh_192 (by decide) (q1).1 (q1).2 rfl ?_
  refine G_istore_n dX12_does_6 rfl (by decide : 2 < 4) rfl ?_
  refine G_aload_n dX12_does_7 rfl ?_
  refine G_getR (t := 191) dX12_does_8 fl_12_75 (by decide) sh_169 rr_169_43 ?_
  refine G_iload_n dX12_does_11 rfl ?_
  refine G_iald (z := (mem 191 a1)) dX12_does_12 (by decide) sh_191 (by decide) (q1).1 (q1).2 rfl ?_
  by_cases c1 : (mem 191 a1) = 0
  · refine G_tableIn (off := 27) (tgt := 40) dX12_does_13 (w2) (by omega) (by omega) (by rw [c1]; rfl) (by decide) ?_
    refine G_aload_n dX12_does_40 rfl ?_
    refine G_iload_n dX12_does_41 rfl ?_
    refine cb_X12_does_42 (ic_X12_isStreet (z := (mem 169 3)) rfl (w4 c1) (w3 c1) (fun c2 => ?_) (fun c3 => ?_))
    · -- 0 ≤ (mem 192 a1) ∧ (mem 192 a1) < (mem 169 3)
      refine G_if_eq (tgt := 63) dX12_does_45 (by decide) (by decide) (fun h => absurd h (by decide)) (fun _ => ?_)
      refine G_aload_n dX12_does_48 rfl ?_
      refine G_aload_n dX12_does_49 rfl ?_
      refine G_getR (t := 180) dX12_does_50 fl_12_42 (by decide) sh_169 rr_169_14 ?_
      refine G_aload_n dX12_does_53 rfl ?_
      refine G_getR (t := 171) dX12_does_54 fl_12_13 (by decide) sh_169 rr_169_5 ?_
      refine G_iload_n dX12_does_57 rfl ?_
      refine G_iald (z := (mem 171 (mem 192 a1))) dX12_does_58 (by decide) sh_171 (by decide) (q5 c1 c2).1 (q5 c1 c2).2 rfl ?_
      refine cb_X12_does_59 (ic_X12_drives (a := (mem 180 97)) (b := (mem 180 98)) (by decide) sh_180 rfl rfl (w6 c1 c2) ?_)
      refine G_pop dX12_does_62 rfl ?_
      refine G_aload_n dX12_does_63 rfl ?_
      refine G_iload_n dX12_does_64 rfl ?_
      refine cb_X12_does_65 (ic_X12_isStreet (z := (mem 169 3)) (by simp [up2, upr]) (w4 c1) (w3 c1) (fun c4 => ?_) (fun c5 => ?_))
      · -- 0 ≤ (mem 192 a1) ∧ (mem 192 a1) < (mem 169 3)
        exact G_zret dX12_does_68 rfl (nar_zb (by decide)) (Nat.zero_le _) (Nat.zero_le _) (Nat.le_refl _) ⟨rfl, k1 c1 c2 c4⟩
      · -- ¬ (0 ≤ (mem 192 a1) ∧ (mem 192 a1) < (mem 169 3))
        exact G_zret dX12_does_68 rfl (nar_zb (by decide)) (Nat.zero_le _) (Nat.zero_le _) (Nat.le_refl _) ⟨rfl, k2 c1 c2 c5⟩
    · -- ¬ (0 ≤ (mem 192 a1) ∧ (mem 192 a1) < (mem 169 3))
      refine G_if_eq (tgt := 63) dX12_does_45 (by decide) (by decide) (fun _ => ?_) (fun h => absurd h (by decide))
      refine G_aload_n dX12_does_63 rfl ?_
      refine G_iload_n dX12_does_64 rfl ?_
      refine cb_X12_does_65 (ic_X12_isStreet (z := (mem 169 3)) rfl (w4 c1) (w3 c1) (fun c6 => ?_) (fun c7 => ?_))
      · -- 0 ≤ (mem 192 a1) ∧ (mem 192 a1) < (mem 169 3)
        exact G_zret dX12_does_68 rfl (nar_zb (by decide)) (Nat.zero_le _) (Nat.zero_le _) (Nat.le_refl _) ⟨rfl, k3 c1 c3 c6⟩
      · -- ¬ (0 ≤ (mem 192 a1) ∧ (mem 192 a1) < (mem 169 3))
        exact G_zret dX12_does_68 rfl (nar_zb (by decide)) (Nat.zero_le _) (Nat.zero_le _) (Nat.le_refl _) ⟨rfl, k4 c1 c3 c7⟩
  by_cases c8 : (mem 191 a1) = 1
  · refine G_tableIn (off := 56) (tgt := 69) dX12_does_13 (w2) (by omega) (by omega) (by rw [c8]; rfl) (by decide) ?_
    refine G_aload_n dX12_does_69 rfl ?_
    refine G_iload_n dX12_does_70 rfl ?_
    refine G_aload_n dX12_does_71 rfl ?_
    refine G_getR (t := 193) dX12_does_72 fl_12_81 (by decide) sh_169 rr_169_45 ?_
    refine G_iload_n dX12_does_75 rfl ?_
    refine G_iald (z := (mem 193 a1)) dX12_does_76 (by decide) sh_193 (by decide) (q1).1 (q1).2 rfl ?_
    exact k5 c1 c8
  by_cases c9 : (mem 191 a1) = 2
  · refine G_tableIn (off := 99) (tgt := 112) dX12_does_13 (w2) (by omega) (by omega) (by rw [c9]; rfl) (by decide) ?_
    refine G_aload_n dX12_does_112 rfl ?_
    refine G_aload_n dX12_does_113 rfl ?_
    refine G_getR (t := 180) dX12_does_114 fl_12_42 (by decide) sh_169 rr_169_14 ?_
    exact k6 c1 c8 c9
  refine G_tableOut (tgt := 129) dX12_does_13 (w2) (by omega) (by decide) ?_
  refine G_aload_n dX12_does_129 rfl ?_
  refine G_getR (t := 180) dX12_does_130 fl_12_42 (by decide) sh_169 rr_169_14 ?_
  refine G_bipush (z := 98) dX12_does_133 rfl ?_
  refine G_dup2 dX12_does_135 rfl rfl ?_
  refine G_iald (z := (mem 180 98)) dX12_does_136 (by decide) sh_180 (by decide) (by decide) (by decide) rfl ?_
  refine G_iload_n dX12_does_137 rfl ?_
  refine G_iadd dX12_does_138 ?_
  refine G_iast (mem2 := (up2 mem 180 98 ((mem 180 98) + (mem 192 a1)))) dX12_does_139 (by decide) sh_180 (by decide) (by decide) (by decide) rfl ?_
  refine G_iconst (z := 1) dX12_does_140 rfl ?_
  exact G_zret dX12_does_141 rfl (nar_zb (by decide)) (Nat.zero_le _) (Nat.zero_le _) (Nat.le_refl _) ⟨rfl, k7 c1 c8 c9⟩
set_option maxRecDepth 20000 in
set_option maxHeartbeats 8000000 in
theorem sg_X12_does_80 {E : Nat × (Nat → Int32)} {P : Option Value → Mem → Prop} {mem : Mem} {a1 : Int} {a2 : Int} {s0 : Int} (w1 : -2147483648 ≤ s0 ∧ s0 < 2147483648)
    (k1 : s0 < 0 → P (some (vi 0)) (up2 mem 169 47 ((mem 169 47) + 0)))
    (k2 : ¬ s0 < 0 → P (some (vi 1)) (up2 mem 169 47 ((mem 169 47) + (mem 169 34)))) :
    GM E (m_X12_does 7) P 80 [.ref 169, vi a1, vi a2, un] [vi s0] mem := by
  refine G_if_lt (tgt := 87) dX12_does_80 (by decide) (w1) (fun c1 => ?_) (fun c1 => ?_)
  · -- s0 < 0
    refine G_iconst (z := 0) dX12_does_87 rfl ?_
    refine G_istore_n dX12_does_88 rfl (by decide : 3 < 4) rfl ?_
    refine G_aload_n dX12_does_89 rfl ?_
    refine G_dup dX12_does_90 rfl ?_
    refine G_getI (z := (mem 169 47)) dX12_does_91 fl_12_394 (by decide) sh_169 rfl ?_
    refine G_iload_n dX12_does_94 rfl ?_
    refine G_if_eq (tgt := 105) dX12_does_95 (by decide) (by decide) (fun _ => ?_) (fun h => absurd h (by decide))
    refine G_iconst (z := 0) dX12_does_105 rfl ?_
    refine G_iadd dX12_does_106 ?_
    refine G_putI (mem2 := (up2 mem 169 47 ((mem 169 47) + 0))) dX12_does_107 fp_12_394 (by decide) sh_169 rfl ?_
    refine G_iload_n dX12_does_110 rfl ?_
    exact G_zret dX12_does_111 rfl (nar_zb (by decide)) (Nat.zero_le _) (Nat.zero_le _) (Nat.le_refl _) ⟨rfl, k1 c1⟩
  · -- ¬ s0 < 0
    refine G_iconst (z := 1) dX12_does_83 rfl ?_
    refine G_goto (tgt := 88) dX12_does_84 (by decide) ?_
    refine G_istore_n dX12_does_88 rfl (by decide : 3 < 4) rfl ?_
    refine G_aload_n dX12_does_89 rfl ?_
    refine G_dup dX12_does_90 rfl ?_
    refine G_getI (z := (mem 169 47)) dX12_does_91 fl_12_394 (by decide) sh_169 rfl ?_
    refine G_iload_n dX12_does_94 rfl ?_
    refine G_if_eq (tgt := 105) dX12_does_95 (by decide) (by decide) (fun h => absurd h (by decide)) (fun _ => ?_)
    refine G_aload_n dX12_does_98 rfl ?_
    refine G_getI (z := (mem 169 34)) dX12_does_99 fl_12_288 (by decide) sh_169 rfl ?_
    refine G_goto (tgt := 106) dX12_does_102 (by decide) ?_
    refine G_iadd dX12_does_106 ?_
    refine G_putI (mem2 := (up2 mem 169 47 ((mem 169 47) + (mem 169 34)))) dX12_does_107 fp_12_394 (by decide) sh_169 rfl ?_
    refine G_iload_n dX12_does_110 rfl ?_
    exact G_zret dX12_does_111 rfl (nar_zb (by decide)) (Nat.zero_le _) (Nat.zero_le _) (Nat.le_refl _) ⟨rfl, k2 c1⟩
set_option maxRecDepth 20000 in
set_option maxHeartbeats 8000000 in
theorem sg_X12_does_120 {E : Nat × (Nat → Int32)} {P : Option Value → Mem → Prop} {mem : Mem} {a1 : Int} {a2 : Int} {s0 : Int} (w1 : -2147483648 ≤ s0 ∧ s0 < 2147483648)
    (k1 : s0 < 0 → P (some (vi 0)) mem)
    (k2 : ¬ s0 < 0 → P (some (vi 1)) mem) :
    GM E (m_X12_does 7) P 120 [.ref 169, vi a1, vi a2, un] [vi s0] mem := by
  refine G_if_lt (tgt := 127) dX12_does_120 (by decide) (w1) (fun c1 => ?_) (fun c1 => ?_)
  · -- s0 < 0
    refine G_iconst (z := 0) dX12_does_127 rfl ?_
    exact G_zret dX12_does_128 rfl (nar_zb (by decide)) (Nat.zero_le _) (Nat.zero_le _) (Nat.le_refl _) ⟨rfl, k1 c1⟩
  · -- ¬ s0 < 0
    refine G_iconst (z := 1) dX12_does_123 rfl ?_
    refine G_goto (tgt := 128) dX12_does_124 (by decide) ?_
    exact G_zret dX12_does_128 rfl (nar_zb (by decide)) (Nat.zero_le _) (Nat.zero_le _) (Nat.le_refl _) ⟨rfl, k2 c1⟩
set_option maxRecDepth 20000 in
set_option maxHeartbeats 8000000 in
theorem sg_X12_drive_0 {E : Nat × (Nat → Int32)} {P : Option Value → Mem → Prop} {mem : Mem} {a1 : Int} (w1 : 0 ≤ (mem 169 3) ∧ (mem 169 3) < 2147483648) (w2 : -2147483648 ≤ a1 ∧ a1 < 2147483648)
    (k1 : 0 ≤ a1 ∧ a1 < (mem 169 3) → GM E (m_X12_drive 2) P 16 [.ref 169, vi a1] [.ref 169] (up2 mem 169 0 0))
    (k2 : ¬ (0 ≤ a1 ∧ a1 < (mem 169 3)) → P (some (vi (-1))) (up2 mem 169 0 0)) :
    GM E (m_X12_drive 2) P 0 [.ref 169, vi a1] [] mem := by
  refine G_aload_n dX12_drive_0 rfl ?_
  refine G_iconst (z := 0) dX12_drive_1 rfl ?_
  refine G_putI (mem2 := (up2 mem 169 0 0)) dX12_drive_2 fp_12_126 (by decide) sh_169 rfl ?_
  refine G_aload_n dX12_drive_5 rfl ?_
  refine G_iload_n dX12_drive_6 rfl ?_
  refine cb_X12_drive_7 (ic_X12_isStreet (z := (mem 169 3)) (by simp [up2, upr]) (w2) (w1) (fun c1 => ?_) (fun c2 => ?_))
  · -- 0 ≤ a1 ∧ a1 < (mem 169 3)
    refine G_if_ne (tgt := 15) dX12_drive_10 (by decide) (by decide) (fun _ => ?_) (fun h => absurd h (by decide))
    refine G_aload_n dX12_drive_15 rfl ?_
    exact k1 c1
  · -- ¬ (0 ≤ a1 ∧ a1 < (mem 169 3))
    refine G_if_ne (tgt := 15) dX12_drive_10 (by decide) (by decide) (fun h => absurd h (by decide)) (fun _ => ?_)
    refine G_iconst (z := (-1)) dX12_drive_13 rfl ?_
    exact G_iret dX12_drive_14 rfl (Nat.zero_le _) (Nat.zero_le _) (Nat.le_refl _) ⟨rfl, k2 c2⟩
set_option maxRecDepth 20000 in
set_option maxHeartbeats 8000000 in
theorem sg_X12_drive_19 {E : Nat × (Nat → Int32)} {P : Option Value → Mem → Prop} {mem : Mem} {a1 : Int} (q1 : 0 ≤ a1 ∧ a1 < 6) (w2 : -2147483648 ≤ ((mem 180 97) - (mem 171 a1)) ∧ ((mem 180 97) - (mem 171 a1)) < 2147483648)
    (k1 : GM E (m_X12_drive 2) P 34 [.ref 169, vi a1] [vi (10 * (if 0 ≤ ((mem 180 97) - (mem 171 a1)) then ((mem 180 97) - (mem 171 a1)) else -((mem 180 97) - (mem 171 a1)))), .ref 169] (up2 (up2 mem 180 97 (mem 171 a1)) 180 98 ((mem 180 98) + (10 * (if 0 ≤ ((mem 180 97) - (mem 171 a1)) then ((mem 180 97) - (mem 171 a1)) else -((mem 180 97) - (mem 171 a1))))))) :
    GM E (m_X12_drive 2) P 19 [.ref 169, vi a1] [] mem := by
  refine G_aload_n dX12_drive_19 rfl ?_
  refine G_aload_n dX12_drive_20 rfl ?_
  refine G_aload_n dX12_drive_21 rfl ?_
  refine G_getR (t := 180) dX12_drive_22 fl_12_42 (by decide) sh_169 rr_169_14 ?_
  refine G_aload_n dX12_drive_25 rfl ?_
  refine G_getR (t := 171) dX12_drive_26 fl_12_13 (by decide) sh_169 rr_169_5 ?_
  refine G_iload_n dX12_drive_29 rfl ?_
  refine G_iald (z := (mem 171 a1)) dX12_drive_30 (by decide) sh_171 (by decide) (q1).1 (q1).2 rfl ?_
  refine cb_X12_drive_31 (ic_X12_drives (a := (mem 180 97)) (b := (mem 180 98)) (by decide) sh_180 rfl rfl (w2) ?_)
  exact k1
set_option maxRecDepth 20000 in
set_option maxHeartbeats 8000000 in
theorem sg_X12_drive_37 {E : Nat × (Nat → Int32)} {P : Option Value → Mem → Prop} {mem : Mem} {a1 : Int} {s0 : Int}
    (k1 : P (some (vi s0)) mem) :
    GM E (m_X12_drive 2) P 37 [.ref 169, vi a1] [vi s0] mem := by
  exact G_iret dX12_drive_37 rfl (Nat.zero_le _) (Nat.zero_le _) (Nat.le_refl _) ⟨rfl, k1⟩
set_option maxRecDepth 20000 in
set_option maxHeartbeats 8000000 in
theorem sg_X12_empties_0 {E : Nat × (Nat → Int32)} {P : Option Value → Mem → Prop} {mem : Mem} {a1 : Int} {a2 : Int}
    (k1 : GM E (m_X12_empties 6) P 3 [.ref 169, vi a1, vi a2, un, un] [vi a2, vi a1, .ref 169] mem) :
    GM E (m_X12_empties 6) P 0 [.ref 169, vi a1, vi a2, un, un] [] mem := by
  refine G_aload_n dX12_empties_0 rfl ?_
  refine G_iload_n dX12_empties_1 rfl ?_
  refine G_iload_n dX12_empties_2 rfl ?_
  exact k1
set_option maxRecDepth 20000 in
set_option maxHeartbeats 8000000 in
theorem sg_X12_empties_6 {E : Nat × (Nat → Int32)} {P : Option Value → Mem → Prop} {mem : Mem} {a1 : Int} {a2 : Int} {s0 : Int} (w1 : -2147483648 ≤ s0 ∧ s0 < 2147483648) (q2 : 0 ≤ s0 → 0 ≤ a1 ∧ a1 < 6)
    (k1 : 0 ≤ s0 → GM E (m_X12_empties 6) P 31 [.ref 169, vi a1, vi a2, vi s0, un] [vi (mem 179 0), vi a2, vi a1, .ref 180, .ref 169] (up2 (up2 mem 169 30 (mem 179 1)) 169 31 (mem 173 a1)))
    (k2 : ¬ 0 ≤ s0 → P (some (vi s0)) mem) :
    GM E (m_X12_empties 6) P 6 [.ref 169, vi a1, vi a2, un, un] [vi s0] mem := by
  refine G_istore_n dX12_empties_6 rfl (by decide : 3 < 5) rfl ?_
  refine G_iload_n dX12_empties_7 rfl ?_
  refine G_if_ge (tgt := 13) dX12_empties_8 (by decide) (w1) (fun c1 => ?_) (fun c1 => ?_)
  · -- 0 ≤ s0
    refine G_aload_n dX12_empties_13 rfl ?_
    refine G_iload_n dX12_empties_14 rfl ?_
    refine cb_X12_empties_15 (ic_X12_thinksAsIs (a := (mem 179 1)) (b := (mem 173 a1)) ⟨(q2 c1).1, (q2 c1).2⟩ rfl rfl ?_)
    refine G_aload_n dX12_empties_18 rfl ?_
    refine G_aload_n dX12_empties_19 rfl ?_
    refine G_getR (t := 180) dX12_empties_20 fl_12_42 (by decide) sh_169 rr_169_14 ?_
    refine G_iload_n dX12_empties_23 rfl ?_
    refine G_iload_n dX12_empties_24 rfl ?_
    refine G_aload_n dX12_empties_25 rfl ?_
    refine G_getR (t := 179) dX12_empties_26 fl_12_39 (by decide) sh_169 rr_169_13 ?_
    refine G_iconst (z := 0) dX12_empties_29 rfl ?_
    refine G_iald (z := (mem 179 0)) dX12_empties_30 (by decide) sh_179 (by decide) (by decide) (by decide) (by simp [up2, upr]) ?_
    exact k1 c1
  · -- ¬ 0 ≤ s0
    refine G_iload_n dX12_empties_11 rfl ?_
    exact G_iret dX12_empties_12 rfl (Nat.zero_le _) (Nat.zero_le _) (Nat.le_refl _) ⟨rfl, k2 c1⟩
set_option maxRecDepth 20000 in
set_option maxHeartbeats 8000000 in
theorem sg_X12_empties_34 {E : Nat × (Nat → Int32)} {P : Option Value → Mem → Prop} {mem : Mem} {a1 : Int} {a2 : Int} {a3 : Int} {s0 : Int}
    (k1 : P (some (vi s0)) (up2 mem 180 98 ((mem 180 98) + s0))) :
    GM E (m_X12_empties 6) P 34 [.ref 169, vi a1, vi a2, vi a3, un] [vi s0] mem := by
  refine G_istore dX12_empties_34 (by decide : 4 < 5) rfl ?_
  refine G_aload_n dX12_empties_36 rfl ?_
  refine G_getR (t := 180) dX12_empties_37 fl_12_42 (by decide) sh_169 rr_169_14 ?_
  refine G_bipush (z := 98) dX12_empties_40 rfl ?_
  refine G_dup2 dX12_empties_42 rfl rfl ?_
  refine G_iald (z := (mem 180 98)) dX12_empties_43 (by decide) sh_180 (by decide) (by decide) (by decide) rfl ?_
  refine G_iload dX12_empties_44 rfl ?_
  refine G_iadd dX12_empties_46 ?_
  refine G_iast (mem2 := (up2 mem 180 98 ((mem 180 98) + s0))) dX12_empties_47 (by decide) sh_180 (by decide) (by decide) (by decide) rfl ?_
  refine G_iload dX12_empties_48 rfl ?_
  exact G_iret dX12_empties_50 rfl (Nat.zero_le _) (Nat.zero_le _) (Nat.le_refl _) ⟨rfl, k1⟩
set_option maxRecDepth 20000 in
set_option maxHeartbeats 8000000 in
theorem sg_X12_empty_0 {E : Nat × (Nat → Int32)} {P : Option Value → Mem → Prop} {mem : Mem} {a1 : Int} {a2 : Int}
    (k1 : GM E (m_X12_empty 7) P 6 [.ref 169, vi a1, vi a2, un] [.ref 169] (up2 mem 169 0 0)) :
    GM E (m_X12_empty 7) P 0 [.ref 169, vi a1, vi a2, un] [] mem := by
  refine G_aload_n dX12_empty_0 rfl ?_
  refine G_iconst (z := 0) dX12_empty_1 rfl ?_
  refine G_putI (mem2 := (up2 mem 169 0 0)) dX12_empty_2 fp_12_126 (by decide) sh_169 rfl ?_
  refine G_aload_n dX12_empty_5 rfl ?_
  exact k1
set_option maxRecDepth 20000 in
set_option maxHeartbeats 8000000 in
theorem sg_X12_empty_9 {E : Nat × (Nat → Int32)} {P : Option Value → Mem → Prop} {mem : Mem} {a1 : Int} {a2 : Int}
    (k1 : GM E (m_X12_empty 7) P 12 [.ref 169, vi a1, vi a2, un] [vi a2, vi a1, .ref 169] mem) :
    GM E (m_X12_empty 7) P 9 [.ref 169, vi a1, vi a2, un] [] mem := by
  refine G_aload_n dX12_empty_9 rfl ?_
  refine G_iload_n dX12_empty_10 rfl ?_
  refine G_iload_n dX12_empty_11 rfl ?_
  exact k1
set_option maxRecDepth 20000 in
set_option maxHeartbeats 8000000 in
theorem sg_X12_empty_15 {E : Nat × (Nat → Int32)} {P : Option Value → Mem → Prop} {mem : Mem} {a1 : Int} {a2 : Int} {s0 : Int} (w1 : -2147483648 ≤ s0 ∧ s0 < 2147483648) (w2 : ¬ s0 < 0 → -2147483648 ≤ (mem 169 34) ∧ (mem 169 34) < 2147483648) (w3 : ¬ s0 < 0 → -2147483648 ≤ (mem 169 35) ∧ (mem 169 35) < 2147483648) (w4 : ¬ s0 < 0 → -2147483648 ≤ (mem 169 36) ∧ (mem 169 36) < 2147483648)
    (k1 : s0 < 0 → GM E (m_X12_empty 7) P 68 [.ref 169, vi a1, vi a2, vi s0] [vi s0, .ref 169] mem)
    (k2 : ¬ s0 < 0 → GM E (m_X12_empty 7) P 59 [.ref 169, vi a1, vi a2, vi s0] [vi a1, .ref 180, .ref 169, .ref 169] (up2 (up2 (up2 (up2 (up2 (up2 (up2 mem 169 1 0) 170 0 (mem 169 34)) 169 1 1) 170 1 (mem 169 35)) 169 1 2) 170 2 (mem 169 36)) 169 1 3)) :
    GM E (m_X12_empty 7) P 15 [.ref 169, vi a1, vi a2, un] [vi s0] mem := by
  refine G_istore_n dX12_empty_15 rfl (by decide : 3 < 4) rfl ?_
  refine G_iload_n dX12_empty_16 rfl ?_
  refine G_if_lt (tgt := 66) dX12_empty_17 (by decide) (w1) (fun c1 => ?_) (fun c1 => ?_)
  · -- s0 < 0
    refine G_aload_n dX12_empty_66 rfl ?_
    refine G_iload_n dX12_empty_67 rfl ?_
    exact k1 c1
  · -- ¬ s0 < 0
    refine G_aload_n dX12_empty_20 rfl ?_
    refine G_iconst (z := 0) dX12_empty_21 rfl ?_
    refine G_putI (mem2 := (up2 mem 169 1 0)) dX12_empty_22 fp_12_134 (by decide) sh_169 rfl ?_
    refine G_aload_n dX12_empty_25 rfl ?_
    refine G_aload_n dX12_empty_26 rfl ?_
    refine G_getI (z := (mem 169 34)) dX12_empty_27 fl_12_288 (by decide) sh_169 (by simp [up2, upr]) ?_
    refine G_i2l dX12_empty_30 (w2 c1) ?_
    refine cb_X12_empty_31 (ic_X12_enters (z := 0) (z2 := 1) (by simp [up2, upr]) (by decide) rfl ?_)
    refine G_aload_n dX12_empty_34 rfl ?_
    refine G_aload_n dX12_empty_35 rfl ?_
    refine G_getI (z := (mem 169 35)) dX12_empty_36 fl_12_279 (by decide) sh_169 (by simp [up2, upr]) ?_
    refine G_i2l dX12_empty_39 (w3 c1) ?_
    refine cb_X12_empty_40 (ic_X12_enters (z := 1) (z2 := 2) (by simp [up2, upr]) (by decide) rfl ?_)
    refine G_aload_n dX12_empty_43 rfl ?_
    refine G_aload_n dX12_empty_44 rfl ?_
    refine G_getI (z := (mem 169 36)) dX12_empty_45 fl_12_285 (by decide) sh_169 (by simp [up2, upr]) ?_
    refine G_i2l dX12_empty_48 (w4 c1) ?_
    refine cb_X12_empty_49 (ic_X12_enters (z := 2) (z2 := 3) (by simp [up2, upr]) (by decide) rfl ?_)
    refine G_aload_n dX12_empty_52 rfl ?_
    refine G_aload_n dX12_empty_53 rfl ?_
    refine G_aload_n dX12_empty_54 rfl ?_
    refine G_getR (t := 180) dX12_empty_55 fl_12_42 (by decide) sh_169 rr_169_14 ?_
    refine G_iload_n dX12_empty_58 rfl ?_
    exact k2 c1
set_option maxRecDepth 20000 in
set_option maxHeartbeats 8000000 in
theorem sg_X12_empty_62 {E : Nat × (Nat → Int32)} {P : Option Value → Mem → Prop} {mem : Mem} {a1 : Int} {a2 : Int} {a3 : Int} {s0 : Int} (w1 : -2147483648 ≤ s0 ∧ s0 < 2147483648) (q2 : 0 ≤ (mem 169 1) ∧ (mem 169 1) < 24)
    (k1 : GM E (m_X12_empty 7) P 68 [.ref 169, vi a1, vi a2, vi a3] [vi a3, .ref 169] (up2 (up2 mem 170 (mem 169 1) s0) 169 1 ((mem 169 1) + 1))) :
    GM E (m_X12_empty 7) P 62 [.ref 169, vi a1, vi a2, vi a3] [vi s0, .ref 169] mem := by
  refine G_i2l dX12_empty_62 (w1) ?_
  refine cb_X12_empty_63 (ic_X12_enters (z := (mem 169 1)) (z2 := ((mem 169 1) + 1)) rfl (q2) rfl ?_)
  refine G_aload_n dX12_empty_66 rfl ?_
  refine G_iload_n dX12_empty_67 rfl ?_
  exact k1
set_option maxRecDepth 20000 in
set_option maxHeartbeats 8000000 in
theorem sg_X12_empty_71 {E : Nat × (Nat → Int32)} {P : Option Value → Mem → Prop} {mem : Mem} {a1 : Int} {a2 : Int} {a3 : Int} {s0 : Int}
    (k1 : P (some (vi s0)) mem) :
    GM E (m_X12_empty 7) P 71 [.ref 169, vi a1, vi a2, vi a3] [vi s0] mem := by
  exact G_iret dX12_empty_71 rfl (Nat.zero_le _) (Nat.zero_le _) (Nat.le_refl _) ⟨rfl, k1⟩
set_option maxRecDepth 20000 in
set_option maxHeartbeats 8000000 in
theorem sg_X12_end_0 {E : Nat × (Nat → Int32)} {P : Option Value → Mem → Prop} {mem : Mem} {a1 : Int} (w1 : -2147483648 ≤ a1 ∧ a1 < 2147483648) (w2 : -2147483648 ≤ (mem 169 17) ∧ (mem 169 17) < 2147483648) (w3 : -9223372036854775808 ≤ a1 ∧ a1 < 9223372036854775808) (w4 : -9223372036854775808 ≤ (mem 169 17) ∧ (mem 169 17) < 9223372036854775808)
    (k1 : 0 ≤ a1 ∧ a1 ≤ (mem 169 17) → P (some (vi 1)) (up2 (up2 mem 169 0 0) 169 17 a1))
    (k2 : ¬ (0 ≤ a1 ∧ a1 ≤ (mem 169 17)) → P (some (vi 0)) (up2 mem 169 0 0)) :
    GM E (m_X12_end 1) P 0 [.ref 169, vi a1] [] mem := by
  refine G_aload_n dX12_end_0 rfl ?_
  refine G_iconst (z := 0) dX12_end_1 rfl ?_
  refine G_putI (mem2 := (up2 mem 169 0 0)) dX12_end_2 fp_12_126 (by decide) sh_169 rfl ?_
  refine G_iload_n dX12_end_5 rfl ?_
  refine G_i2l dX12_end_6 (w1) ?_
  refine G_lconst (z := 0) dX12_end_7 rfl ?_
  refine G_aload_n dX12_end_8 rfl ?_
  refine G_getI (z := (mem 169 17)) dX12_end_9 fl_12_148 (by decide) sh_169 (by simp [up2, upr]) ?_
  refine G_i2l dX12_end_12 (w2) ?_
  refine cb_X12_end_13 (ic_X12_in (w3) (by decide) (w4) (fun c1 => ?_) (fun c2 => ?_))
  · -- 0 ≤ a1 ∧ a1 ≤ (mem 169 17)
    refine G_if_ne (tgt := 21) dX12_end_16 (by decide) (by decide) (fun _ => ?_) (fun h => absurd h (by decide))
    refine G_aload_n dX12_end_21 rfl ?_
    refine G_iload_n dX12_end_22 rfl ?_
    refine G_putI (mem2 := (up2 (up2 mem 169 0 0) 169 17 a1)) dX12_end_23 fp_12_148 (by decide) sh_169 rfl ?_
    refine G_iconst (z := 1) dX12_end_26 rfl ?_
    exact G_zret dX12_end_27 rfl (nar_zb (by decide)) (Nat.zero_le _) (Nat.zero_le _) (Nat.le_refl _) ⟨rfl, k1 c1⟩
  · -- ¬ (0 ≤ a1 ∧ a1 ≤ (mem 169 17))
    refine G_if_ne (tgt := 21) dX12_end_16 (by decide) (by decide) (fun h => absurd h (by decide)) (fun _ => ?_)
    refine G_iconst (z := 0) dX12_end_19 rfl ?_
    exact G_zret dX12_end_20 rfl (nar_zb (by decide)) (Nat.zero_le _) (Nat.zero_le _) (Nat.le_refl _) ⟨rfl, k2 c2⟩
set_option maxRecDepth 20000 in
set_option maxHeartbeats 8000000 in
theorem sg_X12_explains_0 {E : Nat × (Nat → Int32)} {P : Option Value → Mem → Prop} {mem : Mem} {a1 : Int} {a2 : Int}
    (k1 : GM E (m_X12_explains 3) P 5 [.ref 169, vi a1, vi a2, vi 1, vi 0, un] [] mem) :
    GM E (m_X12_explains 3) P 0 [.ref 169, vi a1, vi a2, un, un, un] [] mem := by
  refine G_iconst (z := 1) dX12_explains_0 rfl ?_
  refine G_istore_n dX12_explains_1 rfl (by decide : 3 < 6) rfl ?_
  refine G_iconst (z := 0) dX12_explains_2 rfl ?_
  refine G_istore dX12_explains_3 (by decide : 4 < 6) rfl ?_
  exact k1
set_option maxRecDepth 20000 in
set_option maxHeartbeats 8000000 in
theorem sg_X12_explains_5 {E : Nat × (Nat → Int32)} {P : Option Value → Mem → Prop} {mem : Mem} {a1 : Int} {a2 : Int} {a3 : Int} {a4 : Int} (w1 : -2147483648 ≤ a4 ∧ a4 < 2147483648) (w2 : -2147483648 ≤ (mem 169 62) ∧ (mem 169 62) < 2147483648) (b3 : (mem 169 62) ≤ a4 → a3 = 0 ∨ a3 = 1) (w4 : -2147483648 ≤ a3 ∧ a3 < 2147483648) (b5 : ¬ (mem 169 62) ≤ a4 → a3 = 0 → a3 = 0 ∨ a3 = 1) (w6 : -2147483648 ≤ a1 ∧ a1 < 2147483648) (q7 : ¬ (mem 169 62) ≤ a4 → ¬ a3 = 0 → a1 < 0 → 0 ≤ a4 ∧ a4 < 10) (q8 : ¬ (mem 169 62) ≤ a4 → ¬ a3 = 0 → ¬ a1 < 0 → 0 ≤ a4 ∧ a4 < 10)
    (k1 : (mem 169 62) ≤ a4 → P (some (vi a3)) mem)
    (k2 : ¬ (mem 169 62) ≤ a4 → a3 = 0 → P (some (vi a3)) mem)
    (k3 : ¬ (mem 169 62) ≤ a4 → ¬ a3 = 0 → a1 < 0 → GM E (m_X12_explains 3) P 51 [.ref 169, vi a1, vi a2, vi a3, vi a4, vi 0] [vi (mem 201 a4), .ref 169] mem)
    (k4 : ¬ (mem 169 62) ≤ a4 → ¬ a3 = 0 → ¬ a1 < 0 → (bandI (shrI (mem 201 a4) a1) 1) = 1 → GM E (m_X12_explains 3) P 51 [.ref 169, vi a1, vi a2, vi a3, vi a4, vi a2] [vi (mem 201 a4), .ref 169] mem)
    (k5 : ¬ (mem 169 62) ≤ a4 → ¬ a3 = 0 → ¬ a1 < 0 → ¬ (bandI (shrI (mem 201 a4) a1) 1) = 1 → GM E (m_X12_explains 3) P 51 [.ref 169, vi a1, vi a2, vi a3, vi a4, vi 0] [vi (mem 201 a4), .ref 169] mem) :
    GM E (m_X12_explains 3) P 5 [.ref 169, vi a1, vi a2, vi a3, vi a4, un] [] mem := by
  refine G_iload dX12_explains_5 rfl ?_
  refine G_aload_n dX12_explains_7 rfl ?_
  refine G_getI (z := (mem 169 62)) dX12_explains_8 fl_12_470 (by decide) sh_169 rfl ?_
  refine G_icmp_ge (tgt := 79) dX12_explains_11 (by decide) (w1) (w2) (fun c1 => ?_) (fun c1 => ?_)
  · -- (mem 169 62) ≤ a4
    refine G_iload_n dX12_explains_79 rfl ?_
    exact G_zret dX12_explains_80 rfl (nar_zb (b3 c1)) (Nat.zero_le _) (Nat.zero_le _) (Nat.le_refl _) ⟨rfl, k1 c1⟩
  · -- ¬ (mem 169 62) ≤ a4
    refine G_iload_n dX12_explains_14 rfl ?_
    refine G_if_eq (tgt := 79) dX12_explains_15 (by decide) (w4) (fun c2 => ?_) (fun c2 => ?_)
    · -- a3 = 0
      refine G_iload_n dX12_explains_79 rfl ?_
      exact G_zret dX12_explains_80 rfl (nar_zb (b5 c1 c2)) (Nat.zero_le _) (Nat.zero_le _) (Nat.le_refl _) ⟨rfl, k2 c1 c2⟩
    · -- ¬ a3 = 0
      refine G_iload_n dX12_explains_18 rfl ?_
      refine G_if_lt (tgt := 40) dX12_explains_19 (by decide) (w6) (fun c3 => ?_) (fun c3 => ?_)
      · -- a1 < 0
        refine G_iconst (z := 0) dX12_explains_40 rfl ?_
        refine G_istore dX12_explains_41 (by decide : 5 < 6) rfl ?_
        refine G_aload_n dX12_explains_43 rfl ?_
        refine G_aload_n dX12_explains_44 rfl ?_
        refine G_getR (t := 201) dX12_explains_45 fl_12_105 (by decide) sh_169 rr_169_63 ?_
        refine G_iload dX12_explains_48 rfl ?_
        refine G_iald (z := (mem 201 a4)) dX12_explains_50 (by decide) sh_201 (by decide) (q7 c1 c2 c3).1 (q7 c1 c2 c3).2 rfl ?_
        exact k3 c1 c2 c3
      · -- ¬ a1 < 0
        refine G_aload_n dX12_explains_22 rfl ?_
        refine G_getR (t := 201) dX12_explains_23 fl_12_105 (by decide) sh_169 rr_169_63 ?_
        refine G_iload dX12_explains_26 rfl ?_
        refine G_iald (z := (mem 201 a4)) dX12_explains_28 (by decide) sh_201 (by decide) (q8 c1 c2 c3).1 (q8 c1 c2 c3).2 rfl ?_
        refine G_iload_n dX12_explains_29 rfl ?_
        refine cb_X12_explains_30 (ic_X12_has (fun c4 => ?_) (fun c5 => ?_))
        · -- (bandI (shrI (mem 201 a4) a1) 1) = 1
          refine G_if_eq (tgt := 40) dX12_explains_33 (by decide) (by decide) (fun h => absurd h (by decide)) (fun _ => ?_)
          refine G_iload_n dX12_explains_36 rfl ?_
          refine G_goto (tgt := 41) dX12_explains_37 (by decide) ?_
          refine G_istore dX12_explains_41 (by decide : 5 < 6) rfl ?_
          refine G_aload_n dX12_explains_43 rfl ?_
          refine G_aload_n dX12_explains_44 rfl ?_
          refine G_getR (t := 201) dX12_explains_45 fl_12_105 (by decide) sh_169 rr_169_63 ?_
          refine G_iload dX12_explains_48 rfl ?_
          refine G_iald (z := (mem 201 a4)) dX12_explains_50 (by decide) sh_201 (by decide) (q8 c1 c2 c3).1 (q8 c1 c2 c3).2 rfl ?_
          exact k4 c1 c2 c3 c4
        · -- ¬ (bandI (shrI (mem 201 a4) a1) 1) = 1
          refine G_if_eq (tgt := 40) dX12_explains_33 (by decide) (by decide) (fun _ => ?_) (fun h => absurd h (by decide))
          refine G_iconst (z := 0) dX12_explains_40 rfl ?_
          refine G_istore dX12_explains_41 (by decide : 5 < 6) rfl ?_
          refine G_aload_n dX12_explains_43 rfl ?_
          refine G_aload_n dX12_explains_44 rfl ?_
          refine G_getR (t := 201) dX12_explains_45 fl_12_105 (by decide) sh_169 rr_169_63 ?_
          refine G_iload dX12_explains_48 rfl ?_
          refine G_iald (z := (mem 201 a4)) dX12_explains_50 (by decide) sh_201 (by decide) (q8 c1 c2 c3).1 (q8 c1 c2 c3).2 rfl ?_
          exact k5 c1 c2 c3 c5
set_option maxRecDepth 20000 in
set_option maxHeartbeats 8000000 in
theorem sg_X12_explains_54 {E : Nat × (Nat → Int32)} {P : Option Value → Mem → Prop} {mem : Mem} {a1 : Int} {a2 : Int} {a3 : Int} {a4 : Int} {a5 : Int} {s0 : Int} (q1 : 0 ≤ a4 ∧ a4 < 10) (w2 : -2147483648 ≤ (s0 + a5) ∧ (s0 + a5) < 2147483648) (w3 : -2147483648 ≤ (mem 202 a4) ∧ (mem 202 a4) < 2147483648)
    (k1 : (s0 + a5) ≠ (mem 202 a4) → GM E (m_X12_explains 3) P 5 [.ref 169, vi a1, vi a2, vi 0, vi (a4 + 1), un] [] mem)
    (k2 : (s0 + a5) = (mem 202 a4) → GM E (m_X12_explains 3) P 5 [.ref 169, vi a1, vi a2, vi 1, vi (a4 + 1), un] [] mem) :
    GM E (m_X12_explains 3) P 54 [.ref 169, vi a1, vi a2, vi a3, vi a4, vi a5] [vi s0] mem := by
  refine G_iload dX12_explains_54 rfl ?_
  refine G_iadd dX12_explains_56 ?_
  refine G_aload_n dX12_explains_57 rfl ?_
  refine G_getR (t := 202) dX12_explains_58 fl_12_108 (by decide) sh_169 rr_169_64 ?_
  refine G_iload dX12_explains_61 rfl ?_
  refine G_iald (z := (mem 202 a4)) dX12_explains_63 (by decide) sh_202 (by decide) (q1).1 (q1).2 rfl ?_
  refine G_icmp_ne (tgt := 71) dX12_explains_64 (by decide) (w2) (w3) (fun c1 => ?_) (fun c1 => ?_)
  · -- (s0 + a5) ≠ (mem 202 a4)
    refine G_iconst (z := 0) dX12_explains_71 rfl ?_
    refine G_istore_n dX12_explains_72 rfl (by decide : 3 < 6) rfl ?_
    refine G_iinc (z := (a4 + 1)) dX12_explains_73 rfl rfl (by decide : 4 < 6) rfl ?_
    refine G_goto (tgt := 5) dX12_explains_76 (by decide) ?_
    refine G_weak (lv2 := [.ref 169, vi a1, vi a2, vi 0, vi (a4 + 1), un]) ⟨Or.inr rfl, Or.inr rfl, Or.inr rfl, Or.inr rfl, Or.inr rfl, Or.inl rfl, trivial⟩ ?_
    exact k1 c1
  · -- (s0 + a5) = (mem 202 a4)
    refine G_iconst (z := 1) dX12_explains_67 rfl ?_
    refine G_goto (tgt := 72) dX12_explains_68 (by decide) ?_
    refine G_istore_n dX12_explains_72 rfl (by decide : 3 < 6) rfl ?_
    refine G_iinc (z := (a4 + 1)) dX12_explains_73 rfl rfl (by decide : 4 < 6) rfl ?_
    refine G_goto (tgt := 5) dX12_explains_76 (by decide) ?_
    refine G_weak (lv2 := [.ref 169, vi a1, vi a2, vi 1, vi (a4 + 1), un]) ⟨Or.inr rfl, Or.inr rfl, Or.inr rfl, Or.inr rfl, Or.inr rfl, Or.inl rfl, trivial⟩ ?_
    exact k2 c1
set_option maxRecDepth 20000 in
set_option maxHeartbeats 8000000 in
theorem sg_X12_faultOf_0 {E : Nat × (Nat → Int32)} {P : Option Value → Mem → Prop} {mem : Mem} {a1 : Int} {a2 : Int} {a3 : Int} (w1 : -2147483648 ≤ a3 ∧ a3 < 2147483648) (w2 : -2147483648 ≤ a1 ∧ a1 < 2147483648) (w3 : -2147483648 ≤ a2 ∧ a2 < 2147483648) (w4 : a3 = 0 → ¬ a1 ≤ a2 → -2147483648 ≤ (mem 169 18) ∧ (mem 169 18) < 2147483648) (w5 : ¬ a3 = 0 → -2147483648 ≤ (mem 169 18) ∧ (mem 169 18) < 2147483648) (w6 : ¬ a3 = 0 → -2147483648 ≤ (mem 169 19) ∧ (mem 169 19) < 2147483648)
    (k1 : a3 = 0 → a1 ≤ a2 → P (some (vi ((-1) - (mem 169 18)))) mem)
    (k2 : a3 = 0 → ¬ a1 ≤ a2 → (mem 169 18) < a2 → P (some (vi ((-1) - (mem 169 18)))) mem)
    (k3 : a3 = 0 → ¬ a1 ≤ a2 → ¬ (mem 169 18) < a2 → P (some (vi ((-1) - a2))) mem)
    (k4 : ¬ a3 = 0 → (mem 169 18) ≠ (mem 169 19) → a1 ≤ a2 → P (some (vi ((-1) - (mem 169 18)))) mem)
    (k5 : ¬ a3 = 0 → (mem 169 18) ≠ (mem 169 19) → ¬ a1 ≤ a2 → (mem 169 18) < a2 → P (some (vi ((-1) - (mem 169 18)))) mem)
    (k6 : ¬ a3 = 0 → (mem 169 18) ≠ (mem 169 19) → ¬ a1 ≤ a2 → ¬ (mem 169 18) < a2 → P (some (vi ((-1) - a2))) mem)
    (k7 : ¬ a3 = 0 → (mem 169 18) = (mem 169 19) → a1 ≤ a2 → P (some (vi 0)) mem)
    (k8 : ¬ a3 = 0 → (mem 169 18) = (mem 169 19) → ¬ a1 ≤ a2 → P (some (vi ((-1) - a2))) mem) :
    GM E (m_X12_faultOf 0) P 0 [.ref 169, vi a1, vi a2, vi a3, un] [] mem := by
  refine G_iload_n dX12_faultOf_0 rfl ?_
  refine G_if_eq (tgt := 19) dX12_faultOf_1 (by decide) (w1) (fun c1 => ?_) (fun c1 => ?_)
  · -- a3 = 0
    refine G_iconst (z := 0) dX12_faultOf_19 rfl ?_
    refine G_istore dX12_faultOf_20 (by decide : 4 < 5) rfl ?_
    refine G_iload_n dX12_faultOf_22 rfl ?_
    refine G_iload_n dX12_faultOf_23 rfl ?_
    refine G_icmp_le (tgt := 44) dX12_faultOf_24 (by decide) (w2) (w3) (fun c2 => ?_) (fun c2 => ?_)
    · -- a1 ≤ a2
      refine G_iload dX12_faultOf_44 rfl ?_
      refine G_if_eq (tgt := 53) dX12_faultOf_46 (by decide) (by decide) (fun _ => ?_) (fun h => absurd h (by decide))
      refine G_iconst (z := (-1)) dX12_faultOf_53 rfl ?_
      refine G_aload_n dX12_faultOf_54 rfl ?_
      refine G_getI (z := (mem 169 18)) dX12_faultOf_55 fl_12_151 (by decide) sh_169 rfl ?_
      refine G_isub dX12_faultOf_58 ?_
      exact G_iret dX12_faultOf_59 rfl (Nat.zero_le _) (Nat.zero_le _) (Nat.le_refl _) ⟨rfl, k1 c1 c2⟩
    · -- ¬ a1 ≤ a2
      refine G_iload dX12_faultOf_27 rfl ?_
      refine G_if_ne (tgt := 40) dX12_faultOf_29 (by decide) (by decide) (fun h => absurd h (by decide)) (fun _ => ?_)
      refine G_aload_n dX12_faultOf_32 rfl ?_
      refine G_getI (z := (mem 169 18)) dX12_faultOf_33 fl_12_151 (by decide) sh_169 rfl ?_
      refine G_iload_n dX12_faultOf_36 rfl ?_
      refine G_icmp_lt (tgt := 44) dX12_faultOf_37 (by decide) (w4 c1 c2) (w3) (fun c3 => ?_) (fun c3 => ?_)
      · -- (mem 169 18) < a2
        refine G_iload dX12_faultOf_44 rfl ?_
        refine G_if_eq (tgt := 53) dX12_faultOf_46 (by decide) (by decide) (fun _ => ?_) (fun h => absurd h (by decide))
        refine G_iconst (z := (-1)) dX12_faultOf_53 rfl ?_
        refine G_aload_n dX12_faultOf_54 rfl ?_
        refine G_getI (z := (mem 169 18)) dX12_faultOf_55 fl_12_151 (by decide) sh_169 rfl ?_
        refine G_isub dX12_faultOf_58 ?_
        exact G_iret dX12_faultOf_59 rfl (Nat.zero_le _) (Nat.zero_le _) (Nat.le_refl _) ⟨rfl, k2 c1 c2 c3⟩
      · -- ¬ (mem 169 18) < a2
        refine G_iconst (z := (-1)) dX12_faultOf_40 rfl ?_
        refine G_iload_n dX12_faultOf_41 rfl ?_
        refine G_isub dX12_faultOf_42 ?_
        exact G_iret dX12_faultOf_43 rfl (Nat.zero_le _) (Nat.zero_le _) (Nat.le_refl _) ⟨rfl, k3 c1 c2 c3⟩
  · -- ¬ a3 = 0
    refine G_aload_n dX12_faultOf_4 rfl ?_
    refine G_getI (z := (mem 169 18)) dX12_faultOf_5 fl_12_151 (by decide) sh_169 rfl ?_
    refine G_aload_n dX12_faultOf_8 rfl ?_
    refine G_getI (z := (mem 169 19)) dX12_faultOf_9 fl_12_163 (by decide) sh_169 rfl ?_
    refine G_icmp_ne (tgt := 19) dX12_faultOf_12 (by decide) (w5 c1) (w6 c1) (fun c4 => ?_) (fun c4 => ?_)
    · -- (mem 169 18) ≠ (mem 169 19)
      refine G_iconst (z := 0) dX12_faultOf_19 rfl ?_
      refine G_istore dX12_faultOf_20 (by decide : 4 < 5) rfl ?_
      refine G_iload_n dX12_faultOf_22 rfl ?_
      refine G_iload_n dX12_faultOf_23 rfl ?_
      refine G_icmp_le (tgt := 44) dX12_faultOf_24 (by decide) (w2) (w3) (fun c5 => ?_) (fun c5 => ?_)
      · -- a1 ≤ a2
        refine G_iload dX12_faultOf_44 rfl ?_
        refine G_if_eq (tgt := 53) dX12_faultOf_46 (by decide) (by decide) (fun _ => ?_) (fun h => absurd h (by decide))
        refine G_iconst (z := (-1)) dX12_faultOf_53 rfl ?_
        refine G_aload_n dX12_faultOf_54 rfl ?_
        refine G_getI (z := (mem 169 18)) dX12_faultOf_55 fl_12_151 (by decide) sh_169 rfl ?_
        refine G_isub dX12_faultOf_58 ?_
        exact G_iret dX12_faultOf_59 rfl (Nat.zero_le _) (Nat.zero_le _) (Nat.le_refl _) ⟨rfl, k4 c1 c4 c5⟩
      · -- ¬ a1 ≤ a2
        refine G_iload dX12_faultOf_27 rfl ?_
        refine G_if_ne (tgt := 40) dX12_faultOf_29 (by decide) (by decide) (fun h => absurd h (by decide)) (fun _ => ?_)
        refine G_aload_n dX12_faultOf_32 rfl ?_
        refine G_getI (z := (mem 169 18)) dX12_faultOf_33 fl_12_151 (by decide) sh_169 rfl ?_
        refine G_iload_n dX12_faultOf_36 rfl ?_
        refine G_icmp_lt (tgt := 44) dX12_faultOf_37 (by decide) (w5 c1) (w3) (fun c6 => ?_) (fun c6 => ?_)
        · -- (mem 169 18) < a2
          refine G_iload dX12_faultOf_44 rfl ?_
          refine G_if_eq (tgt := 53) dX12_faultOf_46 (by decide) (by decide) (fun _ => ?_) (fun h => absurd h (by decide))
          refine G_iconst (z := (-1)) dX12_faultOf_53 rfl ?_
          refine G_aload_n dX12_faultOf_54 rfl ?_
          refine G_getI (z := (mem 169 18)) dX12_faultOf_55 fl_12_151 (by decide) sh_169 rfl ?_
          refine G_isub dX12_faultOf_58 ?_
          exact G_iret dX12_faultOf_59 rfl (Nat.zero_le _) (Nat.zero_le _) (Nat.le_refl _) ⟨rfl, k5 c1 c4 c5 c6⟩
        · -- ¬ (mem 169 18) < a2
          refine G_iconst (z := (-1)) dX12_faultOf_40 rfl ?_
          refine G_iload_n dX12_faultOf_41 rfl ?_
          refine G_isub dX12_faultOf_42 ?_
          exact G_iret dX12_faultOf_43 rfl (Nat.zero_le _) (Nat.zero_le _) (Nat.le_refl _) ⟨rfl, k6 c1 c4 c5 c6⟩
    · -- (mem 169 18) = (mem 169 19)
      refine G_iconst (z := 1) dX12_faultOf_15 rfl ?_
      refine G_goto (tgt := 20) dX12_faultOf_16 (by decide) ?_
      refine G_istore dX12_faultOf_20 (by decide : 4 < 5) rfl ?_
      refine G_iload_n dX12_faultOf_22 rfl ?_
      refine G_iload_n dX12_faultOf_23 rfl ?_
      refine G_icmp_le (tgt := 44) dX12_faultOf_24 (by decide) (w2) (w3) (fun c7 => ?_) (fun c7 => ?_)
      · -- a1 ≤ a2
        refine G_iload dX12_faultOf_44 rfl ?_
        refine G_if_eq (tgt := 53) dX12_faultOf_46 (by decide) (by decide) (fun h => absurd h (by decide)) (fun _ => ?_)
        refine G_iconst (z := 0) dX12_faultOf_49 rfl ?_
        refine G_goto (tgt := 59) dX12_faultOf_50 (by decide) ?_
        exact G_iret dX12_faultOf_59 rfl (Nat.zero_le _) (Nat.zero_le _) (Nat.le_refl _) ⟨rfl, k7 c1 c4 c7⟩
      · -- ¬ a1 ≤ a2
        refine G_iload dX12_faultOf_27 rfl ?_
        refine G_if_ne (tgt := 40) dX12_faultOf_29 (by decide) (by decide) (fun _ => ?_) (fun h => absurd h (by decide))
        refine G_iconst (z := (-1)) dX12_faultOf_40 rfl ?_
        refine G_iload_n dX12_faultOf_41 rfl ?_
        refine G_isub dX12_faultOf_42 ?_
        exact G_iret dX12_faultOf_43 rfl (Nat.zero_le _) (Nat.zero_le _) (Nat.le_refl _) ⟨rfl, k8 c1 c4 c7⟩
set_option maxRecDepth 20000 in
set_option maxHeartbeats 8000000 in
theorem sg_X12_forget_0 {E : Nat × (Nat → Int32)} {P : Option Value → Mem → Prop} {mem : Mem}
    (k1 : P (some (vi (mem 169 62))) (up2 (up2 mem 169 0 0) 169 62 0)) :
    GM E (m_X12_forget 0) P 0 [.ref 169, un] [] mem := by
  refine G_aload_n dX12_forget_0 rfl ?_
  refine G_iconst (z := 0) dX12_forget_1 rfl ?_
  refine G_putI (mem2 := (up2 mem 169 0 0)) dX12_forget_2 fp_12_126 (by decide) sh_169 rfl ?_
  refine G_aload_n dX12_forget_5 rfl ?_
  refine G_getI (z := (mem 169 62)) dX12_forget_6 fl_12_470 (by decide) sh_169 (by simp [up2, upr]) ?_
  refine G_istore_n dX12_forget_9 rfl (by decide : 1 < 2) rfl ?_
  refine G_aload_n dX12_forget_10 rfl ?_
  refine G_iconst (z := 0) dX12_forget_11 rfl ?_
  refine G_putI (mem2 := (up2 (up2 mem 169 0 0) 169 62 0)) dX12_forget_12 fp_12_470 (by decide) sh_169 rfl ?_
  refine G_iload_n dX12_forget_15 rfl ?_
  exact G_iret dX12_forget_16 rfl (Nat.zero_le _) (Nat.zero_le _) (Nat.le_refl _) ⟨rfl, k1⟩
set_option maxRecDepth 20000 in
set_option maxHeartbeats 8000000 in
theorem sg_X12_goesRound_0 {E : Nat × (Nat → Int32)} {P : Option Value → Mem → Prop} {mem : Mem}
    (k1 : GM E (m_X12_goesRound 8) P 15 [.ref 169, vi (mem 181 98), vi 0, un] [] (up2 mem 169 50 0)) :
    GM E (m_X12_goesRound 8) P 0 [.ref 169, un, un, un] [] mem := by
  refine G_aload_n dX12_goesRound_0 rfl ?_
  refine G_getR (t := 181) dX12_goesRound_1 fl_12_45 (by decide) sh_169 rr_169_15 ?_
  refine G_bipush (z := 98) dX12_goesRound_4 rfl ?_
  refine G_iald (z := (mem 181 98)) dX12_goesRound_6 (by decide) sh_181 (by decide) (by decide) (by decide) rfl ?_
  refine G_istore_n dX12_goesRound_7 rfl (by decide : 1 < 4) rfl ?_
  refine G_aload_n dX12_goesRound_8 rfl ?_
  refine G_iconst (z := 0) dX12_goesRound_9 rfl ?_
  refine G_putI (mem2 := (up2 mem 169 50 0)) dX12_goesRound_10 fp_12_416 (by decide) sh_169 rfl ?_
  refine G_iconst (z := 0) dX12_goesRound_13 rfl ?_
  refine G_istore_n dX12_goesRound_14 rfl (by decide : 2 < 4) rfl ?_
  exact k1
set_option maxRecDepth 20000 in
set_option maxHeartbeats 8000000 in
theorem sg_X12_goesRound_15 {E : Nat × (Nat → Int32)} {P : Option Value → Mem → Prop} {mem : Mem} {a1 : Int} {a2 : Int} (w1 : -2147483648 ≤ a2 ∧ a2 < 2147483648) (w2 : -2147483648 ≤ (mem 169 52) ∧ (mem 169 52) < 2147483648) (q3 : ¬ (mem 169 52) ≤ a2 → 0 ≤ a2 ∧ a2 < 6) (w4 : ¬ (mem 169 52) ≤ a2 → -2147483648 ≤ (mem 181 96) ∧ (mem 181 96) < 2147483648) (q5 : ¬ (mem 169 52) ≤ a2 → (mem 181 96) ≤ 0 → 0 ≤ (mem 195 a2) ∧ (mem 195 a2) < 6) (w6 : ¬ (mem 169 52) ≤ a2 → (mem 181 96) ≤ 0 → -2147483648 ≤ ((mem 181 97) - (mem 171 (mem 195 a2))) ∧ ((mem 181 97) - (mem 171 (mem 195 a2))) < 2147483648)
    (k1 : (mem 169 52) ≤ a2 → GM E (m_X12_goesRound 8) P 201 [.ref 169, vi a1, vi a2, un] [.ref 181, .ref 169] mem)
    (k2 : ¬ (mem 169 52) ≤ a2 → (mem 181 96) ≤ 0 → GM E (m_X12_goesRound 8) P 118 [.ref 169, vi a1, vi a2, vi (mem 195 a2)] [vi (mem 195 a2), .ref 181, .ref 169, vi 98, .ref 181] (up2 (up2 mem 181 97 (mem 171 (mem 195 a2))) 181 98 ((mem 181 98) + (10 * (if 0 ≤ ((mem 181 97) - (mem 171 (mem 195 a2))) then ((mem 181 97) - (mem 171 (mem 195 a2))) else -((mem 181 97) - (mem 171 (mem 195 a2))))))))
    (k3 : ¬ (mem 169 52) ≤ a2 → ¬ (mem 181 96) ≤ 0 → GM E (m_X12_goesRound 8) P 53 [.ref 169, vi a1, vi a2, vi (mem 195 a2)] [vi (mem 195 a2), .ref 181, .ref 169, vi (mem 181 96)] mem) :
    GM E (m_X12_goesRound 8) P 15 [.ref 169, vi a1, vi a2, un] [] mem := by
  refine G_iload_n dX12_goesRound_15 rfl ?_
  refine G_aload_n dX12_goesRound_16 rfl ?_
  refine G_getI (z := (mem 169 52)) dX12_goesRound_17 fl_12_419 (by decide) sh_169 rfl ?_
  refine G_icmp_ge (tgt := 196) dX12_goesRound_20 (by decide) (w1) (w2) (fun c1 => ?_) (fun c1 => ?_)
  · -- (mem 169 52) ≤ a2
    refine G_aload_n dX12_goesRound_196 rfl ?_
    refine G_aload_n dX12_goesRound_197 rfl ?_
    refine G_getR (t := 181) dX12_goesRound_198 fl_12_45 (by decide) sh_169 rr_169_15 ?_
    exact k1 c1
  · -- ¬ (mem 169 52) ≤ a2
    refine G_aload_n dX12_goesRound_23 rfl ?_
    refine G_getR (t := 195) dX12_goesRound_24 fl_12_87 (by decide) sh_169 rr_169_51 ?_
    refine G_iload_n dX12_goesRound_27 rfl ?_
    refine G_iald (z := (mem 195 a2)) dX12_goesRound_28 (by decide) sh_195 (by decide) (q3 c1).1 (q3 c1).2 rfl ?_
    refine G_istore_n dX12_goesRound_29 rfl (by decide : 3 < 4) rfl ?_
    refine G_aload_n dX12_goesRound_30 rfl ?_
    refine G_getR (t := 181) dX12_goesRound_31 fl_12_45 (by decide) sh_169 rr_169_15 ?_
    refine G_bipush (z := 96) dX12_goesRound_34 rfl ?_
    refine G_iald (z := (mem 181 96)) dX12_goesRound_36 (by decide) sh_181 (by decide) (by decide) (by decide) rfl ?_
    refine G_if_le (tgt := 91) dX12_goesRound_37 (by decide) (w4 c1) (fun c2 => ?_) (fun c2 => ?_)
    · -- (mem 181 96) ≤ 0
      refine G_aload_n dX12_goesRound_91 rfl ?_
      refine G_aload_n dX12_goesRound_92 rfl ?_
      refine G_getR (t := 181) dX12_goesRound_93 fl_12_45 (by decide) sh_169 rr_169_15 ?_
      refine G_aload_n dX12_goesRound_96 rfl ?_
      refine G_getR (t := 171) dX12_goesRound_97 fl_12_13 (by decide) sh_169 rr_169_5 ?_
      refine G_iload_n dX12_goesRound_100 rfl ?_
      refine G_iald (z := (mem 171 (mem 195 a2))) dX12_goesRound_101 (by decide) sh_171 (by decide) (q5 c1 c2).1 (q5 c1 c2).2 rfl ?_
      refine cb_X12_goesRound_102 (ic_X12_drives (a := (mem 181 97)) (b := (mem 181 98)) (by decide) sh_181 rfl rfl (w6 c1 c2) ?_)
      refine G_pop dX12_goesRound_105 rfl ?_
      refine G_aload_n dX12_goesRound_106 rfl ?_
      refine G_getR (t := 181) dX12_goesRound_107 fl_12_45 (by decide) sh_169 rr_169_15 ?_
      refine G_bipush (z := 98) dX12_goesRound_110 rfl ?_
      refine G_aload_n dX12_goesRound_112 rfl ?_
      refine G_aload_n dX12_goesRound_113 rfl ?_
      refine G_getR (t := 181) dX12_goesRound_114 fl_12_45 (by decide) sh_169 rr_169_15 ?_
      refine G_iload_n dX12_goesRound_117 rfl ?_
      exact k2 c1 c2
    · -- ¬ (mem 181 96) ≤ 0
      refine G_aload_n dX12_goesRound_40 rfl ?_
      refine G_getR (t := 181) dX12_goesRound_41 fl_12_45 (by decide) sh_169 rr_169_15 ?_
      refine G_bipush (z := 96) dX12_goesRound_44 rfl ?_
      refine G_iald (z := (mem 181 96)) dX12_goesRound_46 (by decide) sh_181 (by decide) (by decide) (by decide) rfl ?_
      refine G_aload_n dX12_goesRound_47 rfl ?_
      refine G_aload_n dX12_goesRound_48 rfl ?_
      refine G_getR (t := 181) dX12_goesRound_49 fl_12_45 (by decide) sh_169 rr_169_15 ?_
      refine G_iload_n dX12_goesRound_52 rfl ?_
      exact k3 c1 c2
set_option maxRecDepth 20000 in
set_option maxHeartbeats 8000000 in
theorem sg_X12_goesRound_56 {E : Nat × (Nat → Int32)} {P : Option Value → Mem → Prop} {mem : Mem} {a1 : Int} {a2 : Int} {a3 : Int} {s0 : Int} {s1 : Int} (w1 : -2147483648 ≤ (s1 + s0) ∧ (s1 + s0) < 2147483648) (w2 : -2147483648 ≤ (mem 179 0) ∧ (mem 179 0) < 2147483648) (q3 : (s1 + s0) ≤ (mem 179 0) → 0 ≤ a3 ∧ a3 < 6) (w4 : (s1 + s0) ≤ (mem 179 0) → -2147483648 ≤ ((mem 181 97) - (mem 171 a3)) ∧ ((mem 181 97) - (mem 171 a3)) < 2147483648)
    (k1 : (s1 + s0) ≤ (mem 179 0) → GM E (m_X12_goesRound 8) P 118 [.ref 169, vi a1, vi a2, vi a3] [vi a3, .ref 181, .ref 169, vi 98, .ref 181] (up2 (up2 mem 181 97 (mem 171 a3)) 181 98 ((mem 181 98) + (10 * (if 0 ≤ ((mem 181 97) - (mem 171 a3)) then ((mem 181 97) - (mem 171 a3)) else -((mem 181 97) - (mem 171 a3)))))))
    (k2 : ¬ (s1 + s0) ≤ (mem 179 0) → GM E (m_X12_goesRound 8) P 71 [.ref 169, vi a1, vi a2, vi a3] [.ref 181, .ref 169] mem) :
    GM E (m_X12_goesRound 8) P 56 [.ref 169, vi a1, vi a2, vi a3] [vi s0, vi s1] mem := by
  refine G_iadd dX12_goesRound_56 ?_
  refine G_aload_n dX12_goesRound_57 rfl ?_
  refine G_getR (t := 179) dX12_goesRound_58 fl_12_39 (by decide) sh_169 rr_169_13 ?_
  refine G_iconst (z := 0) dX12_goesRound_61 rfl ?_
  refine G_iald (z := (mem 179 0)) dX12_goesRound_62 (by decide) sh_179 (by decide) (by decide) (by decide) rfl ?_
  refine G_icmp_le (tgt := 91) dX12_goesRound_63 (by decide) (w1) (w2) (fun c1 => ?_) (fun c1 => ?_)
  · -- (s1 + s0) ≤ (mem 179 0)
    refine G_aload_n dX12_goesRound_91 rfl ?_
    refine G_aload_n dX12_goesRound_92 rfl ?_
    refine G_getR (t := 181) dX12_goesRound_93 fl_12_45 (by decide) sh_169 rr_169_15 ?_
    refine G_aload_n dX12_goesRound_96 rfl ?_
    refine G_getR (t := 171) dX12_goesRound_97 fl_12_13 (by decide) sh_169 rr_169_5 ?_
    refine G_iload_n dX12_goesRound_100 rfl ?_
    refine G_iald (z := (mem 171 a3)) dX12_goesRound_101 (by decide) sh_171 (by decide) (q3 c1).1 (q3 c1).2 rfl ?_
    refine cb_X12_goesRound_102 (ic_X12_drives (a := (mem 181 97)) (b := (mem 181 98)) (by decide) sh_181 rfl rfl (w4 c1) ?_)
    refine G_pop dX12_goesRound_105 rfl ?_
    refine G_aload_n dX12_goesRound_106 rfl ?_
    refine G_getR (t := 181) dX12_goesRound_107 fl_12_45 (by decide) sh_169 rr_169_15 ?_
    refine G_bipush (z := 98) dX12_goesRound_110 rfl ?_
    refine G_aload_n dX12_goesRound_112 rfl ?_
    refine G_aload_n dX12_goesRound_113 rfl ?_
    refine G_getR (t := 181) dX12_goesRound_114 fl_12_45 (by decide) sh_169 rr_169_15 ?_
    refine G_iload_n dX12_goesRound_117 rfl ?_
    exact k1 c1
  · -- ¬ (s1 + s0) ≤ (mem 179 0)
    refine G_aload_n dX12_goesRound_66 rfl ?_
    refine G_aload_n dX12_goesRound_67 rfl ?_
    refine G_getR (t := 181) dX12_goesRound_68 fl_12_45 (by decide) sh_169 rr_169_15 ?_
    exact k2 c1
set_option maxRecDepth 20000 in
set_option maxHeartbeats 8000000 in
theorem sg_X12_goesRound_74 {E : Nat × (Nat → Int32)} {P : Option Value → Mem → Prop} {mem : Mem} {a1 : Int} {a2 : Int} {a3 : Int} {s0 : Int} (w1 : -2147483648 ≤ s0 ∧ s0 < 2147483648) (q2 : 0 ≤ s0 → 0 ≤ a3 ∧ a3 < 6) (w3 : 0 ≤ s0 → -2147483648 ≤ ((mem 181 97) - (mem 171 a3)) ∧ ((mem 181 97) - (mem 171 a3)) < 2147483648)
    (k1 : 0 ≤ s0 → GM E (m_X12_goesRound 8) P 118 [.ref 169, vi a1, vi a2, vi a3] [vi a3, .ref 181, .ref 169, vi 98, .ref 181] (up2 (up2 (up2 mem 169 50 ((mem 169 50) + 1)) 181 97 (mem 171 a3)) 181 98 ((mem 181 98) + (10 * (if 0 ≤ ((mem 181 97) - (mem 171 a3)) then ((mem 181 97) - (mem 171 a3)) else -((mem 181 97) - (mem 171 a3)))))))
    (k2 : ¬ 0 ≤ s0 → P (some (vi (-200))) mem) :
    GM E (m_X12_goesRound 8) P 74 [.ref 169, vi a1, vi a2, vi a3] [vi s0] mem := by
  refine G_if_ge (tgt := 81) dX12_goesRound_74 (by decide) (w1) (fun c1 => ?_) (fun c1 => ?_)
  · -- 0 ≤ s0
    refine G_aload_n dX12_goesRound_81 rfl ?_
    refine G_dup dX12_goesRound_82 rfl ?_
    refine G_getI (z := (mem 169 50)) dX12_goesRound_83 fl_12_416 (by decide) sh_169 rfl ?_
    refine G_iconst (z := 1) dX12_goesRound_86 rfl ?_
    refine G_iadd dX12_goesRound_87 ?_
    refine G_putI (mem2 := (up2 mem 169 50 ((mem 169 50) + 1))) dX12_goesRound_88 fp_12_416 (by decide) sh_169 rfl ?_
    refine G_aload_n dX12_goesRound_91 rfl ?_
    refine G_aload_n dX12_goesRound_92 rfl ?_
    refine G_getR (t := 181) dX12_goesRound_93 fl_12_45 (by decide) sh_169 rr_169_15 ?_
    refine G_aload_n dX12_goesRound_96 rfl ?_
    refine G_getR (t := 171) dX12_goesRound_97 fl_12_13 (by decide) sh_169 rr_169_5 ?_
    refine G_iload_n dX12_goesRound_100 rfl ?_
    refine G_iald (z := (mem 171 a3)) dX12_goesRound_101 (by decide) sh_171 (by decide) (q2 c1).1 (q2 c1).2 (by simp [up2, upr]) ?_
    refine cb_X12_goesRound_102 (ic_X12_drives (a := (mem 181 97)) (b := (mem 181 98)) (by decide) sh_181 (by simp [up2, upr]) (by simp [up2, upr]) (w3 c1) ?_)
    refine G_pop dX12_goesRound_105 rfl ?_
    refine G_aload_n dX12_goesRound_106 rfl ?_
    refine G_getR (t := 181) dX12_goesRound_107 fl_12_45 (by decide) sh_169 rr_169_15 ?_
    refine G_bipush (z := 98) dX12_goesRound_110 rfl ?_
    refine G_aload_n dX12_goesRound_112 rfl ?_
    refine G_aload_n dX12_goesRound_113 rfl ?_
    refine G_getR (t := 181) dX12_goesRound_114 fl_12_45 (by decide) sh_169 rr_169_15 ?_
    refine G_iload_n dX12_goesRound_117 rfl ?_
    exact k1 c1
  · -- ¬ 0 ≤ s0
    refine G_sipush (z := (-200)) dX12_goesRound_77 rfl ?_
    exact G_iret dX12_goesRound_80 rfl (Nat.zero_le _) (Nat.zero_le _) (Nat.le_refl _) ⟨rfl, k2 c1⟩
set_option maxRecDepth 20000 in
set_option maxHeartbeats 8000000 in
theorem sg_X12_goesRound_121 {E : Nat × (Nat → Int32)} {P : Option Value → Mem → Prop} {mem : Mem} {a1 : Int} {a2 : Int} {a3 : Int} {s0 : Int} {s1 : Int} (w1 : -2147483648 ≤ s0 ∧ s0 < 2147483648) (q2 : ¬ s0 = 0 → 0 ≤ a3 ∧ a3 < 6) (q3 : 0 ≤ s1 ∧ s1 < 99) (q4 : 0 ≤ a3 ∧ a3 < 6)
    (k1 : GM E (m_X12_goesRound 8) P 157 [.ref 169, vi a1, vi a2, vi a3] [vi a3, .ref 181, .ref 169] (up2 (up2 (up2 mem 181 s1 (if s0 = 0 then (mem 181 98) else (60 * ((mem 177 a3) + 1)))) 169 30 (mem 179 1)) 169 31 (mem 173 a3))) :
    GM E (m_X12_goesRound 8) P 121 [.ref 169, vi a1, vi a2, vi a3] [vi s0, vi s1, .ref 181] mem := by
  have j1 : GM E (m_X12_goesRound 8) P 145 [.ref 169, vi a1, vi a2, vi a3] [vi (if s0 = 0 then (mem 181 98) else (60 * ((mem 177 a3) + 1))), vi s1, .ref 181] mem := by
    refine G_iast (mem2 := (up2 mem 181 s1 (if s0 = 0 then (mem 181 98) else (60 * ((mem 177 a3) + 1))))) dX12_goesRound_145 (by decide) sh_181 (by decide) (q3).1 (q3).2 rfl ?_
    refine G_aload_n dX12_goesRound_146 rfl ?_
    refine G_iload_n dX12_goesRound_147 rfl ?_
    refine cb_X12_goesRound_148 (ic_X12_thinksAsIs (a := (mem 179 1)) (b := (mem 173 a3)) ⟨(q4).1, (q4).2⟩ (by simp [up2, upr]) (by simp [up2, upr]) ?_)
    refine G_aload_n dX12_goesRound_151 rfl ?_
    refine G_aload_n dX12_goesRound_152 rfl ?_
    refine G_getR (t := 181) dX12_goesRound_153 fl_12_45 (by decide) sh_169 rr_169_15 ?_
    refine G_iload_n dX12_goesRound_156 rfl ?_
    exact k1
  refine G_if_eq (tgt := 138) dX12_goesRound_121 (by decide) (w1) (fun c1 => ?_) (fun c1 => ?_)
  · -- s0 = 0
    refine G_aload_n dX12_goesRound_138 rfl ?_
    refine G_getR (t := 181) dX12_goesRound_139 fl_12_45 (by decide) sh_169 rr_169_15 ?_
    refine G_bipush (z := 98) dX12_goesRound_142 rfl ?_
    refine G_iald (z := (mem 181 98)) dX12_goesRound_144 (by decide) sh_181 (by decide) (by decide) (by decide) rfl ?_
    have qj1 := j1
    simp only [if_pos c1] at qj1
    exact qj1
  · -- ¬ s0 = 0
    refine G_bipush (z := 60) dX12_goesRound_124 rfl ?_
    refine G_aload_n dX12_goesRound_126 rfl ?_
    refine G_getR (t := 177) dX12_goesRound_127 fl_12_33 (by decide) sh_169 rr_169_11 ?_
    refine G_iload_n dX12_goesRound_130 rfl ?_
    refine G_iald (z := (mem 177 a3)) dX12_goesRound_131 (by decide) sh_177 (by decide) (q2 c1).1 (q2 c1).2 rfl ?_
    refine G_iconst (z := 1) dX12_goesRound_132 rfl ?_
    refine G_iadd dX12_goesRound_133 ?_
    refine G_imul dX12_goesRound_134 ?_
    refine G_goto (tgt := 145) dX12_goesRound_135 (by decide) ?_
    have qj1 := j1
    simp only [if_neg c1] at qj1
    exact qj1
set_option maxRecDepth 20000 in
set_option maxHeartbeats 8000000 in
theorem sg_X12_goesRound_160 {E : Nat × (Nat → Int32)} {P : Option Value → Mem → Prop} {mem : Mem} {a1 : Int} {a2 : Int} {a3 : Int} {s0 : Int}
    (k1 : GM E (m_X12_goesRound 8) P 185 [.ref 169, vi a1, vi a2, vi a3] [vi (mem 179 0), vi (mem 169 39), vi a3, .ref 181, .ref 169, vi (mem 181 98), vi 98, .ref 181] mem) :
    GM E (m_X12_goesRound 8) P 160 [.ref 169, vi a1, vi a2, vi a3] [vi s0] mem := by
  refine G_pop dX12_goesRound_160 rfl ?_
  refine G_aload_n dX12_goesRound_161 rfl ?_
  refine G_getR (t := 181) dX12_goesRound_162 fl_12_45 (by decide) sh_169 rr_169_15 ?_
  refine G_bipush (z := 98) dX12_goesRound_165 rfl ?_
  refine G_dup2 dX12_goesRound_167 rfl rfl ?_
  refine G_iald (z := (mem 181 98)) dX12_goesRound_168 (by decide) sh_181 (by decide) (by decide) (by decide) rfl ?_
  refine G_aload_n dX12_goesRound_169 rfl ?_
  refine G_aload_n dX12_goesRound_170 rfl ?_
  refine G_getR (t := 181) dX12_goesRound_171 fl_12_45 (by decide) sh_169 rr_169_15 ?_
  refine G_iload_n dX12_goesRound_174 rfl ?_
  refine G_aload_n dX12_goesRound_175 rfl ?_
  refine G_getI (z := (mem 169 39)) dX12_goesRound_176 fl_12_314 (by decide) sh_169 rfl ?_
  refine G_aload_n dX12_goesRound_179 rfl ?_
  refine G_getR (t := 179) dX12_goesRound_180 fl_12_39 (by decide) sh_169 rr_169_13 ?_
  refine G_iconst (z := 0) dX12_goesRound_183 rfl ?_
  refine G_iald (z := (mem 179 0)) dX12_goesRound_184 (by decide) sh_179 (by decide) (by decide) (by decide) rfl ?_
  exact k1
set_option maxRecDepth 20000 in
set_option maxHeartbeats 8000000 in
theorem sg_X12_goesRound_188 {E : Nat × (Nat → Int32)} {P : Option Value → Mem → Prop} {mem : Mem} {a1 : Int} {a2 : Int} {a3 : Int} {s0 : Int} {s1 : Int} {s2 : Int} (q1 : 0 ≤ s2 ∧ s2 < 99)
    (k1 : GM E (m_X12_goesRound 8) P 15 [.ref 169, vi a1, vi (a2 + 1), un] [] (up2 mem 181 s2 (s1 + s0))) :
    GM E (m_X12_goesRound 8) P 188 [.ref 169, vi a1, vi a2, vi a3] [vi s0, vi s1, vi s2, .ref 181] mem := by
  refine G_iadd dX12_goesRound_188 ?_
  refine G_iast (mem2 := (up2 mem 181 s2 (s1 + s0))) dX12_goesRound_189 (by decide) sh_181 (by decide) (q1).1 (q1).2 rfl ?_
  refine G_iinc (z := (a2 + 1)) dX12_goesRound_190 rfl rfl (by decide : 2 < 4) rfl ?_
  refine G_goto (tgt := 15) dX12_goesRound_193 (by decide) ?_
  refine G_weak (lv2 := [.ref 169, vi a1, vi (a2 + 1), un]) ⟨Or.inr rfl, Or.inr rfl, Or.inr rfl, Or.inl rfl, trivial⟩ ?_
  exact k1
set_option maxRecDepth 20000 in
set_option maxHeartbeats 8000000 in
theorem sg_X12_goesRound_204 {E : Nat × (Nat → Int32)} {P : Option Value → Mem → Prop} {mem : Mem} {a1 : Int} {a2 : Int} {s0 : Int} (w1 : -2147483648 ≤ s0 ∧ s0 < 2147483648)
    (k1 : 0 ≤ s0 → P (some (vi ((mem 181 98) - a1))) (up2 mem 169 50 ((mem 169 50) + 1)))
    (k2 : ¬ 0 ≤ s0 → P (some (vi (-200))) mem) :
    GM E (m_X12_goesRound 8) P 204 [.ref 169, vi a1, vi a2, un] [vi s0] mem := by
  refine G_if_ge (tgt := 211) dX12_goesRound_204 (by decide) (w1) (fun c1 => ?_) (fun c1 => ?_)
  · -- 0 ≤ s0
    refine G_aload_n dX12_goesRound_211 rfl ?_
    refine G_dup dX12_goesRound_212 rfl ?_
    refine G_getI (z := (mem 169 50)) dX12_goesRound_213 fl_12_416 (by decide) sh_169 rfl ?_
    refine G_iconst (z := 1) dX12_goesRound_216 rfl ?_
    refine G_iadd dX12_goesRound_217 ?_
    refine G_putI (mem2 := (up2 mem 169 50 ((mem 169 50) + 1))) dX12_goesRound_218 fp_12_416 (by decide) sh_169 rfl ?_
    refine G_aload_n dX12_goesRound_221 rfl ?_
    refine G_getR (t := 181) dX12_goesRound_222 fl_12_45 (by decide) sh_169 rr_169_15 ?_
    refine G_bipush (z := 98) dX12_goesRound_225 rfl ?_
    refine G_iald (z := (mem 181 98)) dX12_goesRound_227 (by decide) sh_181 (by decide) (by decide) (by decide) (by simp [up2, upr]) ?_
    refine G_iload_n dX12_goesRound_228 rfl ?_
    refine G_isub dX12_goesRound_229 ?_
    exact G_iret dX12_goesRound_230 rfl (Nat.zero_le _) (Nat.zero_le _) (Nat.le_refl _) ⟨rfl, k1 c1⟩
  · -- ¬ 0 ≤ s0
    refine G_sipush (z := (-200)) dX12_goesRound_207 rfl ?_
    exact G_iret dX12_goesRound_210 rfl (Nat.zero_le _) (Nat.zero_le _) (Nat.le_refl _) ⟨rfl, k2 c1⟩
set_option maxRecDepth 20000 in
set_option maxHeartbeats 8000000 in
theorem sg_X12_heavyOf_0 {E : Nat × (Nat → Int32)} {P : Option Value → Mem → Prop} {mem : Mem} {a1 : Int}
    (k1 : GM E (m_X12_heavyOf 2) P 4 [.ref 169, vi a1, vi 0, vi 0, un] [] mem) :
    GM E (m_X12_heavyOf 2) P 0 [.ref 169, vi a1, un, un, un] [] mem := by
  refine G_iconst (z := 0) dX12_heavyOf_0 rfl ?_
  refine G_istore_n dX12_heavyOf_1 rfl (by decide : 2 < 5) rfl ?_
  refine G_iconst (z := 0) dX12_heavyOf_2 rfl ?_
  refine G_istore_n dX12_heavyOf_3 rfl (by decide : 3 < 5) rfl ?_
  exact k1
set_option maxRecDepth 20000 in
set_option maxHeartbeats 8000000 in
theorem sg_X12_heavyOf_4 {E : Nat × (Nat → Int32)} {P : Option Value → Mem → Prop} {mem : Mem} {a1 : Int} {a2 : Int} {a3 : Int} (w1 : -2147483648 ≤ a3 ∧ a3 < 2147483648) (w2 : -2147483648 ≤ (mem 169 3) ∧ (mem 169 3) < 2147483648)
    (k1 : (mem 169 3) ≤ a3 → P (some (vi a2)) mem)
    (k2 : ¬ (mem 169 3) ≤ a3 → GM E (m_X12_heavyOf 2) P 18 [.ref 169, vi a1, vi a2, vi a3, vi (16 * a3)] [] mem) :
    GM E (m_X12_heavyOf 2) P 4 [.ref 169, vi a1, vi a2, vi a3, un] [] mem := by
  refine G_iload_n dX12_heavyOf_4 rfl ?_
  refine G_aload_n dX12_heavyOf_5 rfl ?_
  refine G_getI (z := (mem 169 3)) dX12_heavyOf_6 fl_12_137 (by decide) sh_169 rfl ?_
  refine G_icmp_ge (tgt := 62) dX12_heavyOf_9 (by decide) (w1) (w2) (fun c1 => ?_) (fun c1 => ?_)
  · -- (mem 169 3) ≤ a3
    refine G_iload_n dX12_heavyOf_62 rfl ?_
    exact G_iret dX12_heavyOf_63 rfl (Nat.zero_le _) (Nat.zero_le _) (Nat.le_refl _) ⟨rfl, k1 c1⟩
  · -- ¬ (mem 169 3) ≤ a3
    refine G_bipush (z := 16) dX12_heavyOf_12 rfl ?_
    refine G_iload_n dX12_heavyOf_14 rfl ?_
    refine G_imul dX12_heavyOf_15 ?_
    refine G_istore dX12_heavyOf_16 (by decide : 4 < 5) rfl ?_
    exact k2 c1
set_option maxRecDepth 20000 in
set_option maxHeartbeats 8000000 in
theorem sg_X12_heavyOf_18 {E : Nat × (Nat → Int32)} {P : Option Value → Mem → Prop} {mem : Mem} {a1 : Int} {a2 : Int} {a3 : Int} {a4 : Int} (w1 : -2147483648 ≤ a4 ∧ a4 < 2147483648) (w2 : -2147483648 ≤ (16 * (a3 + 1)) ∧ (16 * (a3 + 1)) < 2147483648) (q3 : ¬ (16 * (a3 + 1)) ≤ a4 → (bandI (shrI a1 a3) 1) = 1 → 0 ≤ a4 ∧ a4 < 96)
    (k1 : (16 * (a3 + 1)) ≤ a4 → GM E (m_X12_heavyOf 2) P 4 [.ref 169, vi a1, vi a2, vi (a3 + 1), un] [] mem)
    (k2 : ¬ (16 * (a3 + 1)) ≤ a4 → (bandI (shrI a1 a3) 1) = 1 → GM E (m_X12_heavyOf 2) P 18 [.ref 169, vi a1, vi (a2 + (divI (((mem 178 a4) * (mem 179 3)) * (10 + (mem 179 2))) 10)), vi a3, vi (a4 + 1)] [] mem)
    (k3 : ¬ (16 * (a3 + 1)) ≤ a4 → ¬ (bandI (shrI a1 a3) 1) = 1 → GM E (m_X12_heavyOf 2) P 18 [.ref 169, vi a1, vi (a2 + 0), vi a3, vi (a4 + 1)] [] mem) :
    GM E (m_X12_heavyOf 2) P 18 [.ref 169, vi a1, vi a2, vi a3, vi a4] [] mem := by
  refine G_iload dX12_heavyOf_18 rfl ?_
  refine G_bipush (z := 16) dX12_heavyOf_20 rfl ?_
  refine G_iload_n dX12_heavyOf_22 rfl ?_
  refine G_iconst (z := 1) dX12_heavyOf_23 rfl ?_
  refine G_iadd dX12_heavyOf_24 ?_
  refine G_imul dX12_heavyOf_25 ?_
  refine G_icmp_ge (tgt := 56) dX12_heavyOf_26 (by decide) (w1) (w2) (fun c1 => ?_) (fun c1 => ?_)
  · -- (16 * (a3 + 1)) ≤ a4
    refine G_iinc (z := (a3 + 1)) dX12_heavyOf_56 rfl rfl (by decide : 3 < 5) rfl ?_
    refine G_goto (tgt := 4) dX12_heavyOf_59 (by decide) ?_
    refine G_weak (lv2 := [.ref 169, vi a1, vi a2, vi (a3 + 1), un]) ⟨Or.inr rfl, Or.inr rfl, Or.inr rfl, Or.inr rfl, Or.inl rfl, trivial⟩ ?_
    exact k1 c1
  · -- ¬ (16 * (a3 + 1)) ≤ a4
    refine G_iload_n dX12_heavyOf_29 rfl ?_
    refine G_iload_n dX12_heavyOf_30 rfl ?_
    refine G_iload_n dX12_heavyOf_31 rfl ?_
    refine cb_X12_heavyOf_32 (ic_X12_has (fun c2 => ?_) (fun c3 => ?_))
    · -- (bandI (shrI a1 a3) 1) = 1
      refine G_if_eq (tgt := 47) dX12_heavyOf_35 (by decide) (by decide) (fun h => absurd h (by decide)) (fun _ => ?_)
      refine G_aload_n dX12_heavyOf_38 rfl ?_
      refine G_iload dX12_heavyOf_39 rfl ?_
      refine cb_X12_heavyOf_41 (ic_X12_heavy (w := (mem 178 a4)) (z := (mem 179 3)) (r := (mem 179 2)) ⟨(q3 c1 c2).1, (q3 c1 c2).2⟩ rfl rfl rfl ?_)
      refine G_goto (tgt := 48) dX12_heavyOf_44 (by decide) ?_
      refine G_iadd dX12_heavyOf_48 ?_
      refine G_istore_n dX12_heavyOf_49 rfl (by decide : 2 < 5) rfl ?_
      refine G_iinc (z := (a4 + 1)) dX12_heavyOf_50 rfl rfl (by decide : 4 < 5) rfl ?_
      refine G_goto (tgt := 18) dX12_heavyOf_53 (by decide) ?_
      exact k2 c1 c2
    · -- ¬ (bandI (shrI a1 a3) 1) = 1
      refine G_if_eq (tgt := 47) dX12_heavyOf_35 (by decide) (by decide) (fun _ => ?_) (fun h => absurd h (by decide))
      refine G_iconst (z := 0) dX12_heavyOf_47 rfl ?_
      refine G_iadd dX12_heavyOf_48 ?_
      refine G_istore_n dX12_heavyOf_49 rfl (by decide : 2 < 5) rfl ?_
      refine G_iinc (z := (a4 + 1)) dX12_heavyOf_50 rfl rfl (by decide : 4 < 5) rfl ?_
      refine G_goto (tgt := 18) dX12_heavyOf_53 (by decide) ?_
      exact k3 c1 c3
set_option maxRecDepth 20000 in
set_option maxHeartbeats 8000000 in
theorem sg_X12_hill_0 {E : Nat × (Nat → Int32)} {P : Option Value → Mem → Prop} {mem : Mem} {a1 : Int} (w1 : 0 ≤ (mem 169 3) ∧ (mem 169 3) < 2147483648) (w2 : -2147483648 ≤ a1 ∧ a1 < 2147483648)
    (k1 : 0 ≤ a1 ∧ a1 < (mem 169 3) → GM E (m_X12_hill 9) P 20 [.ref 169, vi a1, un] [vi a1, .ref 169] (up2 mem 169 0 0))
    (k2 : ¬ (0 ≤ a1 ∧ a1 < (mem 169 3)) → P (some (vi 0)) (up2 (up2 mem 169 0 0) 169 0 1)) :
    GM E (m_X12_hill 9) P 0 [.ref 169, vi a1, un] [] mem := by
  refine G_aload_n dX12_hill_0 rfl ?_
  refine G_iconst (z := 0) dX12_hill_1 rfl ?_
  refine G_putI (mem2 := (up2 mem 169 0 0)) dX12_hill_2 fp_12_126 (by decide) sh_169 rfl ?_
  refine G_aload_n dX12_hill_5 rfl ?_
  refine G_iload_n dX12_hill_6 rfl ?_
  refine cb_X12_hill_7 (ic_X12_isStreet (z := (mem 169 3)) (by simp [up2, upr]) (w2) (w1) (fun c1 => ?_) (fun c2 => ?_))
  · -- 0 ≤ a1 ∧ a1 < (mem 169 3)
    refine G_if_ne (tgt := 18) dX12_hill_10 (by decide) (by decide) (fun _ => ?_) (fun h => absurd h (by decide))
    refine G_aload_n dX12_hill_18 rfl ?_
    refine G_iload_n dX12_hill_19 rfl ?_
    exact k1 c1
  · -- ¬ (0 ≤ a1 ∧ a1 < (mem 169 3))
    refine G_if_ne (tgt := 18) dX12_hill_10 (by decide) (by decide) (fun h => absurd h (by decide)) (fun _ => ?_)
    refine G_aload_n dX12_hill_13 rfl ?_
    refine cb_X12_hill_14 (ic_X12_refuse ?_)
    exact G_iret dX12_hill_17 rfl (Nat.zero_le _) (Nat.zero_le _) (Nat.le_refl _) ⟨rfl, k2 c2⟩
set_option maxRecDepth 20000 in
set_option maxHeartbeats 8000000 in
theorem sg_X12_hill_23 {E : Nat × (Nat → Int32)} {P : Option Value → Mem → Prop} {mem : Mem} {a1 : Int} {s0 : Int}
    (k1 : GM E (m_X12_hill 9) P 36 [.ref 169, vi a1, vi s0] [vi a1, .ref 180, .ref 169, vi s0] (up2 mem 169 31 (-1))) :
    GM E (m_X12_hill 9) P 23 [.ref 169, vi a1, un] [vi s0] mem := by
  refine G_istore_n dX12_hill_23 rfl (by decide : 2 < 3) rfl ?_
  refine G_aload_n dX12_hill_24 rfl ?_
  refine G_iconst (z := (-1)) dX12_hill_25 rfl ?_
  refine G_putI (mem2 := (up2 mem 169 31 (-1))) dX12_hill_26 fp_12_266 (by decide) sh_169 rfl ?_
  refine G_iload_n dX12_hill_29 rfl ?_
  refine G_aload_n dX12_hill_30 rfl ?_
  refine G_aload_n dX12_hill_31 rfl ?_
  refine G_getR (t := 180) dX12_hill_32 fl_12_42 (by decide) sh_169 rr_169_14 ?_
  refine G_iload_n dX12_hill_35 rfl ?_
  exact k1
set_option maxRecDepth 20000 in
set_option maxHeartbeats 8000000 in
theorem sg_X12_hill_39 {E : Nat × (Nat → Int32)} {P : Option Value → Mem → Prop} {mem : Mem} {a1 : Int} {a2 : Int} {s0 : Int} {s1 : Int}
    (k1 : P (some (vi (s1 - s0))) mem) :
    GM E (m_X12_hill 9) P 39 [.ref 169, vi a1, vi a2] [vi s0, vi s1] mem := by
  refine G_isub dX12_hill_39 ?_
  exact G_iret dX12_hill_40 rfl (Nat.zero_le _) (Nat.zero_le _) (Nat.le_refl _) ⟨rfl, k1⟩
set_option maxRecDepth 20000 in
set_option maxHeartbeats 8000000 in
theorem sg_X12_holiday_0 {E : Nat × (Nat → Int32)} {P : Option Value → Mem → Prop} {mem : Mem} {a1 : Int} {a2 : Int} (w1 : -2147483648 ≤ a1 ∧ a1 < 2147483648) (w2 : -9223372036854775808 ≤ a1 ∧ a1 < 9223372036854775808) (w3 : -2147483648 ≤ a2 ∧ a2 < 2147483648) (w4 : -9223372036854775808 ≤ a2 ∧ a2 < 9223372036854775808)
    (k1 : 0 ≤ a1 ∧ a1 ≤ 6 → 0 ≤ a2 ∧ a2 ≤ 99999 → GM E (m_X12_holiday 201) P 38 [.ref 169, vi a1, vi a2, vi 0] [] (up2 (up2 mem 169 0 0) 169 59 0))
    (k2 : 0 ≤ a1 ∧ a1 ≤ 6 → ¬ (0 ≤ a2 ∧ a2 ≤ 99999) → P (some (vi (-1))) (up2 mem 169 0 0))
    (k3 : ¬ (0 ≤ a1 ∧ a1 ≤ 6) → P (some (vi (-1))) (up2 mem 169 0 0)) :
    GM E (m_X12_holiday 201) P 0 [.ref 169, vi a1, vi a2, un] [] mem := by
  refine G_aload_n dX12_holiday_0 rfl ?_
  refine G_iconst (z := 0) dX12_holiday_1 rfl ?_
  refine G_putI (mem2 := (up2 mem 169 0 0)) dX12_holiday_2 fp_12_126 (by decide) sh_169 rfl ?_
  refine G_iload_n dX12_holiday_5 rfl ?_
  refine G_i2l dX12_holiday_6 (w1) ?_
  refine G_lconst (z := 0) dX12_holiday_7 rfl ?_
  refine G_ldc2 (z := 6) dX12_holiday_8 kc_12_338 ?_
  refine cb_X12_holiday_11 (ic_X12_in (w2) (by decide) (by decide) (fun c1 => ?_) (fun c2 => ?_))
  · -- 0 ≤ a1 ∧ a1 ≤ 6
    refine G_if_eq (tgt := 29) dX12_holiday_14 (by decide) (by decide) (fun h => absurd h (by decide)) (fun _ => ?_)
    refine G_iload_n dX12_holiday_17 rfl ?_
    refine G_i2l dX12_holiday_18 (w3) ?_
    refine G_lconst (z := 0) dX12_holiday_19 rfl ?_
    refine G_ldc2 (z := 99999) dX12_holiday_20 kc_12_449 ?_
    refine cb_X12_holiday_23 (ic_X12_in (w4) (by decide) (by decide) (fun c3 => ?_) (fun c4 => ?_))
    · -- 0 ≤ a2 ∧ a2 ≤ 99999
      refine G_if_ne (tgt := 31) dX12_holiday_26 (by decide) (by decide) (fun _ => ?_) (fun h => absurd h (by decide))
      refine G_aload_n dX12_holiday_31 rfl ?_
      refine G_iconst (z := 0) dX12_holiday_32 rfl ?_
      refine G_putI (mem2 := (up2 (up2 mem 169 0 0) 169 59 0)) dX12_holiday_33 fp_12_457 (by decide) sh_169 rfl ?_
      refine G_iconst (z := 0) dX12_holiday_36 rfl ?_
      refine G_istore_n dX12_holiday_37 rfl (by decide : 3 < 4) rfl ?_
      exact k1 c1 c3
    · -- ¬ (0 ≤ a2 ∧ a2 ≤ 99999)
      refine G_if_ne (tgt := 31) dX12_holiday_26 (by decide) (by decide) (fun h => absurd h (by decide)) (fun _ => ?_)
      refine G_iconst (z := (-1)) dX12_holiday_29 rfl ?_
      exact G_iret dX12_holiday_30 rfl (Nat.zero_le _) (Nat.zero_le _) (Nat.le_refl _) ⟨rfl, k2 c1 c4⟩
  · -- ¬ (0 ≤ a1 ∧ a1 ≤ 6)
    refine G_if_eq (tgt := 29) dX12_holiday_14 (by decide) (by decide) (fun _ => ?_) (fun h => absurd h (by decide))
    refine G_iconst (z := (-1)) dX12_holiday_29 rfl ?_
    exact G_iret dX12_holiday_30 rfl (Nat.zero_le _) (Nat.zero_le _) (Nat.le_refl _) ⟨rfl, k3 c2⟩
set_option maxRecDepth 20000 in
set_option maxHeartbeats 8000000 in
theorem sg_X12_holiday_38 {E : Nat × (Nat → Int32)} {P : Option Value → Mem → Prop} {mem : Mem} {a1 : Int} {a2 : Int} {a3 : Int} (w1 : -2147483648 ≤ a3 ∧ a3 < 2147483648) (w2 : -2147483648 ≤ (mem 169 3) ∧ (mem 169 3) < 2147483648) (w3 : (mem 169 3) ≤ a3 → -2147483648 ≤ (mem 169 59) ∧ (mem 169 59) < 2147483648) (q4 : ¬ (mem 169 3) ≤ a3 → 0 ≤ a3 ∧ a3 < 6) (w5 : ¬ (mem 169 3) ≤ a3 → -2147483648 ≤ (mem 175 a3) ∧ (mem 175 a3) < 2147483648) (w6 : -2147483648 ≤ a1 ∧ a1 < 2147483648)
    (k1 : (mem 169 3) ≤ a3 → (mem 169 59) ≠ 0 → GM E (m_X12_holiday 201) P 101 [.ref 169, vi a1, vi a2, vi a3] [.ref 169] mem)
    (k2 : (mem 169 3) ≤ a3 → (mem 169 59) = 0 → P (some (vi 0)) (up2 mem 169 1 0))
    (k3 : ¬ (mem 169 3) ≤ a3 → (mem 175 a3) ≠ a1 → GM E (m_X12_holiday 201) P 38 [.ref 169, vi a1, vi a2, vi (a3 + 1)] [] mem)
    (k4 : ¬ (mem 169 3) ≤ a3 → (mem 175 a3) = a1 → GM E (m_X12_holiday 201) P 66 [.ref 169, vi a1, vi a2, vi a3] [vi a3, .ref 169, vi (mem 169 59), .ref 200] mem) :
    GM E (m_X12_holiday 201) P 38 [.ref 169, vi a1, vi a2, vi a3] [] mem := by
  refine G_iload_n dX12_holiday_38 rfl ?_
  refine G_aload_n dX12_holiday_39 rfl ?_
  refine G_getI (z := (mem 169 3)) dX12_holiday_40 fl_12_137 (by decide) sh_169 rfl ?_
  refine G_icmp_ge (tgt := 86) dX12_holiday_43 (by decide) (w1) (w2) (fun c1 => ?_) (fun c1 => ?_)
  · -- (mem 169 3) ≤ a3
    refine G_aload_n dX12_holiday_86 rfl ?_
    refine G_getI (z := (mem 169 59)) dX12_holiday_87 fl_12_457 (by decide) sh_169 rfl ?_
    refine G_if_ne (tgt := 100) dX12_holiday_90 (by decide) (w3 c1) (fun c2 => ?_) (fun c2 => ?_)
    · -- (mem 169 59) ≠ 0
      refine G_aload_n dX12_holiday_100 rfl ?_
      exact k1 c1 c2
    · -- (mem 169 59) = 0
      refine G_aload_n dX12_holiday_93 rfl ?_
      refine G_iconst (z := 0) dX12_holiday_94 rfl ?_
      refine G_putI (mem2 := (up2 mem 169 1 0)) dX12_holiday_95 fp_12_134 (by decide) sh_169 rfl ?_
      refine G_iconst (z := 0) dX12_holiday_98 rfl ?_
      exact G_iret dX12_holiday_99 rfl (Nat.zero_le _) (Nat.zero_le _) (Nat.le_refl _) ⟨rfl, k2 c1 c2⟩
  · -- ¬ (mem 169 3) ≤ a3
    refine G_aload_n dX12_holiday_46 rfl ?_
    refine G_getR (t := 175) dX12_holiday_47 fl_12_27 (by decide) sh_169 rr_169_9 ?_
    refine G_iload_n dX12_holiday_50 rfl ?_
    refine G_iald (z := (mem 175 a3)) dX12_holiday_51 (by decide) sh_175 (by decide) (q4 c1).1 (q4 c1).2 rfl ?_
    refine G_iload_n dX12_holiday_52 rfl ?_
    refine G_icmp_ne (tgt := 80) dX12_holiday_53 (by decide) (w5 c1) (w6) (fun c3 => ?_) (fun c3 => ?_)
    · -- (mem 175 a3) ≠ a1
      refine G_iinc (z := (a3 + 1)) dX12_holiday_80 rfl rfl (by decide : 3 < 4) rfl ?_
      refine G_goto (tgt := 38) dX12_holiday_83 (by decide) ?_
      exact k3 c1 c3
    · -- (mem 175 a3) = a1
      refine G_aload_n dX12_holiday_56 rfl ?_
      refine G_getR (t := 200) dX12_holiday_57 fl_12_102 (by decide) sh_169 rr_169_58 ?_
      refine G_aload_n dX12_holiday_60 rfl ?_
      refine G_getI (z := (mem 169 59)) dX12_holiday_61 fl_12_457 (by decide) sh_169 rfl ?_
      refine G_aload_n dX12_holiday_64 rfl ?_
      refine G_iload_n dX12_holiday_65 rfl ?_
      exact k4 c1 c3
set_option maxRecDepth 20000 in
set_option maxHeartbeats 8000000 in
theorem sg_X12_holiday_69 {E : Nat × (Nat → Int32)} {P : Option Value → Mem → Prop} {mem : Mem} {a1 : Int} {a2 : Int} {a3 : Int} {s0 : Int} {s1 : Int} (q1 : 0 ≤ s1 ∧ s1 < 6)
    (k1 : GM E (m_X12_holiday 201) P 38 [.ref 169, vi a1, vi a2, vi (a3 + 1)] [] (up2 (up2 mem 200 s1 s0) 169 59 ((mem 169 59) + 1))) :
    GM E (m_X12_holiday 201) P 69 [.ref 169, vi a1, vi a2, vi a3] [vi s0, vi s1, .ref 200] mem := by
  refine G_iast (mem2 := (up2 mem 200 s1 s0)) dX12_holiday_69 (by decide) sh_200 (by decide) (q1).1 (q1).2 rfl ?_
  refine G_aload_n dX12_holiday_70 rfl ?_
  refine G_dup dX12_holiday_71 rfl ?_
  refine G_getI (z := (mem 169 59)) dX12_holiday_72 fl_12_457 (by decide) sh_169 (by simp [up2, upr]) ?_
  refine G_iconst (z := 1) dX12_holiday_75 rfl ?_
  refine G_iadd dX12_holiday_76 ?_
  refine G_putI (mem2 := (up2 (up2 mem 200 s1 s0) 169 59 ((mem 169 59) + 1))) dX12_holiday_77 fp_12_457 (by decide) sh_169 rfl ?_
  refine G_iinc (z := (a3 + 1)) dX12_holiday_80 rfl rfl (by decide : 3 < 4) rfl ?_
  refine G_goto (tgt := 38) dX12_holiday_83 (by decide) ?_
  exact k1
set_option maxRecDepth 20000 in
set_option maxHeartbeats 8000000 in
theorem sg_X12_holiday_104 {E : Nat × (Nat → Int32)} {P : Option Value → Mem → Prop} {mem : Mem} {a1 : Int} {a2 : Int} {a3 : Int}
    (k1 : GM E (m_X12_holiday 201) P 121 [.ref 169, vi a1, vi a2, vi a3] [vi 0, vi 0, vi a2, vi a1, vi 0, .ref 169] (up2 (up2 mem 169 60 7) 169 61 0)) :
    GM E (m_X12_holiday 201) P 104 [.ref 169, vi a1, vi a2, vi a3] [] mem := by
  refine G_aload_n dX12_holiday_104 rfl ?_
  refine G_bipush (z := 7) dX12_holiday_105 rfl ?_
  refine G_putI (mem2 := (up2 mem 169 60 7)) dX12_holiday_107 fp_12_454 (by decide) sh_169 rfl ?_
  refine G_aload_n dX12_holiday_110 rfl ?_
  refine G_iconst (z := 0) dX12_holiday_111 rfl ?_
  refine G_putI (mem2 := (up2 (up2 mem 169 60 7) 169 61 0)) dX12_holiday_112 fp_12_460 (by decide) sh_169 rfl ?_
  refine G_aload_n dX12_holiday_115 rfl ?_
  refine G_iconst (z := 0) dX12_holiday_116 rfl ?_
  refine G_iload_n dX12_holiday_117 rfl ?_
  refine G_iload_n dX12_holiday_118 rfl ?_
  refine G_iconst (z := 0) dX12_holiday_119 rfl ?_
  refine G_iconst (z := 0) dX12_holiday_120 rfl ?_
  exact k1
set_option maxRecDepth 20000 in
set_option maxHeartbeats 8000000 in
theorem sg_X12_holiday_124 {E : Nat × (Nat → Int32)} {P : Option Value → Mem → Prop} {mem : Mem} {a1 : Int} {a2 : Int} {a3 : Int} (w1 : -2147483648 ≤ (mem 169 60) ∧ (mem 169 60) < 2147483648)
    (k1 : (mem 169 60) ≤ 6 → GM E (m_X12_holiday 201) P 143 [.ref 169, vi a1, vi a2, vi 0] [] (up2 mem 169 1 0))
    (k2 : ¬ (mem 169 60) ≤ 6 → P (some (vi (-2))) mem) :
    GM E (m_X12_holiday 201) P 124 [.ref 169, vi a1, vi a2, vi a3] [] mem := by
  refine G_aload_n dX12_holiday_124 rfl ?_
  refine G_getI (z := (mem 169 60)) dX12_holiday_125 fl_12_454 (by decide) sh_169 rfl ?_
  refine G_bipush (z := 6) dX12_holiday_128 rfl ?_
  refine G_icmp_le (tgt := 136) dX12_holiday_130 (by decide) (w1) (by decide) (fun c1 => ?_) (fun c1 => ?_)
  · -- (mem 169 60) ≤ 6
    refine G_aload_n dX12_holiday_136 rfl ?_
    refine G_iconst (z := 0) dX12_holiday_137 rfl ?_
    refine G_putI (mem2 := (up2 mem 169 1 0)) dX12_holiday_138 fp_12_134 (by decide) sh_169 rfl ?_
    refine G_iconst (z := 0) dX12_holiday_141 rfl ?_
    refine G_istore_n dX12_holiday_142 rfl (by decide : 3 < 4) rfl ?_
    exact k1 c1
  · -- ¬ (mem 169 60) ≤ 6
    refine G_bipush (z := (-2)) dX12_holiday_133 rfl ?_
    exact G_iret dX12_holiday_135 rfl (Nat.zero_le _) (Nat.zero_le _) (Nat.le_refl _) ⟨rfl, k2 c1⟩
set_option maxRecDepth 20000 in
set_option maxHeartbeats 8000000 in
theorem sg_X12_holiday_143 {E : Nat × (Nat → Int32)} {P : Option Value → Mem → Prop} {mem : Mem} {a1 : Int} {a2 : Int} {a3 : Int} (w1 : -2147483648 ≤ a3 ∧ a3 < 2147483648) (w2 : -2147483648 ≤ (mem 169 59) ∧ (mem 169 59) < 2147483648) (q3 : ¬ (mem 169 59) ≤ a3 → 0 ≤ a3 ∧ a3 < 6) (w4 : ¬ (mem 169 59) ≤ a3 → -2147483648 ≤ (mem 199 a3) ∧ (mem 199 a3) < 2147483648) (q5 : ¬ (mem 169 59) ≤ a3 → 0 ≤ (mem 169 1) ∧ (mem 169 1) < 24)
    (k1 : (mem 169 59) ≤ a3 → P (some (vi ((mem 169 60) - a1))) mem)
    (k2 : ¬ (mem 169 59) ≤ a3 → GM E (m_X12_holiday 201) P 143 [.ref 169, vi a1, vi a2, vi (a3 + 1)] [] (up2 (up2 mem 170 (mem 169 1) (mem 199 a3)) 169 1 ((mem 169 1) + 1))) :
    GM E (m_X12_holiday 201) P 143 [.ref 169, vi a1, vi a2, vi a3] [] mem := by
  refine G_iload_n dX12_holiday_143 rfl ?_
  refine G_aload_n dX12_holiday_144 rfl ?_
  refine G_getI (z := (mem 169 59)) dX12_holiday_145 fl_12_457 (by decide) sh_169 rfl ?_
  refine G_icmp_ge (tgt := 168) dX12_holiday_148 (by decide) (w1) (w2) (fun c1 => ?_) (fun c1 => ?_)
  · -- (mem 169 59) ≤ a3
    refine G_aload_n dX12_holiday_168 rfl ?_
    refine G_getI (z := (mem 169 60)) dX12_holiday_169 fl_12_454 (by decide) sh_169 rfl ?_
    refine G_iload_n dX12_holiday_172 rfl ?_
    refine G_isub dX12_holiday_173 ?_
    exact G_iret dX12_holiday_174 rfl (Nat.zero_le _) (Nat.zero_le _) (Nat.le_refl _) ⟨rfl, k1 c1⟩
  · -- ¬ (mem 169 59) ≤ a3
    refine G_aload_n dX12_holiday_151 rfl ?_
    refine G_aload_n dX12_holiday_152 rfl ?_
    refine G_getR (t := 199) dX12_holiday_153 fl_12_99 (by decide) sh_169 rr_169_57 ?_
    refine G_iload_n dX12_holiday_156 rfl ?_
    refine G_iald (z := (mem 199 a3)) dX12_holiday_157 (by decide) sh_199 (by decide) (q3 c1).1 (q3 c1).2 rfl ?_
    refine G_i2l dX12_holiday_158 (w4 c1) ?_
    refine cb_X12_holiday_159 (ic_X12_enters (z := (mem 169 1)) (z2 := ((mem 169 1) + 1)) rfl (q5 c1) rfl ?_)
    refine G_iinc (z := (a3 + 1)) dX12_holiday_162 rfl rfl (by decide : 3 < 4) rfl ?_
    refine G_goto (tgt := 143) dX12_holiday_165 (by decide) ?_
    exact k2 c1
set_option maxRecDepth 20000 in
set_option maxHeartbeats 8000000 in
theorem sg_X12_isBarred_0 {E : Nat × (Nat → Int32)} {P : Option Value → Mem → Prop} {mem : Mem} {r1 : Nat} {a2 : Int} (hl1 : r1 < 209) (hs1 : SH[r1]? = some (.inr (0, 99))) (q1 : 0 ≤ a2 ∧ a2 < 6) (w2 : -2147483648 ≤ (mem 176 a2) ∧ (mem 176 a2) < 2147483648) (w3 : ¬ (mem 176 a2) < 0 → -2147483648 ≤ (mem 177 a2) ∧ (mem 177 a2) < 2147483648) (w4 : ¬ (mem 176 a2) < 0 → -9223372036854775808 ≤ (divI (mem r1 98) 60) ∧ (divI (mem r1 98) 60) < 9223372036854775808) (w5 : ¬ (mem 176 a2) < 0 → -9223372036854775808 ≤ (mem 176 a2) ∧ (mem 176 a2) < 9223372036854775808) (w6 : ¬ (mem 176 a2) < 0 → -9223372036854775808 ≤ (mem 177 a2) ∧ (mem 177 a2) < 9223372036854775808)
    (k1 : (mem 176 a2) < 0 → P (some (vi 0)) mem)
    (k2 : ¬ (mem 176 a2) < 0 → (mem 176 a2) ≤ (divI (mem r1 98) 60) ∧ (divI (mem r1 98) 60) ≤ (mem 177 a2) → P (some (vi 1)) mem)
    (k3 : ¬ (mem 176 a2) < 0 → ¬ ((mem 176 a2) ≤ (divI (mem r1 98) 60) ∧ (divI (mem r1 98) 60) ≤ (mem 177 a2)) → P (some (vi 0)) mem) :
    GM E (m_X12_isBarred 1) P 0 [.ref 169, .ref r1, vi a2] [] mem := by
  refine G_aload_n dX12_isBarred_0 rfl ?_
  refine G_getR (t := 176) dX12_isBarred_1 fl_12_30 (by decide) sh_169 rr_169_10 ?_
  refine G_iload_n dX12_isBarred_4 rfl ?_
  refine G_iald (z := (mem 176 a2)) dX12_isBarred_5 (by decide) sh_176 (by decide) (q1).1 (q1).2 rfl ?_
  refine G_if_lt (tgt := 41) dX12_isBarred_6 (by decide) (w2) (fun c1 => ?_) (fun c1 => ?_)
  · -- (mem 176 a2) < 0
    refine G_iconst (z := 0) dX12_isBarred_41 rfl ?_
    exact G_zret dX12_isBarred_42 rfl (nar_zb (by decide)) (Nat.zero_le _) (Nat.zero_le _) (Nat.le_refl _) ⟨rfl, k1 c1⟩
  · -- ¬ (mem 176 a2) < 0
    refine G_aload_n dX12_isBarred_9 rfl ?_
    refine G_bipush (z := 98) dX12_isBarred_10 rfl ?_
    refine G_iald (z := (mem r1 98)) dX12_isBarred_12 hl1 hs1 (by decide) (by decide) (by decide) rfl ?_
    refine G_bipush (z := 60) dX12_isBarred_13 rfl ?_
    refine G_idiv (z := (divI (mem r1 98) 60)) dX12_isBarred_15 (iI_ne0 (by decide) (by decide)) (iI_inv _) ?_
    refine G_i2l dX12_isBarred_16 (iI_rng _) ?_
    refine G_aload_n dX12_isBarred_17 rfl ?_
    refine G_getR (t := 176) dX12_isBarred_18 fl_12_30 (by decide) sh_169 rr_169_10 ?_
    refine G_iload_n dX12_isBarred_21 rfl ?_
    refine G_iald (z := (mem 176 a2)) dX12_isBarred_22 (by decide) sh_176 (by decide) (q1).1 (q1).2 rfl ?_
    refine G_i2l dX12_isBarred_23 (w2) ?_
    refine G_aload_n dX12_isBarred_24 rfl ?_
    refine G_getR (t := 177) dX12_isBarred_25 fl_12_33 (by decide) sh_169 rr_169_11 ?_
    refine G_iload_n dX12_isBarred_28 rfl ?_
    refine G_iald (z := (mem 177 a2)) dX12_isBarred_29 (by decide) sh_177 (by decide) (q1).1 (q1).2 rfl ?_
    refine G_i2l dX12_isBarred_30 (w3 c1) ?_
    refine cb_X12_isBarred_31 (ic_X12_in (w4 c1) (w5 c1) (w6 c1) (fun c2 => ?_) (fun c3 => ?_))
    · -- (mem 176 a2) ≤ (divI (mem r1 98) 60) ∧ (divI (mem r1 98) 60) ≤ (mem 177 a2)
      refine G_if_eq (tgt := 41) dX12_isBarred_34 (by decide) (by decide) (fun h => absurd h (by decide)) (fun _ => ?_)
      refine G_iconst (z := 1) dX12_isBarred_37 rfl ?_
      refine G_goto (tgt := 42) dX12_isBarred_38 (by decide) ?_
      exact G_zret dX12_isBarred_42 rfl (nar_zb (by decide)) (Nat.zero_le _) (Nat.zero_le _) (Nat.le_refl _) ⟨rfl, k2 c1 c2⟩
    · -- ¬ ((mem 176 a2) ≤ (divI (mem r1 98) 60) ∧ (divI (mem r1 98) 60) ≤ (mem 177 a2))
      refine G_if_eq (tgt := 41) dX12_isBarred_34 (by decide) (by decide) (fun _ => ?_) (fun h => absurd h (by decide))
      refine G_iconst (z := 0) dX12_isBarred_41 rfl ?_
      exact G_zret dX12_isBarred_42 rfl (nar_zb (by decide)) (Nat.zero_le _) (Nat.zero_le _) (Nat.le_refl _) ⟨rfl, k3 c1 c3⟩
set_option maxRecDepth 20000 in
set_option maxHeartbeats 8000000 in
theorem sg_X12_isHouse_0 {E : Nat × (Nat → Int32)} {P : Option Value → Mem → Prop} {mem : Mem} {a1 : Int} {a2 : Int} {a3 : Int} (w1 : 0 ≤ (mem 169 3) ∧ (mem 169 3) < 2147483648) (w2 : -2147483648 ≤ a1 ∧ a1 < 2147483648) (w3 : -2147483648 ≤ a2 ∧ a2 < 2147483648) (w4 : -9223372036854775808 ≤ a2 ∧ a2 < 9223372036854775808) (w5 : -2147483648 ≤ a3 ∧ a3 < 2147483648) (q6 : 0 ≤ a1 ∧ a1 < (mem 169 3) → 0 ≤ a2 ∧ a2 ≤ 1 → 0 ≤ a1 ∧ a1 < 6) (w7 : 0 ≤ a1 ∧ a1 < (mem 169 3) → 0 ≤ a2 ∧ a2 ≤ 1 → -2147483648 ≤ ((mem 172 a1) - 1) ∧ ((mem 172 a1) - 1) < 2147483648) (w8 : -9223372036854775808 ≤ a3 ∧ a3 < 9223372036854775808) (w9 : 0 ≤ a1 ∧ a1 < (mem 169 3) → 0 ≤ a2 ∧ a2 ≤ 1 → -9223372036854775808 ≤ ((mem 172 a1) - 1) ∧ ((mem 172 a1) - 1) < 9223372036854775808)
    (k1 : 0 ≤ a1 ∧ a1 < (mem 169 3) → 0 ≤ a2 ∧ a2 ≤ 1 → 0 ≤ a3 ∧ a3 ≤ ((mem 172 a1) - 1) → P (some (vi 1)) mem)
    (k2 : 0 ≤ a1 ∧ a1 < (mem 169 3) → 0 ≤ a2 ∧ a2 ≤ 1 → ¬ (0 ≤ a3 ∧ a3 ≤ ((mem 172 a1) - 1)) → P (some (vi 0)) mem)
    (k3 : 0 ≤ a1 ∧ a1 < (mem 169 3) → ¬ (0 ≤ a2 ∧ a2 ≤ 1) → P (some (vi 0)) mem)
    (k4 : ¬ (0 ≤ a1 ∧ a1 < (mem 169 3)) → P (some (vi 0)) mem) :
    GM E (m_X12_isHouse 2) P 0 [.ref 169, vi a1, vi a2, vi a3] [] mem := by
  refine G_aload_n dX12_isHouse_0 rfl ?_
  refine G_iload_n dX12_isHouse_1 rfl ?_
  refine cb_X12_isHouse_2 (ic_X12_isStreet (z := (mem 169 3)) rfl (w2) (w1) (fun c1 => ?_) (fun c2 => ?_))
  · -- 0 ≤ a1 ∧ a1 < (mem 169 3)
    refine G_if_eq (tgt := 40) dX12_isHouse_5 (by decide) (by decide) (fun h => absurd h (by decide)) (fun _ => ?_)
    refine G_iload_n dX12_isHouse_8 rfl ?_
    refine G_i2l dX12_isHouse_9 (w3) ?_
    refine G_lconst (z := 0) dX12_isHouse_10 rfl ?_
    refine G_lconst (z := 1) dX12_isHouse_11 rfl ?_
    refine cb_X12_isHouse_12 (ic_X12_in (w4) (by decide) (by decide) (fun c3 => ?_) (fun c4 => ?_))
    · -- 0 ≤ a2 ∧ a2 ≤ 1
      refine G_if_eq (tgt := 40) dX12_isHouse_15 (by decide) (by decide) (fun h => absurd h (by decide)) (fun _ => ?_)
      refine G_iload_n dX12_isHouse_18 rfl ?_
      refine G_i2l dX12_isHouse_19 (w5) ?_
      refine G_lconst (z := 0) dX12_isHouse_20 rfl ?_
      refine G_aload_n dX12_isHouse_21 rfl ?_
      refine G_getR (t := 172) dX12_isHouse_22 fl_12_17 (by decide) sh_169 rr_169_6 ?_
      refine G_iload_n dX12_isHouse_25 rfl ?_
      refine G_iald (z := (mem 172 a1)) dX12_isHouse_26 (by decide) sh_172 (by decide) (q6 c1 c3).1 (q6 c1 c3).2 rfl ?_
      refine G_iconst (z := 1) dX12_isHouse_27 rfl ?_
      refine G_isub dX12_isHouse_28 ?_
      refine G_i2l dX12_isHouse_29 (w7 c1 c3) ?_
      refine cb_X12_isHouse_30 (ic_X12_in (w8) (by decide) (w9 c1 c3) (fun c5 => ?_) (fun c6 => ?_))
      · -- 0 ≤ a3 ∧ a3 ≤ ((mem 172 a1) - 1)
        refine G_if_eq (tgt := 40) dX12_isHouse_33 (by decide) (by decide) (fun h => absurd h (by decide)) (fun _ => ?_)
        refine G_iconst (z := 1) dX12_isHouse_36 rfl ?_
        refine G_goto (tgt := 41) dX12_isHouse_37 (by decide) ?_
        exact G_zret dX12_isHouse_41 rfl (nar_zb (by decide)) (Nat.zero_le _) (Nat.zero_le _) (Nat.le_refl _) ⟨rfl, k1 c1 c3 c5⟩
      · -- ¬ (0 ≤ a3 ∧ a3 ≤ ((mem 172 a1) - 1))
        refine G_if_eq (tgt := 40) dX12_isHouse_33 (by decide) (by decide) (fun _ => ?_) (fun h => absurd h (by decide))
        refine G_iconst (z := 0) dX12_isHouse_40 rfl ?_
        exact G_zret dX12_isHouse_41 rfl (nar_zb (by decide)) (Nat.zero_le _) (Nat.zero_le _) (Nat.le_refl _) ⟨rfl, k2 c1 c3 c6⟩
    · -- ¬ (0 ≤ a2 ∧ a2 ≤ 1)
      refine G_if_eq (tgt := 40) dX12_isHouse_15 (by decide) (by decide) (fun _ => ?_) (fun h => absurd h (by decide))
      refine G_iconst (z := 0) dX12_isHouse_40 rfl ?_
      exact G_zret dX12_isHouse_41 rfl (nar_zb (by decide)) (Nat.zero_le _) (Nat.zero_le _) (Nat.le_refl _) ⟨rfl, k3 c1 c4⟩
  · -- ¬ (0 ≤ a1 ∧ a1 < (mem 169 3))
    refine G_if_eq (tgt := 40) dX12_isHouse_5 (by decide) (by decide) (fun _ => ?_) (fun h => absurd h (by decide))
    refine G_iconst (z := 0) dX12_isHouse_40 rfl ?_
    exact G_zret dX12_isHouse_41 rfl (nar_zb (by decide)) (Nat.zero_le _) (Nat.zero_le _) (Nat.le_refl _) ⟨rfl, k4 c2⟩
set_option maxRecDepth 20000 in
set_option maxHeartbeats 8000000 in
theorem sg_X12_keep_0 {E : Nat × (Nat → Int32)} {P : Option Value → Mem → Prop} {mem : Mem} {a1 : Int} (w1 : -2147483648 ≤ a1 ∧ a1 < 2147483648) (w2 : -9223372036854775808 ≤ a1 ∧ a1 < 9223372036854775808) (q3 : 0 ≤ a1 ∧ a1 ≤ 2 → 0 ≤ a1 ∧ a1 < 3)
    (k1 : 0 ≤ a1 ∧ a1 ≤ 2 → GM E (m_X12_keep 1) P 38 [.ref 169, vi a1, vi 0] [] (up2 (up2 (up2 mem 169 0 0) 205 a1 1) 206 a1 (mem 169 4)))
    (k2 : ¬ (0 ≤ a1 ∧ a1 ≤ 2) → P (some (vi 0)) (up2 mem 169 0 0)) :
    GM E (m_X12_keep 1) P 0 [.ref 169, vi a1, un] [] mem := by
  refine G_aload_n dX12_keep_0 rfl ?_
  refine G_iconst (z := 0) dX12_keep_1 rfl ?_
  refine G_putI (mem2 := (up2 mem 169 0 0)) dX12_keep_2 fp_12_126 (by decide) sh_169 rfl ?_
  refine G_iload_n dX12_keep_5 rfl ?_
  refine G_i2l dX12_keep_6 (w1) ?_
  refine G_lconst (z := 0) dX12_keep_7 rfl ?_
  refine G_ldc2 (z := 2) dX12_keep_8 kc_12_346 ?_
  refine cb_X12_keep_11 (ic_X12_in (w2) (by decide) (by decide) (fun c1 => ?_) (fun c2 => ?_))
  · -- 0 ≤ a1 ∧ a1 ≤ 2
    refine G_if_ne (tgt := 19) dX12_keep_14 (by decide) (by decide) (fun _ => ?_) (fun h => absurd h (by decide))
    refine G_aload_n dX12_keep_19 rfl ?_
    refine G_getR (t := 205) dX12_keep_20 fl_12_117 (by decide) sh_169 rr_169_69 ?_
    refine G_iload_n dX12_keep_23 rfl ?_
    refine G_iconst (z := 1) dX12_keep_24 rfl ?_
    refine G_zast (mem2 := (up2 (up2 mem 169 0 0) 205 a1 1)) (by decide) dX12_keep_25 (by decide) sh_205 (by decide) (q3 c1).1 (q3 c1).2 rfl ?_
    refine G_aload_n dX12_keep_26 rfl ?_
    refine G_getR (t := 206) dX12_keep_27 fl_12_120 (by decide) sh_169 rr_169_70 ?_
    refine G_iload_n dX12_keep_30 rfl ?_
    refine G_aload_n dX12_keep_31 rfl ?_
    refine G_getI (z := (mem 169 4)) dX12_keep_32 fl_12_227 (by decide) sh_169 (by simp [up2, upr]) ?_
    refine G_iast (mem2 := (up2 (up2 (up2 mem 169 0 0) 205 a1 1) 206 a1 (mem 169 4))) dX12_keep_35 (by decide) sh_206 (by decide) (q3 c1).1 (q3 c1).2 rfl ?_
    refine G_iconst (z := 0) dX12_keep_36 rfl ?_
    refine G_istore_n dX12_keep_37 rfl (by decide : 2 < 3) rfl ?_
    exact k1 c1
  · -- ¬ (0 ≤ a1 ∧ a1 ≤ 2)
    refine G_if_ne (tgt := 19) dX12_keep_14 (by decide) (by decide) (fun h => absurd h (by decide)) (fun _ => ?_)
    refine G_iconst (z := 0) dX12_keep_17 rfl ?_
    exact G_zret dX12_keep_18 rfl (nar_zb (by decide)) (Nat.zero_le _) (Nat.zero_le _) (Nat.le_refl _) ⟨rfl, k2 c2⟩
set_option maxRecDepth 20000 in
set_option maxHeartbeats 8000000 in
theorem sg_X12_keep_38 {E : Nat × (Nat → Int32)} {P : Option Value → Mem → Prop} {mem : Mem} {a1 : Int} {a2 : Int} (w1 : -2147483648 ≤ a2 ∧ a2 < 2147483648) (q2 : ¬ 99 ≤ a2 → 0 ≤ a2 ∧ a2 < 99) (q3 : ¬ 99 ≤ a2 → 0 ≤ ((99 * a1) + a2) ∧ ((99 * a1) + a2) < 297)
    (k1 : 99 ≤ a2 → P (some (vi 1)) mem)
    (k2 : ¬ 99 ≤ a2 → GM E (m_X12_keep 1) P 38 [.ref 169, vi a1, vi (a2 + 1)] [] (up2 mem 207 ((99 * a1) + a2) (mem 180 a2))) :
    GM E (m_X12_keep 1) P 38 [.ref 169, vi a1, vi a2] [] mem := by
  refine G_iload_n dX12_keep_38 rfl ?_
  refine G_bipush (z := 99) dX12_keep_39 rfl ?_
  refine G_icmp_ge (tgt := 67) dX12_keep_41 (by decide) (w1) (by decide) (fun c1 => ?_) (fun c1 => ?_)
  · -- 99 ≤ a2
    refine G_iconst (z := 1) dX12_keep_67 rfl ?_
    exact G_zret dX12_keep_68 rfl (nar_zb (by decide)) (Nat.zero_le _) (Nat.zero_le _) (Nat.le_refl _) ⟨rfl, k1 c1⟩
  · -- ¬ 99 ≤ a2
    refine G_aload_n dX12_keep_44 rfl ?_
    refine G_getR (t := 207) dX12_keep_45 fl_12_123 (by decide) sh_169 rr_169_71 ?_
    refine G_bipush (z := 99) dX12_keep_48 rfl ?_
    refine G_iload_n dX12_keep_50 rfl ?_
    refine G_imul dX12_keep_51 ?_
    refine G_iload_n dX12_keep_52 rfl ?_
    refine G_iadd dX12_keep_53 ?_
    refine G_aload_n dX12_keep_54 rfl ?_
    refine G_getR (t := 180) dX12_keep_55 fl_12_42 (by decide) sh_169 rr_169_14 ?_
    refine G_iload_n dX12_keep_58 rfl ?_
    refine G_iald (z := (mem 180 a2)) dX12_keep_59 (by decide) sh_180 (by decide) (q2 c1).1 (q2 c1).2 rfl ?_
    refine G_iast (mem2 := (up2 mem 207 ((99 * a1) + a2) (mem 180 a2))) dX12_keep_60 (by decide) sh_207 (by decide) (q3 c1).1 (q3 c1).2 rfl ?_
    refine G_iinc (z := (a2 + 1)) dX12_keep_61 rfl rfl (by decide : 2 < 3) rfl ?_
    refine G_goto (tgt := 38) dX12_keep_64 (by decide) ?_
    exact k2 c1
set_option maxRecDepth 20000 in
set_option maxHeartbeats 8000000 in
theorem sg_X12_laysDays_0 {E : Nat × (Nat → Int32)} {P : Option Value → Mem → Prop} {mem : Mem}
    (k1 : GM E (m_X12_laysDays 9) P 2 [.ref 169, vi 0] [] mem) :
    GM E (m_X12_laysDays 9) P 0 [.ref 169, un] [] mem := by
  refine G_iconst (z := 0) dX12_laysDays_0 rfl ?_
  refine G_istore_n dX12_laysDays_1 rfl (by decide : 1 < 2) rfl ?_
  exact k1
set_option maxRecDepth 20000 in
set_option maxHeartbeats 8000000 in
theorem sg_X12_laysDays_2 {E : Nat × (Nat → Int32)} {P : Option Value → Mem → Prop} {mem : Mem} {a1 : Int} (w1 : -2147483648 ≤ a1 ∧ a1 < 2147483648) (q2 : ¬ 6 < a1 → 0 ≤ a1 ∧ a1 < 7)
    (k1 : 6 < a1 → GM E (m_X12_laysDays 9) P 23 [.ref 169, vi 0] [] mem)
    (k2 : ¬ 6 < a1 → GM E (m_X12_laysDays 9) P 2 [.ref 169, vi (a1 + 1)] [] (up2 mem 197 a1 0)) :
    GM E (m_X12_laysDays 9) P 2 [.ref 169, vi a1] [] mem := by
  refine G_iload_n dX12_laysDays_2 rfl ?_
  refine G_bipush (z := 6) dX12_laysDays_3 rfl ?_
  refine G_icmp_gt (tgt := 21) dX12_laysDays_5 (by decide) (w1) (by decide) (fun c1 => ?_) (fun c1 => ?_)
  · -- 6 < a1
    refine G_iconst (z := 0) dX12_laysDays_21 rfl ?_
    refine G_istore_n dX12_laysDays_22 rfl (by decide : 1 < 2) rfl ?_
    exact k1 c1
  · -- ¬ 6 < a1
    refine G_aload_n dX12_laysDays_8 rfl ?_
    refine G_getR (t := 197) dX12_laysDays_9 fl_12_93 (by decide) sh_169 rr_169_55 ?_
    refine G_iload_n dX12_laysDays_12 rfl ?_
    refine G_iconst (z := 0) dX12_laysDays_13 rfl ?_
    refine G_iast (mem2 := (up2 mem 197 a1 0)) dX12_laysDays_14 (by decide) sh_197 (by decide) (q2 c1).1 (q2 c1).2 rfl ?_
    refine G_iinc (z := (a1 + 1)) dX12_laysDays_15 rfl rfl (by decide : 1 < 2) rfl ?_
    refine G_goto (tgt := 2) dX12_laysDays_18 (by decide) ?_
    exact k2 c1
set_option maxRecDepth 20000 in
set_option maxHeartbeats 8000000 in
theorem sg_X12_laysDays_23 {E : Nat × (Nat → Int32)} {P : Option Value → Mem → Prop} {mem : Mem} {a1 : Int} (w1 : -2147483648 ≤ a1 ∧ a1 < 2147483648) (w2 : -2147483648 ≤ (mem 169 3) ∧ (mem 169 3) < 2147483648) (q3 : ¬ (mem 169 3) ≤ a1 → 0 ≤ a1 ∧ a1 < 6) (q4 : ¬ (mem 169 3) ≤ a1 → 0 ≤ (mem 175 a1) ∧ (mem 175 a1) < 7)
    (k1 : (mem 169 3) ≤ a1 → P none mem)
    (k2 : ¬ (mem 169 3) ≤ a1 → GM E (m_X12_laysDays 9) P 45 [.ref 169, vi a1] [vi a1, .ref 169, vi (mem 197 (mem 175 a1)), vi (mem 175 a1), .ref 197] mem) :
    GM E (m_X12_laysDays 9) P 23 [.ref 169, vi a1] [] mem := by
  refine G_iload_n dX12_laysDays_23 rfl ?_
  refine G_aload_n dX12_laysDays_24 rfl ?_
  refine G_getI (z := (mem 169 3)) dX12_laysDays_25 fl_12_137 (by decide) sh_169 rfl ?_
  refine G_icmp_ge (tgt := 56) dX12_laysDays_28 (by decide) (w1) (w2) (fun c1 => ?_) (fun c1 => ?_)
  · -- (mem 169 3) ≤ a1
    exact G_vret dX12_laysDays_56 rfl (Nat.zero_le _) (Nat.zero_le _) (Nat.le_refl _) ⟨rfl, k1 c1⟩
  · -- ¬ (mem 169 3) ≤ a1
    refine G_aload_n dX12_laysDays_31 rfl ?_
    refine G_getR (t := 197) dX12_laysDays_32 fl_12_93 (by decide) sh_169 rr_169_55 ?_
    refine G_aload_n dX12_laysDays_35 rfl ?_
    refine G_getR (t := 175) dX12_laysDays_36 fl_12_27 (by decide) sh_169 rr_169_9 ?_
    refine G_iload_n dX12_laysDays_39 rfl ?_
    refine G_iald (z := (mem 175 a1)) dX12_laysDays_40 (by decide) sh_175 (by decide) (q3 c1).1 (q3 c1).2 rfl ?_
    refine G_dup2 dX12_laysDays_41 rfl rfl ?_
    refine G_iald (z := (mem 197 (mem 175 a1))) dX12_laysDays_42 (by decide) sh_197 (by decide) (q4 c1).1 (q4 c1).2 rfl ?_
    refine G_aload_n dX12_laysDays_43 rfl ?_
    refine G_iload_n dX12_laysDays_44 rfl ?_
    exact k2 c1
set_option maxRecDepth 20000 in
set_option maxHeartbeats 8000000 in
theorem sg_X12_laysDays_48 {E : Nat × (Nat → Int32)} {P : Option Value → Mem → Prop} {mem : Mem} {a1 : Int} {s0 : Int} {s1 : Int} {s2 : Int} (q1 : 0 ≤ s2 ∧ s2 < 7)
    (k1 : GM E (m_X12_laysDays 9) P 23 [.ref 169, vi (a1 + 1)] [] (up2 mem 197 s2 (s1 + s0))) :
    GM E (m_X12_laysDays 9) P 48 [.ref 169, vi a1] [vi s0, vi s1, vi s2, .ref 197] mem := by
  refine G_iadd dX12_laysDays_48 ?_
  refine G_iast (mem2 := (up2 mem 197 s2 (s1 + s0))) dX12_laysDays_49 (by decide) sh_197 (by decide) (q1).1 (q1).2 rfl ?_
  refine G_iinc (z := (a1 + 1)) dX12_laysDays_50 rfl rfl (by decide : 1 < 2) rfl ?_
  refine G_goto (tgt := 23) dX12_laysDays_53 (by decide) ?_
  exact k1
set_option maxRecDepth 20000 in
set_option maxHeartbeats 8000000 in
theorem sg_X12_laysNear_0 {E : Nat × (Nat → Int32)} {P : Option Value → Mem → Prop} {mem : Mem} {a1 : Int} {a2 : Int}
    (k1 : GM E (m_X12_laysNear 1) P 8 [.ref 169, vi a1, vi a2, un] [.ref 181, .ref 180] mem) :
    GM E (m_X12_laysNear 1) P 0 [.ref 169, vi a1, vi a2, un] [] mem := by
  refine G_aload_n dX12_laysNear_0 rfl ?_
  refine G_getR (t := 180) dX12_laysNear_1 fl_12_42 (by decide) sh_169 rr_169_14 ?_
  refine G_aload_n dX12_laysNear_4 rfl ?_
  refine G_getR (t := 181) dX12_laysNear_5 fl_12_45 (by decide) sh_169 rr_169_15 ?_
  exact k1
set_option maxRecDepth 20000 in
set_option maxHeartbeats 8000000 in
theorem sg_X12_laysNear_11 {E : Nat × (Nat → Int32)} {P : Option Value → Mem → Prop} {mem : Mem} {a1 : Int} {a2 : Int}
    (k1 : GM E (m_X12_laysNear 1) P 13 [.ref 169, vi a1, vi a2, vi a2] [] mem) :
    GM E (m_X12_laysNear 1) P 11 [.ref 169, vi a1, vi a2, un] [] mem := by
  refine G_iload_n dX12_laysNear_11 rfl ?_
  refine G_istore_n dX12_laysNear_12 rfl (by decide : 3 < 4) rfl ?_
  exact k1
set_option maxRecDepth 20000 in
set_option maxHeartbeats 8000000 in
theorem sg_X12_laysNear_13 {E : Nat × (Nat → Int32)} {P : Option Value → Mem → Prop} {mem : Mem} {a1 : Int} {a2 : Int} {a3 : Int} (w1 : -2147483648 ≤ a3 ∧ a3 < 2147483648) (w2 : -2147483648 ≤ (mem 169 49) ∧ (mem 169 49) < 2147483648) (q3 : ¬ (mem 169 49) ≤ a3 → 0 ≤ a3 ∧ a3 < 16) (q4 : ¬ (mem 169 49) ≤ a3 → 0 ≤ (mem 194 a3) ∧ (mem 194 a3) < 99)
    (k1 : (mem 169 49) ≤ a3 → P none mem)
    (k2 : ¬ (mem 169 49) ≤ a3 → GM E (m_X12_laysNear 1) P 13 [.ref 169, vi a1, vi a2, vi (a3 + 1)] [] (up2 mem 181 (mem 194 a3) 0)) :
    GM E (m_X12_laysNear 1) P 13 [.ref 169, vi a1, vi a2, vi a3] [] mem := by
  refine G_iload_n dX12_laysNear_13 rfl ?_
  refine G_aload_n dX12_laysNear_14 rfl ?_
  refine G_getI (z := (mem 169 49)) dX12_laysNear_15 fl_12_406 (by decide) sh_169 rfl ?_
  refine G_icmp_ge (tgt := 39) dX12_laysNear_18 (by decide) (w1) (w2) (fun c1 => ?_) (fun c1 => ?_)
  · -- (mem 169 49) ≤ a3
    exact G_vret dX12_laysNear_39 rfl (Nat.zero_le _) (Nat.zero_le _) (Nat.le_refl _) ⟨rfl, k1 c1⟩
  · -- ¬ (mem 169 49) ≤ a3
    refine G_aload_n dX12_laysNear_21 rfl ?_
    refine G_getR (t := 181) dX12_laysNear_22 fl_12_45 (by decide) sh_169 rr_169_15 ?_
    refine G_aload_n dX12_laysNear_25 rfl ?_
    refine G_getR (t := 194) dX12_laysNear_26 fl_12_84 (by decide) sh_169 rr_169_48 ?_
    refine G_iload_n dX12_laysNear_29 rfl ?_
    refine G_iald (z := (mem 194 a3)) dX12_laysNear_30 (by decide) sh_194 (by decide) (q3 c1).1 (q3 c1).2 rfl ?_
    refine G_iconst (z := 0) dX12_laysNear_31 rfl ?_
    refine G_iast (mem2 := (up2 mem 181 (mem 194 a3) 0)) dX12_laysNear_32 (by decide) sh_181 (by decide) (q4 c1).1 (q4 c1).2 rfl ?_
    refine G_iinc (z := (a3 + 1)) dX12_laysNear_33 rfl rfl (by decide : 3 < 4) rfl ?_
    refine G_goto (tgt := 13) dX12_laysNear_36 (by decide) ?_
    exact k2 c1
set_option maxRecDepth 20000 in
set_option maxHeartbeats 8000000 in
theorem sg_X12_laysStreet_0 {E : Nat × (Nat → Int32)} {P : Option Value → Mem → Prop} {mem : Mem} {a1 : Int} {a2 : Int} (q1 : 0 ≤ (6 * a2) ∧ (6 * a2) < 36) (q2 : 0 ≤ a1 ∧ a1 < 6) (q3 : 0 ≤ ((6 * a2) + 1) ∧ ((6 * a2) + 1) < 36) (q4 : 0 ≤ ((6 * a2) + 2) ∧ ((6 * a2) + 2) < 36) (q5 : 0 ≤ ((6 * a2) + 3) ∧ ((6 * a2) + 3) < 36) (w6 : -2147483648 ≤ (mem 183 ((6 * a2) + 3)) ∧ (mem 183 ((6 * a2) + 3)) < 2147483648) (q7 : (mem 183 ((6 * a2) + 3)) ≠ 1 → 0 ≤ ((6 * a2) + 4) ∧ ((6 * a2) + 4) < 36) (q8 : (mem 183 ((6 * a2) + 3)) ≠ 1 → 0 ≤ ((6 * a2) + 5) ∧ ((6 * a2) + 5) < 36) (q9 : (mem 183 ((6 * a2) + 3)) = 1 → 0 ≤ ((6 * a2) + 4) ∧ ((6 * a2) + 4) < 36) (q10 : (mem 183 ((6 * a2) + 3)) = 1 → 0 ≤ ((6 * a2) + 5) ∧ ((6 * a2) + 5) < 36)
    (k1 : (mem 183 ((6 * a2) + 3)) ≠ 1 → GM E (m_X12_laysStreet 1) P 118 [.ref 169, vi a1, vi a2, vi 0, un, un] [] (up2 (up2 (up2 (up2 (up2 (up2 (up2 mem 171 a1 (mem 183 (6 * a2))) 172 a1 (mem 183 ((6 * a2) + 1))) 173 a1 (mem 183 ((6 * a2) + 2))) 174 a1 0) 176 a1 (mem 183 ((6 * a2) + 4))) 177 a1 (mem 183 ((6 * a2) + 5))) 175 a1 0))
    (k2 : (mem 183 ((6 * a2) + 3)) = 1 → GM E (m_X12_laysStreet 1) P 118 [.ref 169, vi a1, vi a2, vi 0, un, un] [] (up2 (up2 (up2 (up2 (up2 (up2 (up2 mem 171 a1 (mem 183 (6 * a2))) 172 a1 (mem 183 ((6 * a2) + 1))) 173 a1 (mem 183 ((6 * a2) + 2))) 174 a1 1) 176 a1 (mem 183 ((6 * a2) + 4))) 177 a1 (mem 183 ((6 * a2) + 5))) 175 a1 0)) :
    GM E (m_X12_laysStreet 1) P 0 [.ref 169, vi a1, vi a2, un, un, un] [] mem := by
  refine G_aload_n dX12_laysStreet_0 rfl ?_
  refine G_getR (t := 171) dX12_laysStreet_1 fl_12_13 (by decide) sh_169 rr_169_5 ?_
  refine G_iload_n dX12_laysStreet_4 rfl ?_
  refine G_aload_n dX12_laysStreet_5 rfl ?_
  refine G_getR (t := 183) dX12_laysStreet_6 fl_12_51 (by decide) sh_169 rr_169_21 ?_
  refine G_bipush (z := 6) dX12_laysStreet_9 rfl ?_
  refine G_iload_n dX12_laysStreet_11 rfl ?_
  refine G_imul dX12_laysStreet_12 ?_
  refine G_iald (z := (mem 183 (6 * a2))) dX12_laysStreet_13 (by decide) sh_183 (by decide) (q1).1 (q1).2 rfl ?_
  refine G_iast (mem2 := (up2 mem 171 a1 (mem 183 (6 * a2)))) dX12_laysStreet_14 (by decide) sh_171 (by decide) (q2).1 (q2).2 rfl ?_
  refine G_aload_n dX12_laysStreet_15 rfl ?_
  refine G_getR (t := 172) dX12_laysStreet_16 fl_12_17 (by decide) sh_169 rr_169_6 ?_
  refine G_iload_n dX12_laysStreet_19 rfl ?_
  refine G_aload_n dX12_laysStreet_20 rfl ?_
  refine G_getR (t := 183) dX12_laysStreet_21 fl_12_51 (by decide) sh_169 rr_169_21 ?_
  refine G_bipush (z := 6) dX12_laysStreet_24 rfl ?_
  refine G_iload_n dX12_laysStreet_26 rfl ?_
  refine G_imul dX12_laysStreet_27 ?_
  refine G_iconst (z := 1) dX12_laysStreet_28 rfl ?_
  refine G_iadd dX12_laysStreet_29 ?_
  refine G_iald (z := (mem 183 ((6 * a2) + 1))) dX12_laysStreet_30 (by decide) sh_183 (by decide) (q3).1 (q3).2 (by simp [up2, upr]) ?_
  refine G_iast (mem2 := (up2 (up2 mem 171 a1 (mem 183 (6 * a2))) 172 a1 (mem 183 ((6 * a2) + 1)))) dX12_laysStreet_31 (by decide) sh_172 (by decide) (q2).1 (q2).2 rfl ?_
  refine G_aload_n dX12_laysStreet_32 rfl ?_
  refine G_getR (t := 173) dX12_laysStreet_33 fl_12_20 (by decide) sh_169 rr_169_7 ?_
  refine G_iload_n dX12_laysStreet_36 rfl ?_
  refine G_aload_n dX12_laysStreet_37 rfl ?_
  refine G_getR (t := 183) dX12_laysStreet_38 fl_12_51 (by decide) sh_169 rr_169_21 ?_
  refine G_bipush (z := 6) dX12_laysStreet_41 rfl ?_
  refine G_iload_n dX12_laysStreet_43 rfl ?_
  refine G_imul dX12_laysStreet_44 ?_
  refine G_iconst (z := 2) dX12_laysStreet_45 rfl ?_
  refine G_iadd dX12_laysStreet_46 ?_
  refine G_iald (z := (mem 183 ((6 * a2) + 2))) dX12_laysStreet_47 (by decide) sh_183 (by decide) (q4).1 (q4).2 (by simp [up2, upr]) ?_
  refine G_iast (mem2 := (up2 (up2 (up2 mem 171 a1 (mem 183 (6 * a2))) 172 a1 (mem 183 ((6 * a2) + 1))) 173 a1 (mem 183 ((6 * a2) + 2)))) dX12_laysStreet_48 (by decide) sh_173 (by decide) (q2).1 (q2).2 rfl ?_
  refine G_aload_n dX12_laysStreet_49 rfl ?_
  refine G_getR (t := 174) dX12_laysStreet_50 fl_12_23 (by decide) sh_169 rr_169_8 ?_
  refine G_iload_n dX12_laysStreet_53 rfl ?_
  refine G_aload_n dX12_laysStreet_54 rfl ?_
  refine G_getR (t := 183) dX12_laysStreet_55 fl_12_51 (by decide) sh_169 rr_169_21 ?_
  refine G_bipush (z := 6) dX12_laysStreet_58 rfl ?_
  refine G_iload_n dX12_laysStreet_60 rfl ?_
  refine G_imul dX12_laysStreet_61 ?_
  refine G_iconst (z := 3) dX12_laysStreet_62 rfl ?_
  refine G_iadd dX12_laysStreet_63 ?_
  refine G_iald (z := (mem 183 ((6 * a2) + 3))) dX12_laysStreet_64 (by decide) sh_183 (by decide) (q5).1 (q5).2 (by simp [up2, upr]) ?_
  refine G_iconst (z := 1) dX12_laysStreet_65 rfl ?_
  refine G_icmp_ne (tgt := 73) dX12_laysStreet_66 (by decide) (w6) (by decide) (fun c1 => ?_) (fun c1 => ?_)
  · -- (mem 183 ((6 * a2) + 3)) ≠ 1
    refine G_iconst (z := 0) dX12_laysStreet_73 rfl ?_
    refine G_zast (mem2 := (up2 (up2 (up2 (up2 mem 171 a1 (mem 183 (6 * a2))) 172 a1 (mem 183 ((6 * a2) + 1))) 173 a1 (mem 183 ((6 * a2) + 2))) 174 a1 0)) (by decide) dX12_laysStreet_74 (by decide) sh_174 (by decide) (q2).1 (q2).2 rfl ?_
    refine G_aload_n dX12_laysStreet_75 rfl ?_
    refine G_getR (t := 176) dX12_laysStreet_76 fl_12_30 (by decide) sh_169 rr_169_10 ?_
    refine G_iload_n dX12_laysStreet_79 rfl ?_
    refine G_aload_n dX12_laysStreet_80 rfl ?_
    refine G_getR (t := 183) dX12_laysStreet_81 fl_12_51 (by decide) sh_169 rr_169_21 ?_
    refine G_bipush (z := 6) dX12_laysStreet_84 rfl ?_
    refine G_iload_n dX12_laysStreet_86 rfl ?_
    refine G_imul dX12_laysStreet_87 ?_
    refine G_iconst (z := 4) dX12_laysStreet_88 rfl ?_
    refine G_iadd dX12_laysStreet_89 ?_
    refine G_iald (z := (mem 183 ((6 * a2) + 4))) dX12_laysStreet_90 (by decide) sh_183 (by decide) (q7 c1).1 (q7 c1).2 (by simp [up2, upr]) ?_
    refine G_iast (mem2 := (up2 (up2 (up2 (up2 (up2 mem 171 a1 (mem 183 (6 * a2))) 172 a1 (mem 183 ((6 * a2) + 1))) 173 a1 (mem 183 ((6 * a2) + 2))) 174 a1 0) 176 a1 (mem 183 ((6 * a2) + 4)))) dX12_laysStreet_91 (by decide) sh_176 (by decide) (q2).1 (q2).2 rfl ?_
    refine G_aload_n dX12_laysStreet_92 rfl ?_
    refine G_getR (t := 177) dX12_laysStreet_93 fl_12_33 (by decide) sh_169 rr_169_11 ?_
    refine G_iload_n dX12_laysStreet_96 rfl ?_
    refine G_aload_n dX12_laysStreet_97 rfl ?_
    refine G_getR (t := 183) dX12_laysStreet_98 fl_12_51 (by decide) sh_169 rr_169_21 ?_
    refine G_bipush (z := 6) dX12_laysStreet_101 rfl ?_
    refine G_iload_n dX12_laysStreet_103 rfl ?_
    refine G_imul dX12_laysStreet_104 ?_
    refine G_iconst (z := 5) dX12_laysStreet_105 rfl ?_
    refine G_iadd dX12_laysStreet_106 ?_
    refine G_iald (z := (mem 183 ((6 * a2) + 5))) dX12_laysStreet_107 (by decide) sh_183 (by decide) (q8 c1).1 (q8 c1).2 (by simp [up2, upr]) ?_
    refine G_iast (mem2 := (up2 (up2 (up2 (up2 (up2 (up2 mem 171 a1 (mem 183 (6 * a2))) 172 a1 (mem 183 ((6 * a2) + 1))) 173 a1 (mem 183 ((6 * a2) + 2))) 174 a1 0) 176 a1 (mem 183 ((6 * a2) + 4))) 177 a1 (mem 183 ((6 * a2) + 5)))) dX12_laysStreet_108 (by decide) sh_177 (by decide) (q2).1 (q2).2 rfl ?_
    refine G_aload_n dX12_laysStreet_109 rfl ?_
    refine G_getR (t := 175) dX12_laysStreet_110 fl_12_27 (by decide) sh_169 rr_169_9 ?_
    refine G_iload_n dX12_laysStreet_113 rfl ?_
    refine G_iconst (z := 0) dX12_laysStreet_114 rfl ?_
    refine G_iast (mem2 := (up2 (up2 (up2 (up2 (up2 (up2 (up2 mem 171 a1 (mem 183 (6 * a2))) 172 a1 (mem 183 ((6 * a2) + 1))) 173 a1 (mem 183 ((6 * a2) + 2))) 174 a1 0) 176 a1 (mem 183 ((6 * a2) + 4))) 177 a1 (mem 183 ((6 * a2) + 5))) 175 a1 0)) dX12_laysStreet_115 (by decide) sh_175 (by decide) (q2).1 (q2).2 rfl ?_
    refine G_iconst (z := 0) dX12_laysStreet_116 rfl ?_
    refine G_istore_n dX12_laysStreet_117 rfl (by decide : 3 < 6) rfl ?_
    exact k1 c1
  · -- (mem 183 ((6 * a2) + 3)) = 1
    refine G_iconst (z := 1) dX12_laysStreet_69 rfl ?_
    refine G_goto (tgt := 74) dX12_laysStreet_70 (by decide) ?_
    refine G_zast (mem2 := (up2 (up2 (up2 (up2 mem 171 a1 (mem 183 (6 * a2))) 172 a1 (mem 183 ((6 * a2) + 1))) 173 a1 (mem 183 ((6 * a2) + 2))) 174 a1 1)) (by decide) dX12_laysStreet_74 (by decide) sh_174 (by decide) (q2).1 (q2).2 rfl ?_
    refine G_aload_n dX12_laysStreet_75 rfl ?_
    refine G_getR (t := 176) dX12_laysStreet_76 fl_12_30 (by decide) sh_169 rr_169_10 ?_
    refine G_iload_n dX12_laysStreet_79 rfl ?_
    refine G_aload_n dX12_laysStreet_80 rfl ?_
    refine G_getR (t := 183) dX12_laysStreet_81 fl_12_51 (by decide) sh_169 rr_169_21 ?_
    refine G_bipush (z := 6) dX12_laysStreet_84 rfl ?_
    refine G_iload_n dX12_laysStreet_86 rfl ?_
    refine G_imul dX12_laysStreet_87 ?_
    refine G_iconst (z := 4) dX12_laysStreet_88 rfl ?_
    refine G_iadd dX12_laysStreet_89 ?_
    refine G_iald (z := (mem 183 ((6 * a2) + 4))) dX12_laysStreet_90 (by decide) sh_183 (by decide) (q9 c1).1 (q9 c1).2 (by simp [up2, upr]) ?_
    refine G_iast (mem2 := (up2 (up2 (up2 (up2 (up2 mem 171 a1 (mem 183 (6 * a2))) 172 a1 (mem 183 ((6 * a2) + 1))) 173 a1 (mem 183 ((6 * a2) + 2))) 174 a1 1) 176 a1 (mem 183 ((6 * a2) + 4)))) dX12_laysStreet_91 (by decide) sh_176 (by decide) (q2).1 (q2).2 rfl ?_
    refine G_aload_n dX12_laysStreet_92 rfl ?_
    refine G_getR (t := 177) dX12_laysStreet_93 fl_12_33 (by decide) sh_169 rr_169_11 ?_
    refine G_iload_n dX12_laysStreet_96 rfl ?_
    refine G_aload_n dX12_laysStreet_97 rfl ?_
    refine G_getR (t := 183) dX12_laysStreet_98 fl_12_51 (by decide) sh_169 rr_169_21 ?_
    refine G_bipush (z := 6) dX12_laysStreet_101 rfl ?_
    refine G_iload_n dX12_laysStreet_103 rfl ?_
    refine G_imul dX12_laysStreet_104 ?_
    refine G_iconst (z := 5) dX12_laysStreet_105 rfl ?_
    refine G_iadd dX12_laysStreet_106 ?_
    refine G_iald (z := (mem 183 ((6 * a2) + 5))) dX12_laysStreet_107 (by decide) sh_183 (by decide) (q10 c1).1 (q10 c1).2 (by simp [up2, upr]) ?_
    refine G_iast (mem2 := (up2 (up2 (up2 (up2 (up2 (up2 mem 171 a1 (mem 183 (6 * a2))) 172 a1 (mem 183 ((6 * a2) + 1))) 173 a1 (mem 183 ((6 * a2) + 2))) 174 a1 1) 176 a1 (mem 183 ((6 * a2) + 4))) 177 a1 (mem 183 ((6 * a2) + 5)))) dX12_laysStreet_108 (by decide) sh_177 (by decide) (q2).1 (q2).2 rfl ?_
    refine G_aload_n dX12_laysStreet_109 rfl ?_
    refine G_getR (t := 175) dX12_laysStreet_110 fl_12_27 (by decide) sh_169 rr_169_9 ?_
    refine G_iload_n dX12_laysStreet_113 rfl ?_
    refine G_iconst (z := 0) dX12_laysStreet_114 rfl ?_
    refine G_iast (mem2 := (up2 (up2 (up2 (up2 (up2 (up2 (up2 mem 171 a1 (mem 183 (6 * a2))) 172 a1 (mem 183 ((6 * a2) + 1))) 173 a1 (mem 183 ((6 * a2) + 2))) 174 a1 1) 176 a1 (mem 183 ((6 * a2) + 4))) 177 a1 (mem 183 ((6 * a2) + 5))) 175 a1 0)) dX12_laysStreet_115 (by decide) sh_175 (by decide) (q2).1 (q2).2 rfl ?_
    refine G_iconst (z := 0) dX12_laysStreet_116 rfl ?_
    refine G_istore_n dX12_laysStreet_117 rfl (by decide : 3 < 6) rfl ?_
    exact k2 c1
set_option maxRecDepth 20000 in
set_option maxHeartbeats 8000000 in
theorem sg_X12_laysStreet_118 {E : Nat × (Nat → Int32)} {P : Option Value → Mem → Prop} {mem : Mem} {a1 : Int} {a2 : Int} {a3 : Int} (w1 : -2147483648 ≤ a3 ∧ a3 < 2147483648)
    (k1 : 2 ≤ a3 → P none mem)
    (k2 : ¬ 2 ≤ a3 → GM E (m_X12_laysStreet 1) P 126 [.ref 169, vi a1, vi a2, vi a3, vi 0, un] [] mem) :
    GM E (m_X12_laysStreet 1) P 118 [.ref 169, vi a1, vi a2, vi a3, un, un] [] mem := by
  refine G_iload_n dX12_laysStreet_118 rfl ?_
  refine G_iconst (z := 2) dX12_laysStreet_119 rfl ?_
  refine G_icmp_ge (tgt := 199) dX12_laysStreet_120 (by decide) (w1) (by decide) (fun c1 => ?_) (fun c1 => ?_)
  · -- 2 ≤ a3
    exact G_vret dX12_laysStreet_199 rfl (Nat.zero_le _) (Nat.zero_le _) (Nat.le_refl _) ⟨rfl, k1 c1⟩
  · -- ¬ 2 ≤ a3
    refine G_iconst (z := 0) dX12_laysStreet_123 rfl ?_
    refine G_istore dX12_laysStreet_124 (by decide : 4 < 6) rfl ?_
    exact k2 c1
set_option maxRecDepth 20000 in
set_option maxHeartbeats 8000000 in
theorem sg_X12_laysStreet_126 {E : Nat × (Nat → Int32)} {P : Option Value → Mem → Prop} {mem : Mem} {a1 : Int} {a2 : Int} {a3 : Int} {a4 : Int} (q1 : 0 ≤ a1 ∧ a1 < 6) (w2 : -2147483648 ≤ a4 ∧ a4 < 2147483648) (w3 : -2147483648 ≤ (mem 172 a1) ∧ (mem 172 a1) < 2147483648) (q4 : ¬ (mem 172 a1) ≤ a4 → 0 ≤ (((16 * a2) + (8 * a3)) + a4) ∧ (((16 * a2) + (8 * a3)) + a4) < 96) (q5 : ¬ (mem 172 a1) ≤ a4 → 0 ≤ (((16 * a1) + (8 * a3)) + a4) ∧ (((16 * a1) + (8 * a3)) + a4) < 96) (w6 : ¬ (mem 172 a1) ≤ a4 → -2147483648 ≤ (mem 184 (((16 * a2) + (8 * a3)) + a4)) ∧ (mem 184 (((16 * a2) + (8 * a3)) + a4)) < 2147483648) (q7 : ¬ (mem 172 a1) ≤ a4 → (mem 184 (((16 * a2) + (8 * a3)) + a4)) ≤ 0 → 0 ≤ (((16 * a1) + (8 * a3)) + a4) ∧ (((16 * a1) + (8 * a3)) + a4) < 99) (q8 : ¬ (mem 172 a1) ≤ a4 → ¬ (mem 184 (((16 * a2) + (8 * a3)) + a4)) ≤ 0 → 0 ≤ (((16 * a1) + (8 * a3)) + a4) ∧ (((16 * a1) + (8 * a3)) + a4) < 99)
    (k1 : (mem 172 a1) ≤ a4 → GM E (m_X12_laysStreet 1) P 118 [.ref 169, vi a1, vi a2, vi (a3 + 1), un, un] [] mem)
    (k2 : ¬ (mem 172 a1) ≤ a4 → (mem 184 (((16 * a2) + (8 * a3)) + a4)) ≤ 0 → GM E (m_X12_laysStreet 1) P 126 [.ref 169, vi a1, vi a2, vi a3, vi (a4 + 1), un] [] (up2 (up2 mem 178 (((16 * a1) + (8 * a3)) + a4) (mem 184 (((16 * a2) + (8 * a3)) + a4))) 180 (((16 * a1) + (8 * a3)) + a4) 0))
    (k3 : ¬ (mem 172 a1) ≤ a4 → ¬ (mem 184 (((16 * a2) + (8 * a3)) + a4)) ≤ 0 → GM E (m_X12_laysStreet 1) P 126 [.ref 169, vi a1, vi a2, vi a3, vi (a4 + 1), un] [] (up2 (up2 mem 178 (((16 * a1) + (8 * a3)) + a4) (mem 184 (((16 * a2) + (8 * a3)) + a4))) 180 (((16 * a1) + (8 * a3)) + a4) 1)) :
    GM E (m_X12_laysStreet 1) P 126 [.ref 169, vi a1, vi a2, vi a3, vi a4, un] [] mem := by
  refine G_iload dX12_laysStreet_126 rfl ?_
  refine G_aload_n dX12_laysStreet_128 rfl ?_
  refine G_getR (t := 172) dX12_laysStreet_129 fl_12_17 (by decide) sh_169 rr_169_6 ?_
  refine G_iload_n dX12_laysStreet_132 rfl ?_
  refine G_iald (z := (mem 172 a1)) dX12_laysStreet_133 (by decide) sh_172 (by decide) (q1).1 (q1).2 rfl ?_
  refine G_icmp_ge (tgt := 193) dX12_laysStreet_134 (by decide) (w2) (w3) (fun c1 => ?_) (fun c1 => ?_)
  · -- (mem 172 a1) ≤ a4
    refine G_iinc (z := (a3 + 1)) dX12_laysStreet_193 rfl rfl (by decide : 3 < 6) rfl ?_
    refine G_goto (tgt := 118) dX12_laysStreet_196 (by decide) ?_
    refine G_weak (lv2 := [.ref 169, vi a1, vi a2, vi (a3 + 1), un, un]) ⟨Or.inr rfl, Or.inr rfl, Or.inr rfl, Or.inr rfl, Or.inl rfl, Or.inr rfl, trivial⟩ ?_
    exact k1 c1
  · -- ¬ (mem 172 a1) ≤ a4
    refine G_aload_n dX12_laysStreet_137 rfl ?_
    refine G_getR (t := 184) dX12_laysStreet_138 fl_12_54 (by decide) sh_169 rr_169_22 ?_
    refine G_iload_n dX12_laysStreet_141 rfl ?_
    refine G_iload_n dX12_laysStreet_142 rfl ?_
    refine G_iload dX12_laysStreet_143 rfl ?_
    refine cb_X12_laysStreet_145 (ic_X12_at ?_)
    refine G_iald (z := (mem 184 (((16 * a2) + (8 * a3)) + a4))) dX12_laysStreet_148 (by decide) sh_184 (by decide) (q4 c1).1 (q4 c1).2 rfl ?_
    refine G_istore dX12_laysStreet_149 (by decide : 5 < 6) rfl ?_
    refine G_aload_n dX12_laysStreet_151 rfl ?_
    refine G_getR (t := 178) dX12_laysStreet_152 fl_12_36 (by decide) sh_169 rr_169_12 ?_
    refine G_iload_n dX12_laysStreet_155 rfl ?_
    refine G_iload_n dX12_laysStreet_156 rfl ?_
    refine G_iload dX12_laysStreet_157 rfl ?_
    refine cb_X12_laysStreet_159 (ic_X12_at ?_)
    refine G_iload dX12_laysStreet_162 rfl ?_
    refine G_iast (mem2 := (up2 mem 178 (((16 * a1) + (8 * a3)) + a4) (mem 184 (((16 * a2) + (8 * a3)) + a4)))) dX12_laysStreet_164 (by decide) sh_178 (by decide) (q5 c1).1 (q5 c1).2 rfl ?_
    refine G_aload_n dX12_laysStreet_165 rfl ?_
    refine G_getR (t := 180) dX12_laysStreet_166 fl_12_42 (by decide) sh_169 rr_169_14 ?_
    refine G_iload_n dX12_laysStreet_169 rfl ?_
    refine G_iload_n dX12_laysStreet_170 rfl ?_
    refine G_iload dX12_laysStreet_171 rfl ?_
    refine cb_X12_laysStreet_173 (ic_X12_at ?_)
    refine G_iload dX12_laysStreet_176 rfl ?_
    refine G_if_le (tgt := 185) dX12_laysStreet_178 (by decide) (w6 c1) (fun c2 => ?_) (fun c2 => ?_)
    · -- (mem 184 (((16 * a2) + (8 * a3)) + a4)) ≤ 0
      refine G_iconst (z := 0) dX12_laysStreet_185 rfl ?_
      refine G_iast (mem2 := (up2 (up2 mem 178 (((16 * a1) + (8 * a3)) + a4) (mem 184 (((16 * a2) + (8 * a3)) + a4))) 180 (((16 * a1) + (8 * a3)) + a4) 0)) dX12_laysStreet_186 (by decide) sh_180 (by decide) (q7 c1 c2).1 (q7 c1 c2).2 rfl ?_
      refine G_iinc (z := (a4 + 1)) dX12_laysStreet_187 rfl rfl (by decide : 4 < 6) rfl ?_
      refine G_goto (tgt := 126) dX12_laysStreet_190 (by decide) ?_
      refine G_weak (lv2 := [.ref 169, vi a1, vi a2, vi a3, vi (a4 + 1), un]) ⟨Or.inr rfl, Or.inr rfl, Or.inr rfl, Or.inr rfl, Or.inr rfl, Or.inl rfl, trivial⟩ ?_
      exact k2 c1 c2
    · -- ¬ (mem 184 (((16 * a2) + (8 * a3)) + a4)) ≤ 0
      refine G_iconst (z := 1) dX12_laysStreet_181 rfl ?_
      refine G_goto (tgt := 186) dX12_laysStreet_182 (by decide) ?_
      refine G_iast (mem2 := (up2 (up2 mem 178 (((16 * a1) + (8 * a3)) + a4) (mem 184 (((16 * a2) + (8 * a3)) + a4))) 180 (((16 * a1) + (8 * a3)) + a4) 1)) dX12_laysStreet_186 (by decide) sh_180 (by decide) (q8 c1 c2).1 (q8 c1 c2).2 rfl ?_
      refine G_iinc (z := (a4 + 1)) dX12_laysStreet_187 rfl rfl (by decide : 4 < 6) rfl ?_
      refine G_goto (tgt := 126) dX12_laysStreet_190 (by decide) ?_
      refine G_weak (lv2 := [.ref 169, vi a1, vi a2, vi a3, vi (a4 + 1), un]) ⟨Or.inr rfl, Or.inr rfl, Or.inr rfl, Or.inr rfl, Or.inr rfl, Or.inl rfl, trivial⟩ ?_
      exact k3 c1 c2
set_option maxRecDepth 20000 in
set_option maxHeartbeats 8000000 in
theorem sg_X12_laysWays_0 {E : Nat × (Nat → Int32)} {P : Option Value → Mem → Prop} {mem : Mem}
    (k1 : GM E (m_X12_laysWays 4) P 2 [.ref 169, vi 0, un] [] mem) :
    GM E (m_X12_laysWays 4) P 0 [.ref 169, un, un] [] mem := by
  refine G_iconst (z := 0) dX12_laysWays_0 rfl ?_
  refine G_istore_n dX12_laysWays_1 rfl (by decide : 1 < 3) rfl ?_
  exact k1
set_option maxRecDepth 20000 in
set_option maxHeartbeats 8000000 in
theorem sg_X12_laysWays_2 {E : Nat × (Nat → Int32)} {P : Option Value → Mem → Prop} {mem : Mem} {a1 : Int} (w1 : -2147483648 ≤ a1 ∧ a1 < 2147483648) (w2 : -2147483648 ≤ (mem 169 3) ∧ (mem 169 3) < 2147483648) (q3 : ¬ (mem 169 3) ≤ a1 → 0 ≤ a1 ∧ a1 < 6)
    (k1 : (mem 169 3) ≤ a1 → P none mem)
    (k2 : ¬ (mem 169 3) ≤ a1 → GM E (m_X12_laysWays 4) P 26 [.ref 169, vi a1, vi 1] [] (up2 (up2 mem 203 a1 0) 204 a1 (-1))) :
    GM E (m_X12_laysWays 4) P 2 [.ref 169, vi a1, un] [] mem := by
  refine G_iload_n dX12_laysWays_2 rfl ?_
  refine G_aload_n dX12_laysWays_3 rfl ?_
  refine G_getI (z := (mem 169 3)) dX12_laysWays_4 fl_12_137 (by decide) sh_169 rfl ?_
  refine G_icmp_ge (tgt := 88) dX12_laysWays_7 (by decide) (w1) (w2) (fun c1 => ?_) (fun c1 => ?_)
  · -- (mem 169 3) ≤ a1
    exact G_vret dX12_laysWays_88 rfl (Nat.zero_le _) (Nat.zero_le _) (Nat.le_refl _) ⟨rfl, k1 c1⟩
  · -- ¬ (mem 169 3) ≤ a1
    refine G_aload_n dX12_laysWays_10 rfl ?_
    refine G_getR (t := 203) dX12_laysWays_11 fl_12_111 (by decide) sh_169 rr_169_65 ?_
    refine G_iload_n dX12_laysWays_14 rfl ?_
    refine G_iconst (z := 0) dX12_laysWays_15 rfl ?_
    refine G_iast (mem2 := (up2 mem 203 a1 0)) dX12_laysWays_16 (by decide) sh_203 (by decide) (q3 c1).1 (q3 c1).2 rfl ?_
    refine G_aload_n dX12_laysWays_17 rfl ?_
    refine G_getR (t := 204) dX12_laysWays_18 fl_12_114 (by decide) sh_169 rr_169_66 ?_
    refine G_iload_n dX12_laysWays_21 rfl ?_
    refine G_iconst (z := (-1)) dX12_laysWays_22 rfl ?_
    refine G_iast (mem2 := (up2 (up2 mem 203 a1 0) 204 a1 (-1))) dX12_laysWays_23 (by decide) sh_204 (by decide) (q3 c1).1 (q3 c1).2 rfl ?_
    refine G_iconst (z := 1) dX12_laysWays_24 rfl ?_
    refine G_istore_n dX12_laysWays_25 rfl (by decide : 2 < 3) rfl ?_
    exact k2 c1
set_option maxRecDepth 20000 in
set_option maxHeartbeats 8000000 in
theorem sg_X12_laysWays_26 {E : Nat × (Nat → Int32)} {P : Option Value → Mem → Prop} {mem : Mem} {a1 : Int} {a2 : Int} (w1 : -2147483648 ≤ a2 ∧ a2 < 2147483648)
    (k1 : 99 < a2 → GM E (m_X12_laysWays 4) P 2 [.ref 169, vi (a1 + 1), un] [] mem)
    (k2 : ¬ 99 < a2 → GM E (m_X12_laysWays 4) P 35 [.ref 169, vi a1, vi a2] [vi a2, vi a1, .ref 169] mem) :
    GM E (m_X12_laysWays 4) P 26 [.ref 169, vi a1, vi a2] [] mem := by
  refine G_iload_n dX12_laysWays_26 rfl ?_
  refine G_bipush (z := 99) dX12_laysWays_27 rfl ?_
  refine G_icmp_gt (tgt := 82) dX12_laysWays_29 (by decide) (w1) (by decide) (fun c1 => ?_) (fun c1 => ?_)
  · -- 99 < a2
    refine G_iinc (z := (a1 + 1)) dX12_laysWays_82 rfl rfl (by decide : 1 < 3) rfl ?_
    refine G_goto (tgt := 2) dX12_laysWays_85 (by decide) ?_
    refine G_weak (lv2 := [.ref 169, vi (a1 + 1), un]) ⟨Or.inr rfl, Or.inr rfl, Or.inl rfl, trivial⟩ ?_
    exact k1 c1
  · -- ¬ 99 < a2
    refine G_aload_n dX12_laysWays_32 rfl ?_
    refine G_iload_n dX12_laysWays_33 rfl ?_
    refine G_iload_n dX12_laysWays_34 rfl ?_
    exact k2 c1
set_option maxRecDepth 20000 in
set_option maxHeartbeats 8000000 in
theorem sg_X12_laysWays_38 {E : Nat × (Nat → Int32)} {P : Option Value → Mem → Prop} {mem : Mem} {a1 : Int} {a2 : Int} {s0 : Int} (w1 : -2147483648 ≤ s0 ∧ s0 < 2147483648) (q2 : ¬ s0 = 0 → 0 ≤ a1 ∧ a1 < 6) (w3 : ¬ s0 = 0 → -2147483648 ≤ (mem 204 a1) ∧ (mem 204 a1) < 2147483648)
    (k1 : s0 = 0 → GM E (m_X12_laysWays 4) P 26 [.ref 169, vi a1, vi (a2 + 1)] [] mem)
    (k2 : ¬ s0 = 0 → GM E (m_X12_laysWays 4) P 26 [.ref 169, vi a1, vi (a2 + 1)] [] (up2 (up2 mem 204 a1 (if 0 ≤ (mem 204 a1) then (mem 204 a1) else a2)) 203 a1 ((mem 203 a1) + 1))) :
    GM E (m_X12_laysWays 4) P 38 [.ref 169, vi a1, vi a2] [vi s0] mem := by
  refine G_if_eq (tgt := 76) dX12_laysWays_38 (by decide) (w1) (fun c1 => ?_) (fun c1 => ?_)
  · -- s0 = 0
    refine G_iinc (z := (a2 + 1)) dX12_laysWays_76 rfl rfl (by decide : 2 < 3) rfl ?_
    refine G_goto (tgt := 26) dX12_laysWays_79 (by decide) ?_
    exact k1 c1
  · -- ¬ s0 = 0
    refine G_aload_n dX12_laysWays_41 rfl ?_
    refine G_getR (t := 204) dX12_laysWays_42 fl_12_114 (by decide) sh_169 rr_169_66 ?_
    refine G_iload_n dX12_laysWays_45 rfl ?_
    refine G_aload_n dX12_laysWays_46 rfl ?_
    refine G_getR (t := 204) dX12_laysWays_47 fl_12_114 (by decide) sh_169 rr_169_66 ?_
    refine G_iload_n dX12_laysWays_50 rfl ?_
    refine G_iald (z := (mem 204 a1)) dX12_laysWays_51 (by decide) sh_204 (by decide) (q2 c1).1 (q2 c1).2 rfl ?_
    have j1 : GM E (m_X12_laysWays 4) P 65 [.ref 169, vi a1, vi a2] [vi (if 0 ≤ (mem 204 a1) then (mem 204 a1) else a2), vi a1, .ref 204] mem := by
      refine G_iast (mem2 := (up2 mem 204 a1 (if 0 ≤ (mem 204 a1) then (mem 204 a1) else a2))) dX12_laysWays_65 (by decide) sh_204 (by decide) (q2 c1).1 (q2 c1).2 rfl ?_
      refine G_aload_n dX12_laysWays_66 rfl ?_
      refine G_getR (t := 203) dX12_laysWays_67 fl_12_111 (by decide) sh_169 rr_169_65 ?_
      refine G_iload_n dX12_laysWays_70 rfl ?_
      refine G_dup2 dX12_laysWays_71 rfl rfl ?_
      refine G_iald (z := (mem 203 a1)) dX12_laysWays_72 (by decide) sh_203 (by decide) (q2 c1).1 (q2 c1).2 (by simp [up2, upr]) ?_
      refine G_iconst (z := 1) dX12_laysWays_73 rfl ?_
      refine G_iadd dX12_laysWays_74 ?_
      refine G_iast (mem2 := (up2 (up2 mem 204 a1 (if 0 ≤ (mem 204 a1) then (mem 204 a1) else a2)) 203 a1 ((mem 203 a1) + 1))) dX12_laysWays_75 (by decide) sh_203 (by decide) (q2 c1).1 (q2 c1).2 rfl ?_
      refine G_iinc (z := (a2 + 1)) dX12_laysWays_76 rfl rfl (by decide : 2 < 3) rfl ?_
      refine G_goto (tgt := 26) dX12_laysWays_79 (by decide) ?_
      exact k2 c1
    refine G_if_ge (tgt := 59) dX12_laysWays_52 (by decide) (w3 c1) (fun c2 => ?_) (fun c2 => ?_)
    · -- 0 ≤ (mem 204 a1)
      refine G_aload_n dX12_laysWays_59 rfl ?_
      refine G_getR (t := 204) dX12_laysWays_60 fl_12_114 (by decide) sh_169 rr_169_66 ?_
      refine G_iload_n dX12_laysWays_63 rfl ?_
      refine G_iald (z := (mem 204 a1)) dX12_laysWays_64 (by decide) sh_204 (by decide) (q2 c1).1 (q2 c1).2 rfl ?_
      have qj1 := j1
      simp only [if_pos c2] at qj1
      exact qj1
    · -- ¬ 0 ≤ (mem 204 a1)
      refine G_iload_n dX12_laysWays_55 rfl ?_
      refine G_goto (tgt := 65) dX12_laysWays_56 (by decide) ?_
      have qj1 := j1
      simp only [if_neg c2] at qj1
      exact qj1
set_option maxRecDepth 20000 in
set_option maxHeartbeats 8000000 in
theorem sg_X12_less_0 {E : Nat × (Nat → Int32)} {P : Option Value → Mem → Prop} {mem : Mem} {a1 : Int} (w1 : 0 ≤ (mem 169 3) ∧ (mem 169 3) < 2147483648) (w2 : -2147483648 ≤ a1 ∧ a1 < 2147483648) (w3 : 0 ≤ a1 ∧ a1 < (mem 169 3) → -2147483648 ≤ (mem 179 1) ∧ (mem 179 1) < 2147483648)
    (k1 : 0 ≤ a1 ∧ a1 < (mem 169 3) → (mem 179 1) ≠ 1 → GM E (m_X12_less 9) P 30 [.ref 169, vi a1, un, un] [vi a1, .ref 169] (up2 mem 169 0 0))
    (k2 : 0 ≤ a1 ∧ a1 < (mem 169 3) → (mem 179 1) = 1 → P (some (vi (-2))) (up2 mem 169 0 0))
    (k3 : ¬ (0 ≤ a1 ∧ a1 < (mem 169 3)) → P (some (vi (-1))) (up2 mem 169 0 0)) :
    GM E (m_X12_less 9) P 0 [.ref 169, vi a1, un, un] [] mem := by
  refine G_aload_n dX12_less_0 rfl ?_
  refine G_iconst (z := 0) dX12_less_1 rfl ?_
  refine G_putI (mem2 := (up2 mem 169 0 0)) dX12_less_2 fp_12_126 (by decide) sh_169 rfl ?_
  refine G_aload_n dX12_less_5 rfl ?_
  refine G_iload_n dX12_less_6 rfl ?_
  refine cb_X12_less_7 (ic_X12_isStreet (z := (mem 169 3)) (by simp [up2, upr]) (w2) (w1) (fun c1 => ?_) (fun c2 => ?_))
  · -- 0 ≤ a1 ∧ a1 < (mem 169 3)
    refine G_if_ne (tgt := 15) dX12_less_10 (by decide) (by decide) (fun _ => ?_) (fun h => absurd h (by decide))
    refine G_aload_n dX12_less_15 rfl ?_
    refine G_getR (t := 179) dX12_less_16 fl_12_39 (by decide) sh_169 rr_169_13 ?_
    refine G_iconst (z := 1) dX12_less_19 rfl ?_
    refine G_iald (z := (mem 179 1)) dX12_less_20 (by decide) sh_179 (by decide) (by decide) (by decide) (by simp [up2, upr]) ?_
    refine G_iconst (z := 1) dX12_less_21 rfl ?_
    refine G_icmp_ne (tgt := 28) dX12_less_22 (by decide) (w3 c1) (by decide) (fun c3 => ?_) (fun c3 => ?_)
    · -- (mem 179 1) ≠ 1
      refine G_aload_n dX12_less_28 rfl ?_
      refine G_iload_n dX12_less_29 rfl ?_
      exact k1 c1 c3
    · -- (mem 179 1) = 1
      refine G_bipush (z := (-2)) dX12_less_25 rfl ?_
      exact G_iret dX12_less_27 rfl (Nat.zero_le _) (Nat.zero_le _) (Nat.le_refl _) ⟨rfl, k2 c1 c3⟩
  · -- ¬ (0 ≤ a1 ∧ a1 < (mem 169 3))
    refine G_if_ne (tgt := 15) dX12_less_10 (by decide) (by decide) (fun h => absurd h (by decide)) (fun _ => ?_)
    refine G_iconst (z := (-1)) dX12_less_13 rfl ?_
    exact G_iret dX12_less_14 rfl (Nat.zero_le _) (Nat.zero_le _) (Nat.le_refl _) ⟨rfl, k3 c2⟩
set_option maxRecDepth 20000 in
set_option maxHeartbeats 8000000 in
theorem sg_X12_less_33 {E : Nat × (Nat → Int32)} {P : Option Value → Mem → Prop} {mem : Mem} {a1 : Int} {s0 : Int}
    (k1 : GM E (m_X12_less 9) P 52 [.ref 169, vi a1, vi s0, un] [vi a1, .ref 180, .ref 169] (up2 mem 169 30 ((mem 179 1) - 1))) :
    GM E (m_X12_less 9) P 33 [.ref 169, vi a1, un, un] [vi s0] mem := by
  refine G_istore_n dX12_less_33 rfl (by decide : 2 < 4) rfl ?_
  refine G_aload_n dX12_less_34 rfl ?_
  refine G_aload_n dX12_less_35 rfl ?_
  refine G_getR (t := 179) dX12_less_36 fl_12_39 (by decide) sh_169 rr_169_13 ?_
  refine G_iconst (z := 1) dX12_less_39 rfl ?_
  refine G_iald (z := (mem 179 1)) dX12_less_40 (by decide) sh_179 (by decide) (by decide) (by decide) rfl ?_
  refine G_iconst (z := 1) dX12_less_41 rfl ?_
  refine G_isub dX12_less_42 ?_
  refine G_putI (mem2 := (up2 mem 169 30 ((mem 179 1) - 1))) dX12_less_43 fp_12_269 (by decide) sh_169 rfl ?_
  refine G_aload_n dX12_less_46 rfl ?_
  refine G_aload_n dX12_less_47 rfl ?_
  refine G_getR (t := 180) dX12_less_48 fl_12_42 (by decide) sh_169 rr_169_14 ?_
  refine G_iload_n dX12_less_51 rfl ?_
  exact k1
set_option maxRecDepth 20000 in
set_option maxHeartbeats 8000000 in
theorem sg_X12_less_55 {E : Nat × (Nat → Int32)} {P : Option Value → Mem → Prop} {mem : Mem} {a1 : Int} {a2 : Int} {s0 : Int} (w1 : -2147483648 ≤ (mem 169 39) ∧ (mem 169 39) < 2147483648)
    (k1 : P (some (vi (s0 - a2))) (up2 (up2 (up2 mem 169 1 0) 170 0 (mem 169 39)) 169 1 1)) :
    GM E (m_X12_less 9) P 55 [.ref 169, vi a1, vi a2, un] [vi s0] mem := by
  refine G_istore_n dX12_less_55 rfl (by decide : 3 < 4) rfl ?_
  refine G_aload_n dX12_less_56 rfl ?_
  refine G_iconst (z := 0) dX12_less_57 rfl ?_
  refine G_putI (mem2 := (up2 mem 169 1 0)) dX12_less_58 fp_12_134 (by decide) sh_169 rfl ?_
  refine G_aload_n dX12_less_61 rfl ?_
  refine G_aload_n dX12_less_62 rfl ?_
  refine G_getI (z := (mem 169 39)) dX12_less_63 fl_12_314 (by decide) sh_169 (by simp [up2, upr]) ?_
  refine G_i2l dX12_less_66 (w1) ?_
  refine cb_X12_less_67 (ic_X12_enters (z := 0) (z2 := 1) (by simp [up2, upr]) (by decide) rfl ?_)
  refine G_iload_n dX12_less_70 rfl ?_
  refine G_iload_n dX12_less_71 rfl ?_
  refine G_isub dX12_less_72 ?_
  exact G_iret dX12_less_73 rfl (Nat.zero_le _) (Nat.zero_le _) (Nat.le_refl _) ⟨rfl, k1⟩
set_option maxRecDepth 20000 in
set_option maxHeartbeats 8000000 in
theorem sg_X12_line_0 {E : Nat × (Nat → Int32)} {P : Option Value → Mem → Prop} {mem : Mem} {a1 : Int} (w1 : 0 ≤ (mem 169 3) ∧ (mem 169 3) < 2147483648) (w2 : -2147483648 ≤ a1 ∧ a1 < 2147483648) (q3 : 0 ≤ a1 ∧ a1 < (mem 169 3) → 0 ≤ a1 ∧ a1 < 6)
    (k1 : 0 ≤ a1 ∧ a1 < (mem 169 3) → GM E (m_X12_line 7) P 27 [.ref 169, vi a1, vi 0, un, un, un, un] [] (up2 (up2 (up2 (up2 mem 169 0 0) 169 30 (mem 179 1)) 169 31 (mem 173 a1)) 169 49 0))
    (k2 : ¬ (0 ≤ a1 ∧ a1 < (mem 169 3)) → P (some (vi (-1))) (up2 mem 169 0 0)) :
    GM E (m_X12_line 7) P 0 [.ref 169, vi a1, un, un, un, un, un] [] mem := by
  refine G_aload_n dX12_line_0 rfl ?_
  refine G_iconst (z := 0) dX12_line_1 rfl ?_
  refine G_putI (mem2 := (up2 mem 169 0 0)) dX12_line_2 fp_12_126 (by decide) sh_169 rfl ?_
  refine G_aload_n dX12_line_5 rfl ?_
  refine G_iload_n dX12_line_6 rfl ?_
  refine cb_X12_line_7 (ic_X12_isStreet (z := (mem 169 3)) (by simp [up2, upr]) (w2) (w1) (fun c1 => ?_) (fun c2 => ?_))
  · -- 0 ≤ a1 ∧ a1 < (mem 169 3)
    refine G_if_ne (tgt := 15) dX12_line_10 (by decide) (by decide) (fun _ => ?_) (fun h => absurd h (by decide))
    refine G_aload_n dX12_line_15 rfl ?_
    refine G_iload_n dX12_line_16 rfl ?_
    refine cb_X12_line_17 (ic_X12_thinksAsIs (a := (mem 179 1)) (b := (mem 173 a1)) ⟨(q3 c1).1, (q3 c1).2⟩ (by simp [up2, upr]) (by simp [up2, upr]) ?_)
    refine G_aload_n dX12_line_20 rfl ?_
    refine G_iconst (z := 0) dX12_line_21 rfl ?_
    refine G_putI (mem2 := (up2 (up2 (up2 (up2 mem 169 0 0) 169 30 (mem 179 1)) 169 31 (mem 173 a1)) 169 49 0)) dX12_line_22 fp_12_406 (by decide) sh_169 rfl ?_
    refine G_iconst (z := 0) dX12_line_25 rfl ?_
    refine G_istore_n dX12_line_26 rfl (by decide : 2 < 7) rfl ?_
    exact k1 c1
  · -- ¬ (0 ≤ a1 ∧ a1 < (mem 169 3))
    refine G_if_ne (tgt := 15) dX12_line_10 (by decide) (by decide) (fun h => absurd h (by decide)) (fun _ => ?_)
    refine G_iconst (z := (-1)) dX12_line_13 rfl ?_
    exact G_iret dX12_line_14 rfl (Nat.zero_le _) (Nat.zero_le _) (Nat.le_refl _) ⟨rfl, k2 c2⟩
set_option maxRecDepth 20000 in
set_option maxHeartbeats 8000000 in
theorem sg_X12_line_27 {E : Nat × (Nat → Int32)} {P : Option Value → Mem → Prop} {mem : Mem} {a1 : Int} {a2 : Int} (q1 : 0 ≤ a1 ∧ a1 < 6) (w2 : -2147483648 ≤ a2 ∧ a2 < 2147483648) (w3 : -2147483648 ≤ (mem 172 a1) ∧ (mem 172 a1) < 2147483648)
    (k1 : (mem 172 a1) ≤ a2 → GM E (m_X12_line 7) P 109 [.ref 169, vi a1, vi (-1), vi (-1), vi (-1), vi 1, vi 0] [] mem)
    (k2 : ¬ (mem 172 a1) ≤ a2 → GM E (m_X12_line 7) P 39 [.ref 169, vi a1, vi a2, vi 0, un, un, un] [] mem) :
    GM E (m_X12_line 7) P 27 [.ref 169, vi a1, vi a2, un, un, un, un] [] mem := by
  refine G_iload_n dX12_line_27 rfl ?_
  refine G_aload_n dX12_line_28 rfl ?_
  refine G_getR (t := 172) dX12_line_29 fl_12_17 (by decide) sh_169 rr_169_6 ?_
  refine G_iload_n dX12_line_32 rfl ?_
  refine G_iald (z := (mem 172 a1)) dX12_line_33 (by decide) sh_172 (by decide) (q1).1 (q1).2 rfl ?_
  refine G_icmp_ge (tgt := 96) dX12_line_34 (by decide) (w2) (w3) (fun c1 => ?_) (fun c1 => ?_)
  · -- (mem 172 a1) ≤ a2
    refine G_iconst (z := (-1)) dX12_line_96 rfl ?_
    refine G_istore_n dX12_line_97 rfl (by decide : 2 < 7) rfl ?_
    refine G_iconst (z := (-1)) dX12_line_98 rfl ?_
    refine G_istore_n dX12_line_99 rfl (by decide : 3 < 7) rfl ?_
    refine G_iconst (z := (-1)) dX12_line_100 rfl ?_
    refine G_istore dX12_line_101 (by decide : 4 < 7) rfl ?_
    refine G_iconst (z := 1) dX12_line_103 rfl ?_
    refine G_istore dX12_line_104 (by decide : 5 < 7) rfl ?_
    refine G_iconst (z := 0) dX12_line_106 rfl ?_
    refine G_istore dX12_line_107 (by decide : 6 < 7) rfl ?_
    exact k1 c1
  · -- ¬ (mem 172 a1) ≤ a2
    refine G_iconst (z := 0) dX12_line_37 rfl ?_
    refine G_istore_n dX12_line_38 rfl (by decide : 3 < 7) rfl ?_
    exact k2 c1
set_option maxRecDepth 20000 in
set_option maxHeartbeats 8000000 in
theorem sg_X12_line_39 {E : Nat × (Nat → Int32)} {P : Option Value → Mem → Prop} {mem : Mem} {a1 : Int} {a2 : Int} {a3 : Int} (w1 : -2147483648 ≤ a3 ∧ a3 < 2147483648) (q2 : ¬ 2 ≤ a3 → 0 ≤ (((16 * a1) + (8 * a3)) + a2) ∧ (((16 * a1) + (8 * a3)) + a2) < 99) (w3 : ¬ 2 ≤ a3 → -2147483648 ≤ (mem 180 (((16 * a1) + (8 * a3)) + a2)) ∧ (mem 180 (((16 * a1) + (8 * a3)) + a2)) < 2147483648) (q4 : ¬ 2 ≤ a3 → (mem 180 (((16 * a1) + (8 * a3)) + a2)) = 1 → 0 ≤ (mem 169 49) ∧ (mem 169 49) < 16)
    (k1 : 2 ≤ a3 → GM E (m_X12_line 7) P 27 [.ref 169, vi a1, vi (a2 + 1), un, un, un, un] [] mem)
    (k2 : ¬ 2 ≤ a3 → (mem 180 (((16 * a1) + (8 * a3)) + a2)) ≠ 1 → GM E (m_X12_line 7) P 39 [.ref 169, vi a1, vi a2, vi (a3 + 1), un, un, un] [] mem)
    (k3 : ¬ 2 ≤ a3 → (mem 180 (((16 * a1) + (8 * a3)) + a2)) = 1 → GM E (m_X12_line 7) P 39 [.ref 169, vi a1, vi a2, vi (a3 + 1), un, un, un] [] (up2 (up2 mem 194 (mem 169 49) (((16 * a1) + (8 * a3)) + a2)) 169 49 ((mem 169 49) + 1))) :
    GM E (m_X12_line 7) P 39 [.ref 169, vi a1, vi a2, vi a3, un, un, un] [] mem := by
  refine G_iload_n dX12_line_39 rfl ?_
  refine G_iconst (z := 2) dX12_line_40 rfl ?_
  refine G_icmp_ge (tgt := 90) dX12_line_41 (by decide) (w1) (by decide) (fun c1 => ?_) (fun c1 => ?_)
  · -- 2 ≤ a3
    refine G_iinc (z := (a2 + 1)) dX12_line_90 rfl rfl (by decide : 2 < 7) rfl ?_
    refine G_goto (tgt := 27) dX12_line_93 (by decide) ?_
    refine G_weak (lv2 := [.ref 169, vi a1, vi (a2 + 1), un, un, un, un]) ⟨Or.inr rfl, Or.inr rfl, Or.inr rfl, Or.inl rfl, Or.inr rfl, Or.inr rfl, Or.inr rfl, trivial⟩ ?_
    exact k1 c1
  · -- ¬ 2 ≤ a3
    refine G_aload_n dX12_line_44 rfl ?_
    refine G_getR (t := 180) dX12_line_45 fl_12_42 (by decide) sh_169 rr_169_14 ?_
    refine G_iload_n dX12_line_48 rfl ?_
    refine G_iload_n dX12_line_49 rfl ?_
    refine G_iload_n dX12_line_50 rfl ?_
    refine cb_X12_line_51 (ic_X12_at ?_)
    refine G_iald (z := (mem 180 (((16 * a1) + (8 * a3)) + a2))) dX12_line_54 (by decide) sh_180 (by decide) (q2 c1).1 (q2 c1).2 rfl ?_
    refine G_iconst (z := 1) dX12_line_55 rfl ?_
    refine G_icmp_ne (tgt := 84) dX12_line_56 (by decide) (w3 c1) (by decide) (fun c2 => ?_) (fun c2 => ?_)
    · -- (mem 180 (((16 * a1) + (8 * a3)) + a2)) ≠ 1
      refine G_iinc (z := (a3 + 1)) dX12_line_84 rfl rfl (by decide : 3 < 7) rfl ?_
      refine G_goto (tgt := 39) dX12_line_87 (by decide) ?_
      exact k2 c1 c2
    · -- (mem 180 (((16 * a1) + (8 * a3)) + a2)) = 1
      refine G_aload_n dX12_line_59 rfl ?_
      refine G_getR (t := 194) dX12_line_60 fl_12_84 (by decide) sh_169 rr_169_48 ?_
      refine G_aload_n dX12_line_63 rfl ?_
      refine G_getI (z := (mem 169 49)) dX12_line_64 fl_12_406 (by decide) sh_169 rfl ?_
      refine G_iload_n dX12_line_67 rfl ?_
      refine G_iload_n dX12_line_68 rfl ?_
      refine G_iload_n dX12_line_69 rfl ?_
      refine cb_X12_line_70 (ic_X12_at ?_)
      refine G_iast (mem2 := (up2 mem 194 (mem 169 49) (((16 * a1) + (8 * a3)) + a2))) dX12_line_73 (by decide) sh_194 (by decide) (q4 c1 c2).1 (q4 c1 c2).2 rfl ?_
      refine G_aload_n dX12_line_74 rfl ?_
      refine G_dup dX12_line_75 rfl ?_
      refine G_getI (z := (mem 169 49)) dX12_line_76 fl_12_406 (by decide) sh_169 (by simp [up2, upr]) ?_
      refine G_iconst (z := 1) dX12_line_79 rfl ?_
      refine G_iadd dX12_line_80 ?_
      refine G_putI (mem2 := (up2 (up2 mem 194 (mem 169 49) (((16 * a1) + (8 * a3)) + a2)) 169 49 ((mem 169 49) + 1))) dX12_line_81 fp_12_406 (by decide) sh_169 rfl ?_
      refine G_iinc (z := (a3 + 1)) dX12_line_84 rfl rfl (by decide : 3 < 7) rfl ?_
      refine G_goto (tgt := 39) dX12_line_87 (by decide) ?_
      exact k3 c1 c2
set_option maxRecDepth 20000 in
set_option maxHeartbeats 8000000 in
theorem sg_X12_line_109 {E : Nat × (Nat → Int32)} {P : Option Value → Mem → Prop} {mem : Mem} {a1 : Int} {a2 : Int} {a3 : Int} {a4 : Int} {a5 : Int} {a6 : Int} (w1 : -2147483648 ≤ a6 ∧ a6 < 2147483648) (w2 : -2147483648 ≤ (mem 169 49) ∧ (mem 169 49) < 2147483648) (w3 : -2147483648 ≤ a5 ∧ a5 < 2147483648) (w4 : -2147483648 ≤ a3 ∧ a3 < 2147483648) (w5 : -2147483648 ≤ a2 ∧ a2 < 2147483648)
    (k1 : (mem 169 49) < a6 → a5 = 0 → a5 = 0 → P (some (vi a4)) (up2 (up2 (up2 (up2 (up2 mem 169 1 0) 170 0 a3) 169 1 1) 170 1 a2) 169 1 2))
    (k2 : (mem 169 49) < a6 → a5 = 0 → ¬ a5 = 0 → P (some (vi a4)) (up2 (up2 (up2 (up2 (up2 mem 169 1 0) 170 0 a3) 169 1 1) 170 1 (-1)) 169 1 2))
    (k3 : (mem 169 49) < a6 → ¬ a5 = 0 → a5 = 0 → P (some (vi a4)) (up2 (up2 (up2 (up2 (up2 mem 169 1 0) 170 0 (-1)) 169 1 1) 170 1 a2) 169 1 2))
    (k4 : (mem 169 49) < a6 → ¬ a5 = 0 → ¬ a5 = 0 → P (some (vi a4)) (up2 (up2 (up2 (up2 (up2 mem 169 1 0) 170 0 (-1)) 169 1 1) 170 1 (-1)) 169 1 2))
    (k5 : ¬ (mem 169 49) < a6 → a5 = 0 → a5 = 0 → a5 = 0 → P (some (vi a4)) (up2 (up2 (up2 (up2 (up2 mem 169 1 0) 170 0 a3) 169 1 1) 170 1 a2) 169 1 2))
    (k6 : ¬ (mem 169 49) < a6 → a5 = 0 → a5 = 0 → ¬ a5 = 0 → P (some (vi a4)) (up2 (up2 (up2 (up2 (up2 mem 169 1 0) 170 0 a3) 169 1 1) 170 1 (-1)) 169 1 2))
    (k7 : ¬ (mem 169 49) < a6 → a5 = 0 → ¬ a5 = 0 → a5 = 0 → P (some (vi a4)) (up2 (up2 (up2 (up2 (up2 mem 169 1 0) 170 0 (-1)) 169 1 1) 170 1 a2) 169 1 2))
    (k8 : ¬ (mem 169 49) < a6 → a5 = 0 → ¬ a5 = 0 → ¬ a5 = 0 → P (some (vi a4)) (up2 (up2 (up2 (up2 (up2 mem 169 1 0) 170 0 (-1)) 169 1 1) 170 1 (-1)) 169 1 2))
    (k9 : ¬ (mem 169 49) < a6 → ¬ a5 = 0 → GM E (m_X12_line 7) P 127 [.ref 169, vi a1, vi a2, vi a3, vi a4, vi a5, vi a6] [vi a6, vi a1, .ref 169] mem) :
    GM E (m_X12_line 7) P 109 [.ref 169, vi a1, vi a2, vi a3, vi a4, vi a5, vi a6] [] mem := by
  refine G_iload dX12_line_109 rfl ?_
  refine G_aload_n dX12_line_111 rfl ?_
  refine G_getI (z := (mem 169 49)) dX12_line_112 fl_12_406 (by decide) sh_169 rfl ?_
  refine G_icmp_gt (tgt := 197) dX12_line_115 (by decide) (w1) (w2) (fun c1 => ?_) (fun c1 => ?_)
  · -- (mem 169 49) < a6
    refine G_aload_n dX12_line_197 rfl ?_
    refine G_iconst (z := 0) dX12_line_198 rfl ?_
    refine G_putI (mem2 := (up2 mem 169 1 0)) dX12_line_199 fp_12_134 (by decide) sh_169 rfl ?_
    refine G_aload_n dX12_line_202 rfl ?_
    refine G_iload dX12_line_203 rfl ?_
    refine G_if_eq (tgt := 214) dX12_line_205 (by decide) (w3) (fun c2 => ?_) (fun c2 => ?_)
    · -- a5 = 0
      refine G_iload_n dX12_line_214 rfl ?_
      refine G_i2l dX12_line_215 (w4) ?_
      refine cb_X12_line_216 (ic_X12_enters (z := 0) (z2 := 1) (by simp [up2, upr]) (by decide) rfl ?_)
      refine G_aload_n dX12_line_219 rfl ?_
      refine G_iload dX12_line_220 rfl ?_
      refine G_if_eq (tgt := 231) dX12_line_222 (by decide) (w3) (fun c3 => ?_) (fun c3 => ?_)
      · -- a5 = 0
        refine G_iload_n dX12_line_231 rfl ?_
        refine G_i2l dX12_line_232 (w5) ?_
        refine cb_X12_line_233 (ic_X12_enters (z := 1) (z2 := 2) (by simp [up2, upr]) (by decide) rfl ?_)
        refine G_iload dX12_line_236 rfl ?_
        exact G_iret dX12_line_238 rfl (Nat.zero_le _) (Nat.zero_le _) (Nat.le_refl _) ⟨rfl, k1 c1 c2 c3⟩
      · -- ¬ a5 = 0
        refine G_ldc2 (z := (-1)) dX12_line_225 kc_12_412 ?_
        refine G_goto (tgt := 233) dX12_line_228 (by decide) ?_
        refine cb_X12_line_233 (ic_X12_enters (z := 1) (z2 := 2) (by simp [up2, upr]) (by decide) rfl ?_)
        refine G_iload dX12_line_236 rfl ?_
        exact G_iret dX12_line_238 rfl (Nat.zero_le _) (Nat.zero_le _) (Nat.le_refl _) ⟨rfl, k2 c1 c2 c3⟩
    · -- ¬ a5 = 0
      refine G_ldc2 (z := (-1)) dX12_line_208 kc_12_412 ?_
      refine G_goto (tgt := 216) dX12_line_211 (by decide) ?_
      refine cb_X12_line_216 (ic_X12_enters (z := 0) (z2 := 1) (by simp [up2, upr]) (by decide) rfl ?_)
      refine G_aload_n dX12_line_219 rfl ?_
      refine G_iload dX12_line_220 rfl ?_
      refine G_if_eq (tgt := 231) dX12_line_222 (by decide) (w3) (fun c4 => ?_) (fun c4 => ?_)
      · -- a5 = 0
        refine G_iload_n dX12_line_231 rfl ?_
        refine G_i2l dX12_line_232 (w5) ?_
        refine cb_X12_line_233 (ic_X12_enters (z := 1) (z2 := 2) (by simp [up2, upr]) (by decide) rfl ?_)
        refine G_iload dX12_line_236 rfl ?_
        exact G_iret dX12_line_238 rfl (Nat.zero_le _) (Nat.zero_le _) (Nat.le_refl _) ⟨rfl, k3 c1 c2 c4⟩
      · -- ¬ a5 = 0
        refine G_ldc2 (z := (-1)) dX12_line_225 kc_12_412 ?_
        refine G_goto (tgt := 233) dX12_line_228 (by decide) ?_
        refine cb_X12_line_233 (ic_X12_enters (z := 1) (z2 := 2) (by simp [up2, upr]) (by decide) rfl ?_)
        refine G_iload dX12_line_236 rfl ?_
        exact G_iret dX12_line_238 rfl (Nat.zero_le _) (Nat.zero_le _) (Nat.le_refl _) ⟨rfl, k4 c1 c2 c4⟩
  · -- ¬ (mem 169 49) < a6
    refine G_iload dX12_line_118 rfl ?_
    refine G_if_eq (tgt := 197) dX12_line_120 (by decide) (w3) (fun c5 => ?_) (fun c5 => ?_)
    · -- a5 = 0
      refine G_aload_n dX12_line_197 rfl ?_
      refine G_iconst (z := 0) dX12_line_198 rfl ?_
      refine G_putI (mem2 := (up2 mem 169 1 0)) dX12_line_199 fp_12_134 (by decide) sh_169 rfl ?_
      refine G_aload_n dX12_line_202 rfl ?_
      refine G_iload dX12_line_203 rfl ?_
      refine G_if_eq (tgt := 214) dX12_line_205 (by decide) (w3) (fun c6 => ?_) (fun c6 => ?_)
      · -- a5 = 0
        refine G_iload_n dX12_line_214 rfl ?_
        refine G_i2l dX12_line_215 (w4) ?_
        refine cb_X12_line_216 (ic_X12_enters (z := 0) (z2 := 1) (by simp [up2, upr]) (by decide) rfl ?_)
        refine G_aload_n dX12_line_219 rfl ?_
        refine G_iload dX12_line_220 rfl ?_
        refine G_if_eq (tgt := 231) dX12_line_222 (by decide) (w3) (fun c7 => ?_) (fun c7 => ?_)
        · -- a5 = 0
          refine G_iload_n dX12_line_231 rfl ?_
          refine G_i2l dX12_line_232 (w5) ?_
          refine cb_X12_line_233 (ic_X12_enters (z := 1) (z2 := 2) (by simp [up2, upr]) (by decide) rfl ?_)
          refine G_iload dX12_line_236 rfl ?_
          exact G_iret dX12_line_238 rfl (Nat.zero_le _) (Nat.zero_le _) (Nat.le_refl _) ⟨rfl, k5 c1 c5 c6 c7⟩
        · -- ¬ a5 = 0
          refine G_ldc2 (z := (-1)) dX12_line_225 kc_12_412 ?_
          refine G_goto (tgt := 233) dX12_line_228 (by decide) ?_
          refine cb_X12_line_233 (ic_X12_enters (z := 1) (z2 := 2) (by simp [up2, upr]) (by decide) rfl ?_)
          refine G_iload dX12_line_236 rfl ?_
          exact G_iret dX12_line_238 rfl (Nat.zero_le _) (Nat.zero_le _) (Nat.le_refl _) ⟨rfl, k6 c1 c5 c6 c7⟩
      · -- ¬ a5 = 0
        refine G_ldc2 (z := (-1)) dX12_line_208 kc_12_412 ?_
        refine G_goto (tgt := 216) dX12_line_211 (by decide) ?_
        refine cb_X12_line_216 (ic_X12_enters (z := 0) (z2 := 1) (by simp [up2, upr]) (by decide) rfl ?_)
        refine G_aload_n dX12_line_219 rfl ?_
        refine G_iload dX12_line_220 rfl ?_
        refine G_if_eq (tgt := 231) dX12_line_222 (by decide) (w3) (fun c8 => ?_) (fun c8 => ?_)
        · -- a5 = 0
          refine G_iload_n dX12_line_231 rfl ?_
          refine G_i2l dX12_line_232 (w5) ?_
          refine cb_X12_line_233 (ic_X12_enters (z := 1) (z2 := 2) (by simp [up2, upr]) (by decide) rfl ?_)
          refine G_iload dX12_line_236 rfl ?_
          exact G_iret dX12_line_238 rfl (Nat.zero_le _) (Nat.zero_le _) (Nat.le_refl _) ⟨rfl, k7 c1 c5 c6 c8⟩
        · -- ¬ a5 = 0
          refine G_ldc2 (z := (-1)) dX12_line_225 kc_12_412 ?_
          refine G_goto (tgt := 233) dX12_line_228 (by decide) ?_
          refine cb_X12_line_233 (ic_X12_enters (z := 1) (z2 := 2) (by simp [up2, upr]) (by decide) rfl ?_)
          refine G_iload dX12_line_236 rfl ?_
          exact G_iret dX12_line_238 rfl (Nat.zero_le _) (Nat.zero_le _) (Nat.le_refl _) ⟨rfl, k8 c1 c5 c6 c8⟩
    · -- ¬ a5 = 0
      refine G_aload_n dX12_line_123 rfl ?_
      refine G_iload_n dX12_line_124 rfl ?_
      refine G_iload dX12_line_125 rfl ?_
      exact k9 c1 c5
set_option maxRecDepth 20000 in
set_option maxHeartbeats 8000000 in
theorem sg_X12_line_130 {E : Nat × (Nat → Int32)} {P : Option Value → Mem → Prop} {mem : Mem} {a1 : Int} {a2 : Int} {a3 : Int} {a4 : Int} {a5 : Int} {a6 : Int}
    (k1 : GM E (m_X12_line 7) P 137 [.ref 169, vi a1, vi a2, vi a3, vi a4, vi a5, vi a6] [vi 2, vi a1, .ref 181, .ref 169] mem) :
    GM E (m_X12_line 7) P 130 [.ref 169, vi a1, vi a2, vi a3, vi a4, vi a5, vi a6] [] mem := by
  refine G_aload_n dX12_line_130 rfl ?_
  refine G_aload_n dX12_line_131 rfl ?_
  refine G_getR (t := 181) dX12_line_132 fl_12_45 (by decide) sh_169 rr_169_15 ?_
  refine G_iload_n dX12_line_135 rfl ?_
  refine G_iconst (z := 2) dX12_line_136 rfl ?_
  exact k1
set_option maxRecDepth 20000 in
set_option maxHeartbeats 8000000 in
theorem sg_X12_line_140 {E : Nat × (Nat → Int32)} {P : Option Value → Mem → Prop} {mem : Mem} {a1 : Int} {a2 : Int} {a3 : Int} {a4 : Int} {a5 : Int} {a6 : Int} {s0 : Int}
    (k1 : GM E (m_X12_line 7) P 148 [.ref 169, vi a1, vi s0, vi a3, vi a4, vi a5, vi a6] [vi 0, vi a1, .ref 181, .ref 169] mem) :
    GM E (m_X12_line 7) P 140 [.ref 169, vi a1, vi a2, vi a3, vi a4, vi a5, vi a6] [vi s0] mem := by
  refine G_istore_n dX12_line_140 rfl (by decide : 2 < 7) rfl ?_
  refine G_aload_n dX12_line_141 rfl ?_
  refine G_aload_n dX12_line_142 rfl ?_
  refine G_getR (t := 181) dX12_line_143 fl_12_45 (by decide) sh_169 rr_169_15 ?_
  refine G_iload_n dX12_line_146 rfl ?_
  refine G_iconst (z := 0) dX12_line_147 rfl ?_
  exact k1
set_option maxRecDepth 20000 in
set_option maxHeartbeats 8000000 in
theorem sg_X12_line_151 {E : Nat × (Nat → Int32)} {P : Option Value → Mem → Prop} {mem : Mem} {a1 : Int} {a2 : Int} {a3 : Int} {a4 : Int} {a5 : Int} {a6 : Int} {s0 : Int}
    (k1 : GM E (m_X12_line 7) P 158 [.ref 169, vi a1, vi a2, vi a3, vi a4, vi a5, vi a6] [vi 1, vi a1, .ref 181, .ref 169, vi s0] mem) :
    GM E (m_X12_line 7) P 151 [.ref 169, vi a1, vi a2, vi a3, vi a4, vi a5, vi a6] [vi s0] mem := by
  refine G_aload_n dX12_line_151 rfl ?_
  refine G_aload_n dX12_line_152 rfl ?_
  refine G_getR (t := 181) dX12_line_153 fl_12_45 (by decide) sh_169 rr_169_15 ?_
  refine G_iload_n dX12_line_156 rfl ?_
  refine G_iconst (z := 1) dX12_line_157 rfl ?_
  exact k1
set_option maxRecDepth 20000 in
set_option maxHeartbeats 8000000 in
theorem sg_X12_line_161 {E : Nat × (Nat → Int32)} {P : Option Value → Mem → Prop} {mem : Mem} {a1 : Int} {a2 : Int} {a3 : Int} {a4 : Int} {a5 : Int} {a6 : Int} {s0 : Int} {s1 : Int} (w1 : -2147483648 ≤ s1 ∧ s1 < 2147483648) (w2 : -2147483648 ≤ s0 ∧ s0 < 2147483648) (w3 : -2147483648 ≤ a2 ∧ a2 < 2147483648) (w4 : -2147483648 ≤ (min s1 s0) ∧ (min s1 s0) < 2147483648)
    (k1 : (min s1 s0) < a2 → GM E (m_X12_line 7) P 109 [.ref 169, vi a1, vi a2, vi (min s1 s0), vi a4, vi 0, vi (a6 + 1)] [] mem)
    (k2 : ¬ (min s1 s0) < a2 → GM E (m_X12_line 7) P 109 [.ref 169, vi a1, vi a2, vi (min s1 s0), vi a6, vi 1, vi (a6 + 1)] [] mem) :
    GM E (m_X12_line 7) P 161 [.ref 169, vi a1, vi a2, vi a3, vi a4, vi a5, vi a6] [vi s0, vi s1] mem := by
  refine G_min (z := (min s1 s0)) dX12_line_161 ml_12_157 mw_min (w1) (w2) ⟨by show 1 ≤ 7; first | decide | omega, by show 21 ≤ 40 * 7; first | decide | omega, Nat.zero_le _, Nat.zero_le _⟩ (Nat.le_of_ble_eq_true rfl) rfl ?_
  refine G_istore_n dX12_line_164 rfl (by decide : 3 < 7) rfl ?_
  refine G_iload_n dX12_line_165 rfl ?_
  refine G_iload_n dX12_line_166 rfl ?_
  refine G_icmp_gt (tgt := 174) dX12_line_167 (by decide) (w3) (w4) (fun c1 => ?_) (fun c1 => ?_)
  · -- (min s1 s0) < a2
    refine G_iconst (z := 0) dX12_line_174 rfl ?_
    refine G_istore dX12_line_175 (by decide : 5 < 7) rfl ?_
    refine G_iload dX12_line_177 rfl ?_
    refine G_if_eq (tgt := 187) dX12_line_179 (by decide) (by decide) (fun _ => ?_) (fun h => absurd h (by decide))
    refine G_iload dX12_line_187 rfl ?_
    refine G_istore dX12_line_189 (by decide : 4 < 7) rfl ?_
    refine G_iinc (z := (a6 + 1)) dX12_line_191 rfl rfl (by decide : 6 < 7) rfl ?_
    refine G_goto (tgt := 109) dX12_line_194 (by decide) ?_
    exact k1 c1
  · -- ¬ (min s1 s0) < a2
    refine G_iconst (z := 1) dX12_line_170 rfl ?_
    refine G_goto (tgt := 175) dX12_line_171 (by decide) ?_
    refine G_istore dX12_line_175 (by decide : 5 < 7) rfl ?_
    refine G_iload dX12_line_177 rfl ?_
    refine G_if_eq (tgt := 187) dX12_line_179 (by decide) (by decide) (fun h => absurd h (by decide)) (fun _ => ?_)
    refine G_iload dX12_line_182 rfl ?_
    refine G_goto (tgt := 189) dX12_line_184 (by decide) ?_
    refine G_istore dX12_line_189 (by decide : 4 < 7) rfl ?_
    refine G_iinc (z := (a6 + 1)) dX12_line_191 rfl rfl (by decide : 6 < 7) rfl ?_
    refine G_goto (tgt := 109) dX12_line_194 (by decide) ?_
    exact k2 c1
set_option maxRecDepth 20000 in
set_option maxHeartbeats 8000000 in
theorem sg_X12_most_0 {E : Nat × (Nat → Int32)} {P : Option Value → Mem → Prop} {mem : Mem} {a1 : Int} {a2 : Int} (w1 : -2147483648 ≤ a1 ∧ a1 < 2147483648) (w2 : -2147483648 ≤ ((shlI 1 (mem 169 3)) - 1) ∧ ((shlI 1 (mem 169 3)) - 1) < 2147483648) (w3 : -9223372036854775808 ≤ a1 ∧ a1 < 9223372036854775808) (w4 : -9223372036854775808 ≤ ((shlI 1 (mem 169 3)) - 1) ∧ ((shlI 1 (mem 169 3)) - 1) < 9223372036854775808) (w5 : -2147483648 ≤ a2 ∧ a2 < 2147483648) (w6 : -9223372036854775808 ≤ a2 ∧ a2 < 9223372036854775808)
    (k1 : 0 ≤ a1 ∧ a1 ≤ ((shlI 1 (mem 169 3)) - 1) → 0 ≤ a2 ∧ a2 ≤ 99999 → GM E (m_X12_most 202) P 38 [.ref 169, vi a1, vi a2, vi 0, vi 1, un] [] (up2 mem 169 0 0))
    (k2 : 0 ≤ a1 ∧ a1 ≤ ((shlI 1 (mem 169 3)) - 1) → ¬ (0 ≤ a2 ∧ a2 ≤ 99999) → P (some (vi (-1))) (up2 mem 169 0 0))
    (k3 : ¬ (0 ≤ a1 ∧ a1 ≤ ((shlI 1 (mem 169 3)) - 1)) → P (some (vi (-1))) (up2 mem 169 0 0)) :
    GM E (m_X12_most 202) P 0 [.ref 169, vi a1, vi a2, un, un, un] [] mem := by
  refine G_aload_n dX12_most_0 rfl ?_
  refine G_iconst (z := 0) dX12_most_1 rfl ?_
  refine G_putI (mem2 := (up2 mem 169 0 0)) dX12_most_2 fp_12_126 (by decide) sh_169 rfl ?_
  refine G_iload_n dX12_most_5 rfl ?_
  refine G_i2l dX12_most_6 (w1) ?_
  refine G_lconst (z := 0) dX12_most_7 rfl ?_
  refine G_aload_n dX12_most_8 rfl ?_
  refine cb_X12_most_9 (ic_X12_all (z := (mem 169 3)) (by simp [up2, upr]) ?_)
  refine G_i2l dX12_most_12 (w2) ?_
  refine cb_X12_most_13 (ic_X12_in (w3) (by decide) (w4) (fun c1 => ?_) (fun c2 => ?_))
  · -- 0 ≤ a1 ∧ a1 ≤ ((shlI 1 (mem 169 3)) - 1)
    refine G_if_eq (tgt := 31) dX12_most_16 (by decide) (by decide) (fun h => absurd h (by decide)) (fun _ => ?_)
    refine G_iload_n dX12_most_19 rfl ?_
    refine G_i2l dX12_most_20 (w5) ?_
    refine G_lconst (z := 0) dX12_most_21 rfl ?_
    refine G_ldc2 (z := 99999) dX12_most_22 kc_12_449 ?_
    refine cb_X12_most_25 (ic_X12_in (w6) (by decide) (by decide) (fun c3 => ?_) (fun c4 => ?_))
    · -- 0 ≤ a2 ∧ a2 ≤ 99999
      refine G_if_ne (tgt := 33) dX12_most_28 (by decide) (by decide) (fun _ => ?_) (fun h => absurd h (by decide))
      refine G_iconst (z := 0) dX12_most_33 rfl ?_
      refine G_istore_n dX12_most_34 rfl (by decide : 3 < 6) rfl ?_
      refine G_iconst (z := 1) dX12_most_35 rfl ?_
      refine G_istore dX12_most_36 (by decide : 4 < 6) rfl ?_
      exact k1 c1 c3
    · -- ¬ (0 ≤ a2 ∧ a2 ≤ 99999)
      refine G_if_ne (tgt := 33) dX12_most_28 (by decide) (by decide) (fun h => absurd h (by decide)) (fun _ => ?_)
      refine G_iconst (z := (-1)) dX12_most_31 rfl ?_
      exact G_iret dX12_most_32 rfl (Nat.zero_le _) (Nat.zero_le _) (Nat.le_refl _) ⟨rfl, k2 c1 c4⟩
  · -- ¬ (0 ≤ a1 ∧ a1 ≤ ((shlI 1 (mem 169 3)) - 1))
    refine G_if_eq (tgt := 31) dX12_most_16 (by decide) (by decide) (fun _ => ?_) (fun h => absurd h (by decide))
    refine G_iconst (z := (-1)) dX12_most_31 rfl ?_
    exact G_iret dX12_most_32 rfl (Nat.zero_le _) (Nat.zero_le _) (Nat.le_refl _) ⟨rfl, k3 c2⟩
set_option maxRecDepth 20000 in
set_option maxHeartbeats 8000000 in
theorem sg_X12_most_38 {E : Nat × (Nat → Int32)} {P : Option Value → Mem → Prop} {mem : Mem} {a1 : Int} {a2 : Int} {a3 : Int} {a4 : Int} (w1 : -2147483648 ≤ a4 ∧ a4 < 2147483648) (w2 : -2147483648 ≤ a1 ∧ a1 < 2147483648) (w3 : -2147483648 ≤ a3 ∧ a3 < 2147483648)
    (k1 : a1 < a4 → GM E (m_X12_most 202) P 117 [.ref 169, vi a1, vi a2, vi a3, vi a4, un] [vi a3] (up2 (up2 (up2 mem 169 1 0) 170 0 a3) 169 1 1))
    (k2 : ¬ a1 < a4 → (bandI a4 (bxorI a1 (-1))) ≠ 0 → GM E (m_X12_most 202) P 38 [.ref 169, vi a1, vi a2, vi a3, vi (a4 + 1), un] [] mem)
    (k3 : ¬ a1 < a4 → (bandI a4 (bxorI a1 (-1))) = 0 → GM E (m_X12_most 202) P 55 [.ref 169, vi a1, vi a2, vi a3, vi a4, un] [vi a4] mem) :
    GM E (m_X12_most 202) P 38 [.ref 169, vi a1, vi a2, vi a3, vi a4, un] [] mem := by
  refine G_iload dX12_most_38 rfl ?_
  refine G_iload_n dX12_most_40 rfl ?_
  refine G_icmp_gt (tgt := 105) dX12_most_41 (by decide) (w1) (w2) (fun c1 => ?_) (fun c1 => ?_)
  · -- a1 < a4
    refine G_aload_n dX12_most_105 rfl ?_
    refine G_iconst (z := 0) dX12_most_106 rfl ?_
    refine G_putI (mem2 := (up2 mem 169 1 0)) dX12_most_107 fp_12_134 (by decide) sh_169 rfl ?_
    refine G_aload_n dX12_most_110 rfl ?_
    refine G_iload_n dX12_most_111 rfl ?_
    refine G_i2l dX12_most_112 (w3) ?_
    refine cb_X12_most_113 (ic_X12_enters (z := 0) (z2 := 1) (by simp [up2, upr]) (by decide) rfl ?_)
    refine G_iload_n dX12_most_116 rfl ?_
    exact k1 c1
  · -- ¬ a1 < a4
    refine G_iload dX12_most_44 rfl ?_
    refine G_iload_n dX12_most_46 rfl ?_
    refine G_iconst (z := (-1)) dX12_most_47 rfl ?_
    refine G_ixor (z := (bxorI a1 (-1))) dX12_most_48 (iI_inv _) ?_
    refine G_iand (z := (bandI a4 (bxorI a1 (-1)))) dX12_most_49 (iI_inv _) ?_
    refine G_if_ne (tgt := 99) dX12_most_50 (by decide) (iI_rng _) (fun c2 => ?_) (fun c2 => ?_)
    · -- (bandI a4 (bxorI a1 (-1))) ≠ 0
      refine G_iinc (z := (a4 + 1)) dX12_most_99 rfl rfl (by decide : 4 < 6) rfl ?_
      refine G_goto (tgt := 38) dX12_most_102 (by decide) ?_
      exact k2 c1 c2
    · -- (bandI a4 (bxorI a1 (-1))) = 0
      refine G_iload dX12_most_53 rfl ?_
      exact k3 c1 c2
set_option maxRecDepth 20000 in
set_option maxHeartbeats 8000000 in
theorem sg_X12_most_58 {E : Nat × (Nat → Int32)} {P : Option Value → Mem → Prop} {mem : Mem} {a1 : Int} {a2 : Int} {a3 : Int} {a4 : Int} {s0 : Int}
    (k1 : GM E (m_X12_most 202) P 59 [.ref 169, vi a1, vi a2, vi a3, vi a4, un] [vi a3, vi s0] mem) :
    GM E (m_X12_most 202) P 58 [.ref 169, vi a1, vi a2, vi a3, vi a4, un] [vi s0] mem := by
  refine G_iload_n dX12_most_58 rfl ?_
  exact k1
set_option maxRecDepth 20000 in
set_option maxHeartbeats 8000000 in
theorem sg_X12_most_62 {E : Nat × (Nat → Int32)} {P : Option Value → Mem → Prop} {mem : Mem} {a1 : Int} {a2 : Int} {a3 : Int} {a4 : Int} {s0 : Int} {s1 : Int} (w1 : -2147483648 ≤ s1 ∧ s1 < 2147483648) (w2 : -2147483648 ≤ s0 ∧ s0 < 2147483648)
    (k1 : s1 ≤ s0 → GM E (m_X12_most 202) P 38 [.ref 169, vi a1, vi a2, vi a3, vi (a4 + 1), un] [] mem)
    (k2 : ¬ s1 ≤ s0 → GM E (m_X12_most 202) P 68 [.ref 169, vi a1, vi a2, vi a3, vi a4, un] [vi a4, .ref 169] mem) :
    GM E (m_X12_most 202) P 62 [.ref 169, vi a1, vi a2, vi a3, vi a4, un] [vi s0, vi s1] mem := by
  refine G_icmp_le (tgt := 99) dX12_most_62 (by decide) (w1) (w2) (fun c1 => ?_) (fun c1 => ?_)
  · -- s1 ≤ s0
    refine G_iinc (z := (a4 + 1)) dX12_most_99 rfl rfl (by decide : 4 < 6) rfl ?_
    refine G_goto (tgt := 38) dX12_most_102 (by decide) ?_
    exact k1 c1
  · -- ¬ s1 ≤ s0
    refine G_aload_n dX12_most_65 rfl ?_
    refine G_iload dX12_most_66 rfl ?_
    exact k2 c1
set_option maxRecDepth 20000 in
set_option maxHeartbeats 8000000 in
theorem sg_X12_most_71 {E : Nat × (Nat → Int32)} {P : Option Value → Mem → Prop} {mem : Mem} {a1 : Int} {a2 : Int} {a3 : Int} {a4 : Int} {s0 : Int} (w1 : -2147483648 ≤ s0 ∧ s0 < 2147483648) (w2 : ¬ s0 < 0 → -2147483648 ≤ ((mem 180 98) + s0) ∧ ((mem 180 98) + s0) < 2147483648) (w3 : -2147483648 ≤ a2 ∧ a2 < 2147483648)
    (k1 : GM E (m_X12_most 202) P 38 [.ref 169, vi a1, vi a2, vi (if s0 < 0 then a3 else (if a2 < ((mem 180 98) + s0) then a3 else a4)), vi (a4 + 1), un] [] mem) :
    GM E (m_X12_most 202) P 71 [.ref 169, vi a1, vi a2, vi a3, vi a4, un] [vi s0] mem := by
  refine G_istore dX12_most_71 (by decide : 5 < 6) rfl ?_
  refine G_iload dX12_most_73 rfl ?_
  have j1 : GM E (m_X12_most 202) P 98 [.ref 169, vi a1, vi a2, vi a3, vi a4, vi s0] [vi (if s0 < 0 then a3 else (if a2 < ((mem 180 98) + s0) then a3 else a4))] mem := by
    refine G_istore_n dX12_most_98 rfl (by decide : 3 < 6) rfl ?_
    refine G_iinc (z := (a4 + 1)) dX12_most_99 rfl rfl (by decide : 4 < 6) rfl ?_
    refine G_goto (tgt := 38) dX12_most_102 (by decide) ?_
    refine G_weak (lv2 := [.ref 169, vi a1, vi a2, vi (if s0 < 0 then a3 else (if a2 < ((mem 180 98) + s0) then a3 else a4)), vi (a4 + 1), un]) ⟨Or.inr rfl, Or.inr rfl, Or.inr rfl, Or.inr rfl, Or.inr rfl, Or.inl rfl, trivial⟩ ?_
    exact k1
  refine G_if_lt (tgt := 97) dX12_most_75 (by decide) (w1) (fun c1 => ?_) (fun c1 => ?_)
  · -- s0 < 0
    refine G_iload_n dX12_most_97 rfl ?_
    have qj1 := j1
    simp only [if_pos c1] at qj1
    exact qj1
  · -- ¬ s0 < 0
    refine G_aload_n dX12_most_78 rfl ?_
    refine G_getR (t := 180) dX12_most_79 fl_12_42 (by decide) sh_169 rr_169_14 ?_
    refine G_bipush (z := 98) dX12_most_82 rfl ?_
    refine G_iald (z := (mem 180 98)) dX12_most_84 (by decide) sh_180 (by decide) (by decide) (by decide) rfl ?_
    refine G_iload dX12_most_85 rfl ?_
    refine G_iadd dX12_most_87 ?_
    refine G_iload_n dX12_most_88 rfl ?_
    have j2 : GM E (m_X12_most 202) P 98 [.ref 169, vi a1, vi a2, vi a3, vi a4, vi s0] [vi (if a2 < ((mem 180 98) + s0) then a3 else a4)] mem := by
      have qj1 := j1
      simp only [if_neg c1] at qj1
      exact qj1
    refine G_icmp_gt (tgt := 97) dX12_most_89 (by decide) (w2 c1) (w3) (fun c2 => ?_) (fun c2 => ?_)
    · -- a2 < ((mem 180 98) + s0)
      refine G_iload_n dX12_most_97 rfl ?_
      have qj2 := j2
      simp only [if_pos c2] at qj2
      exact qj2
    · -- ¬ a2 < ((mem 180 98) + s0)
      refine G_iload dX12_most_92 rfl ?_
      refine G_goto (tgt := 98) dX12_most_94 (by decide) ?_
      have qj2 := j2
      simp only [if_neg c2] at qj2
      exact qj2
set_option maxRecDepth 20000 in
set_option maxHeartbeats 8000000 in
theorem sg_X12_most_120 {E : Nat × (Nat → Int32)} {P : Option Value → Mem → Prop} {mem : Mem} {a1 : Int} {a2 : Int} {a3 : Int} {a4 : Int} {s0 : Int}
    (k1 : P (some (vi s0)) mem) :
    GM E (m_X12_most 202) P 120 [.ref 169, vi a1, vi a2, vi a3, vi a4, un] [vi s0] mem := by
  exact G_iret dX12_most_120 rfl (Nat.zero_le _) (Nat.zero_le _) (Nat.le_refl _) ⟨rfl, k1⟩
set_option maxRecDepth 20000 in
set_option maxHeartbeats 8000000 in
theorem sg_X12_movesFrom_0 {E : Nat × (Nat → Int32)} {d : Nat} {P : Option Value → Mem → Prop} {mem : Mem} {a1 : Int} {a2 : Int} {a3 : Int} {a4 : Int} {a5 : Int} (w1 : -2147483648 ≤ a4 ∧ a4 < 2147483648) (w2 : -2147483648 ≤ (mem 169 60) ∧ (mem 169 60) < 2147483648) (w3 : -2147483648 ≤ a1 ∧ a1 < 2147483648) (w4 : ¬ (mem 169 60) < a4 → a4 ≠ (mem 169 60) → -2147483648 ≤ (mem 169 59) ∧ (mem 169 59) < 2147483648) (w5 : ¬ (mem 169 60) < a4 → a4 = (mem 169 60) → -2147483648 ≤ (mem 169 59) ∧ (mem 169 59) < 2147483648) (w6 : -2147483648 ≤ a5 ∧ a5 < 2147483648) (w7 : ¬ (mem 169 60) < a4 → a4 = (mem 169 60) → a1 = (mem 169 59) → -2147483648 ≤ (mem 169 61) ∧ (mem 169 61) < 2147483648)
    (k1 : (mem 169 60) < a4 → P none mem)
    (k2 : ¬ (mem 169 60) < a4 → a4 ≠ (mem 169 60) → a1 ≠ (mem 169 59) → GM E (m_X12_movesFrom d) P 91 [.ref 169, vi a1, vi a2, vi a3, vi a4, vi a5, vi (a2 + 1)] [] mem)
    (k3 : ¬ (mem 169 60) < a4 → a4 ≠ (mem 169 60) → a1 = (mem 169 59) → GM E (m_X12_movesFrom d) P 59 [.ref 169, vi a1, vi a2, vi a3, vi a4, vi a5, vi 0] [] (up2 (up2 mem 169 60 a4) 169 61 a5))
    (k4 : ¬ (mem 169 60) < a4 → a4 = (mem 169 60) → a1 ≠ (mem 169 59) → a1 ≠ (mem 169 59) → GM E (m_X12_movesFrom d) P 91 [.ref 169, vi a1, vi a2, vi a3, vi a4, vi a5, vi (a2 + 1)] [] mem)
    (k5 : ¬ (mem 169 60) < a4 → a4 = (mem 169 60) → a1 ≠ (mem 169 59) → a1 = (mem 169 59) → GM E (m_X12_movesFrom d) P 59 [.ref 169, vi a1, vi a2, vi a3, vi a4, vi a5, vi 0] [] (up2 (up2 mem 169 60 a4) 169 61 a5))
    (k6 : ¬ (mem 169 60) < a4 → a4 = (mem 169 60) → a1 = (mem 169 59) → a5 < (mem 169 61) → a1 ≠ (mem 169 59) → GM E (m_X12_movesFrom d) P 91 [.ref 169, vi a1, vi a2, vi a3, vi a4, vi a5, vi (a2 + 1)] [] mem)
    (k7 : ¬ (mem 169 60) < a4 → a4 = (mem 169 60) → a1 = (mem 169 59) → a5 < (mem 169 61) → a1 = (mem 169 59) → GM E (m_X12_movesFrom d) P 59 [.ref 169, vi a1, vi a2, vi a3, vi a4, vi a5, vi 0] [] (up2 (up2 mem 169 60 a4) 169 61 a5))
    (k8 : ¬ (mem 169 60) < a4 → a4 = (mem 169 60) → a1 = (mem 169 59) → ¬ a5 < (mem 169 61) → P none mem) :
    GM E (m_X12_movesFrom d) P 0 [.ref 169, vi a1, vi a2, vi a3, vi a4, vi a5, un] [] mem := by
  refine G_iload dX12_movesFrom_0 rfl ?_
  refine G_aload_n dX12_movesFrom_2 rfl ?_
  refine G_getI (z := (mem 169 60)) dX12_movesFrom_3 fl_12_454 (by decide) sh_169 rfl ?_
  refine G_icmp_gt (tgt := 35) dX12_movesFrom_6 (by decide) (w1) (w2) (fun c1 => ?_) (fun c1 => ?_)
  · -- (mem 169 60) < a4
    exact G_vret dX12_movesFrom_35 rfl (Nat.zero_le _) (Nat.zero_le _) (Nat.le_refl _) ⟨rfl, k1 c1⟩
  · -- ¬ (mem 169 60) < a4
    refine G_iload dX12_movesFrom_9 rfl ?_
    refine G_aload_n dX12_movesFrom_11 rfl ?_
    refine G_getI (z := (mem 169 60)) dX12_movesFrom_12 fl_12_454 (by decide) sh_169 rfl ?_
    refine G_icmp_ne (tgt := 36) dX12_movesFrom_15 (by decide) (w1) (w2) (fun c2 => ?_) (fun c2 => ?_)
    · -- a4 ≠ (mem 169 60)
      refine G_iload_n dX12_movesFrom_36 rfl ?_
      refine G_aload_n dX12_movesFrom_37 rfl ?_
      refine G_getI (z := (mem 169 59)) dX12_movesFrom_38 fl_12_457 (by decide) sh_169 rfl ?_
      refine G_icmp_ne (tgt := 86) dX12_movesFrom_41 (by decide) (w3) (w4 c1 c2) (fun c3 => ?_) (fun c3 => ?_)
      · -- a1 ≠ (mem 169 59)
        refine G_iload_n dX12_movesFrom_86 rfl ?_
        refine G_iconst (z := 1) dX12_movesFrom_87 rfl ?_
        refine G_iadd dX12_movesFrom_88 ?_
        refine G_istore dX12_movesFrom_89 (by decide : 6 < 7) rfl ?_
        exact k2 c1 c2 c3
      · -- a1 = (mem 169 59)
        refine G_aload_n dX12_movesFrom_44 rfl ?_
        refine G_iload dX12_movesFrom_45 rfl ?_
        refine G_putI (mem2 := (up2 mem 169 60 a4)) dX12_movesFrom_47 fp_12_454 (by decide) sh_169 rfl ?_
        refine G_aload_n dX12_movesFrom_50 rfl ?_
        refine G_iload dX12_movesFrom_51 rfl ?_
        refine G_putI (mem2 := (up2 (up2 mem 169 60 a4) 169 61 a5)) dX12_movesFrom_53 fp_12_460 (by decide) sh_169 rfl ?_
        refine G_iconst (z := 0) dX12_movesFrom_56 rfl ?_
        refine G_istore dX12_movesFrom_57 (by decide : 6 < 7) rfl ?_
        exact k3 c1 c2 c3
    · -- a4 = (mem 169 60)
      refine G_iload_n dX12_movesFrom_18 rfl ?_
      refine G_aload_n dX12_movesFrom_19 rfl ?_
      refine G_getI (z := (mem 169 59)) dX12_movesFrom_20 fl_12_457 (by decide) sh_169 rfl ?_
      refine G_icmp_ne (tgt := 36) dX12_movesFrom_23 (by decide) (w3) (w5 c1 c2) (fun c4 => ?_) (fun c4 => ?_)
      · -- a1 ≠ (mem 169 59)
        refine G_iload_n dX12_movesFrom_36 rfl ?_
        refine G_aload_n dX12_movesFrom_37 rfl ?_
        refine G_getI (z := (mem 169 59)) dX12_movesFrom_38 fl_12_457 (by decide) sh_169 rfl ?_
        refine G_icmp_ne (tgt := 86) dX12_movesFrom_41 (by decide) (w3) (w5 c1 c2) (fun c5 => ?_) (fun c5 => ?_)
        · -- a1 ≠ (mem 169 59)
          refine G_iload_n dX12_movesFrom_86 rfl ?_
          refine G_iconst (z := 1) dX12_movesFrom_87 rfl ?_
          refine G_iadd dX12_movesFrom_88 ?_
          refine G_istore dX12_movesFrom_89 (by decide : 6 < 7) rfl ?_
          exact k4 c1 c2 c4 c5
        · -- a1 = (mem 169 59)
          refine G_aload_n dX12_movesFrom_44 rfl ?_
          refine G_iload dX12_movesFrom_45 rfl ?_
          refine G_putI (mem2 := (up2 mem 169 60 a4)) dX12_movesFrom_47 fp_12_454 (by decide) sh_169 rfl ?_
          refine G_aload_n dX12_movesFrom_50 rfl ?_
          refine G_iload dX12_movesFrom_51 rfl ?_
          refine G_putI (mem2 := (up2 (up2 mem 169 60 a4) 169 61 a5)) dX12_movesFrom_53 fp_12_460 (by decide) sh_169 rfl ?_
          refine G_iconst (z := 0) dX12_movesFrom_56 rfl ?_
          refine G_istore dX12_movesFrom_57 (by decide : 6 < 7) rfl ?_
          exact k5 c1 c2 c4 c5
      · -- a1 = (mem 169 59)
        refine G_iload dX12_movesFrom_26 rfl ?_
        refine G_aload_n dX12_movesFrom_28 rfl ?_
        refine G_getI (z := (mem 169 61)) dX12_movesFrom_29 fl_12_460 (by decide) sh_169 rfl ?_
        refine G_icmp_lt (tgt := 36) dX12_movesFrom_32 (by decide) (w6) (w7 c1 c2 c4) (fun c6 => ?_) (fun c6 => ?_)
        · -- a5 < (mem 169 61)
          refine G_iload_n dX12_movesFrom_36 rfl ?_
          refine G_aload_n dX12_movesFrom_37 rfl ?_
          refine G_getI (z := (mem 169 59)) dX12_movesFrom_38 fl_12_457 (by decide) sh_169 rfl ?_
          refine G_icmp_ne (tgt := 86) dX12_movesFrom_41 (by decide) (w3) (w5 c1 c2) (fun c7 => ?_) (fun c7 => ?_)
          · -- a1 ≠ (mem 169 59)
            refine G_iload_n dX12_movesFrom_86 rfl ?_
            refine G_iconst (z := 1) dX12_movesFrom_87 rfl ?_
            refine G_iadd dX12_movesFrom_88 ?_
            refine G_istore dX12_movesFrom_89 (by decide : 6 < 7) rfl ?_
            exact k6 c1 c2 c4 c6 c7
          · -- a1 = (mem 169 59)
            refine G_aload_n dX12_movesFrom_44 rfl ?_
            refine G_iload dX12_movesFrom_45 rfl ?_
            refine G_putI (mem2 := (up2 mem 169 60 a4)) dX12_movesFrom_47 fp_12_454 (by decide) sh_169 rfl ?_
            refine G_aload_n dX12_movesFrom_50 rfl ?_
            refine G_iload dX12_movesFrom_51 rfl ?_
            refine G_putI (mem2 := (up2 (up2 mem 169 60 a4) 169 61 a5)) dX12_movesFrom_53 fp_12_460 (by decide) sh_169 rfl ?_
            refine G_iconst (z := 0) dX12_movesFrom_56 rfl ?_
            refine G_istore dX12_movesFrom_57 (by decide : 6 < 7) rfl ?_
            exact k7 c1 c2 c4 c6 c7
        · -- ¬ a5 < (mem 169 61)
          exact G_vret dX12_movesFrom_35 rfl (Nat.zero_le _) (Nat.zero_le _) (Nat.le_refl _) ⟨rfl, k8 c1 c2 c4 c6⟩
set_option maxRecDepth 20000 in
set_option maxHeartbeats 8000000 in
theorem sg_X12_movesFrom_59 {E : Nat × (Nat → Int32)} {d : Nat} {P : Option Value → Mem → Prop} {mem : Mem} {a1 : Int} {a2 : Int} {a3 : Int} {a4 : Int} {a5 : Int} {a6 : Int} (w1 : -2147483648 ≤ a6 ∧ a6 < 2147483648) (w2 : -2147483648 ≤ a1 ∧ a1 < 2147483648) (q3 : ¬ a1 ≤ a6 → 0 ≤ a6 ∧ a6 < 6)
    (k1 : a1 ≤ a6 → P none mem)
    (k2 : ¬ a1 ≤ a6 → GM E (m_X12_movesFrom d) P 59 [.ref 169, vi a1, vi a2, vi a3, vi a4, vi a5, vi (a6 + 1)] [] (up2 mem 199 a6 (mem 198 a6))) :
    GM E (m_X12_movesFrom d) P 59 [.ref 169, vi a1, vi a2, vi a3, vi a4, vi a5, vi a6] [] mem := by
  refine G_iload dX12_movesFrom_59 rfl ?_
  refine G_iload_n dX12_movesFrom_61 rfl ?_
  refine G_icmp_ge (tgt := 85) dX12_movesFrom_62 (by decide) (w1) (w2) (fun c1 => ?_) (fun c1 => ?_)
  · -- a1 ≤ a6
    exact G_vret dX12_movesFrom_85 rfl (Nat.zero_le _) (Nat.zero_le _) (Nat.le_refl _) ⟨rfl, k1 c1⟩
  · -- ¬ a1 ≤ a6
    refine G_aload_n dX12_movesFrom_65 rfl ?_
    refine G_getR (t := 199) dX12_movesFrom_66 fl_12_99 (by decide) sh_169 rr_169_57 ?_
    refine G_iload dX12_movesFrom_69 rfl ?_
    refine G_aload_n dX12_movesFrom_71 rfl ?_
    refine G_getR (t := 198) dX12_movesFrom_72 fl_12_96 (by decide) sh_169 rr_169_56 ?_
    refine G_iload dX12_movesFrom_75 rfl ?_
    refine G_iald (z := (mem 198 a6)) dX12_movesFrom_77 (by decide) sh_198 (by decide) (q3 c1).1 (q3 c1).2 rfl ?_
    refine G_iast (mem2 := (up2 mem 199 a6 (mem 198 a6))) dX12_movesFrom_78 (by decide) sh_199 (by decide) (q3 c1).1 (q3 c1).2 rfl ?_
    refine G_iinc (z := (a6 + 1)) dX12_movesFrom_79 rfl rfl (by decide : 6 < 7) rfl ?_
    refine G_goto (tgt := 59) dX12_movesFrom_82 (by decide) ?_
    exact k2 c1
set_option maxRecDepth 20000 in
set_option maxHeartbeats 8000000 in
theorem sg_X12_movesFrom_91 {E : Nat × (Nat → Int32)} {d : Nat} (hd : 1 ≤ d) {P : Option Value → Mem → Prop} {mem : Mem} {a1 : Int} {a2 : Int} {a3 : Int} {a4 : Int} {a5 : Int} {a6 : Int} (w1 : -2147483648 ≤ a6 ∧ a6 < 2147483648) (q2 : ¬ 6 < a6 → 0 ≤ a6 ∧ a6 < 7) (q3 : ¬ 6 < a6 → 0 ≤ a1 ∧ a1 < 6) (w4 : ¬ 6 < a6 → -2147483648 ≤ ((mem 197 a6) + (mem 200 a1)) ∧ ((mem 197 a6) + (mem 200 a1)) < 2147483648) (w5 : -2147483648 ≤ a3 ∧ a3 < 2147483648) (w6 : -2147483648 ≤ a4 ∧ a4 < 2147483648)
    (k1 : 6 < a6 → P none mem)
    (k2 : ¬ 6 < a6 → a3 < ((mem 197 a6) + (mem 200 a1)) → GM E (m_X12_movesFrom d) P 91 [.ref 169, vi a1, vi a2, vi a3, vi a4, vi a5, vi (a6 + 1)] [] mem)
    (k3 : ¬ 6 < a6 → ¬ a3 < ((mem 197 a6) + (mem 200 a1)) → GM E (m_X12_movesFrom d) P 158 [.ref 169, vi a1, vi a2, vi a3, vi a4, vi a5, vi a6] [vi (a5 + a6), vi (max a4 a6), vi a3, vi a2, vi (a1 + 1), .ref 169] (up2 (up2 mem 197 a6 ((mem 197 a6) + (mem 200 a1))) 198 a1 a6)) :
    GM E (m_X12_movesFrom d) P 91 [.ref 169, vi a1, vi a2, vi a3, vi a4, vi a5, vi a6] [] mem := by
  refine G_iload dX12_movesFrom_91 rfl ?_
  refine G_bipush (z := 6) dX12_movesFrom_93 rfl ?_
  refine G_icmp_gt (tgt := 183) dX12_movesFrom_95 (by decide) (w1) (by decide) (fun c1 => ?_) (fun c1 => ?_)
  · -- 6 < a6
    exact G_vret dX12_movesFrom_183 rfl (Nat.zero_le _) (Nat.zero_le _) (Nat.le_refl _) ⟨rfl, k1 c1⟩
  · -- ¬ 6 < a6
    refine G_aload_n dX12_movesFrom_98 rfl ?_
    refine G_getR (t := 197) dX12_movesFrom_99 fl_12_93 (by decide) sh_169 rr_169_55 ?_
    refine G_iload dX12_movesFrom_102 rfl ?_
    refine G_iald (z := (mem 197 a6)) dX12_movesFrom_104 (by decide) sh_197 (by decide) (q2 c1).1 (q2 c1).2 rfl ?_
    refine G_aload_n dX12_movesFrom_105 rfl ?_
    refine G_getR (t := 200) dX12_movesFrom_106 fl_12_102 (by decide) sh_169 rr_169_58 ?_
    refine G_iload_n dX12_movesFrom_109 rfl ?_
    refine G_iald (z := (mem 200 a1)) dX12_movesFrom_110 (by decide) sh_200 (by decide) (q3 c1).1 (q3 c1).2 rfl ?_
    refine G_iadd dX12_movesFrom_111 ?_
    refine G_iload_n dX12_movesFrom_112 rfl ?_
    refine G_icmp_gt (tgt := 177) dX12_movesFrom_113 (by decide) (w4 c1) (w5) (fun c2 => ?_) (fun c2 => ?_)
    · -- a3 < ((mem 197 a6) + (mem 200 a1))
      refine G_iinc (z := (a6 + 1)) dX12_movesFrom_177 rfl rfl (by decide : 6 < 7) rfl ?_
      refine G_goto (tgt := 91) dX12_movesFrom_180 (by decide) ?_
      exact k2 c1 c2
    · -- ¬ a3 < ((mem 197 a6) + (mem 200 a1))
      refine G_aload_n dX12_movesFrom_116 rfl ?_
      refine G_getR (t := 197) dX12_movesFrom_117 fl_12_93 (by decide) sh_169 rr_169_55 ?_
      refine G_iload dX12_movesFrom_120 rfl ?_
      refine G_dup2 dX12_movesFrom_122 rfl rfl ?_
      refine G_iald (z := (mem 197 a6)) dX12_movesFrom_123 (by decide) sh_197 (by decide) (q2 c1).1 (q2 c1).2 rfl ?_
      refine G_aload_n dX12_movesFrom_124 rfl ?_
      refine G_getR (t := 200) dX12_movesFrom_125 fl_12_102 (by decide) sh_169 rr_169_58 ?_
      refine G_iload_n dX12_movesFrom_128 rfl ?_
      refine G_iald (z := (mem 200 a1)) dX12_movesFrom_129 (by decide) sh_200 (by decide) (q3 c1).1 (q3 c1).2 rfl ?_
      refine G_iadd dX12_movesFrom_130 ?_
      refine G_iast (mem2 := (up2 mem 197 a6 ((mem 197 a6) + (mem 200 a1)))) dX12_movesFrom_131 (by decide) sh_197 (by decide) (q2 c1).1 (q2 c1).2 rfl ?_
      refine G_aload_n dX12_movesFrom_132 rfl ?_
      refine G_getR (t := 198) dX12_movesFrom_133 fl_12_96 (by decide) sh_169 rr_169_56 ?_
      refine G_iload_n dX12_movesFrom_136 rfl ?_
      refine G_iload dX12_movesFrom_137 rfl ?_
      refine G_iast (mem2 := (up2 (up2 mem 197 a6 ((mem 197 a6) + (mem 200 a1))) 198 a1 a6)) dX12_movesFrom_139 (by decide) sh_198 (by decide) (q3 c1).1 (q3 c1).2 rfl ?_
      refine G_aload_n dX12_movesFrom_140 rfl ?_
      refine G_iload_n dX12_movesFrom_141 rfl ?_
      refine G_iconst (z := 1) dX12_movesFrom_142 rfl ?_
      refine G_iadd dX12_movesFrom_143 ?_
      refine G_iload_n dX12_movesFrom_144 rfl ?_
      refine G_iload_n dX12_movesFrom_145 rfl ?_
      refine G_iload dX12_movesFrom_146 rfl ?_
      refine G_iload dX12_movesFrom_148 rfl ?_
      refine G_max (z := (max a4 a6)) dX12_movesFrom_150 ml_12_257 mw_max (w6) (w1) ⟨by show 1 ≤ d; first | decide | omega, by show 21 ≤ 40 * d; first | decide | omega, Nat.zero_le _, Nat.zero_le _⟩ (Nat.le_of_ble_eq_true rfl) rfl ?_
      refine G_iload dX12_movesFrom_153 rfl ?_
      refine G_iload dX12_movesFrom_155 rfl ?_
      refine G_iadd dX12_movesFrom_157 ?_
      exact k3 c1 c2
set_option maxRecDepth 20000 in
set_option maxHeartbeats 8000000 in
theorem sg_X12_movesFrom_161 {E : Nat × (Nat → Int32)} {d : Nat} {P : Option Value → Mem → Prop} {mem : Mem} {a1 : Int} {a2 : Int} {a3 : Int} {a4 : Int} {a5 : Int} {a6 : Int} (q1 : 0 ≤ a6 ∧ a6 < 7) (q2 : 0 ≤ a1 ∧ a1 < 6)
    (k1 : GM E (m_X12_movesFrom d) P 91 [.ref 169, vi a1, vi a2, vi a3, vi a4, vi a5, vi (a6 + 1)] [] (up2 mem 197 a6 ((mem 197 a6) - (mem 200 a1)))) :
    GM E (m_X12_movesFrom d) P 161 [.ref 169, vi a1, vi a2, vi a3, vi a4, vi a5, vi a6] [] mem := by
  refine G_aload_n dX12_movesFrom_161 rfl ?_
  refine G_getR (t := 197) dX12_movesFrom_162 fl_12_93 (by decide) sh_169 rr_169_55 ?_
  refine G_iload dX12_movesFrom_165 rfl ?_
  refine G_dup2 dX12_movesFrom_167 rfl rfl ?_
  refine G_iald (z := (mem 197 a6)) dX12_movesFrom_168 (by decide) sh_197 (by decide) (q1).1 (q1).2 rfl ?_
  refine G_aload_n dX12_movesFrom_169 rfl ?_
  refine G_getR (t := 200) dX12_movesFrom_170 fl_12_102 (by decide) sh_169 rr_169_58 ?_
  refine G_iload_n dX12_movesFrom_173 rfl ?_
  refine G_iald (z := (mem 200 a1)) dX12_movesFrom_174 (by decide) sh_200 (by decide) (q2).1 (q2).2 rfl ?_
  refine G_isub dX12_movesFrom_175 ?_
  refine G_iast (mem2 := (up2 mem 197 a6 ((mem 197 a6) - (mem 200 a1)))) dX12_movesFrom_176 (by decide) sh_197 (by decide) (q1).1 (q1).2 rfl ?_
  refine G_iinc (z := (a6 + 1)) dX12_movesFrom_177 rfl rfl (by decide : 6 < 7) rfl ?_
  refine G_goto (tgt := 91) dX12_movesFrom_180 (by decide) ?_
  exact k1
set_option maxRecDepth 20000 in
set_option maxHeartbeats 8000000 in
theorem sg_X12_next_0 {E : Nat × (Nat → Int32)} {P : Option Value → Mem → Prop} {mem : Mem}
    (k1 : GM E (m_X12_next 5) P 6 [.ref 169, un, un, un, un, un, un] [.ref 169] (up2 mem 169 0 0)) :
    GM E (m_X12_next 5) P 0 [.ref 169, un, un, un, un, un, un] [] mem := by
  refine G_aload_n dX12_next_0 rfl ?_
  refine G_iconst (z := 0) dX12_next_1 rfl ?_
  refine G_putI (mem2 := (up2 mem 169 0 0)) dX12_next_2 fp_12_126 (by decide) sh_169 rfl ?_
  refine G_aload_n dX12_next_5 rfl ?_
  exact k1
set_option maxRecDepth 20000 in
set_option maxHeartbeats 8000000 in
theorem sg_X12_next_9 {E : Nat × (Nat → Int32)} {P : Option Value → Mem → Prop} {mem : Mem}
    (k1 : GM E (m_X12_next 5) P 13 [.ref 169, vi 0, vi 0, un, un, un, un] [] mem) :
    GM E (m_X12_next 5) P 9 [.ref 169, un, un, un, un, un, un] [] mem := by
  refine G_iconst (z := 0) dX12_next_9 rfl ?_
  refine G_istore_n dX12_next_10 rfl (by decide : 1 < 7) rfl ?_
  refine G_iconst (z := 0) dX12_next_11 rfl ?_
  refine G_istore_n dX12_next_12 rfl (by decide : 2 < 7) rfl ?_
  exact k1
set_option maxRecDepth 20000 in
set_option maxHeartbeats 8000000 in
theorem sg_X12_next_13 {E : Nat × (Nat → Int32)} {P : Option Value → Mem → Prop} {mem : Mem} {a1 : Int} {a2 : Int} (w1 : -2147483648 ≤ a2 ∧ a2 < 2147483648) (w2 : -2147483648 ≤ (mem 169 3) ∧ (mem 169 3) < 2147483648) (w3 : -2147483648 ≤ a1 ∧ a1 < 2147483648) (q4 : ¬ (mem 169 3) ≤ a2 → 0 ≤ a2 ∧ a2 < 6)
    (k1 : (mem 169 3) ≤ a2 → a1 ≠ 0 → GM E (m_X12_next 5) P 59 [.ref 169, vi a1, vi 0, vi a1, vi 1, un, un] [] mem)
    (k2 : (mem 169 3) ≤ a2 → a1 = 0 → P (some (vi (-2))) mem)
    (k3 : ¬ (mem 169 3) ≤ a2 → GM E (m_X12_next 5) P 13 [.ref 169, vi (a1 + ((2 * (mem 172 a2)) * (mem 203 a2))), vi (a2 + 1), un, un, un, un] [] mem) :
    GM E (m_X12_next 5) P 13 [.ref 169, vi a1, vi a2, un, un, un, un] [] mem := by
  refine G_iload_n dX12_next_13 rfl ?_
  refine G_aload_n dX12_next_14 rfl ?_
  refine G_getI (z := (mem 169 3)) dX12_next_15 fl_12_137 (by decide) sh_169 rfl ?_
  refine G_icmp_ge (tgt := 45) dX12_next_18 (by decide) (w1) (w2) (fun c1 => ?_) (fun c1 => ?_)
  · -- (mem 169 3) ≤ a2
    refine G_iload_n dX12_next_45 rfl ?_
    refine G_if_ne (tgt := 52) dX12_next_46 (by decide) (w3) (fun c2 => ?_) (fun c2 => ?_)
    · -- a1 ≠ 0
      refine G_iconst (z := 0) dX12_next_52 rfl ?_
      refine G_istore_n dX12_next_53 rfl (by decide : 2 < 7) rfl ?_
      refine G_iload_n dX12_next_54 rfl ?_
      refine G_istore_n dX12_next_55 rfl (by decide : 3 < 7) rfl ?_
      refine G_iconst (z := 1) dX12_next_56 rfl ?_
      refine G_istore dX12_next_57 (by decide : 4 < 7) rfl ?_
      exact k1 c1 c2
    · -- a1 = 0
      refine G_bipush (z := (-2)) dX12_next_49 rfl ?_
      exact G_iret dX12_next_51 rfl (Nat.zero_le _) (Nat.zero_le _) (Nat.le_refl _) ⟨rfl, k2 c1 c2⟩
  · -- ¬ (mem 169 3) ≤ a2
    refine G_iload_n dX12_next_21 rfl ?_
    refine G_iconst (z := 2) dX12_next_22 rfl ?_
    refine G_aload_n dX12_next_23 rfl ?_
    refine G_getR (t := 172) dX12_next_24 fl_12_17 (by decide) sh_169 rr_169_6 ?_
    refine G_iload_n dX12_next_27 rfl ?_
    refine G_iald (z := (mem 172 a2)) dX12_next_28 (by decide) sh_172 (by decide) (q4 c1).1 (q4 c1).2 rfl ?_
    refine G_imul dX12_next_29 ?_
    refine G_aload_n dX12_next_30 rfl ?_
    refine G_getR (t := 203) dX12_next_31 fl_12_111 (by decide) sh_169 rr_169_65 ?_
    refine G_iload_n dX12_next_34 rfl ?_
    refine G_iald (z := (mem 203 a2)) dX12_next_35 (by decide) sh_203 (by decide) (q4 c1).1 (q4 c1).2 rfl ?_
    refine G_imul dX12_next_36 ?_
    refine G_iadd dX12_next_37 ?_
    refine G_istore_n dX12_next_38 rfl (by decide : 1 < 7) rfl ?_
    refine G_iinc (z := (a2 + 1)) dX12_next_39 rfl rfl (by decide : 2 < 7) rfl ?_
    refine G_goto (tgt := 13) dX12_next_42 (by decide) ?_
    exact k3 c1
set_option maxRecDepth 20000 in
set_option maxHeartbeats 8000000 in
theorem sg_X12_next_59 {E : Nat × (Nat → Int32)} {P : Option Value → Mem → Prop} {mem : Mem} {a1 : Int} {a2 : Int} {a3 : Int} {a4 : Int} (w1 : -2147483648 ≤ a4 ∧ a4 < 2147483648) (w2 : -2147483648 ≤ ((shlI 1 (mem 169 3)) - 1) ∧ ((shlI 1 (mem 169 3)) - 1) < 2147483648) (w3 : -2147483648 ≤ a3 ∧ a3 < 2147483648)
    (k1 : ((shlI 1 (mem 169 3)) - 1) < a4 → P (some (vi a2)) (up2 (up2 (up2 mem 169 1 0) 170 0 a3) 169 1 1))
    (k2 : ¬ ((shlI 1 (mem 169 3)) - 1) < a4 → GM E (m_X12_next 5) P 74 [.ref 169, vi a1, vi a2, vi a3, vi a4, vi 0, vi 0] [] mem) :
    GM E (m_X12_next 5) P 59 [.ref 169, vi a1, vi a2, vi a3, vi a4, un, un] [] mem := by
  refine G_iload dX12_next_59 rfl ?_
  refine G_aload_n dX12_next_61 rfl ?_
  refine cb_X12_next_62 (ic_X12_all (z := (mem 169 3)) rfl ?_)
  refine G_icmp_gt (tgt := 162) dX12_next_65 (by decide) (w1) (w2) (fun c1 => ?_) (fun c1 => ?_)
  · -- ((shlI 1 (mem 169 3)) - 1) < a4
    refine G_aload_n dX12_next_162 rfl ?_
    refine G_iconst (z := 0) dX12_next_163 rfl ?_
    refine G_putI (mem2 := (up2 mem 169 1 0)) dX12_next_164 fp_12_134 (by decide) sh_169 rfl ?_
    refine G_aload_n dX12_next_167 rfl ?_
    refine G_iload_n dX12_next_168 rfl ?_
    refine G_i2l dX12_next_169 (w3) ?_
    refine cb_X12_next_170 (ic_X12_enters (z := 0) (z2 := 1) (by simp [up2, upr]) (by decide) rfl ?_)
    refine G_iload_n dX12_next_173 rfl ?_
    exact G_iret dX12_next_174 rfl (Nat.zero_le _) (Nat.zero_le _) (Nat.le_refl _) ⟨rfl, k1 c1⟩
  · -- ¬ ((shlI 1 (mem 169 3)) - 1) < a4
    refine G_iconst (z := 0) dX12_next_68 rfl ?_
    refine G_istore dX12_next_69 (by decide : 5 < 7) rfl ?_
    refine G_iconst (z := 0) dX12_next_71 rfl ?_
    refine G_istore dX12_next_72 (by decide : 6 < 7) rfl ?_
    exact k2 c1
set_option maxRecDepth 20000 in
set_option maxHeartbeats 8000000 in
theorem sg_X12_next_74 {E : Nat × (Nat → Int32)} {P : Option Value → Mem → Prop} {mem : Mem} {a1 : Int} {a2 : Int} {a3 : Int} {a4 : Int} {a5 : Int} {a6 : Int} (w1 : -2147483648 ≤ a6 ∧ a6 < 2147483648) (w2 : -2147483648 ≤ (mem 169 3) ∧ (mem 169 3) < 2147483648) (w3 : -2147483648 ≤ a5 ∧ a5 < 2147483648) (w4 : (mem 169 3) ≤ a6 → -2147483648 ≤ (a1 - a5) ∧ (a1 - a5) < 2147483648) (w5 : (mem 169 3) ≤ a6 → -2147483648 ≤ (max a5 (a1 - a5)) ∧ (max a5 (a1 - a5)) < 2147483648) (w6 : -2147483648 ≤ a3 ∧ a3 < 2147483648) (q7 : ¬ (mem 169 3) ≤ a6 → (bandI (shrI a4 a6) 1) = 1 → 0 ≤ a6 ∧ a6 < 6)
    (k1 : (mem 169 3) ≤ a6 → GM E (m_X12_next 5) P 59 [.ref 169, vi a1, vi (if a3 ≤ (max a5 (a1 - a5)) then a2 else a4), vi (min a3 (max a5 (a1 - a5))), vi (a4 + 1), un, un] [] mem)
    (k2 : ¬ (mem 169 3) ≤ a6 → (bandI (shrI a4 a6) 1) = 1 → GM E (m_X12_next 5) P 74 [.ref 169, vi a1, vi a2, vi a3, vi a4, vi (a5 + ((2 * (mem 172 a6)) * (mem 203 a6))), vi (a6 + 1)] [] mem)
    (k3 : ¬ (mem 169 3) ≤ a6 → ¬ (bandI (shrI a4 a6) 1) = 1 → GM E (m_X12_next 5) P 74 [.ref 169, vi a1, vi a2, vi a3, vi a4, vi (a5 + 0), vi (a6 + 1)] [] mem) :
    GM E (m_X12_next 5) P 74 [.ref 169, vi a1, vi a2, vi a3, vi a4, vi a5, vi a6] [] mem := by
  refine G_iload dX12_next_74 rfl ?_
  refine G_aload_n dX12_next_76 rfl ?_
  refine G_getI (z := (mem 169 3)) dX12_next_77 fl_12_137 (by decide) sh_169 rfl ?_
  refine G_icmp_ge (tgt := 125) dX12_next_80 (by decide) (w1) (w2) (fun c1 => ?_) (fun c1 => ?_)
  · -- (mem 169 3) ≤ a6
    refine G_iload dX12_next_125 rfl ?_
    refine G_iload_n dX12_next_127 rfl ?_
    refine G_iload dX12_next_128 rfl ?_
    refine G_isub dX12_next_130 ?_
    refine G_max (z := (max a5 (a1 - a5))) dX12_next_131 ml_12_257 mw_max (w3) (w4 c1) ⟨by show 1 ≤ 5; first | decide | omega, by show 21 ≤ 40 * 5; first | decide | omega, Nat.zero_le _, Nat.zero_le _⟩ (Nat.le_of_ble_eq_true rfl) rfl ?_
    refine G_istore dX12_next_134 (by decide : 6 < 7) rfl ?_
    refine G_iload dX12_next_136 rfl ?_
    refine G_iload_n dX12_next_138 rfl ?_
    have j1 : GM E (m_X12_next 5) P 148 [.ref 169, vi a1, vi a2, vi a3, vi a4, vi a5, vi (max a5 (a1 - a5))] [vi (if a3 ≤ (max a5 (a1 - a5)) then a2 else a4)] mem := by
      refine G_istore_n dX12_next_148 rfl (by decide : 2 < 7) rfl ?_
      refine G_iload_n dX12_next_149 rfl ?_
      refine G_iload dX12_next_150 rfl ?_
      refine G_min (z := (min a3 (max a5 (a1 - a5)))) dX12_next_152 ml_12_157 mw_min (w6) (w5 c1) ⟨by show 1 ≤ 5; first | decide | omega, by show 21 ≤ 40 * 5; first | decide | omega, Nat.zero_le _, Nat.zero_le _⟩ (Nat.le_of_ble_eq_true rfl) rfl ?_
      refine G_istore_n dX12_next_155 rfl (by decide : 3 < 7) rfl ?_
      refine G_iinc (z := (a4 + 1)) dX12_next_156 rfl rfl (by decide : 4 < 7) rfl ?_
      refine G_goto (tgt := 59) dX12_next_159 (by decide) ?_
      refine G_weak (lv2 := [.ref 169, vi a1, vi (if a3 ≤ (max a5 (a1 - a5)) then a2 else a4), vi (min a3 (max a5 (a1 - a5))), vi (a4 + 1), un, un]) ⟨Or.inr rfl, Or.inr rfl, Or.inr rfl, Or.inr rfl, Or.inr rfl, Or.inl rfl, Or.inl rfl, trivial⟩ ?_
      exact k1 c1
    refine G_icmp_ge (tgt := 147) dX12_next_139 (by decide) (w5 c1) (w6) (fun c2 => ?_) (fun c2 => ?_)
    · -- a3 ≤ (max a5 (a1 - a5))
      refine G_iload_n dX12_next_147 rfl ?_
      have qj1 := j1
      simp only [if_pos c2] at qj1
      exact qj1
    · -- ¬ a3 ≤ (max a5 (a1 - a5))
      refine G_iload dX12_next_142 rfl ?_
      refine G_goto (tgt := 148) dX12_next_144 (by decide) ?_
      have qj1 := j1
      simp only [if_neg c2] at qj1
      exact qj1
  · -- ¬ (mem 169 3) ≤ a6
    refine G_iload dX12_next_83 rfl ?_
    refine G_iload dX12_next_85 rfl ?_
    refine G_iload dX12_next_87 rfl ?_
    refine cb_X12_next_89 (ic_X12_has (fun c3 => ?_) (fun c4 => ?_))
    · -- (bandI (shrI a4 a6) 1) = 1
      refine G_if_eq (tgt := 115) dX12_next_92 (by decide) (by decide) (fun h => absurd h (by decide)) (fun _ => ?_)
      refine G_iconst (z := 2) dX12_next_95 rfl ?_
      refine G_aload_n dX12_next_96 rfl ?_
      refine G_getR (t := 172) dX12_next_97 fl_12_17 (by decide) sh_169 rr_169_6 ?_
      refine G_iload dX12_next_100 rfl ?_
      refine G_iald (z := (mem 172 a6)) dX12_next_102 (by decide) sh_172 (by decide) (q7 c1 c3).1 (q7 c1 c3).2 rfl ?_
      refine G_imul dX12_next_103 ?_
      refine G_aload_n dX12_next_104 rfl ?_
      refine G_getR (t := 203) dX12_next_105 fl_12_111 (by decide) sh_169 rr_169_65 ?_
      refine G_iload dX12_next_108 rfl ?_
      refine G_iald (z := (mem 203 a6)) dX12_next_110 (by decide) sh_203 (by decide) (q7 c1 c3).1 (q7 c1 c3).2 rfl ?_
      refine G_imul dX12_next_111 ?_
      refine G_goto (tgt := 116) dX12_next_112 (by decide) ?_
      refine G_iadd dX12_next_116 ?_
      refine G_istore dX12_next_117 (by decide : 5 < 7) rfl ?_
      refine G_iinc (z := (a6 + 1)) dX12_next_119 rfl rfl (by decide : 6 < 7) rfl ?_
      refine G_goto (tgt := 74) dX12_next_122 (by decide) ?_
      exact k2 c1 c3
    · -- ¬ (bandI (shrI a4 a6) 1) = 1
      refine G_if_eq (tgt := 115) dX12_next_92 (by decide) (by decide) (fun _ => ?_) (fun h => absurd h (by decide))
      refine G_iconst (z := 0) dX12_next_115 rfl ?_
      refine G_iadd dX12_next_116 ?_
      refine G_istore dX12_next_117 (by decide : 5 < 7) rfl ?_
      refine G_iinc (z := (a6 + 1)) dX12_next_119 rfl rfl (by decide : 6 < 7) rfl ?_
      refine G_goto (tgt := 74) dX12_next_122 (by decide) ?_
      exact k3 c1 c4
set_option maxRecDepth 20000 in
set_option maxHeartbeats 8000000 in
theorem sg_X12_number_0 {E : Nat × (Nat → Int32)} {P : Option Value → Mem → Prop} {mem : Mem} {a1 : Int} (q1 : 0 ≤ (mem 169 18) ∧ (mem 169 18) < 2147483648 ∧ -2147483648 ≤ (mem 169 19) ∧ (mem 169 19) ≤ 80) (w2 : -2147483648 ≤ (mem 182 (mem 169 18)) ∧ (mem 182 (mem 169 18)) < 2147483648)
    (k1 : (mem 169 18) < (mem 169 19) ∧ 48 ≤ (mem 182 (mem 169 18)) ∧ (mem 182 (mem 169 18)) ≤ 57 → GM E (m_X12_number 2) P 13 [.ref 169, vi a1, vi 0, vi 0] [] mem)
    (k2 : ¬ ((mem 169 18) < (mem 169 19) ∧ 48 ≤ (mem 182 (mem 169 18)) ∧ (mem 182 (mem 169 18)) ≤ 57) → P (some (vi (-1))) mem) :
    GM E (m_X12_number 2) P 0 [.ref 169, vi a1, un, un] [] mem := by
  refine G_aload_n dX12_number_0 rfl ?_
  refine cb_X12_number_1 (ic_X12_isDigit (a := (mem 169 18)) (b := (mem 169 19)) (t := (mem 182 (mem 169 18))) rfl rfl (q1) rfl (w2) (fun c1 => ?_) (fun c2 => ?_))
  · -- (mem 169 18) < (mem 169 19) ∧ 48 ≤ (mem 182 (mem 169 18)) ∧ (mem 182 (mem 169 18)) ≤ 57
    refine G_if_ne (tgt := 9) dX12_number_4 (by decide) (by decide) (fun _ => ?_) (fun h => absurd h (by decide))
    refine G_iconst (z := 0) dX12_number_9 rfl ?_
    refine G_istore_n dX12_number_10 rfl (by decide : 2 < 4) rfl ?_
    refine G_iconst (z := 0) dX12_number_11 rfl ?_
    refine G_istore_n dX12_number_12 rfl (by decide : 3 < 4) rfl ?_
    exact k1 c1
  · -- ¬ ((mem 169 18) < (mem 169 19) ∧ 48 ≤ (mem 182 (mem 169 18)) ∧ (mem 182 (mem 169 18)) ≤ 57)
    refine G_if_ne (tgt := 9) dX12_number_4 (by decide) (by decide) (fun h => absurd h (by decide)) (fun _ => ?_)
    refine G_iconst (z := (-1)) dX12_number_7 rfl ?_
    exact G_iret dX12_number_8 rfl (Nat.zero_le _) (Nat.zero_le _) (Nat.le_refl _) ⟨rfl, k2 c2⟩
set_option maxRecDepth 20000 in
set_option maxHeartbeats 8000000 in
theorem sg_X12_number_13 {E : Nat × (Nat → Int32)} {P : Option Value → Mem → Prop} {mem : Mem} {a1 : Int} {a2 : Int} {a3 : Int} (w1 : -2147483648 ≤ a3 ∧ a3 < 2147483648) (w2 : -2147483648 ≤ a1 ∧ a1 < 2147483648) (q3 : ¬ a1 ≤ a3 → 0 ≤ (mem 169 18) ∧ (mem 169 18) < 2147483648 ∧ -2147483648 ≤ (mem 169 19) ∧ (mem 169 19) ≤ 80) (w4 : ¬ a1 ≤ a3 → -2147483648 ≤ (mem 182 (mem 169 18)) ∧ (mem 182 (mem 169 18)) < 2147483648) (q5 : ¬ a1 ≤ a3 → (mem 169 18) < (mem 169 19) ∧ 48 ≤ (mem 182 (mem 169 18)) ∧ (mem 182 (mem 169 18)) ≤ 57 → 0 ≤ (mem 169 18) ∧ (mem 169 18) < 80)
    (k1 : a1 ≤ a3 → P (some (vi a2)) mem)
    (k2 : ¬ a1 ≤ a3 → (mem 169 18) < (mem 169 19) ∧ 48 ≤ (mem 182 (mem 169 18)) ∧ (mem 182 (mem 169 18)) ≤ 57 → GM E (m_X12_number 2) P 13 [.ref 169, vi a1, vi (((10 * a2) + (mem 182 (mem 169 18))) - 48), vi (a3 + 1)] [] (up2 mem 169 18 ((mem 169 18) + 1)))
    (k3 : ¬ a1 ≤ a3 → ¬ ((mem 169 18) < (mem 169 19) ∧ 48 ≤ (mem 182 (mem 169 18)) ∧ (mem 182 (mem 169 18)) ≤ 57) → P (some (vi a2)) mem) :
    GM E (m_X12_number 2) P 13 [.ref 169, vi a1, vi a2, vi a3] [] mem := by
  refine G_iload_n dX12_number_13 rfl ?_
  refine G_iload_n dX12_number_14 rfl ?_
  refine G_icmp_ge (tgt := 59) dX12_number_15 (by decide) (w1) (w2) (fun c1 => ?_) (fun c1 => ?_)
  · -- a1 ≤ a3
    refine G_iload_n dX12_number_59 rfl ?_
    exact G_iret dX12_number_60 rfl (Nat.zero_le _) (Nat.zero_le _) (Nat.le_refl _) ⟨rfl, k1 c1⟩
  · -- ¬ a1 ≤ a3
    refine G_aload_n dX12_number_18 rfl ?_
    refine cb_X12_number_19 (ic_X12_isDigit (a := (mem 169 18)) (b := (mem 169 19)) (t := (mem 182 (mem 169 18))) rfl rfl (q3 c1) rfl (w4 c1) (fun c2 => ?_) (fun c3 => ?_))
    · -- (mem 169 18) < (mem 169 19) ∧ 48 ≤ (mem 182 (mem 169 18)) ∧ (mem 182 (mem 169 18)) ≤ 57
      refine G_if_eq (tgt := 59) dX12_number_22 (by decide) (by decide) (fun h => absurd h (by decide)) (fun _ => ?_)
      refine G_bipush (z := 10) dX12_number_25 rfl ?_
      refine G_iload_n dX12_number_27 rfl ?_
      refine G_imul dX12_number_28 ?_
      refine G_aload_n dX12_number_29 rfl ?_
      refine G_getR (t := 182) dX12_number_30 fl_12_48 (by decide) sh_169 rr_169_16 ?_
      refine G_aload_n dX12_number_33 rfl ?_
      refine G_getI (z := (mem 169 18)) dX12_number_34 fl_12_151 (by decide) sh_169 rfl ?_
      refine G_iald (z := (mem 182 (mem 169 18))) dX12_number_37 (by decide) sh_182 (by decide) (q5 c1 c2).1 (q5 c1 c2).2 rfl ?_
      refine G_iadd dX12_number_38 ?_
      refine G_bipush (z := 48) dX12_number_39 rfl ?_
      refine G_isub dX12_number_41 ?_
      refine G_istore_n dX12_number_42 rfl (by decide : 2 < 4) rfl ?_
      refine G_aload_n dX12_number_43 rfl ?_
      refine G_dup dX12_number_44 rfl ?_
      refine G_getI (z := (mem 169 18)) dX12_number_45 fl_12_151 (by decide) sh_169 rfl ?_
      refine G_iconst (z := 1) dX12_number_48 rfl ?_
      refine G_iadd dX12_number_49 ?_
      refine G_putI (mem2 := (up2 mem 169 18 ((mem 169 18) + 1))) dX12_number_50 fp_12_151 (by decide) sh_169 rfl ?_
      refine G_iinc (z := (a3 + 1)) dX12_number_53 rfl rfl (by decide : 3 < 4) rfl ?_
      refine G_goto (tgt := 13) dX12_number_56 (by decide) ?_
      exact k2 c1 c2
    · -- ¬ ((mem 169 18) < (mem 169 19) ∧ 48 ≤ (mem 182 (mem 169 18)) ∧ (mem 182 (mem 169 18)) ≤ 57)
      refine G_if_eq (tgt := 59) dX12_number_22 (by decide) (by decide) (fun _ => ?_) (fun h => absurd h (by decide))
      refine G_iload_n dX12_number_59 rfl ?_
      exact G_iret dX12_number_60 rfl (Nat.zero_le _) (Nat.zero_le _) (Nat.le_refl _) ⟨rfl, k3 c1 c3⟩
set_option maxRecDepth 20000 in
set_option maxHeartbeats 8000000 in
theorem sg_X12_order_0 {E : Nat × (Nat → Int32)} {P : Option Value → Mem → Prop} {mem : Mem} (w1 : -2147483648 ≤ (mem 169 17) ∧ (mem 169 17) < 2147483648)
    (k1 : GM E (m_X12_order 9) P 21 [.ref 169, vi 0, vi 1, un, un, un] [] (up2 (up2 (up2 (up2 (up2 (up2 mem 169 0 0) 169 17 0) 169 18 0) 169 20 0) 169 19 (min (mem 169 17) 80)) 169 52 0)) :
    GM E (m_X12_order 9) P 0 [.ref 169, un, un, un, un, un] [] mem := by
  refine G_aload_n dX12_order_0 rfl ?_
  refine G_iconst (z := 0) dX12_order_1 rfl ?_
  refine G_putI (mem2 := (up2 mem 169 0 0)) dX12_order_2 fp_12_126 (by decide) sh_169 rfl ?_
  refine G_aload_n dX12_order_5 rfl ?_
  refine G_bipush (z := 80) dX12_order_6 rfl ?_
  refine cb_X12_order_8 (ic_X12_begins (z := (mem 169 17)) (by simp [up2, upr]) (w1) (by decide) ?_)
  refine G_pop dX12_order_11 rfl ?_
  refine G_aload_n dX12_order_12 rfl ?_
  refine G_iconst (z := 0) dX12_order_13 rfl ?_
  refine G_putI (mem2 := (up2 (up2 (up2 (up2 (up2 (up2 mem 169 0 0) 169 17 0) 169 18 0) 169 20 0) 169 19 (min (mem 169 17) 80)) 169 52 0)) dX12_order_14 fp_12_419 (by decide) sh_169 rfl ?_
  refine G_iconst (z := 0) dX12_order_17 rfl ?_
  refine G_istore_n dX12_order_18 rfl (by decide : 1 < 6) rfl ?_
  refine G_iconst (z := 1) dX12_order_19 rfl ?_
  refine G_istore_n dX12_order_20 rfl (by decide : 2 < 6) rfl ?_
  exact k1
set_option maxRecDepth 20000 in
set_option maxHeartbeats 8000000 in
theorem sg_X12_order_21 {E : Nat × (Nat → Int32)} {P : Option Value → Mem → Prop} {mem : Mem} {a1 : Int} {a2 : Int} (w1 : -2147483648 ≤ a2 ∧ a2 < 2147483648) (w2 : a2 = 0 → -2147483648 ≤ (mem 169 52) ∧ (mem 169 52) < 2147483648) (w3 : a2 = 0 → ¬ (mem 169 52) = 0 → -2147483648 ≤ (mem 169 18) ∧ (mem 169 18) < 2147483648) (w4 : a2 = 0 → ¬ (mem 169 52) = 0 → -2147483648 ≤ (mem 169 19) ∧ (mem 169 19) < 2147483648) (q5 : ¬ a2 = 0 → 0 ≤ (mem 169 18) ∧ (mem 169 18) < 2147483648 ∧ -2147483648 ≤ (mem 169 19) ∧ (mem 169 19) ≤ 80) (w6 : ¬ a2 = 0 → -2147483648 ≤ (mem 182 (mem 169 18)) ∧ (mem 182 (mem 169 18)) < 2147483648) (q7 : ¬ a2 = 0 → (mem 169 18) < (mem 169 19) ∧ 48 ≤ (mem 182 (mem 169 18)) ∧ (mem 182 (mem 169 18)) ≤ 57 → 0 ≤ (mem 169 18) ∧ (mem 169 18) < 80) (w8 : ¬ a2 = 0 → (mem 169 18) < (mem 169 19) ∧ 48 ≤ (mem 182 (mem 169 18)) ∧ (mem 182 (mem 169 18)) ≤ 57 → -2147483648 ≤ (mem 169 52) ∧ (mem 169 52) < 2147483648) (w9 : ¬ a2 = 0 → (mem 169 18) < (mem 169 19) ∧ 48 ≤ (mem 182 (mem 169 18)) ∧ (mem 182 (mem 169 18)) ≤ 57 → ¬ 6 ≤ (mem 169 52) → 0 ≤ (mem 169 3) ∧ (mem 169 3) < 2147483648) (w10 : ¬ a2 = 0 → (mem 169 18) < (mem 169 19) ∧ 48 ≤ (mem 182 (mem 169 18)) ∧ (mem 182 (mem 169 18)) ≤ 57 → ¬ 6 ≤ (mem 169 52) → -2147483648 ≤ ((mem 182 (mem 169 18)) - 48) ∧ ((mem 182 (mem 169 18)) - 48) < 2147483648) (q11 : ¬ a2 = 0 → (mem 169 18) < (mem 169 19) ∧ 48 ≤ (mem 182 (mem 169 18)) ∧ (mem 182 (mem 169 18)) ≤ 57 → ¬ 6 ≤ (mem 169 52) → 0 ≤ ((mem 182 (mem 169 18)) - 48) ∧ ((mem 182 (mem 169 18)) - 48) < (mem 169 3) → ¬ (bandI (shrI a1 ((mem 182 (mem 169 18)) - 48)) 1) = 1 → 0 ≤ (mem 169 52) ∧ (mem 169 52) < 6) (w12 : ¬ a2 = 0 → ¬ ((mem 169 18) < (mem 169 19) ∧ 48 ≤ (mem 182 (mem 169 18)) ∧ (mem 182 (mem 169 18)) ≤ 57) → -2147483648 ≤ (mem 169 52) ∧ (mem 169 52) < 2147483648) (w13 : ¬ a2 = 0 → ¬ ((mem 169 18) < (mem 169 19) ∧ 48 ≤ (mem 182 (mem 169 18)) ∧ (mem 182 (mem 169 18)) ≤ 57) → ¬ 6 ≤ (mem 169 52) → 0 ≤ (mem 169 3) ∧ (mem 169 3) < 2147483648) (q14 : ¬ a2 = 0 → ¬ ((mem 169 18) < (mem 169 19) ∧ 48 ≤ (mem 182 (mem 169 18)) ∧ (mem 182 (mem 169 18)) ≤ 57) → ¬ 6 ≤ (mem 169 52) → 0 ≤ (-1) ∧ (-1) < (mem 169 3) → ¬ (bandI (shrI a1 (-1)) 1) = 1 → 0 ≤ (mem 169 52) ∧ (mem 169 52) < 6)
    (k1 : a2 = 0 → (mem 169 52) = 0 → P (some (vi ((-1) - (mem 169 18)))) mem)
    (k2 : a2 = 0 → ¬ (mem 169 52) = 0 → (mem 169 19) ≤ (mem 169 18) → GM E (m_X12_order 9) P 156 [.ref 169, vi a1, vi a2, un, un, un] [.ref 181, .ref 180] mem)
    (k3 : a2 = 0 → ¬ (mem 169 52) = 0 → ¬ (mem 169 19) ≤ (mem 169 18) → P (some (vi ((-1) - (mem 169 18)))) mem)
    (k4 : ¬ a2 = 0 → (mem 169 18) < (mem 169 19) ∧ 48 ≤ (mem 182 (mem 169 18)) ∧ (mem 182 (mem 169 18)) ≤ 57 → 6 ≤ (mem 169 52) → GM E (m_X12_order 9) P 21 [.ref 169, vi a1, vi 0, un, un, un] [] mem)
    (k5 : ¬ a2 = 0 → (mem 169 18) < (mem 169 19) ∧ 48 ≤ (mem 182 (mem 169 18)) ∧ (mem 182 (mem 169 18)) ≤ 57 → ¬ 6 ≤ (mem 169 52) → 0 ≤ ((mem 182 (mem 169 18)) - 48) ∧ ((mem 182 (mem 169 18)) - 48) < (mem 169 3) → (bandI (shrI a1 ((mem 182 (mem 169 18)) - 48)) 1) = 1 → GM E (m_X12_order 9) P 21 [.ref 169, vi a1, vi 0, un, un, un] [] mem)
    (k6 : ¬ a2 = 0 → (mem 169 18) < (mem 169 19) ∧ 48 ≤ (mem 182 (mem 169 18)) ∧ (mem 182 (mem 169 18)) ≤ 57 → ¬ 6 ≤ (mem 169 52) → 0 ≤ ((mem 182 (mem 169 18)) - 48) ∧ ((mem 182 (mem 169 18)) - 48) < (mem 169 3) → ¬ (bandI (shrI a1 ((mem 182 (mem 169 18)) - 48)) 1) = 1 → GM E (m_X12_order 9) P 21 [.ref 169, vi (borI a1 (shlI 1 ((mem 182 (mem 169 18)) - 48))), vi 1, un, un, un] [] (up2 (up2 (up2 mem 195 (mem 169 52) ((mem 182 (mem 169 18)) - 48)) 169 52 ((mem 169 52) + 1)) 169 18 ((mem 169 18) + 1)))
    (k7 : ¬ a2 = 0 → (mem 169 18) < (mem 169 19) ∧ 48 ≤ (mem 182 (mem 169 18)) ∧ (mem 182 (mem 169 18)) ≤ 57 → ¬ 6 ≤ (mem 169 52) → ¬ (0 ≤ ((mem 182 (mem 169 18)) - 48) ∧ ((mem 182 (mem 169 18)) - 48) < (mem 169 3)) → GM E (m_X12_order 9) P 21 [.ref 169, vi a1, vi 0, un, un, un] [] mem)
    (k8 : ¬ a2 = 0 → ¬ ((mem 169 18) < (mem 169 19) ∧ 48 ≤ (mem 182 (mem 169 18)) ∧ (mem 182 (mem 169 18)) ≤ 57) → 6 ≤ (mem 169 52) → GM E (m_X12_order 9) P 21 [.ref 169, vi a1, vi 0, un, un, un] [] mem)
    (k9 : ¬ a2 = 0 → ¬ ((mem 169 18) < (mem 169 19) ∧ 48 ≤ (mem 182 (mem 169 18)) ∧ (mem 182 (mem 169 18)) ≤ 57) → ¬ 6 ≤ (mem 169 52) → 0 ≤ (-1) ∧ (-1) < (mem 169 3) → (bandI (shrI a1 (-1)) 1) = 1 → GM E (m_X12_order 9) P 21 [.ref 169, vi a1, vi 0, un, un, un] [] mem)
    (k10 : ¬ a2 = 0 → ¬ ((mem 169 18) < (mem 169 19) ∧ 48 ≤ (mem 182 (mem 169 18)) ∧ (mem 182 (mem 169 18)) ≤ 57) → ¬ 6 ≤ (mem 169 52) → 0 ≤ (-1) ∧ (-1) < (mem 169 3) → ¬ (bandI (shrI a1 (-1)) 1) = 1 → GM E (m_X12_order 9) P 21 [.ref 169, vi (borI a1 (shlI 1 (-1))), vi 1, un, un, un] [] (up2 (up2 (up2 mem 195 (mem 169 52) (-1)) 169 52 ((mem 169 52) + 1)) 169 18 ((mem 169 18) + 1)))
    (k11 : ¬ a2 = 0 → ¬ ((mem 169 18) < (mem 169 19) ∧ 48 ≤ (mem 182 (mem 169 18)) ∧ (mem 182 (mem 169 18)) ≤ 57) → ¬ 6 ≤ (mem 169 52) → ¬ (0 ≤ (-1) ∧ (-1) < (mem 169 3)) → GM E (m_X12_order 9) P 21 [.ref 169, vi a1, vi 0, un, un, un] [] mem) :
    GM E (m_X12_order 9) P 21 [.ref 169, vi a1, vi a2, un, un, un] [] mem := by
  refine G_iload_n dX12_order_21 rfl ?_
  refine G_if_eq (tgt := 123) dX12_order_22 (by decide) (w1) (fun c1 => ?_) (fun c1 => ?_)
  · -- a2 = 0
    refine G_aload_n dX12_order_123 rfl ?_
    refine G_getI (z := (mem 169 52)) dX12_order_124 fl_12_419 (by decide) sh_169 rfl ?_
    refine G_if_eq (tgt := 141) dX12_order_127 (by decide) (w2 c1) (fun c2 => ?_) (fun c2 => ?_)
    · -- (mem 169 52) = 0
      refine G_iconst (z := (-1)) dX12_order_141 rfl ?_
      refine G_aload_n dX12_order_142 rfl ?_
      refine G_getI (z := (mem 169 18)) dX12_order_143 fl_12_151 (by decide) sh_169 rfl ?_
      refine G_isub dX12_order_146 ?_
      exact G_iret dX12_order_147 rfl (Nat.zero_le _) (Nat.zero_le _) (Nat.le_refl _) ⟨rfl, k1 c1 c2⟩
    · -- ¬ (mem 169 52) = 0
      refine G_aload_n dX12_order_130 rfl ?_
      refine G_getI (z := (mem 169 18)) dX12_order_131 fl_12_151 (by decide) sh_169 rfl ?_
      refine G_aload_n dX12_order_134 rfl ?_
      refine G_getI (z := (mem 169 19)) dX12_order_135 fl_12_163 (by decide) sh_169 rfl ?_
      refine G_icmp_ge (tgt := 148) dX12_order_138 (by decide) (w3 c1 c2) (w4 c1 c2) (fun c3 => ?_) (fun c3 => ?_)
      · -- (mem 169 19) ≤ (mem 169 18)
        refine G_aload_n dX12_order_148 rfl ?_
        refine G_getR (t := 180) dX12_order_149 fl_12_42 (by decide) sh_169 rr_169_14 ?_
        refine G_aload_n dX12_order_152 rfl ?_
        refine G_getR (t := 181) dX12_order_153 fl_12_45 (by decide) sh_169 rr_169_15 ?_
        exact k2 c1 c2 c3
      · -- ¬ (mem 169 19) ≤ (mem 169 18)
        refine G_iconst (z := (-1)) dX12_order_141 rfl ?_
        refine G_aload_n dX12_order_142 rfl ?_
        refine G_getI (z := (mem 169 18)) dX12_order_143 fl_12_151 (by decide) sh_169 rfl ?_
        refine G_isub dX12_order_146 ?_
        exact G_iret dX12_order_147 rfl (Nat.zero_le _) (Nat.zero_le _) (Nat.le_refl _) ⟨rfl, k3 c1 c2 c3⟩
  · -- ¬ a2 = 0
    refine G_aload_n dX12_order_25 rfl ?_
    refine cb_X12_order_26 (ic_X12_isDigit (a := (mem 169 18)) (b := (mem 169 19)) (t := (mem 182 (mem 169 18))) rfl rfl (q5 c1) rfl (w6 c1) (fun c4 => ?_) (fun c5 => ?_))
    · -- (mem 169 18) < (mem 169 19) ∧ 48 ≤ (mem 182 (mem 169 18)) ∧ (mem 182 (mem 169 18)) ≤ 57
      refine G_if_eq (tgt := 47) dX12_order_29 (by decide) (by decide) (fun h => absurd h (by decide)) (fun _ => ?_)
      refine G_aload_n dX12_order_32 rfl ?_
      refine G_getR (t := 182) dX12_order_33 fl_12_48 (by decide) sh_169 rr_169_16 ?_
      refine G_aload_n dX12_order_36 rfl ?_
      refine G_getI (z := (mem 169 18)) dX12_order_37 fl_12_151 (by decide) sh_169 rfl ?_
      refine G_iald (z := (mem 182 (mem 169 18))) dX12_order_40 (by decide) sh_182 (by decide) (q7 c1 c4).1 (q7 c1 c4).2 rfl ?_
      refine G_bipush (z := 48) dX12_order_41 rfl ?_
      refine G_isub dX12_order_43 ?_
      refine G_goto (tgt := 48) dX12_order_44 (by decide) ?_
      refine G_istore_n dX12_order_48 rfl (by decide : 3 < 6) rfl ?_
      refine G_aload_n dX12_order_49 rfl ?_
      refine G_getI (z := (mem 169 52)) dX12_order_50 fl_12_419 (by decide) sh_169 rfl ?_
      refine G_bipush (z := 6) dX12_order_53 rfl ?_
      refine G_icmp_ge (tgt := 78) dX12_order_55 (by decide) (w8 c1 c4) (by decide) (fun c6 => ?_) (fun c6 => ?_)
      · -- 6 ≤ (mem 169 52)
        refine G_iconst (z := 0) dX12_order_78 rfl ?_
        refine G_istore_n dX12_order_79 rfl (by decide : 2 < 6) rfl ?_
        refine G_iload_n dX12_order_80 rfl ?_
        refine G_if_eq (tgt := 120) dX12_order_81 (by decide) (by decide) (fun _ => ?_) (fun h => absurd h (by decide))
        refine G_goto (tgt := 21) dX12_order_120 (by decide) ?_
        refine G_weak (lv2 := [.ref 169, vi a1, vi 0, un, un, un]) ⟨Or.inr rfl, Or.inr rfl, Or.inr rfl, Or.inl rfl, Or.inr rfl, Or.inr rfl, trivial⟩ ?_
        exact k4 c1 c4 c6
      · -- ¬ 6 ≤ (mem 169 52)
        refine G_aload_n dX12_order_58 rfl ?_
        refine G_iload_n dX12_order_59 rfl ?_
        refine cb_X12_order_60 (ic_X12_isStreet (z := (mem 169 3)) rfl (w10 c1 c4 c6) (w9 c1 c4 c6) (fun c7 => ?_) (fun c8 => ?_))
        · -- 0 ≤ ((mem 182 (mem 169 18)) - 48) ∧ ((mem 182 (mem 169 18)) - 48) < (mem 169 3)
          refine G_if_eq (tgt := 78) dX12_order_63 (by decide) (by decide) (fun h => absurd h (by decide)) (fun _ => ?_)
          refine G_iload_n dX12_order_66 rfl ?_
          refine G_iload_n dX12_order_67 rfl ?_
          refine cb_X12_order_68 (ic_X12_has (fun c9 => ?_) (fun c10 => ?_))
          · -- (bandI (shrI a1 ((mem 182 (mem 169 18)) - 48)) 1) = 1
            refine G_if_ne (tgt := 78) dX12_order_71 (by decide) (by decide) (fun _ => ?_) (fun h => absurd h (by decide))
            refine G_iconst (z := 0) dX12_order_78 rfl ?_
            refine G_istore_n dX12_order_79 rfl (by decide : 2 < 6) rfl ?_
            refine G_iload_n dX12_order_80 rfl ?_
            refine G_if_eq (tgt := 120) dX12_order_81 (by decide) (by decide) (fun _ => ?_) (fun h => absurd h (by decide))
            refine G_goto (tgt := 21) dX12_order_120 (by decide) ?_
            refine G_weak (lv2 := [.ref 169, vi a1, vi 0, un, un, un]) ⟨Or.inr rfl, Or.inr rfl, Or.inr rfl, Or.inl rfl, Or.inr rfl, Or.inr rfl, trivial⟩ ?_
            exact k5 c1 c4 c6 c7 c9
          · -- ¬ (bandI (shrI a1 ((mem 182 (mem 169 18)) - 48)) 1) = 1
            refine G_if_ne (tgt := 78) dX12_order_71 (by decide) (by decide) (fun h => absurd h (by decide)) (fun _ => ?_)
            refine G_iconst (z := 1) dX12_order_74 rfl ?_
            refine G_goto (tgt := 79) dX12_order_75 (by decide) ?_
            refine G_istore_n dX12_order_79 rfl (by decide : 2 < 6) rfl ?_
            refine G_iload_n dX12_order_80 rfl ?_
            refine G_if_eq (tgt := 120) dX12_order_81 (by decide) (by decide) (fun h => absurd h (by decide)) (fun _ => ?_)
            refine G_iload_n dX12_order_84 rfl ?_
            refine G_iconst (z := 1) dX12_order_85 rfl ?_
            refine G_iload_n dX12_order_86 rfl ?_
            refine G_ishl (z := (shlI 1 ((mem 182 (mem 169 18)) - 48))) dX12_order_87 (iI_inv _) ?_
            refine G_ior (z := (borI a1 (shlI 1 ((mem 182 (mem 169 18)) - 48)))) dX12_order_88 (iI_inv _) ?_
            refine G_istore_n dX12_order_89 rfl (by decide : 1 < 6) rfl ?_
            refine G_aload_n dX12_order_90 rfl ?_
            refine G_getR (t := 195) dX12_order_91 fl_12_87 (by decide) sh_169 rr_169_51 ?_
            refine G_aload_n dX12_order_94 rfl ?_
            refine G_getI (z := (mem 169 52)) dX12_order_95 fl_12_419 (by decide) sh_169 rfl ?_
            refine G_iload_n dX12_order_98 rfl ?_
            refine G_iast (mem2 := (up2 mem 195 (mem 169 52) ((mem 182 (mem 169 18)) - 48))) dX12_order_99 (by decide) sh_195 (by decide) (q11 c1 c4 c6 c7 c10).1 (q11 c1 c4 c6 c7 c10).2 rfl ?_
            refine G_aload_n dX12_order_100 rfl ?_
            refine G_dup dX12_order_101 rfl ?_
            refine G_getI (z := (mem 169 52)) dX12_order_102 fl_12_419 (by decide) sh_169 (by simp [up2, upr]) ?_
            refine G_iconst (z := 1) dX12_order_105 rfl ?_
            refine G_iadd dX12_order_106 ?_
            refine G_putI (mem2 := (up2 (up2 mem 195 (mem 169 52) ((mem 182 (mem 169 18)) - 48)) 169 52 ((mem 169 52) + 1))) dX12_order_107 fp_12_419 (by decide) sh_169 rfl ?_
            refine G_aload_n dX12_order_110 rfl ?_
            refine G_dup dX12_order_111 rfl ?_
            refine G_getI (z := (mem 169 18)) dX12_order_112 fl_12_151 (by decide) sh_169 (by simp [up2, upr]) ?_
            refine G_iconst (z := 1) dX12_order_115 rfl ?_
            refine G_iadd dX12_order_116 ?_
            refine G_putI (mem2 := (up2 (up2 (up2 mem 195 (mem 169 52) ((mem 182 (mem 169 18)) - 48)) 169 52 ((mem 169 52) + 1)) 169 18 ((mem 169 18) + 1))) dX12_order_117 fp_12_151 (by decide) sh_169 rfl ?_
            refine G_goto (tgt := 21) dX12_order_120 (by decide) ?_
            refine G_weak (lv2 := [.ref 169, vi (borI a1 (shlI 1 ((mem 182 (mem 169 18)) - 48))), vi 1, un, un, un]) ⟨Or.inr rfl, Or.inr rfl, Or.inr rfl, Or.inl rfl, Or.inr rfl, Or.inr rfl, trivial⟩ ?_
            exact k6 c1 c4 c6 c7 c10
        · -- ¬ (0 ≤ ((mem 182 (mem 169 18)) - 48) ∧ ((mem 182 (mem 169 18)) - 48) < (mem 169 3))
          refine G_if_eq (tgt := 78) dX12_order_63 (by decide) (by decide) (fun _ => ?_) (fun h => absurd h (by decide))
          refine G_iconst (z := 0) dX12_order_78 rfl ?_
          refine G_istore_n dX12_order_79 rfl (by decide : 2 < 6) rfl ?_
          refine G_iload_n dX12_order_80 rfl ?_
          refine G_if_eq (tgt := 120) dX12_order_81 (by decide) (by decide) (fun _ => ?_) (fun h => absurd h (by decide))
          refine G_goto (tgt := 21) dX12_order_120 (by decide) ?_
          refine G_weak (lv2 := [.ref 169, vi a1, vi 0, un, un, un]) ⟨Or.inr rfl, Or.inr rfl, Or.inr rfl, Or.inl rfl, Or.inr rfl, Or.inr rfl, trivial⟩ ?_
          exact k7 c1 c4 c6 c8
    · -- ¬ ((mem 169 18) < (mem 169 19) ∧ 48 ≤ (mem 182 (mem 169 18)) ∧ (mem 182 (mem 169 18)) ≤ 57)
      refine G_if_eq (tgt := 47) dX12_order_29 (by decide) (by decide) (fun _ => ?_) (fun h => absurd h (by decide))
      refine G_iconst (z := (-1)) dX12_order_47 rfl ?_
      refine G_istore_n dX12_order_48 rfl (by decide : 3 < 6) rfl ?_
      refine G_aload_n dX12_order_49 rfl ?_
      refine G_getI (z := (mem 169 52)) dX12_order_50 fl_12_419 (by decide) sh_169 rfl ?_
      refine G_bipush (z := 6) dX12_order_53 rfl ?_
      refine G_icmp_ge (tgt := 78) dX12_order_55 (by decide) (w12 c1 c5) (by decide) (fun c11 => ?_) (fun c11 => ?_)
      · -- 6 ≤ (mem 169 52)
        refine G_iconst (z := 0) dX12_order_78 rfl ?_
        refine G_istore_n dX12_order_79 rfl (by decide : 2 < 6) rfl ?_
        refine G_iload_n dX12_order_80 rfl ?_
        refine G_if_eq (tgt := 120) dX12_order_81 (by decide) (by decide) (fun _ => ?_) (fun h => absurd h (by decide))
        refine G_goto (tgt := 21) dX12_order_120 (by decide) ?_
        refine G_weak (lv2 := [.ref 169, vi a1, vi 0, un, un, un]) ⟨Or.inr rfl, Or.inr rfl, Or.inr rfl, Or.inl rfl, Or.inr rfl, Or.inr rfl, trivial⟩ ?_
        exact k8 c1 c5 c11
      · -- ¬ 6 ≤ (mem 169 52)
        refine G_aload_n dX12_order_58 rfl ?_
        refine G_iload_n dX12_order_59 rfl ?_
        refine cb_X12_order_60 (ic_X12_isStreet (z := (mem 169 3)) rfl (by decide) (w13 c1 c5 c11) (fun c12 => ?_) (fun c13 => ?_))
        · -- 0 ≤ (-1) ∧ (-1) < (mem 169 3)
          refine G_if_eq (tgt := 78) dX12_order_63 (by decide) (by decide) (fun h => absurd h (by decide)) (fun _ => ?_)
          refine G_iload_n dX12_order_66 rfl ?_
          refine G_iload_n dX12_order_67 rfl ?_
          refine cb_X12_order_68 (ic_X12_has (fun c14 => ?_) (fun c15 => ?_))
          · -- (bandI (shrI a1 (-1)) 1) = 1
            refine G_if_ne (tgt := 78) dX12_order_71 (by decide) (by decide) (fun _ => ?_) (fun h => absurd h (by decide))
            refine G_iconst (z := 0) dX12_order_78 rfl ?_
            refine G_istore_n dX12_order_79 rfl (by decide : 2 < 6) rfl ?_
            refine G_iload_n dX12_order_80 rfl ?_
            refine G_if_eq (tgt := 120) dX12_order_81 (by decide) (by decide) (fun _ => ?_) (fun h => absurd h (by decide))
            refine G_goto (tgt := 21) dX12_order_120 (by decide) ?_
            refine G_weak (lv2 := [.ref 169, vi a1, vi 0, un, un, un]) ⟨Or.inr rfl, Or.inr rfl, Or.inr rfl, Or.inl rfl, Or.inr rfl, Or.inr rfl, trivial⟩ ?_
            exact k9 c1 c5 c11 c12 c14
          · -- ¬ (bandI (shrI a1 (-1)) 1) = 1
            refine G_if_ne (tgt := 78) dX12_order_71 (by decide) (by decide) (fun h => absurd h (by decide)) (fun _ => ?_)
            refine G_iconst (z := 1) dX12_order_74 rfl ?_
            refine G_goto (tgt := 79) dX12_order_75 (by decide) ?_
            refine G_istore_n dX12_order_79 rfl (by decide : 2 < 6) rfl ?_
            refine G_iload_n dX12_order_80 rfl ?_
            refine G_if_eq (tgt := 120) dX12_order_81 (by decide) (by decide) (fun h => absurd h (by decide)) (fun _ => ?_)
            refine G_iload_n dX12_order_84 rfl ?_
            refine G_iconst (z := 1) dX12_order_85 rfl ?_
            refine G_iload_n dX12_order_86 rfl ?_
            refine G_ishl (z := (shlI 1 (-1))) dX12_order_87 (iI_inv _) ?_
            refine G_ior (z := (borI a1 (shlI 1 (-1)))) dX12_order_88 (iI_inv _) ?_
            refine G_istore_n dX12_order_89 rfl (by decide : 1 < 6) rfl ?_
            refine G_aload_n dX12_order_90 rfl ?_
            refine G_getR (t := 195) dX12_order_91 fl_12_87 (by decide) sh_169 rr_169_51 ?_
            refine G_aload_n dX12_order_94 rfl ?_
            refine G_getI (z := (mem 169 52)) dX12_order_95 fl_12_419 (by decide) sh_169 rfl ?_
            refine G_iload_n dX12_order_98 rfl ?_
            refine G_iast (mem2 := (up2 mem 195 (mem 169 52) (-1))) dX12_order_99 (by decide) sh_195 (by decide) (q14 c1 c5 c11 c12 c15).1 (q14 c1 c5 c11 c12 c15).2 rfl ?_
            refine G_aload_n dX12_order_100 rfl ?_
            refine G_dup dX12_order_101 rfl ?_
            refine G_getI (z := (mem 169 52)) dX12_order_102 fl_12_419 (by decide) sh_169 (by simp [up2, upr]) ?_
            refine G_iconst (z := 1) dX12_order_105 rfl ?_
            refine G_iadd dX12_order_106 ?_
            refine G_putI (mem2 := (up2 (up2 mem 195 (mem 169 52) (-1)) 169 52 ((mem 169 52) + 1))) dX12_order_107 fp_12_419 (by decide) sh_169 rfl ?_
            refine G_aload_n dX12_order_110 rfl ?_
            refine G_dup dX12_order_111 rfl ?_
            refine G_getI (z := (mem 169 18)) dX12_order_112 fl_12_151 (by decide) sh_169 (by simp [up2, upr]) ?_
            refine G_iconst (z := 1) dX12_order_115 rfl ?_
            refine G_iadd dX12_order_116 ?_
            refine G_putI (mem2 := (up2 (up2 (up2 mem 195 (mem 169 52) (-1)) 169 52 ((mem 169 52) + 1)) 169 18 ((mem 169 18) + 1))) dX12_order_117 fp_12_151 (by decide) sh_169 rfl ?_
            refine G_goto (tgt := 21) dX12_order_120 (by decide) ?_
            refine G_weak (lv2 := [.ref 169, vi (borI a1 (shlI 1 (-1))), vi 1, un, un, un]) ⟨Or.inr rfl, Or.inr rfl, Or.inr rfl, Or.inl rfl, Or.inr rfl, Or.inr rfl, trivial⟩ ?_
            exact k10 c1 c5 c11 c12 c15
        · -- ¬ (0 ≤ (-1) ∧ (-1) < (mem 169 3))
          refine G_if_eq (tgt := 78) dX12_order_63 (by decide) (by decide) (fun _ => ?_) (fun h => absurd h (by decide))
          refine G_iconst (z := 0) dX12_order_78 rfl ?_
          refine G_istore_n dX12_order_79 rfl (by decide : 2 < 6) rfl ?_
          refine G_iload_n dX12_order_80 rfl ?_
          refine G_if_eq (tgt := 120) dX12_order_81 (by decide) (by decide) (fun _ => ?_) (fun h => absurd h (by decide))
          refine G_goto (tgt := 21) dX12_order_120 (by decide) ?_
          refine G_weak (lv2 := [.ref 169, vi a1, vi 0, un, un, un]) ⟨Or.inr rfl, Or.inr rfl, Or.inr rfl, Or.inl rfl, Or.inr rfl, Or.inr rfl, trivial⟩ ?_
          exact k11 c1 c5 c11 c13
set_option maxRecDepth 20000 in
set_option maxHeartbeats 8000000 in
theorem sg_X12_order_159 {E : Nat × (Nat → Int32)} {P : Option Value → Mem → Prop} {mem : Mem} {a1 : Int} {a2 : Int}
    (k1 : GM E (m_X12_order 9) P 160 [.ref 169, vi a1, vi a2, un, un, un] [.ref 169] mem) :
    GM E (m_X12_order 9) P 159 [.ref 169, vi a1, vi a2, un, un, un] [] mem := by
  refine G_aload_n dX12_order_159 rfl ?_
  exact k1
set_option maxRecDepth 20000 in
set_option maxHeartbeats 8000000 in
theorem sg_X12_order_163 {E : Nat × (Nat → Int32)} {P : Option Value → Mem → Prop} {mem : Mem} {a1 : Int} {a2 : Int} {s0 : Int} (w1 : -2147483648 ≤ s0 ∧ s0 < 2147483648)
    (k1 : 0 ≤ s0 → GM E (m_X12_order 9) P 176 [.ref 169, vi a1, vi a2, vi s0, vi 0, vi 0] [] mem)
    (k2 : ¬ 0 ≤ s0 → P (some (vi s0)) mem) :
    GM E (m_X12_order 9) P 163 [.ref 169, vi a1, vi a2, un, un, un] [vi s0] mem := by
  refine G_istore_n dX12_order_163 rfl (by decide : 3 < 6) rfl ?_
  refine G_iload_n dX12_order_164 rfl ?_
  refine G_if_ge (tgt := 170) dX12_order_165 (by decide) (w1) (fun c1 => ?_) (fun c1 => ?_)
  · -- 0 ≤ s0
    refine G_iconst (z := 0) dX12_order_170 rfl ?_
    refine G_istore dX12_order_171 (by decide : 4 < 6) rfl ?_
    refine G_iconst (z := 0) dX12_order_173 rfl ?_
    refine G_istore dX12_order_174 (by decide : 5 < 6) rfl ?_
    exact k1 c1
  · -- ¬ 0 ≤ s0
    refine G_iload_n dX12_order_168 rfl ?_
    exact G_iret dX12_order_169 rfl (Nat.zero_le _) (Nat.zero_le _) (Nat.le_refl _) ⟨rfl, k2 c1⟩
set_option maxRecDepth 20000 in
set_option maxHeartbeats 8000000 in
theorem sg_X12_order_176 {E : Nat × (Nat → Int32)} {P : Option Value → Mem → Prop} {mem : Mem} {a1 : Int} {a2 : Int} {a3 : Int} {a4 : Int} {a5 : Int} (w1 : -2147483648 ≤ a5 ∧ a5 < 2147483648) (w2 : -2147483648 ≤ (mem 169 52) ∧ (mem 169 52) < 2147483648) (w3 : (mem 169 52) ≤ a5 → -2147483648 ≤ (mem 169 50) ∧ (mem 169 50) < 2147483648) (w4 : -2147483648 ≤ a4 ∧ a4 < 2147483648) (q5 : ¬ (mem 169 52) ≤ a5 → 0 ≤ a5 ∧ a5 < 6)
    (k1 : (mem 169 52) ≤ a5 → P (some (vi a3)) (up2 (up2 (up2 (up2 (up2 mem 169 1 0) 170 0 (mem 169 50)) 169 1 1) 170 1 a4) 169 1 2))
    (k2 : ¬ (mem 169 52) ≤ a5 → GM E (m_X12_order 9) P 199 [.ref 169, vi a1, vi a2, vi a3, vi a4, vi a5] [vi (mem 195 a5), .ref 181, .ref 169, vi a4] mem) :
    GM E (m_X12_order 9) P 176 [.ref 169, vi a1, vi a2, vi a3, vi a4, vi a5] [] mem := by
  refine G_iload dX12_order_176 rfl ?_
  refine G_aload_n dX12_order_178 rfl ?_
  refine G_getI (z := (mem 169 52)) dX12_order_179 fl_12_419 (by decide) sh_169 rfl ?_
  refine G_icmp_ge (tgt := 211) dX12_order_182 (by decide) (w1) (w2) (fun c1 => ?_) (fun c1 => ?_)
  · -- (mem 169 52) ≤ a5
    refine G_aload_n dX12_order_211 rfl ?_
    refine G_iconst (z := 0) dX12_order_212 rfl ?_
    refine G_putI (mem2 := (up2 mem 169 1 0)) dX12_order_213 fp_12_134 (by decide) sh_169 rfl ?_
    refine G_aload_n dX12_order_216 rfl ?_
    refine G_aload_n dX12_order_217 rfl ?_
    refine G_getI (z := (mem 169 50)) dX12_order_218 fl_12_416 (by decide) sh_169 (by simp [up2, upr]) ?_
    refine G_i2l dX12_order_221 (w3 c1) ?_
    refine cb_X12_order_222 (ic_X12_enters (z := 0) (z2 := 1) (by simp [up2, upr]) (by decide) rfl ?_)
    refine G_aload_n dX12_order_225 rfl ?_
    refine G_iload dX12_order_226 rfl ?_
    refine G_i2l dX12_order_228 (w4) ?_
    refine cb_X12_order_229 (ic_X12_enters (z := 1) (z2 := 2) (by simp [up2, upr]) (by decide) rfl ?_)
    refine G_iload_n dX12_order_232 rfl ?_
    exact G_iret dX12_order_233 rfl (Nat.zero_le _) (Nat.zero_le _) (Nat.le_refl _) ⟨rfl, k1 c1⟩
  · -- ¬ (mem 169 52) ≤ a5
    refine G_iload dX12_order_185 rfl ?_
    refine G_aload_n dX12_order_187 rfl ?_
    refine G_aload_n dX12_order_188 rfl ?_
    refine G_getR (t := 181) dX12_order_189 fl_12_45 (by decide) sh_169 rr_169_15 ?_
    refine G_aload_n dX12_order_192 rfl ?_
    refine G_getR (t := 195) dX12_order_193 fl_12_87 (by decide) sh_169 rr_169_51 ?_
    refine G_iload dX12_order_196 rfl ?_
    refine G_iald (z := (mem 195 a5)) dX12_order_198 (by decide) sh_195 (by decide) (q5 c1).1 (q5 c1).2 rfl ?_
    exact k2 c1
set_option maxRecDepth 20000 in
set_option maxHeartbeats 8000000 in
theorem sg_X12_order_202 {E : Nat × (Nat → Int32)} {P : Option Value → Mem → Prop} {mem : Mem} {a1 : Int} {a2 : Int} {a3 : Int} {a4 : Int} {a5 : Int} {s0 : Int} {s1 : Int}
    (k1 : GM E (m_X12_order 9) P 176 [.ref 169, vi a1, vi a2, vi a3, vi (s1 + s0), vi (a5 + 1)] [] mem) :
    GM E (m_X12_order 9) P 202 [.ref 169, vi a1, vi a2, vi a3, vi a4, vi a5] [vi s0, vi s1] mem := by
  refine G_iadd dX12_order_202 ?_
  refine G_istore dX12_order_203 (by decide : 4 < 6) rfl ?_
  refine G_iinc (z := (a5 + 1)) dX12_order_205 rfl rfl (by decide : 5 < 6) rfl ?_
  refine G_goto (tgt := 176) dX12_order_208 (by decide) ?_
  exact k1
set_option maxRecDepth 20000 in
set_option maxHeartbeats 8000000 in
theorem sg_X12_outOf_0 {E : Nat × (Nat → Int32)} {P : Option Value → Mem → Prop} {mem : Mem} {r1 : Nat} {a2 : Int} (hl1 : r1 < 209) (hs1 : SH[r1]? = some (.inr (0, 99)))
    (k1 : GM E (m_X12_outOf 1) P 8 [.ref 169, .ref r1, vi a2, vi 0, vi (16 * a2)] [] mem) :
    GM E (m_X12_outOf 1) P 0 [.ref 169, .ref r1, vi a2, un, un] [] mem := by
  refine G_iconst (z := 0) dX12_outOf_0 rfl ?_
  refine G_istore_n dX12_outOf_1 rfl (by decide : 3 < 5) rfl ?_
  refine G_bipush (z := 16) dX12_outOf_2 rfl ?_
  refine G_iload_n dX12_outOf_4 rfl ?_
  refine G_imul dX12_outOf_5 ?_
  refine G_istore dX12_outOf_6 (by decide : 4 < 5) rfl ?_
  exact k1
set_option maxRecDepth 20000 in
set_option maxHeartbeats 8000000 in
theorem sg_X12_outOf_8 {E : Nat × (Nat → Int32)} {P : Option Value → Mem → Prop} {mem : Mem} {r1 : Nat} {a2 : Int} {a3 : Int} {a4 : Int} (hl1 : r1 < 209) (hs1 : SH[r1]? = some (.inr (0, 99))) (w1 : -2147483648 ≤ a4 ∧ a4 < 2147483648) (w2 : -2147483648 ≤ (16 * (a2 + 1)) ∧ (16 * (a2 + 1)) < 2147483648) (q3 : ¬ (16 * (a2 + 1)) ≤ a4 → 0 ≤ a4 ∧ a4 < 99) (w4 : ¬ (16 * (a2 + 1)) ≤ a4 → -2147483648 ≤ (mem r1 a4) ∧ (mem r1 a4) < 2147483648)
    (k1 : (16 * (a2 + 1)) ≤ a4 → P (some (vi a3)) mem)
    (k2 : ¬ (16 * (a2 + 1)) ≤ a4 → (mem r1 a4) ≠ 1 → GM E (m_X12_outOf 1) P 8 [.ref 169, .ref r1, vi a2, vi (a3 + 0), vi (a4 + 1)] [] mem)
    (k3 : ¬ (16 * (a2 + 1)) ≤ a4 → (mem r1 a4) = 1 → GM E (m_X12_outOf 1) P 8 [.ref 169, .ref r1, vi a2, vi (a3 + 1), vi (a4 + 1)] [] mem) :
    GM E (m_X12_outOf 1) P 8 [.ref 169, .ref r1, vi a2, vi a3, vi a4] [] mem := by
  refine G_iload dX12_outOf_8 rfl ?_
  refine G_bipush (z := 16) dX12_outOf_10 rfl ?_
  refine G_iload_n dX12_outOf_12 rfl ?_
  refine G_iconst (z := 1) dX12_outOf_13 rfl ?_
  refine G_iadd dX12_outOf_14 ?_
  refine G_imul dX12_outOf_15 ?_
  refine G_icmp_ge (tgt := 44) dX12_outOf_16 (by decide) (w1) (w2) (fun c1 => ?_) (fun c1 => ?_)
  · -- (16 * (a2 + 1)) ≤ a4
    refine G_iload_n dX12_outOf_44 rfl ?_
    exact G_iret dX12_outOf_45 rfl (Nat.zero_le _) (Nat.zero_le _) (Nat.le_refl _) ⟨rfl, k1 c1⟩
  · -- ¬ (16 * (a2 + 1)) ≤ a4
    refine G_iload_n dX12_outOf_19 rfl ?_
    refine G_aload_n dX12_outOf_20 rfl ?_
    refine G_iload dX12_outOf_21 rfl ?_
    refine G_iald (z := (mem r1 a4)) dX12_outOf_23 hl1 hs1 (by decide) (q3 c1).1 (q3 c1).2 rfl ?_
    refine G_iconst (z := 1) dX12_outOf_24 rfl ?_
    refine G_icmp_ne (tgt := 32) dX12_outOf_25 (by decide) (w4 c1) (by decide) (fun c2 => ?_) (fun c2 => ?_)
    · -- (mem r1 a4) ≠ 1
      refine G_iconst (z := 0) dX12_outOf_32 rfl ?_
      refine cb_X12_outOf_33 (ic_X12_flagL (by decide) ?_)
      refine G_iadd dX12_outOf_36 ?_
      refine G_istore_n dX12_outOf_37 rfl (by decide : 3 < 5) rfl ?_
      refine G_iinc (z := (a4 + 1)) dX12_outOf_38 rfl rfl (by decide : 4 < 5) rfl ?_
      refine G_goto (tgt := 8) dX12_outOf_41 (by decide) ?_
      exact k2 c1 c2
    · -- (mem r1 a4) = 1
      refine G_iconst (z := 1) dX12_outOf_28 rfl ?_
      refine G_goto (tgt := 33) dX12_outOf_29 (by decide) ?_
      refine cb_X12_outOf_33 (ic_X12_flagL (by decide) ?_)
      refine G_iadd dX12_outOf_36 ?_
      refine G_istore_n dX12_outOf_37 rfl (by decide : 3 < 5) rfl ?_
      refine G_iinc (z := (a4 + 1)) dX12_outOf_38 rfl rfl (by decide : 4 < 5) rfl ?_
      refine G_goto (tgt := 8) dX12_outOf_41 (by decide) ?_
      exact k3 c1 c2
