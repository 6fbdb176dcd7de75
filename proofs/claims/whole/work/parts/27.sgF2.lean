set_option maxRecDepth 20000 in
set_option maxHeartbeats 8000000 in
theorem sg_X12_pause_0 {E : Nat × (Nat → Int32)} {P : Option Value → Mem → Prop} {mem : Mem} {a1 : Int} (w1 : -2147483648 ≤ a1 ∧ a1 < 2147483648) (w2 : -9223372036854775808 ≤ a1 ∧ a1 < 9223372036854775808)
    (k1 : 0 ≤ a1 ∧ a1 ≤ 9999 → GM E (m_X12_pause 1) P 20 [.ref 169, vi a1] [.ref 169] (up2 mem 169 0 0))
    (k2 : ¬ (0 ≤ a1 ∧ a1 ≤ 9999) → P (some (vi (-1))) (up2 mem 169 0 0)) :
    GM E (m_X12_pause 1) P 0 [.ref 169, vi a1] [] mem := by
  refine G_aload_n dX12_pause_0 rfl ?_
  refine G_iconst (z := 0) dX12_pause_1 rfl ?_
  refine G_putI (mem2 := (up2 mem 169 0 0)) dX12_pause_2 fp_12_126 (by decide) sh_169 rfl ?_
  refine G_iload_n dX12_pause_5 rfl ?_
  refine G_i2l dX12_pause_6 (w1) ?_
  refine G_lconst (z := 0) dX12_pause_7 rfl ?_
  refine G_ldc2 (z := 9999) dX12_pause_8 kc_12_382 ?_
  refine cb_X12_pause_11 (ic_X12_in (w2) (by decide) (by decide) (fun c1 => ?_) (fun c2 => ?_))
  · -- 0 ≤ a1 ∧ a1 ≤ 9999
    refine G_if_ne (tgt := 19) dX12_pause_14 (by decide) (by decide) (fun _ => ?_) (fun h => absurd h (by decide))
    refine G_aload_n dX12_pause_19 rfl ?_
    exact k1 c1
  · -- ¬ (0 ≤ a1 ∧ a1 ≤ 9999)
    refine G_if_ne (tgt := 19) dX12_pause_14 (by decide) (by decide) (fun h => absurd h (by decide)) (fun _ => ?_)
    refine G_iconst (z := (-1)) dX12_pause_17 rfl ?_
    exact G_iret dX12_pause_18 rfl (Nat.zero_le _) (Nat.zero_le _) (Nat.le_refl _) ⟨rfl, k2 c2⟩
set_option maxRecDepth 20000 in
set_option maxHeartbeats 8000000 in
theorem sg_X12_pause_23 {E : Nat × (Nat → Int32)} {P : Option Value → Mem → Prop} {mem : Mem} {a1 : Int}
    (k1 : GM E (m_X12_pause 1) P 42 [.ref 169, vi a1] [vi ((mem 180 98) + a1), .ref 169] (up2 mem 180 98 ((mem 180 98) + a1))) :
    GM E (m_X12_pause 1) P 23 [.ref 169, vi a1] [] mem := by
  refine G_aload_n dX12_pause_23 rfl ?_
  refine G_getR (t := 180) dX12_pause_24 fl_12_42 (by decide) sh_169 rr_169_14 ?_
  refine G_bipush (z := 98) dX12_pause_27 rfl ?_
  refine G_dup2 dX12_pause_29 rfl rfl ?_
  refine G_iald (z := (mem 180 98)) dX12_pause_30 (by decide) sh_180 (by decide) (by decide) (by decide) rfl ?_
  refine G_iload_n dX12_pause_31 rfl ?_
  refine G_iadd dX12_pause_32 ?_
  refine G_iast (mem2 := (up2 mem 180 98 ((mem 180 98) + a1))) dX12_pause_33 (by decide) sh_180 (by decide) (by decide) (by decide) rfl ?_
  refine G_aload_n dX12_pause_34 rfl ?_
  refine G_aload_n dX12_pause_35 rfl ?_
  refine G_getR (t := 180) dX12_pause_36 fl_12_42 (by decide) sh_169 rr_169_14 ?_
  refine G_bipush (z := 98) dX12_pause_39 rfl ?_
  refine G_iald (z := ((mem 180 98) + a1)) dX12_pause_41 (by decide) sh_180 (by decide) (by decide) (by decide) (by simp [up2, upr]) ?_
  exact k1
set_option maxRecDepth 20000 in
set_option maxHeartbeats 8000000 in
theorem sg_X12_pause_45 {E : Nat × (Nat → Int32)} {P : Option Value → Mem → Prop} {mem : Mem} {a1 : Int} {s0 : Int}
    (k1 : P (some (vi s0)) mem) :
    GM E (m_X12_pause 1) P 45 [.ref 169, vi a1] [vi s0] mem := by
  exact G_iret dX12_pause_45 rfl (Nat.zero_le _) (Nat.zero_le _) (Nat.le_refl _) ⟨rfl, k1⟩
set_option maxRecDepth 20000 in
set_option maxHeartbeats 8000000 in
theorem sg_X12_puts_0 {E : Nat × (Nat → Int32)} {P : Option Value → Mem → Prop} {mem : Mem} {r0 : Nat} {r1 : Nat} (hl0 : r0 < 209) (hs0 : SH[r0]? = some (.inr (0, 99))) (hl1 : r1 < 209) (hs1 : SH[r1]? = some (.inr (0, 99)))
    (k1 : GM E (m_X12_puts 0) P 2 [.ref r0, .ref r1, vi 0] [] mem) :
    GM E (m_X12_puts 0) P 0 [.ref r0, .ref r1, un] [] mem := by
  refine G_iconst (z := 0) dX12_puts_0 rfl ?_
  refine G_istore_n dX12_puts_1 rfl (by decide : 2 < 3) rfl ?_
  exact k1
set_option maxRecDepth 20000 in
set_option maxHeartbeats 8000000 in
theorem sg_X12_puts_2 {E : Nat × (Nat → Int32)} {P : Option Value → Mem → Prop} {mem : Mem} {r0 : Nat} {r1 : Nat} {a2 : Int} (hl0 : r0 < 209) (hs0 : SH[r0]? = some (.inr (0, 99))) (hl1 : r1 < 209) (hs1 : SH[r1]? = some (.inr (0, 99))) (w1 : -2147483648 ≤ a2 ∧ a2 < 2147483648) (q2 : ¬ 99 ≤ a2 → 0 ≤ a2 ∧ a2 < 99)
    (k1 : 99 ≤ a2 → P none mem)
    (k2 : ¬ 99 ≤ a2 → GM E (m_X12_puts 0) P 2 [.ref r0, .ref r1, vi (a2 + 1)] [] (up2 mem r1 a2 (mem r0 a2))) :
    GM E (m_X12_puts 0) P 2 [.ref r0, .ref r1, vi a2] [] mem := by
  refine G_iload_n dX12_puts_2 rfl ?_
  refine G_bipush (z := 99) dX12_puts_3 rfl ?_
  refine G_icmp_ge (tgt := 20) dX12_puts_5 (by decide) (w1) (by decide) (fun c1 => ?_) (fun c1 => ?_)
  · -- 99 ≤ a2
    exact G_vret dX12_puts_20 rfl (Nat.zero_le _) (Nat.zero_le _) (Nat.le_refl _) ⟨rfl, k1 c1⟩
  · -- ¬ 99 ≤ a2
    refine G_aload_n dX12_puts_8 rfl ?_
    refine G_iload_n dX12_puts_9 rfl ?_
    refine G_aload_n dX12_puts_10 rfl ?_
    refine G_iload_n dX12_puts_11 rfl ?_
    refine G_iald (z := (mem r0 a2)) dX12_puts_12 hl0 hs0 (by decide) (q2 c1).1 (q2 c1).2 rfl ?_
    refine G_iast (mem2 := (up2 mem r1 a2 (mem r0 a2))) dX12_puts_13 hl1 hs1 (by decide) (q2 c1).1 (q2 c1).2 rfl ?_
    refine G_iinc (z := (a2 + 1)) dX12_puts_14 rfl rfl (by decide : 2 < 3) rfl ?_
    refine G_goto (tgt := 2) dX12_puts_17 (by decide) ?_
    exact k2 c1
set_option maxRecDepth 20000 in
set_option maxHeartbeats 8000000 in
theorem sg_X12_putsBy_0 {E : Nat × (Nat → Int32)} {P : Option Value → Mem → Prop} {mem : Mem}
    (k1 : GM E (m_X12_putsBy 0) P 2 [.ref 169, vi 0] [] mem) :
    GM E (m_X12_putsBy 0) P 0 [.ref 169, un] [] mem := by
  refine G_iconst (z := 0) dX12_putsBy_0 rfl ?_
  refine G_istore_n dX12_putsBy_1 rfl (by decide : 1 < 2) rfl ?_
  exact k1
set_option maxRecDepth 20000 in
set_option maxHeartbeats 8000000 in
theorem sg_X12_putsBy_2 {E : Nat × (Nat → Int32)} {P : Option Value → Mem → Prop} {mem : Mem} {a1 : Int} (w1 : -2147483648 ≤ a1 ∧ a1 < 2147483648) (q2 : ¬ 99 ≤ a1 → 0 ≤ a1 ∧ a1 < 99) (q3 : ¬ 99 ≤ a1 → 0 ≤ ((99 * (mem 169 40)) + a1) ∧ ((99 * (mem 169 40)) + a1) < 1584)
    (k1 : 99 ≤ a1 → P none mem)
    (k2 : ¬ 99 ≤ a1 → GM E (m_X12_putsBy 0) P 2 [.ref 169, vi (a1 + 1)] [] (up2 mem 190 ((99 * (mem 169 40)) + a1) (mem 180 a1))) :
    GM E (m_X12_putsBy 0) P 2 [.ref 169, vi a1] [] mem := by
  refine G_iload_n dX12_putsBy_2 rfl ?_
  refine G_bipush (z := 99) dX12_putsBy_3 rfl ?_
  refine G_icmp_ge (tgt := 34) dX12_putsBy_5 (by decide) (w1) (by decide) (fun c1 => ?_) (fun c1 => ?_)
  · -- 99 ≤ a1
    exact G_vret dX12_putsBy_34 rfl (Nat.zero_le _) (Nat.zero_le _) (Nat.le_refl _) ⟨rfl, k1 c1⟩
  · -- ¬ 99 ≤ a1
    refine G_aload_n dX12_putsBy_8 rfl ?_
    refine G_getR (t := 190) dX12_putsBy_9 fl_12_72 (by decide) sh_169 rr_169_41 ?_
    refine G_bipush (z := 99) dX12_putsBy_12 rfl ?_
    refine G_aload_n dX12_putsBy_14 rfl ?_
    refine G_getI (z := (mem 169 40)) dX12_putsBy_15 fl_12_224 (by decide) sh_169 rfl ?_
    refine G_imul dX12_putsBy_18 ?_
    refine G_iload_n dX12_putsBy_19 rfl ?_
    refine G_iadd dX12_putsBy_20 ?_
    refine G_aload_n dX12_putsBy_21 rfl ?_
    refine G_getR (t := 180) dX12_putsBy_22 fl_12_42 (by decide) sh_169 rr_169_14 ?_
    refine G_iload_n dX12_putsBy_25 rfl ?_
    refine G_iald (z := (mem 180 a1)) dX12_putsBy_26 (by decide) sh_180 (by decide) (q2 c1).1 (q2 c1).2 rfl ?_
    refine G_iast (mem2 := (up2 mem 190 ((99 * (mem 169 40)) + a1) (mem 180 a1))) dX12_putsBy_27 (by decide) sh_190 (by decide) (q3 c1).1 (q3 c1).2 rfl ?_
    refine G_iinc (z := (a1 + 1)) dX12_putsBy_28 rfl rfl (by decide : 1 < 2) rfl ?_
    refine G_goto (tgt := 2) dX12_putsBy_31 (by decide) ?_
    exact k2 c1
set_option maxRecDepth 20000 in
set_option maxHeartbeats 8000000 in
theorem sg_X12_quickestOf_0 {E : Nat × (Nat → Int32)} {P : Option Value → Mem → Prop} {mem : Mem} {a1 : Int}
    (k1 : GM E (m_X12_quickestOf 201) P 9 [.ref 169, vi a1] [vi 0, vi a1, .ref 169] (up2 mem 169 54 (-2))) :
    GM E (m_X12_quickestOf 201) P 0 [.ref 169, vi a1] [] mem := by
  refine G_aload_n dX12_quickestOf_0 rfl ?_
  refine G_bipush (z := (-2)) dX12_quickestOf_1 rfl ?_
  refine G_putI (mem2 := (up2 mem 169 54 (-2))) dX12_quickestOf_3 fp_12_432 (by decide) sh_169 rfl ?_
  refine G_aload_n dX12_quickestOf_6 rfl ?_
  refine G_iload_n dX12_quickestOf_7 rfl ?_
  refine G_iconst (z := 0) dX12_quickestOf_8 rfl ?_
  exact k1
set_option maxRecDepth 20000 in
set_option maxHeartbeats 8000000 in
theorem sg_X12_quickestOf_12 {E : Nat × (Nat → Int32)} {P : Option Value → Mem → Prop} {mem : Mem} {a1 : Int}
    (k1 : P (some (vi (mem 169 54))) mem) :
    GM E (m_X12_quickestOf 201) P 12 [.ref 169, vi a1] [] mem := by
  refine G_aload_n dX12_quickestOf_12 rfl ?_
  refine G_getI (z := (mem 169 54)) dX12_quickestOf_13 fl_12_432 (by decide) sh_169 rfl ?_
  exact G_iret dX12_quickestOf_16 rfl (Nat.zero_le _) (Nat.zero_le _) (Nat.le_refl _) ⟨rfl, k1⟩
set_option maxRecDepth 20000 in
set_option maxHeartbeats 8000000 in
theorem sg_X12_readsAct_0 {E : Nat × (Nat → Int32)} {P : Option Value → Mem → Prop} {mem : Mem}
    (k1 : GM E (m_X12_readsAct 7) P 14 [.ref 169, vi (mem 169 46)] [.ref 1109, .ref 169, vi (mem 169 46), .ref 191] mem) :
    GM E (m_X12_readsAct 7) P 0 [.ref 169, un] [] mem := by
  refine G_aload_n dX12_readsAct_0 rfl ?_
  refine G_getI (z := (mem 169 46)) dX12_readsAct_1 fl_12_387 (by decide) sh_169 rfl ?_
  refine G_istore_n dX12_readsAct_4 rfl (by decide : 1 < 2) rfl ?_
  refine G_aload_n dX12_readsAct_5 rfl ?_
  refine G_getR (t := 191) dX12_readsAct_6 fl_12_75 (by decide) sh_169 rr_169_43 ?_
  refine G_iload_n dX12_readsAct_9 rfl ?_
  refine G_aload_n dX12_readsAct_10 rfl ?_
  refine G_ldcwS (i := 9) (tx := "getp") dX12_readsAct_11 (by decide +kernel : (RX12, 390, "getp", 9) ∈ strTab) (by decide) ?_
  exact k1
set_option maxRecDepth 20000 in
set_option maxHeartbeats 8000000 in
theorem sg_X12_readsAct_17 {E : Nat × (Nat → Int32)} {P : Option Value → Mem → Prop} {mem : Mem} {a1 : Int} {s0 : Int} {s1 : Int} (q1 : 0 ≤ s1 ∧ s1 < 60) (q2 : 0 ≤ a1 ∧ a1 < 60) (w3 : -2147483648 ≤ ((up2 mem 191 s1 s0) 191 a1) ∧ ((up2 mem 191 s1 s0) 191 a1) < 2147483648)
    (k1 : ((up2 mem 191 s1 s0) 191 a1) < 0 → ((up2 mem 191 s1 s0) 191 a1) ≠ 2 → P (some (vi 0)) (up2 (up2 mem 191 s1 s0) 169 46 ((mem 169 46) + 1)))
    (k2 : ((up2 mem 191 s1 s0) 191 a1) < 0 → ((up2 mem 191 s1 s0) 191 a1) = 2 → P (some (vi 1)) (up2 (up2 mem 191 s1 s0) 169 46 ((mem 169 46) + 1)))
    (k3 : ¬ ((up2 mem 191 s1 s0) 191 a1) < 0 → ((up2 mem 191 s1 s0) 191 a1) ≠ 2 → GM E (m_X12_readsAct 7) P 84 [.ref 169, vi a1] [vi (if ((up2 mem 191 s1 s0) 191 a1) ≠ 3 then (1 : Int) else (4 : Int)), .ref 169, vi a1, .ref 192] (up2 (up2 mem 191 s1 s0) 169 46 ((mem 169 46) + 1)))
    (k4 : ¬ ((up2 mem 191 s1 s0) 191 a1) < 0 → ((up2 mem 191 s1 s0) 191 a1) = 2 → ((up2 mem 191 s1 s0) 191 a1) ≠ 2 → P (some (vi 0)) (up2 (up2 mem 191 s1 s0) 169 46 ((mem 169 46) + 1)))
    (k5 : ¬ ((up2 mem 191 s1 s0) 191 a1) < 0 → ((up2 mem 191 s1 s0) 191 a1) = 2 → ((up2 mem 191 s1 s0) 191 a1) = 2 → P (some (vi 1)) (up2 (up2 mem 191 s1 s0) 169 46 ((mem 169 46) + 1))) :
    GM E (m_X12_readsAct 7) P 17 [.ref 169, vi a1] [vi s0, vi s1, .ref 191] mem := by
  refine G_iast (mem2 := (up2 mem 191 s1 s0)) dX12_readsAct_17 (by decide) sh_191 (by decide) (q1).1 (q1).2 rfl ?_
  refine G_aload_n dX12_readsAct_18 rfl ?_
  refine G_dup dX12_readsAct_19 rfl ?_
  refine G_getI (z := (mem 169 46)) dX12_readsAct_20 fl_12_387 (by decide) sh_169 (by simp [up2, upr]) ?_
  refine G_iconst (z := 1) dX12_readsAct_23 rfl ?_
  refine G_iadd dX12_readsAct_24 ?_
  refine G_putI (mem2 := (up2 (up2 mem 191 s1 s0) 169 46 ((mem 169 46) + 1))) dX12_readsAct_25 fp_12_387 (by decide) sh_169 rfl ?_
  refine G_aload_n dX12_readsAct_28 rfl ?_
  refine G_getR (t := 191) dX12_readsAct_29 fl_12_75 (by decide) sh_169 rr_169_43 ?_
  refine G_iload_n dX12_readsAct_32 rfl ?_
  refine G_iald (z := ((up2 mem 191 s1 s0) 191 a1)) dX12_readsAct_33 (by decide) sh_191 (by decide) (q2).1 (q2).2 (by simp [up2, upr]) ?_
  refine G_if_lt (tgt := 47) dX12_readsAct_34 (by decide) (w3) (fun c1 => ?_) (fun c1 => ?_)
  · -- ((up2 mem 191 s1 s0) 191 a1) < 0
    refine G_aload_n dX12_readsAct_47 rfl ?_
    refine G_getR (t := 191) dX12_readsAct_48 fl_12_75 (by decide) sh_169 rr_169_43 ?_
    refine G_iload_n dX12_readsAct_51 rfl ?_
    refine G_iald (z := ((up2 mem 191 s1 s0) 191 a1)) dX12_readsAct_52 (by decide) sh_191 (by decide) (q2).1 (q2).2 (by simp [up2, upr]) ?_
    refine G_iconst (z := 2) dX12_readsAct_53 rfl ?_
    refine G_icmp_ne (tgt := 61) dX12_readsAct_54 (by decide) (w3) (by decide) (fun c2 => ?_) (fun c2 => ?_)
    · -- ((up2 mem 191 s1 s0) 191 a1) ≠ 2
      refine G_iconst (z := 0) dX12_readsAct_61 rfl ?_
      exact G_zret dX12_readsAct_62 rfl (nar_zb (by decide)) (Nat.zero_le _) (Nat.zero_le _) (Nat.le_refl _) ⟨rfl, k1 c1 c2⟩
    · -- ((up2 mem 191 s1 s0) 191 a1) = 2
      refine G_iconst (z := 1) dX12_readsAct_57 rfl ?_
      refine G_goto (tgt := 62) dX12_readsAct_58 (by decide) ?_
      exact G_zret dX12_readsAct_62 rfl (nar_zb (by decide)) (Nat.zero_le _) (Nat.zero_le _) (Nat.le_refl _) ⟨rfl, k2 c1 c2⟩
  · -- ¬ ((up2 mem 191 s1 s0) 191 a1) < 0
    refine G_aload_n dX12_readsAct_37 rfl ?_
    refine G_getR (t := 191) dX12_readsAct_38 fl_12_75 (by decide) sh_169 rr_169_43 ?_
    refine G_iload_n dX12_readsAct_41 rfl ?_
    refine G_iald (z := ((up2 mem 191 s1 s0) 191 a1)) dX12_readsAct_42 (by decide) sh_191 (by decide) (q2).1 (q2).2 (by simp [up2, upr]) ?_
    refine G_iconst (z := 2) dX12_readsAct_43 rfl ?_
    refine G_icmp_ne (tgt := 63) dX12_readsAct_44 (by decide) (w3) (by decide) (fun c3 => ?_) (fun c3 => ?_)
    · -- ((up2 mem 191 s1 s0) 191 a1) ≠ 2
      refine G_aload_n dX12_readsAct_63 rfl ?_
      refine G_getR (t := 192) dX12_readsAct_64 fl_12_78 (by decide) sh_169 rr_169_44 ?_
      refine G_iload_n dX12_readsAct_67 rfl ?_
      refine G_aload_n dX12_readsAct_68 rfl ?_
      refine G_aload_n dX12_readsAct_69 rfl ?_
      refine G_getR (t := 191) dX12_readsAct_70 fl_12_75 (by decide) sh_169 rr_169_43 ?_
      refine G_iload_n dX12_readsAct_73 rfl ?_
      refine G_iald (z := ((up2 mem 191 s1 s0) 191 a1)) dX12_readsAct_74 (by decide) sh_191 (by decide) (q2).1 (q2).2 (by simp [up2, upr]) ?_
      refine G_iconst (z := 3) dX12_readsAct_75 rfl ?_
      have j1 : GM E (m_X12_readsAct 7) P 84 [.ref 169, vi a1] [vi (if ((up2 mem 191 s1 s0) 191 a1) ≠ 3 then (1 : Int) else (4 : Int)), .ref 169, vi a1, .ref 192] (up2 (up2 mem 191 s1 s0) 169 46 ((mem 169 46) + 1)) := by
        exact k3 c1 c3
      refine G_icmp_ne (tgt := 83) dX12_readsAct_76 (by decide) (w3) (by decide) (fun c4 => ?_) (fun c4 => ?_)
      · -- ((up2 mem 191 s1 s0) 191 a1) ≠ 3
        refine G_iconst (z := 1) dX12_readsAct_83 rfl ?_
        have qj1 := j1
        simp only [if_pos c4] at qj1
        exact qj1
      · -- ((up2 mem 191 s1 s0) 191 a1) = 3
        refine G_iconst (z := 4) dX12_readsAct_79 rfl ?_
        refine G_goto (tgt := 84) dX12_readsAct_80 (by decide) ?_
        have qj1 := j1
        simp only [if_neg (show ¬ (((up2 mem 191 s1 s0) 191 a1) ≠ 3) from fun q => q c4)] at qj1
        exact qj1
    · -- ((up2 mem 191 s1 s0) 191 a1) = 2
      refine G_aload_n dX12_readsAct_47 rfl ?_
      refine G_getR (t := 191) dX12_readsAct_48 fl_12_75 (by decide) sh_169 rr_169_43 ?_
      refine G_iload_n dX12_readsAct_51 rfl ?_
      refine G_iald (z := ((up2 mem 191 s1 s0) 191 a1)) dX12_readsAct_52 (by decide) sh_191 (by decide) (q2).1 (q2).2 (by simp [up2, upr]) ?_
      refine G_iconst (z := 2) dX12_readsAct_53 rfl ?_
      refine G_icmp_ne (tgt := 61) dX12_readsAct_54 (by decide) (w3) (by decide) (fun c5 => ?_) (fun c5 => ?_)
      · -- ((up2 mem 191 s1 s0) 191 a1) ≠ 2
        refine G_iconst (z := 0) dX12_readsAct_61 rfl ?_
        exact G_zret dX12_readsAct_62 rfl (nar_zb (by decide)) (Nat.zero_le _) (Nat.zero_le _) (Nat.le_refl _) ⟨rfl, k4 c1 c3 c5⟩
      · -- ((up2 mem 191 s1 s0) 191 a1) = 2
        refine G_iconst (z := 1) dX12_readsAct_57 rfl ?_
        refine G_goto (tgt := 62) dX12_readsAct_58 (by decide) ?_
        exact G_zret dX12_readsAct_62 rfl (nar_zb (by decide)) (Nat.zero_le _) (Nat.zero_le _) (Nat.le_refl _) ⟨rfl, k5 c1 c3 c5⟩
set_option maxRecDepth 20000 in
set_option maxHeartbeats 8000000 in
theorem sg_X12_readsAct_87 {E : Nat × (Nat → Int32)} {P : Option Value → Mem → Prop} {mem : Mem} {a1 : Int} {s0 : Int} {s1 : Int} (q1 : 0 ≤ s1 ∧ s1 < 60) (q2 : 0 ≤ a1 ∧ a1 < 60) (w3 : -2147483648 ≤ ((up2 mem 192 s1 s0) 192 a1) ∧ ((up2 mem 192 s1 s0) 192 a1) < 2147483648) (w4 : ¬ ((up2 mem 192 s1 s0) 192 a1) < 0 → -2147483648 ≤ (mem 191 a1) ∧ (mem 191 a1) < 2147483648)
    (k1 : ((up2 mem 192 s1 s0) 192 a1) < 0 → ((up2 mem 192 s1 s0) 192 a1) < 0 → P (some (vi 0)) (up2 mem 192 s1 s0))
    (k2 : ((up2 mem 192 s1 s0) 192 a1) < 0 → ¬ ((up2 mem 192 s1 s0) 192 a1) < 0 → P (some (vi 1)) (up2 mem 192 s1 s0))
    (k3 : ¬ ((up2 mem 192 s1 s0) 192 a1) < 0 → (mem 191 a1) = 1 → GM E (m_X12_readsAct 7) P 131 [.ref 169, vi a1] [.ref 1110, .ref 169, vi a1, .ref 193] (up2 mem 192 s1 s0))
    (k4 : ¬ ((up2 mem 192 s1 s0) 192 a1) < 0 → ¬ (mem 191 a1) = 1 → ((up2 mem 192 s1 s0) 192 a1) < 0 → P (some (vi 0)) (up2 mem 192 s1 s0))
    (k5 : ¬ ((up2 mem 192 s1 s0) 192 a1) < 0 → ¬ (mem 191 a1) = 1 → ¬ ((up2 mem 192 s1 s0) 192 a1) < 0 → P (some (vi 1)) (up2 mem 192 s1 s0)) :
    GM E (m_X12_readsAct 7) P 87 [.ref 169, vi a1] [vi s0, vi s1, .ref 192] mem := by
  refine G_iast (mem2 := (up2 mem 192 s1 s0)) dX12_readsAct_87 (by decide) sh_192 (by decide) (q1).1 (q1).2 rfl ?_
  refine G_aload_n dX12_readsAct_88 rfl ?_
  refine G_getR (t := 192) dX12_readsAct_89 fl_12_78 (by decide) sh_169 rr_169_44 ?_
  refine G_iload_n dX12_readsAct_92 rfl ?_
  refine G_iald (z := ((up2 mem 192 s1 s0) 192 a1)) dX12_readsAct_93 (by decide) sh_192 (by decide) (q2).1 (q2).2 (by simp [up2, upr]) ?_
  refine G_if_lt (tgt := 107) dX12_readsAct_94 (by decide) (w3) (fun c1 => ?_) (fun c1 => ?_)
  · -- ((up2 mem 192 s1 s0) 192 a1) < 0
    refine G_aload_n dX12_readsAct_107 rfl ?_
    refine G_getR (t := 192) dX12_readsAct_108 fl_12_78 (by decide) sh_169 rr_169_44 ?_
    refine G_iload_n dX12_readsAct_111 rfl ?_
    refine G_iald (z := ((up2 mem 192 s1 s0) 192 a1)) dX12_readsAct_112 (by decide) sh_192 (by decide) (q2).1 (q2).2 (by simp [up2, upr]) ?_
    refine G_if_lt (tgt := 120) dX12_readsAct_113 (by decide) (w3) (fun c2 => ?_) (fun c2 => ?_)
    · -- ((up2 mem 192 s1 s0) 192 a1) < 0
      refine G_iconst (z := 0) dX12_readsAct_120 rfl ?_
      exact G_zret dX12_readsAct_121 rfl (nar_zb (by decide)) (Nat.zero_le _) (Nat.zero_le _) (Nat.le_refl _) ⟨rfl, k1 c1 c2⟩
    · -- ¬ ((up2 mem 192 s1 s0) 192 a1) < 0
      refine G_iconst (z := 1) dX12_readsAct_116 rfl ?_
      refine G_goto (tgt := 121) dX12_readsAct_117 (by decide) ?_
      exact G_zret dX12_readsAct_121 rfl (nar_zb (by decide)) (Nat.zero_le _) (Nat.zero_le _) (Nat.le_refl _) ⟨rfl, k2 c1 c2⟩
  · -- ¬ ((up2 mem 192 s1 s0) 192 a1) < 0
    refine G_aload_n dX12_readsAct_97 rfl ?_
    refine G_getR (t := 191) dX12_readsAct_98 fl_12_75 (by decide) sh_169 rr_169_43 ?_
    refine G_iload_n dX12_readsAct_101 rfl ?_
    refine G_iald (z := (mem 191 a1)) dX12_readsAct_102 (by decide) sh_191 (by decide) (q2).1 (q2).2 (by simp [up2, upr]) ?_
    refine G_iconst (z := 1) dX12_readsAct_103 rfl ?_
    refine G_icmp_eq (tgt := 122) dX12_readsAct_104 (by decide) (w4 c1) (by decide) (fun c3 => ?_) (fun c3 => ?_)
    · -- (mem 191 a1) = 1
      refine G_aload_n dX12_readsAct_122 rfl ?_
      refine G_getR (t := 193) dX12_readsAct_123 fl_12_81 (by decide) sh_169 rr_169_45 ?_
      refine G_iload_n dX12_readsAct_126 rfl ?_
      refine G_aload_n dX12_readsAct_127 rfl ?_
      refine G_ldcwS (i := 10) (tx := "012") dX12_readsAct_128 (by decide +kernel : (RX12, 392, "012", 10) ∈ strTab) (by decide) ?_
      exact k3 c1 c3
    · -- ¬ (mem 191 a1) = 1
      refine G_aload_n dX12_readsAct_107 rfl ?_
      refine G_getR (t := 192) dX12_readsAct_108 fl_12_78 (by decide) sh_169 rr_169_44 ?_
      refine G_iload_n dX12_readsAct_111 rfl ?_
      refine G_iald (z := ((up2 mem 192 s1 s0) 192 a1)) dX12_readsAct_112 (by decide) sh_192 (by decide) (q2).1 (q2).2 (by simp [up2, upr]) ?_
      refine G_if_lt (tgt := 120) dX12_readsAct_113 (by decide) (w3) (fun c4 => ?_) (fun c4 => ?_)
      · -- ((up2 mem 192 s1 s0) 192 a1) < 0
        refine G_iconst (z := 0) dX12_readsAct_120 rfl ?_
        exact G_zret dX12_readsAct_121 rfl (nar_zb (by decide)) (Nat.zero_le _) (Nat.zero_le _) (Nat.le_refl _) ⟨rfl, k4 c1 c3 c4⟩
      · -- ¬ ((up2 mem 192 s1 s0) 192 a1) < 0
        refine G_iconst (z := 1) dX12_readsAct_116 rfl ?_
        refine G_goto (tgt := 121) dX12_readsAct_117 (by decide) ?_
        exact G_zret dX12_readsAct_121 rfl (nar_zb (by decide)) (Nat.zero_le _) (Nat.zero_le _) (Nat.le_refl _) ⟨rfl, k5 c1 c3 c4⟩
set_option maxRecDepth 20000 in
set_option maxHeartbeats 8000000 in
theorem sg_X12_readsAct_134 {E : Nat × (Nat → Int32)} {P : Option Value → Mem → Prop} {mem : Mem} {a1 : Int} {s0 : Int} {s1 : Int} (q1 : 0 ≤ s1 ∧ s1 < 60) (q2 : 0 ≤ a1 ∧ a1 < 60) (w3 : -2147483648 ≤ ((up2 mem 193 s1 s0) 193 a1) ∧ ((up2 mem 193 s1 s0) 193 a1) < 2147483648)
    (k1 : ((up2 mem 193 s1 s0) 193 a1) < 0 → P (some (vi 0)) (up2 mem 193 s1 s0))
    (k2 : ¬ ((up2 mem 193 s1 s0) 193 a1) < 0 → P (some (vi 1)) (up2 mem 193 s1 s0)) :
    GM E (m_X12_readsAct 7) P 134 [.ref 169, vi a1] [vi s0, vi s1, .ref 193] mem := by
  refine G_iast (mem2 := (up2 mem 193 s1 s0)) dX12_readsAct_134 (by decide) sh_193 (by decide) (q1).1 (q1).2 rfl ?_
  refine G_aload_n dX12_readsAct_135 rfl ?_
  refine G_getR (t := 193) dX12_readsAct_136 fl_12_81 (by decide) sh_169 rr_169_45 ?_
  refine G_iload_n dX12_readsAct_139 rfl ?_
  refine G_iald (z := ((up2 mem 193 s1 s0) 193 a1)) dX12_readsAct_140 (by decide) sh_193 (by decide) (q2).1 (q2).2 (by simp [up2, upr]) ?_
  refine G_if_lt (tgt := 148) dX12_readsAct_141 (by decide) (w3) (fun c1 => ?_) (fun c1 => ?_)
  · -- ((up2 mem 193 s1 s0) 193 a1) < 0
    refine G_iconst (z := 0) dX12_readsAct_148 rfl ?_
    exact G_zret dX12_readsAct_149 rfl (nar_zb (by decide)) (Nat.zero_le _) (Nat.zero_le _) (Nat.le_refl _) ⟨rfl, k1 c1⟩
  · -- ¬ ((up2 mem 193 s1 s0) 193 a1) < 0
    refine G_iconst (z := 1) dX12_readsAct_144 rfl ?_
    refine G_goto (tgt := 149) dX12_readsAct_145 (by decide) ?_
    exact G_zret dX12_readsAct_149 rfl (nar_zb (by decide)) (Nat.zero_le _) (Nat.zero_le _) (Nat.le_refl _) ⟨rfl, k2 c1⟩
set_option maxRecDepth 20000 in
set_option maxHeartbeats 8000000 in
theorem sg_X12_readsRank_0 {E : Nat × (Nat → Int32)} {d : Nat} {P : Option Value → Mem → Prop} {mem : Mem} {a1 : Int} (w1 : -2147483648 ≤ a1 ∧ a1 < 2147483648)
    (k1 : a1 ≠ 3 → GM E (m_X12_readsRank d) P 14 [.ref 169, vi a1, un, un] [vi (a1 + 1), .ref 169] mem)
    (k2 : a1 = 3 → GM E (m_X12_readsRank d) P 6 [.ref 169, vi a1, un, un] [.ref 169] mem) :
    GM E (m_X12_readsRank d) P 0 [.ref 169, vi a1, un, un] [] mem := by
  refine G_iload_n dX12_readsRank_0 rfl ?_
  refine G_iconst (z := 3) dX12_readsRank_1 rfl ?_
  refine G_icmp_ne (tgt := 10) dX12_readsRank_2 (by decide) (w1) (by decide) (fun c1 => ?_) (fun c1 => ?_)
  · -- a1 ≠ 3
    refine G_aload_n dX12_readsRank_10 rfl ?_
    refine G_iload_n dX12_readsRank_11 rfl ?_
    refine G_iconst (z := 1) dX12_readsRank_12 rfl ?_
    refine G_iadd dX12_readsRank_13 ?_
    exact k1 c1
  · -- a1 = 3
    refine G_aload_n dX12_readsRank_5 rfl ?_
    exact k2 c1
set_option maxRecDepth 20000 in
set_option maxHeartbeats 8000000 in
theorem sg_X12_readsRank_9 {E : Nat × (Nat → Int32)} {d : Nat} {P : Option Value → Mem → Prop} {mem : Mem} {a1 : Int} {s0 : Int} (b1 : s0 = 0 ∨ s0 = 1)
    (k1 : P (some (vi s0)) mem) :
    GM E (m_X12_readsRank d) P 9 [.ref 169, vi a1, un, un] [vi s0] mem := by
  exact G_zret dX12_readsRank_9 rfl (nar_zb (b1)) (Nat.zero_le _) (Nat.zero_le _) (Nat.le_refl _) ⟨rfl, k1⟩
set_option maxRecDepth 20000 in
set_option maxHeartbeats 8000000 in
theorem sg_X12_readsRank_17 {E : Nat × (Nat → Int32)} {d : Nat} {P : Option Value → Mem → Prop} {mem : Mem} {a1 : Int} {s0 : Int} (w1 : -2147483648 ≤ s0 ∧ s0 < 2147483648)
    (k1 : s0 ≠ 0 → GM E (m_X12_readsRank d) P 24 [.ref 169, vi a1, vi 1, un] [] mem)
    (k2 : s0 = 0 → P (some (vi 0)) mem) :
    GM E (m_X12_readsRank d) P 17 [.ref 169, vi a1, un, un] [vi s0] mem := by
  refine G_if_ne (tgt := 22) dX12_readsRank_17 (by decide) (w1) (fun c1 => ?_) (fun c1 => ?_)
  · -- s0 ≠ 0
    refine G_iconst (z := 1) dX12_readsRank_22 rfl ?_
    refine G_istore_n dX12_readsRank_23 rfl (by decide : 2 < 4) rfl ?_
    exact k1 c1
  · -- s0 = 0
    refine G_iconst (z := 0) dX12_readsRank_20 rfl ?_
    exact G_zret dX12_readsRank_21 rfl (nar_zb (by decide)) (Nat.zero_le _) (Nat.zero_le _) (Nat.le_refl _) ⟨rfl, k2 c1⟩
set_option maxRecDepth 20000 in
set_option maxHeartbeats 8000000 in
theorem sg_X12_readsRank_24 {E : Nat × (Nat → Int32)} {d : Nat} {P : Option Value → Mem → Prop} {mem : Mem} {a1 : Int} {a2 : Int} (w1 : -2147483648 ≤ a2 ∧ a2 < 2147483648) (w2 : -2147483648 ≤ a1 ∧ a1 < 2147483648)
    (k1 : a2 = 0 → P (some (vi 1)) mem)
    (k2 : ¬ a2 = 0 → a1 ≠ 0 → a1 ≠ 1 → GM E (m_X12_readsRank d) P 50 [.ref 169, vi a1, vi a2, un] [.ref 1108, .ref 169] mem)
    (k3 : ¬ a2 = 0 → a1 ≠ 0 → a1 = 1 → GM E (m_X12_readsRank d) P 50 [.ref 169, vi a1, vi a2, un] [.ref 1107, .ref 169] mem)
    (k4 : ¬ a2 = 0 → a1 = 0 → GM E (m_X12_readsRank d) P 50 [.ref 169, vi a1, vi a2, un] [.ref 1106, .ref 169] mem) :
    GM E (m_X12_readsRank d) P 24 [.ref 169, vi a1, vi a2, un] [] mem := by
  refine G_iload_n dX12_readsRank_24 rfl ?_
  refine G_if_eq (tgt := 113) dX12_readsRank_25 (by decide) (w1) (fun c1 => ?_) (fun c1 => ?_)
  · -- a2 = 0
    refine G_iconst (z := 1) dX12_readsRank_113 rfl ?_
    exact G_zret dX12_readsRank_114 rfl (nar_zb (by decide)) (Nat.zero_le _) (Nat.zero_le _) (Nat.le_refl _) ⟨rfl, k1 c1⟩
  · -- ¬ a2 = 0
    refine G_aload_n dX12_readsRank_28 rfl ?_
    refine G_iload_n dX12_readsRank_29 rfl ?_
    refine G_if_ne (tgt := 38) dX12_readsRank_30 (by decide) (w2) (fun c2 => ?_) (fun c2 => ?_)
    · -- a1 ≠ 0
      refine G_iload_n dX12_readsRank_38 rfl ?_
      refine G_iconst (z := 1) dX12_readsRank_39 rfl ?_
      refine G_icmp_ne (tgt := 48) dX12_readsRank_40 (by decide) (w2) (by decide) (fun c3 => ?_) (fun c3 => ?_)
      · -- a1 ≠ 1
        refine G_ldcS (i := 8) (tx := "*/") dX12_readsRank_48 (by decide +kernel : (RX12, 249, "*/", 8) ∈ strTab) (by decide) ?_
        exact k2 c1 c2 c3
      · -- a1 = 1
        refine G_ldcS (i := 7) (tx := "+-") dX12_readsRank_43 (by decide +kernel : (RX12, 247, "+-", 7) ∈ strTab) (by decide) ?_
        refine G_goto (tgt := 50) dX12_readsRank_45 (by decide) ?_
        exact k3 c1 c2 c3
    · -- a1 = 0
      refine G_ldcS (i := 6) (tx := "<>=") dX12_readsRank_33 (by decide +kernel : (RX12, 245, "<>=", 6) ∈ strTab) (by decide) ?_
      refine G_goto (tgt := 50) dX12_readsRank_35 (by decide) ?_
      exact k4 c1 c2
set_option maxRecDepth 20000 in
set_option maxHeartbeats 8000000 in
theorem sg_X12_readsRank_53 {E : Nat × (Nat → Int32)} {d : Nat} {P : Option Value → Mem → Prop} {mem : Mem} {a1 : Int} {a2 : Int} {s0 : Int} (w1 : -2147483648 ≤ s0 ∧ s0 < 2147483648)
    (k1 : 0 ≤ s0 → GM E (m_X12_readsRank d) P 64 [.ref 169, vi a1, vi a2, vi s0] [vi (a1 + 1), .ref 169] mem)
    (k2 : ¬ 0 ≤ s0 → P (some (vi 1)) mem) :
    GM E (m_X12_readsRank d) P 53 [.ref 169, vi a1, vi a2, un] [vi s0] mem := by
  refine G_istore_n dX12_readsRank_53 rfl (by decide : 3 < 4) rfl ?_
  refine G_iload_n dX12_readsRank_54 rfl ?_
  refine G_if_ge (tgt := 60) dX12_readsRank_55 (by decide) (w1) (fun c1 => ?_) (fun c1 => ?_)
  · -- 0 ≤ s0
    refine G_aload_n dX12_readsRank_60 rfl ?_
    refine G_iload_n dX12_readsRank_61 rfl ?_
    refine G_iconst (z := 1) dX12_readsRank_62 rfl ?_
    refine G_iadd dX12_readsRank_63 ?_
    exact k1 c1
  · -- ¬ 0 ≤ s0
    refine G_iconst (z := 1) dX12_readsRank_58 rfl ?_
    exact G_zret dX12_readsRank_59 rfl (nar_zb (by decide)) (Nat.zero_le _) (Nat.zero_le _) (Nat.le_refl _) ⟨rfl, k2 c1⟩
set_option maxRecDepth 20000 in
set_option maxHeartbeats 8000000 in
theorem sg_X12_readsRank_67 {E : Nat × (Nat → Int32)} {d : Nat} (hd : 1 ≤ d) {P : Option Value → Mem → Prop} {mem : Mem} {a1 : Int} {a2 : Int} {a3 : Int} {s0 : Int} (w1 : -2147483648 ≤ s0 ∧ s0 < 2147483648) (w2 : -2147483648 ≤ a1 ∧ a1 < 2147483648) (q3 : s0 ≠ 0 → 0 ≤ (mem 169 27) ∧ (mem 169 27) < 80)
    (k1 : s0 ≠ 0 → a1 ≤ 0 → GM E (m_X12_readsRank d) P 24 [.ref 169, vi a1, vi 0, un] [] (up2 (up2 mem 186 (mem 169 27) ((2000 + a3) + (if a1 ≠ 0 then (if a1 ≠ 1 then (5 : Int) else (3 : Int)) else (0 : Int)))) 169 27 ((mem 169 27) + 1)))
    (k2 : s0 ≠ 0 → ¬ a1 ≤ 0 → GM E (m_X12_readsRank d) P 24 [.ref 169, vi a1, vi 1, un] [] (up2 (up2 mem 186 (mem 169 27) ((2000 + a3) + (if a1 ≠ 0 then (if a1 ≠ 1 then (5 : Int) else (3 : Int)) else (0 : Int)))) 169 27 ((mem 169 27) + 1)))
    (k3 : s0 = 0 → P (some (vi 0)) mem) :
    GM E (m_X12_readsRank d) P 67 [.ref 169, vi a1, vi a2, vi a3] [vi s0] mem := by
  refine G_if_ne (tgt := 72) dX12_readsRank_67 (by decide) (w1) (fun c1 => ?_) (fun c1 => ?_)
  · -- s0 ≠ 0
    refine G_aload_n dX12_readsRank_72 rfl ?_
    refine G_sipush (z := 2000) dX12_readsRank_73 rfl ?_
    refine G_iload_n dX12_readsRank_76 rfl ?_
    refine G_iadd dX12_readsRank_77 ?_
    refine G_iload_n dX12_readsRank_78 rfl ?_
    have j1 : GM E (m_X12_readsRank d) P 96 [.ref 169, vi a1, vi a2, vi a3] [vi (if a1 ≠ 0 then (if a1 ≠ 1 then (5 : Int) else (3 : Int)) else (0 : Int)), vi (2000 + a3), .ref 169] mem := by
      refine G_iadd dX12_readsRank_96 ?_
      refine cb_X12_readsRank_97 (by omega) (ic_X12_codes (z := (mem 169 27)) rfl (q3 c1) ?_)
      refine G_iload_n dX12_readsRank_100 rfl ?_
      refine G_if_le (tgt := 108) dX12_readsRank_101 (by decide) (w2) (fun c4 => ?_) (fun c4 => ?_)
      · -- a1 ≤ 0
        refine G_iconst (z := 0) dX12_readsRank_108 rfl ?_
        refine G_istore_n dX12_readsRank_109 rfl (by decide : 2 < 4) rfl ?_
        refine G_goto (tgt := 24) dX12_readsRank_110 (by decide) ?_
        refine G_weak (lv2 := [.ref 169, vi a1, vi 0, un]) ⟨Or.inr rfl, Or.inr rfl, Or.inr rfl, Or.inl rfl, trivial⟩ ?_
        exact k1 c1 c4
      · -- ¬ a1 ≤ 0
        refine G_iconst (z := 1) dX12_readsRank_104 rfl ?_
        refine G_goto (tgt := 109) dX12_readsRank_105 (by decide) ?_
        refine G_istore_n dX12_readsRank_109 rfl (by decide : 2 < 4) rfl ?_
        refine G_goto (tgt := 24) dX12_readsRank_110 (by decide) ?_
        refine G_weak (lv2 := [.ref 169, vi a1, vi 1, un]) ⟨Or.inr rfl, Or.inr rfl, Or.inr rfl, Or.inl rfl, trivial⟩ ?_
        exact k2 c1 c4
    refine G_if_ne (tgt := 86) dX12_readsRank_79 (by decide) (w2) (fun c2 => ?_) (fun c2 => ?_)
    · -- a1 ≠ 0
      refine G_iload_n dX12_readsRank_86 rfl ?_
      refine G_iconst (z := 1) dX12_readsRank_87 rfl ?_
      have j2 : GM E (m_X12_readsRank d) P 96 [.ref 169, vi a1, vi a2, vi a3] [vi (if a1 ≠ 1 then (5 : Int) else (3 : Int)), vi (2000 + a3), .ref 169] mem := by
        have qj1 := j1
        simp only [if_pos c2] at qj1
        exact qj1
      refine G_icmp_ne (tgt := 95) dX12_readsRank_88 (by decide) (w2) (by decide) (fun c3 => ?_) (fun c3 => ?_)
      · -- a1 ≠ 1
        refine G_iconst (z := 5) dX12_readsRank_95 rfl ?_
        have qj2 := j2
        simp only [if_pos c3] at qj2
        exact qj2
      · -- a1 = 1
        refine G_iconst (z := 3) dX12_readsRank_91 rfl ?_
        refine G_goto (tgt := 96) dX12_readsRank_92 (by decide) ?_
        have qj2 := j2
        simp only [if_neg (show ¬ (a1 ≠ 1) from fun q => q c3)] at qj2
        exact qj2
    · -- a1 = 0
      refine G_iconst (z := 0) dX12_readsRank_82 rfl ?_
      refine G_goto (tgt := 96) dX12_readsRank_83 (by decide) ?_
      have qj1 := j1
      simp only [if_neg (show ¬ (a1 ≠ 0) from fun q => q c2)] at qj1
      exact qj1
  · -- s0 = 0
    refine G_iconst (z := 0) dX12_readsRank_70 rfl ?_
    exact G_zret dX12_readsRank_71 rfl (nar_zb (by decide)) (Nat.zero_le _) (Nat.zero_le _) (Nat.le_refl _) ⟨rfl, k3 c1⟩
set_option maxRecDepth 20000 in
set_option maxHeartbeats 8000000 in
theorem sg_X12_readsStreet_0 {E : Nat × (Nat → Int32)} {P : Option Value → Mem → Prop} {mem : Mem} (w1 : -2147483648 ≤ ((mem 169 3) + (mem 169 23)) ∧ ((mem 169 3) + (mem 169 23)) < 2147483648) (q2 : ¬ ((mem 169 3) + (mem 169 23)) = 6 → 0 ≤ (mem 169 18) ∧ (mem 169 18) < 2147483648 ∧ -2147483648 ≤ (mem 169 19) ∧ (mem 169 19) ≤ 80) (w3 : ¬ ((mem 169 3) + (mem 169 23)) = 6 → -2147483648 ≤ (mem 182 (mem 169 18)) ∧ (mem 182 (mem 169 18)) < 2147483648)
    (k1 : ((mem 169 3) + (mem 169 23)) = 6 → P (some (vi 0)) mem)
    (k2 : ¬ ((mem 169 3) + (mem 169 23)) = 6 → (mem 169 18) < (mem 169 19) ∧ (mem 182 (mem 169 18)) = 115 → GM E (m_X12_readsStreet 7) P 40 [.ref 169, vi (6 * (mem 169 23)), un, un] [vi 2, .ref 169, vi (6 * (mem 169 23)), .ref 183] (up2 mem 169 18 ((mem 169 18) + 1)))
    (k3 : ¬ ((mem 169 3) + (mem 169 23)) = 6 → ¬ ((mem 169 18) < (mem 169 19) ∧ (mem 182 (mem 169 18)) = 115) → P (some (vi 0)) (up2 mem 169 18 ((mem 169 18) + 0))) :
    GM E (m_X12_readsStreet 7) P 0 [.ref 169, un, un, un] [] mem := by
  refine G_aload_n dX12_readsStreet_0 rfl ?_
  refine G_getI (z := (mem 169 3)) dX12_readsStreet_1 fl_12_137 (by decide) sh_169 rfl ?_
  refine G_aload_n dX12_readsStreet_4 rfl ?_
  refine G_getI (z := (mem 169 23)) dX12_readsStreet_5 fl_12_192 (by decide) sh_169 rfl ?_
  refine G_iadd dX12_readsStreet_8 ?_
  refine G_bipush (z := 6) dX12_readsStreet_9 rfl ?_
  refine G_icmp_eq (tgt := 23) dX12_readsStreet_11 (by decide) (w1) (by decide) (fun c1 => ?_) (fun c1 => ?_)
  · -- ((mem 169 3) + (mem 169 23)) = 6
    refine G_iconst (z := 0) dX12_readsStreet_23 rfl ?_
    exact G_zret dX12_readsStreet_24 rfl (nar_zb (by decide)) (Nat.zero_le _) (Nat.zero_le _) (Nat.le_refl _) ⟨rfl, k1 c1⟩
  · -- ¬ ((mem 169 3) + (mem 169 23)) = 6
    refine G_aload_n dX12_readsStreet_14 rfl ?_
    refine G_bipush (z := 115) dX12_readsStreet_15 rfl ?_
    refine cb_X12_readsStreet_17 (ic_X12_isNext (a := (mem 169 18)) (b := (mem 169 19)) (t := (mem 182 (mem 169 18))) rfl rfl (q2 c1) (by decide) rfl (w3 c1) (fun c2 => ?_) (fun c3 => ?_))
    · -- (mem 169 18) < (mem 169 19) ∧ (mem 182 (mem 169 18)) = 115
      refine G_if_ne (tgt := 25) dX12_readsStreet_20 (by decide) (by decide) (fun _ => ?_) (fun h => absurd h (by decide))
      refine G_bipush (z := 6) dX12_readsStreet_25 rfl ?_
      refine G_aload_n dX12_readsStreet_27 rfl ?_
      refine G_getI (z := (mem 169 23)) dX12_readsStreet_28 fl_12_192 (by decide) sh_169 (by simp [up2, upr]) ?_
      refine G_imul dX12_readsStreet_31 ?_
      refine G_istore_n dX12_readsStreet_32 rfl (by decide : 1 < 4) rfl ?_
      refine G_aload_n dX12_readsStreet_33 rfl ?_
      refine G_getR (t := 183) dX12_readsStreet_34 fl_12_51 (by decide) sh_169 rr_169_21 ?_
      refine G_iload_n dX12_readsStreet_37 rfl ?_
      refine G_aload_n dX12_readsStreet_38 rfl ?_
      refine G_iconst (z := 2) dX12_readsStreet_39 rfl ?_
      exact k2 c1 c2
    · -- ¬ ((mem 169 18) < (mem 169 19) ∧ (mem 182 (mem 169 18)) = 115)
      refine G_if_ne (tgt := 25) dX12_readsStreet_20 (by decide) (by decide) (fun h => absurd h (by decide)) (fun _ => ?_)
      refine G_iconst (z := 0) dX12_readsStreet_23 rfl ?_
      exact G_zret dX12_readsStreet_24 rfl (nar_zb (by decide)) (Nat.zero_le _) (Nat.zero_le _) (Nat.le_refl _) ⟨rfl, k3 c1 c3⟩
set_option maxRecDepth 20000 in
set_option maxHeartbeats 8000000 in
theorem sg_X12_readsStreet_43 {E : Nat × (Nat → Int32)} {P : Option Value → Mem → Prop} {mem : Mem} {a1 : Int} {s0 : Int} {s1 : Int} (q1 : 0 ≤ s1 ∧ s1 < 36) (q2 : 0 ≤ a1 ∧ a1 < 36) (w3 : -2147483648 ≤ ((up2 mem 183 s1 s0) 183 a1) ∧ ((up2 mem 183 s1 s0) 183 a1) < 2147483648) (q4 : ¬ ((up2 mem 183 s1 s0) 183 a1) < 0 → 0 ≤ (mem 169 18) ∧ (mem 169 18) < 2147483648 ∧ -2147483648 ≤ (mem 169 19) ∧ (mem 169 19) ≤ 80) (w5 : ¬ ((up2 mem 183 s1 s0) 183 a1) < 0 → -2147483648 ≤ (mem 182 (mem 169 18)) ∧ (mem 182 (mem 169 18)) < 2147483648)
    (k1 : ((up2 mem 183 s1 s0) 183 a1) < 0 → P (some (vi 0)) (up2 mem 183 s1 s0))
    (k2 : ¬ ((up2 mem 183 s1 s0) 183 a1) < 0 → (mem 169 18) < (mem 169 19) ∧ (mem 182 (mem 169 18)) = 58 → GM E (m_X12_readsStreet 7) P 66 [.ref 169, vi a1, vi 0, un] [] (up2 (up2 mem 183 s1 s0) 169 18 ((mem 169 18) + 1)))
    (k3 : ¬ ((up2 mem 183 s1 s0) 183 a1) < 0 → ¬ ((mem 169 18) < (mem 169 19) ∧ (mem 182 (mem 169 18)) = 58) → P (some (vi 0)) (up2 (up2 mem 183 s1 s0) 169 18 ((mem 169 18) + 0))) :
    GM E (m_X12_readsStreet 7) P 43 [.ref 169, vi a1, un, un] [vi s0, vi s1, .ref 183] mem := by
  refine G_iast (mem2 := (up2 mem 183 s1 s0)) dX12_readsStreet_43 (by decide) sh_183 (by decide) (q1).1 (q1).2 rfl ?_
  refine G_aload_n dX12_readsStreet_44 rfl ?_
  refine G_getR (t := 183) dX12_readsStreet_45 fl_12_51 (by decide) sh_169 rr_169_21 ?_
  refine G_iload_n dX12_readsStreet_48 rfl ?_
  refine G_iald (z := ((up2 mem 183 s1 s0) 183 a1)) dX12_readsStreet_49 (by decide) sh_183 (by decide) (q2).1 (q2).2 (by simp [up2, upr]) ?_
  refine G_if_lt (tgt := 62) dX12_readsStreet_50 (by decide) (w3) (fun c1 => ?_) (fun c1 => ?_)
  · -- ((up2 mem 183 s1 s0) 183 a1) < 0
    refine G_iconst (z := 0) dX12_readsStreet_62 rfl ?_
    exact G_zret dX12_readsStreet_63 rfl (nar_zb (by decide)) (Nat.zero_le _) (Nat.zero_le _) (Nat.le_refl _) ⟨rfl, k1 c1⟩
  · -- ¬ ((up2 mem 183 s1 s0) 183 a1) < 0
    refine G_aload_n dX12_readsStreet_53 rfl ?_
    refine G_bipush (z := 58) dX12_readsStreet_54 rfl ?_
    refine cb_X12_readsStreet_56 (ic_X12_isNext (a := (mem 169 18)) (b := (mem 169 19)) (t := (mem 182 (mem 169 18))) (by simp [up2, upr]) (by simp [up2, upr]) (q4 c1) (by decide) (by simp [up2, upr]) (w5 c1) (fun c2 => ?_) (fun c3 => ?_))
    · -- (mem 169 18) < (mem 169 19) ∧ (mem 182 (mem 169 18)) = 58
      refine G_if_ne (tgt := 64) dX12_readsStreet_59 (by decide) (by decide) (fun _ => ?_) (fun h => absurd h (by decide))
      refine G_iconst (z := 0) dX12_readsStreet_64 rfl ?_
      refine G_istore_n dX12_readsStreet_65 rfl (by decide : 2 < 4) rfl ?_
      exact k2 c1 c2
    · -- ¬ ((mem 169 18) < (mem 169 19) ∧ (mem 182 (mem 169 18)) = 58)
      refine G_if_ne (tgt := 64) dX12_readsStreet_59 (by decide) (by decide) (fun h => absurd h (by decide)) (fun _ => ?_)
      refine G_iconst (z := 0) dX12_readsStreet_62 rfl ?_
      exact G_zret dX12_readsStreet_63 rfl (nar_zb (by decide)) (Nat.zero_le _) (Nat.zero_le _) (Nat.le_refl _) ⟨rfl, k3 c1 c3⟩
set_option maxRecDepth 20000 in
set_option maxHeartbeats 8000000 in
theorem sg_X12_readsStreet_66 {E : Nat × (Nat → Int32)} {P : Option Value → Mem → Prop} {mem : Mem} {a1 : Int} {a2 : Int} (w1 : -2147483648 ≤ a2 ∧ a2 < 2147483648) (q2 : 8 ≤ a2 → ¬ a2 = 0 → 0 ≤ (mem 169 18) ∧ (mem 169 18) < 2147483648 ∧ -2147483648 ≤ (mem 169 19) ∧ (mem 169 19) ≤ 80) (w3 : 8 ≤ a2 → ¬ a2 = 0 → -2147483648 ≤ (mem 182 (mem 169 18)) ∧ (mem 182 (mem 169 18)) < 2147483648) (q4 : 8 ≤ a2 → ¬ a2 = 0 → (mem 169 18) < (mem 169 19) ∧ (mem 182 (mem 169 18)) = 47 → 0 ≤ (a1 + 1) ∧ (a1 + 1) < 36) (q5 : ¬ 8 ≤ a2 → 0 ≤ (mem 169 18) ∧ (mem 169 18) < 2147483648 ∧ -2147483648 ≤ (mem 169 19) ∧ (mem 169 19) ≤ 80) (w6 : ¬ 8 ≤ a2 → -2147483648 ≤ (mem 182 (mem 169 18)) ∧ (mem 182 (mem 169 18)) < 2147483648) (q7 : ¬ 8 ≤ a2 → ¬ ((mem 169 18) < (mem 169 19) ∧ 48 ≤ (mem 182 (mem 169 18)) ∧ (mem 182 (mem 169 18)) ≤ 57) → ¬ a2 = 0 → (mem 169 18) < (mem 169 19) ∧ (mem 182 (mem 169 18)) = 47 → 0 ≤ (a1 + 1) ∧ (a1 + 1) < 36)
    (k1 : 8 ≤ a2 → a2 = 0 → P (some (vi 0)) mem)
    (k2 : 8 ≤ a2 → ¬ a2 = 0 → (mem 169 18) < (mem 169 19) ∧ (mem 182 (mem 169 18)) = 47 → GM E (m_X12_readsStreet 7) P 130 [.ref 169, vi a1, vi a2, vi 0] [] (up2 (up2 mem 169 18 ((mem 169 18) + 1)) 183 (a1 + 1) a2))
    (k3 : 8 ≤ a2 → ¬ a2 = 0 → ¬ ((mem 169 18) < (mem 169 19) ∧ (mem 182 (mem 169 18)) = 47) → P (some (vi 0)) (up2 mem 169 18 ((mem 169 18) + 0)))
    (k4 : ¬ 8 ≤ a2 → (mem 169 18) < (mem 169 19) ∧ 48 ≤ (mem 182 (mem 169 18)) ∧ (mem 182 (mem 169 18)) ≤ 57 → GM E (m_X12_readsStreet 7) P 94 [.ref 169, vi a1, vi a2, un] [vi 1, .ref 169, vi (((16 * (mem 169 23)) + (8 * 0)) + a2), .ref 184] mem)
    (k5 : ¬ 8 ≤ a2 → ¬ ((mem 169 18) < (mem 169 19) ∧ 48 ≤ (mem 182 (mem 169 18)) ∧ (mem 182 (mem 169 18)) ≤ 57) → a2 = 0 → P (some (vi 0)) mem)
    (k6 : ¬ 8 ≤ a2 → ¬ ((mem 169 18) < (mem 169 19) ∧ 48 ≤ (mem 182 (mem 169 18)) ∧ (mem 182 (mem 169 18)) ≤ 57) → ¬ a2 = 0 → (mem 169 18) < (mem 169 19) ∧ (mem 182 (mem 169 18)) = 47 → GM E (m_X12_readsStreet 7) P 130 [.ref 169, vi a1, vi a2, vi 0] [] (up2 (up2 mem 169 18 ((mem 169 18) + 1)) 183 (a1 + 1) a2))
    (k7 : ¬ 8 ≤ a2 → ¬ ((mem 169 18) < (mem 169 19) ∧ 48 ≤ (mem 182 (mem 169 18)) ∧ (mem 182 (mem 169 18)) ≤ 57) → ¬ a2 = 0 → ¬ ((mem 169 18) < (mem 169 19) ∧ (mem 182 (mem 169 18)) = 47) → P (some (vi 0)) (up2 mem 169 18 ((mem 169 18) + 0))) :
    GM E (m_X12_readsStreet 7) P 66 [.ref 169, vi a1, vi a2, un] [] mem := by
  refine G_iload_n dX12_readsStreet_66 rfl ?_
  refine G_bipush (z := 8) dX12_readsStreet_67 rfl ?_
  refine G_icmp_ge (tgt := 104) dX12_readsStreet_69 (by decide) (w1) (by decide) (fun c1 => ?_) (fun c1 => ?_)
  · -- 8 ≤ a2
    refine G_iload_n dX12_readsStreet_104 rfl ?_
    refine G_if_eq (tgt := 117) dX12_readsStreet_105 (by decide) (w1) (fun c2 => ?_) (fun c2 => ?_)
    · -- a2 = 0
      refine G_iconst (z := 0) dX12_readsStreet_117 rfl ?_
      exact G_zret dX12_readsStreet_118 rfl (nar_zb (by decide)) (Nat.zero_le _) (Nat.zero_le _) (Nat.le_refl _) ⟨rfl, k1 c1 c2⟩
    · -- ¬ a2 = 0
      refine G_aload_n dX12_readsStreet_108 rfl ?_
      refine G_bipush (z := 47) dX12_readsStreet_109 rfl ?_
      refine cb_X12_readsStreet_111 (ic_X12_isNext (a := (mem 169 18)) (b := (mem 169 19)) (t := (mem 182 (mem 169 18))) rfl rfl (q2 c1 c2) (by decide) rfl (w3 c1 c2) (fun c3 => ?_) (fun c4 => ?_))
      · -- (mem 169 18) < (mem 169 19) ∧ (mem 182 (mem 169 18)) = 47
        refine G_if_ne (tgt := 119) dX12_readsStreet_114 (by decide) (by decide) (fun _ => ?_) (fun h => absurd h (by decide))
        refine G_aload_n dX12_readsStreet_119 rfl ?_
        refine G_getR (t := 183) dX12_readsStreet_120 fl_12_51 (by decide) sh_169 rr_169_21 ?_
        refine G_iload_n dX12_readsStreet_123 rfl ?_
        refine G_iconst (z := 1) dX12_readsStreet_124 rfl ?_
        refine G_iadd dX12_readsStreet_125 ?_
        refine G_iload_n dX12_readsStreet_126 rfl ?_
        refine G_iast (mem2 := (up2 (up2 mem 169 18 ((mem 169 18) + 1)) 183 (a1 + 1) a2)) dX12_readsStreet_127 (by decide) sh_183 (by decide) (q4 c1 c2 c3).1 (q4 c1 c2 c3).2 rfl ?_
        refine G_iconst (z := 0) dX12_readsStreet_128 rfl ?_
        refine G_istore_n dX12_readsStreet_129 rfl (by decide : 3 < 4) rfl ?_
        exact k2 c1 c2 c3
      · -- ¬ ((mem 169 18) < (mem 169 19) ∧ (mem 182 (mem 169 18)) = 47)
        refine G_if_ne (tgt := 119) dX12_readsStreet_114 (by decide) (by decide) (fun h => absurd h (by decide)) (fun _ => ?_)
        refine G_iconst (z := 0) dX12_readsStreet_117 rfl ?_
        exact G_zret dX12_readsStreet_118 rfl (nar_zb (by decide)) (Nat.zero_le _) (Nat.zero_le _) (Nat.le_refl _) ⟨rfl, k3 c1 c2 c4⟩
  · -- ¬ 8 ≤ a2
    refine G_aload_n dX12_readsStreet_72 rfl ?_
    refine cb_X12_readsStreet_73 (ic_X12_isDigit (a := (mem 169 18)) (b := (mem 169 19)) (t := (mem 182 (mem 169 18))) rfl rfl (q5 c1) rfl (w6 c1) (fun c5 => ?_) (fun c6 => ?_))
    · -- (mem 169 18) < (mem 169 19) ∧ 48 ≤ (mem 182 (mem 169 18)) ∧ (mem 182 (mem 169 18)) ≤ 57
      refine G_if_eq (tgt := 104) dX12_readsStreet_76 (by decide) (by decide) (fun h => absurd h (by decide)) (fun _ => ?_)
      refine G_aload_n dX12_readsStreet_79 rfl ?_
      refine G_getR (t := 184) dX12_readsStreet_80 fl_12_54 (by decide) sh_169 rr_169_22 ?_
      refine G_aload_n dX12_readsStreet_83 rfl ?_
      refine G_getI (z := (mem 169 23)) dX12_readsStreet_84 fl_12_192 (by decide) sh_169 rfl ?_
      refine G_iconst (z := 0) dX12_readsStreet_87 rfl ?_
      refine G_iload_n dX12_readsStreet_88 rfl ?_
      refine cb_X12_readsStreet_89 (ic_X12_at ?_)
      refine G_aload_n dX12_readsStreet_92 rfl ?_
      refine G_iconst (z := 1) dX12_readsStreet_93 rfl ?_
      exact k4 c1 c5
    · -- ¬ ((mem 169 18) < (mem 169 19) ∧ 48 ≤ (mem 182 (mem 169 18)) ∧ (mem 182 (mem 169 18)) ≤ 57)
      refine G_if_eq (tgt := 104) dX12_readsStreet_76 (by decide) (by decide) (fun _ => ?_) (fun h => absurd h (by decide))
      refine G_iload_n dX12_readsStreet_104 rfl ?_
      refine G_if_eq (tgt := 117) dX12_readsStreet_105 (by decide) (w1) (fun c7 => ?_) (fun c7 => ?_)
      · -- a2 = 0
        refine G_iconst (z := 0) dX12_readsStreet_117 rfl ?_
        exact G_zret dX12_readsStreet_118 rfl (nar_zb (by decide)) (Nat.zero_le _) (Nat.zero_le _) (Nat.le_refl _) ⟨rfl, k5 c1 c6 c7⟩
      · -- ¬ a2 = 0
        refine G_aload_n dX12_readsStreet_108 rfl ?_
        refine G_bipush (z := 47) dX12_readsStreet_109 rfl ?_
        refine cb_X12_readsStreet_111 (ic_X12_isNext (a := (mem 169 18)) (b := (mem 169 19)) (t := (mem 182 (mem 169 18))) rfl rfl (q5 c1) (by decide) rfl (w6 c1) (fun c8 => ?_) (fun c9 => ?_))
        · -- (mem 169 18) < (mem 169 19) ∧ (mem 182 (mem 169 18)) = 47
          refine G_if_ne (tgt := 119) dX12_readsStreet_114 (by decide) (by decide) (fun _ => ?_) (fun h => absurd h (by decide))
          refine G_aload_n dX12_readsStreet_119 rfl ?_
          refine G_getR (t := 183) dX12_readsStreet_120 fl_12_51 (by decide) sh_169 rr_169_21 ?_
          refine G_iload_n dX12_readsStreet_123 rfl ?_
          refine G_iconst (z := 1) dX12_readsStreet_124 rfl ?_
          refine G_iadd dX12_readsStreet_125 ?_
          refine G_iload_n dX12_readsStreet_126 rfl ?_
          refine G_iast (mem2 := (up2 (up2 mem 169 18 ((mem 169 18) + 1)) 183 (a1 + 1) a2)) dX12_readsStreet_127 (by decide) sh_183 (by decide) (q7 c1 c6 c7 c8).1 (q7 c1 c6 c7 c8).2 rfl ?_
          refine G_iconst (z := 0) dX12_readsStreet_128 rfl ?_
          refine G_istore_n dX12_readsStreet_129 rfl (by decide : 3 < 4) rfl ?_
          exact k6 c1 c6 c7 c8
        · -- ¬ ((mem 169 18) < (mem 169 19) ∧ (mem 182 (mem 169 18)) = 47)
          refine G_if_ne (tgt := 119) dX12_readsStreet_114 (by decide) (by decide) (fun h => absurd h (by decide)) (fun _ => ?_)
          refine G_iconst (z := 0) dX12_readsStreet_117 rfl ?_
          exact G_zret dX12_readsStreet_118 rfl (nar_zb (by decide)) (Nat.zero_le _) (Nat.zero_le _) (Nat.le_refl _) ⟨rfl, k7 c1 c6 c7 c9⟩
set_option maxRecDepth 20000 in
set_option maxHeartbeats 8000000 in
theorem sg_X12_readsStreet_97 {E : Nat × (Nat → Int32)} {P : Option Value → Mem → Prop} {mem : Mem} {a1 : Int} {a2 : Int} {s0 : Int} {s1 : Int} (q1 : 0 ≤ s1 ∧ s1 < 96)
    (k1 : GM E (m_X12_readsStreet 7) P 66 [.ref 169, vi a1, vi (a2 + 1), un] [] (up2 mem 184 s1 s0)) :
    GM E (m_X12_readsStreet 7) P 97 [.ref 169, vi a1, vi a2, un] [vi s0, vi s1, .ref 184] mem := by
  refine G_iast (mem2 := (up2 mem 184 s1 s0)) dX12_readsStreet_97 (by decide) sh_184 (by decide) (q1).1 (q1).2 rfl ?_
  refine G_iinc (z := (a2 + 1)) dX12_readsStreet_98 rfl rfl (by decide : 2 < 4) rfl ?_
  refine G_goto (tgt := 66) dX12_readsStreet_101 (by decide) ?_
  exact k1
set_option maxRecDepth 20000 in
set_option maxHeartbeats 8000000 in
theorem sg_X12_readsStreet_130 {E : Nat × (Nat → Int32)} {P : Option Value → Mem → Prop} {mem : Mem} {a1 : Int} {a2 : Int} {a3 : Int} (w1 : -2147483648 ≤ a3 ∧ a3 < 2147483648) (w2 : -2147483648 ≤ a2 ∧ a2 < 2147483648) (q3 : a2 ≤ a3 → 0 ≤ (mem 169 18) ∧ (mem 169 18) < 2147483648 ∧ -2147483648 ≤ (mem 169 19) ∧ (mem 169 19) ≤ 80) (w4 : a2 ≤ a3 → -2147483648 ≤ (mem 182 (mem 169 18)) ∧ (mem 182 (mem 169 18)) < 2147483648) (q5 : a2 ≤ a3 → (mem 169 18) < (mem 169 19) ∧ (mem 182 (mem 169 18)) = 33 → 0 ≤ (a1 + 3) ∧ (a1 + 3) < 36) (q6 : a2 ≤ a3 → ¬ ((mem 169 18) < (mem 169 19) ∧ (mem 182 (mem 169 18)) = 33) → 0 ≤ (a1 + 3) ∧ (a1 + 3) < 36)
    (k1 : a2 ≤ a3 → (mem 169 18) < (mem 169 19) ∧ (mem 182 (mem 169 18)) = 33 → GM E (m_X12_readsStreet 7) P 199 [.ref 169, vi a1, vi a2, vi a3] [.ref 1105, .ref 169] (up2 (up2 mem 169 18 ((mem 169 18) + 1)) 183 (a1 + 3) 1))
    (k2 : a2 ≤ a3 → ¬ ((mem 169 18) < (mem 169 19) ∧ (mem 182 (mem 169 18)) = 33) → GM E (m_X12_readsStreet 7) P 199 [.ref 169, vi a1, vi a2, vi a3] [.ref 1105, .ref 169] (up2 (up2 mem 169 18 ((mem 169 18) + 0)) 183 (a1 + 3) 0))
    (k3 : ¬ a2 ≤ a3 → GM E (m_X12_readsStreet 7) P 150 [.ref 169, vi a1, vi a2, vi a3] [vi 1, .ref 169, vi (((16 * (mem 169 23)) + (8 * 1)) + a3), .ref 184] mem) :
    GM E (m_X12_readsStreet 7) P 130 [.ref 169, vi a1, vi a2, vi a3] [] mem := by
  refine G_iload_n dX12_readsStreet_130 rfl ?_
  refine G_iload_n dX12_readsStreet_131 rfl ?_
  refine G_icmp_ge (tgt := 179) dX12_readsStreet_132 (by decide) (w1) (w2) (fun c1 => ?_) (fun c1 => ?_)
  · -- a2 ≤ a3
    refine G_aload_n dX12_readsStreet_179 rfl ?_
    refine G_getR (t := 183) dX12_readsStreet_180 fl_12_51 (by decide) sh_169 rr_169_21 ?_
    refine G_iload_n dX12_readsStreet_183 rfl ?_
    refine G_iconst (z := 3) dX12_readsStreet_184 rfl ?_
    refine G_iadd dX12_readsStreet_185 ?_
    refine G_aload_n dX12_readsStreet_186 rfl ?_
    refine G_bipush (z := 33) dX12_readsStreet_187 rfl ?_
    refine cb_X12_readsStreet_189 (ic_X12_isNext (a := (mem 169 18)) (b := (mem 169 19)) (t := (mem 182 (mem 169 18))) rfl rfl (q3 c1) (by decide) rfl (w4 c1) (fun c2 => ?_) (fun c3 => ?_))
    · -- (mem 169 18) < (mem 169 19) ∧ (mem 182 (mem 169 18)) = 33
      refine cb_X12_readsStreet_192 (ic_X12_flagL (by decide) ?_)
      refine G_iast (mem2 := (up2 (up2 mem 169 18 ((mem 169 18) + 1)) 183 (a1 + 3) 1)) dX12_readsStreet_195 (by decide) sh_183 (by decide) (q5 c1 c2).1 (q5 c1 c2).2 rfl ?_
      refine G_aload_n dX12_readsStreet_196 rfl ?_
      refine G_ldcS (i := 5) (tx := "du") dX12_readsStreet_197 (by decide +kernel : (RX12, 205, "du", 5) ∈ strTab) (by decide) ?_
      exact k1 c1 c2
    · -- ¬ ((mem 169 18) < (mem 169 19) ∧ (mem 182 (mem 169 18)) = 33)
      refine cb_X12_readsStreet_192 (ic_X12_flagL (by decide) ?_)
      refine G_iast (mem2 := (up2 (up2 mem 169 18 ((mem 169 18) + 0)) 183 (a1 + 3) 0)) dX12_readsStreet_195 (by decide) sh_183 (by decide) (q6 c1 c3).1 (q6 c1 c3).2 rfl ?_
      refine G_aload_n dX12_readsStreet_196 rfl ?_
      refine G_ldcS (i := 5) (tx := "du") dX12_readsStreet_197 (by decide +kernel : (RX12, 205, "du", 5) ∈ strTab) (by decide) ?_
      exact k2 c1 c3
  · -- ¬ a2 ≤ a3
    refine G_aload_n dX12_readsStreet_135 rfl ?_
    refine G_getR (t := 184) dX12_readsStreet_136 fl_12_54 (by decide) sh_169 rr_169_22 ?_
    refine G_aload_n dX12_readsStreet_139 rfl ?_
    refine G_getI (z := (mem 169 23)) dX12_readsStreet_140 fl_12_192 (by decide) sh_169 rfl ?_
    refine G_iconst (z := 1) dX12_readsStreet_143 rfl ?_
    refine G_iload_n dX12_readsStreet_144 rfl ?_
    refine cb_X12_readsStreet_145 (ic_X12_at ?_)
    refine G_aload_n dX12_readsStreet_148 rfl ?_
    refine G_iconst (z := 1) dX12_readsStreet_149 rfl ?_
    exact k3 c1
set_option maxRecDepth 20000 in
set_option maxHeartbeats 8000000 in
theorem sg_X12_readsStreet_153 {E : Nat × (Nat → Int32)} {P : Option Value → Mem → Prop} {mem : Mem} {a1 : Int} {a2 : Int} {a3 : Int} {s0 : Int} {s1 : Int} (q1 : 0 ≤ s1 ∧ s1 < 96) (q2 : 0 ≤ (((16 * (mem 169 23)) + (8 * 1)) + a3) ∧ (((16 * (mem 169 23)) + (8 * 1)) + a3) < 96) (w3 : -2147483648 ≤ ((up2 mem 184 s1 s0) 184 (((16 * (mem 169 23)) + (8 * 1)) + a3)) ∧ ((up2 mem 184 s1 s0) 184 (((16 * (mem 169 23)) + (8 * 1)) + a3)) < 2147483648)
    (k1 : 0 ≤ ((up2 mem 184 s1 s0) 184 (((16 * (mem 169 23)) + (8 * 1)) + a3)) → GM E (m_X12_readsStreet 7) P 130 [.ref 169, vi a1, vi a2, vi (a3 + 1)] [] (up2 mem 184 s1 s0))
    (k2 : ¬ 0 ≤ ((up2 mem 184 s1 s0) 184 (((16 * (mem 169 23)) + (8 * 1)) + a3)) → P (some (vi 0)) (up2 mem 184 s1 s0)) :
    GM E (m_X12_readsStreet 7) P 153 [.ref 169, vi a1, vi a2, vi a3] [vi s0, vi s1, .ref 184] mem := by
  refine G_iast (mem2 := (up2 mem 184 s1 s0)) dX12_readsStreet_153 (by decide) sh_184 (by decide) (q1).1 (q1).2 rfl ?_
  refine G_aload_n dX12_readsStreet_154 rfl ?_
  refine G_getR (t := 184) dX12_readsStreet_155 fl_12_54 (by decide) sh_169 rr_169_22 ?_
  refine G_aload_n dX12_readsStreet_158 rfl ?_
  refine G_getI (z := (mem 169 23)) dX12_readsStreet_159 fl_12_192 (by decide) sh_169 (by simp [up2, upr]) ?_
  refine G_iconst (z := 1) dX12_readsStreet_162 rfl ?_
  refine G_iload_n dX12_readsStreet_163 rfl ?_
  refine cb_X12_readsStreet_164 (ic_X12_at ?_)
  refine G_iald (z := ((up2 mem 184 s1 s0) 184 (((16 * (mem 169 23)) + (8 * 1)) + a3))) dX12_readsStreet_167 (by decide) sh_184 (by decide) (q2).1 (q2).2 (by simp [up2, upr]) ?_
  refine G_if_ge (tgt := 173) dX12_readsStreet_168 (by decide) (w3) (fun c1 => ?_) (fun c1 => ?_)
  · -- 0 ≤ ((up2 mem 184 s1 s0) 184 (((16 * (mem 169 23)) + (8 * 1)) + a3))
    refine G_iinc (z := (a3 + 1)) dX12_readsStreet_173 rfl rfl (by decide : 3 < 4) rfl ?_
    refine G_goto (tgt := 130) dX12_readsStreet_176 (by decide) ?_
    exact k1 c1
  · -- ¬ 0 ≤ ((up2 mem 184 s1 s0) 184 (((16 * (mem 169 23)) + (8 * 1)) + a3))
    refine G_iconst (z := 0) dX12_readsStreet_171 rfl ?_
    exact G_zret dX12_readsStreet_172 rfl (nar_zb (by decide)) (Nat.zero_le _) (Nat.zero_le _) (Nat.le_refl _) ⟨rfl, k2 c1⟩
set_option maxRecDepth 20000 in
set_option maxHeartbeats 8000000 in
theorem sg_X12_readsStreet_202 {E : Nat × (Nat → Int32)} {P : Option Value → Mem → Prop} {mem : Mem} {a1 : Int} {a2 : Int} {a3 : Int} {s0 : Int} (w1 : -2147483648 ≤ s0 ∧ s0 < 2147483648) (q2 : 0 ≤ (a1 + 2) ∧ (a1 + 2) < 36) (q3 : 0 ≤ (a1 + 4) ∧ (a1 + 4) < 36) (q4 : 0 ≤ (a1 + 5) ∧ (a1 + 5) < 36) (q5 : 0 ≤ (mem 169 18) ∧ (mem 169 18) < 2147483648 ∧ -2147483648 ≤ (mem 169 19) ∧ (mem 169 19) ≤ 80) (w6 : -2147483648 ≤ (mem 182 (mem 169 18)) ∧ (mem 182 (mem 169 18)) < 2147483648)
    (k1 : (mem 169 18) < (mem 169 19) ∧ (mem 182 (mem 169 18)) = 120 → GM E (m_X12_readsStreet 7) P 272 [.ref 169, vi a1, vi a2, vi s0] [vi 3, .ref 169, vi (a1 + 4), .ref 183] (up2 (up2 (up2 (up2 (up2 mem 183 (a1 + 2) (if 0 ≤ s0 then ((2 * s0) - 1) else (0 : Int))) 183 (a1 + 4) (-1)) 183 (a1 + 5) (-1)) 169 23 ((mem 169 23) + 1)) 169 18 ((mem 169 18) + 1)))
    (k2 : ¬ ((mem 169 18) < (mem 169 19) ∧ (mem 182 (mem 169 18)) = 120) → P (some (vi 1)) (up2 (up2 (up2 (up2 (up2 mem 183 (a1 + 2) (if 0 ≤ s0 then ((2 * s0) - 1) else (0 : Int))) 183 (a1 + 4) (-1)) 183 (a1 + 5) (-1)) 169 23 ((mem 169 23) + 1)) 169 18 ((mem 169 18) + 0))) :
    GM E (m_X12_readsStreet 7) P 202 [.ref 169, vi a1, vi a2, vi a3] [vi s0] mem := by
  refine G_istore_n dX12_readsStreet_202 rfl (by decide : 3 < 4) rfl ?_
  refine G_aload_n dX12_readsStreet_203 rfl ?_
  refine G_getR (t := 183) dX12_readsStreet_204 fl_12_51 (by decide) sh_169 rr_169_21 ?_
  refine G_iload_n dX12_readsStreet_207 rfl ?_
  refine G_iconst (z := 2) dX12_readsStreet_208 rfl ?_
  refine G_iadd dX12_readsStreet_209 ?_
  refine G_iload_n dX12_readsStreet_210 rfl ?_
  have j1 : GM E (m_X12_readsStreet 7) P 223 [.ref 169, vi a1, vi a2, vi s0] [vi (if 0 ≤ s0 then ((2 * s0) - 1) else (0 : Int)), vi (a1 + 2), .ref 183] mem := by
    refine G_iast (mem2 := (up2 mem 183 (a1 + 2) (if 0 ≤ s0 then ((2 * s0) - 1) else (0 : Int)))) dX12_readsStreet_223 (by decide) sh_183 (by decide) (q2).1 (q2).2 rfl ?_
    refine G_aload_n dX12_readsStreet_224 rfl ?_
    refine G_getR (t := 183) dX12_readsStreet_225 fl_12_51 (by decide) sh_169 rr_169_21 ?_
    refine G_iload_n dX12_readsStreet_228 rfl ?_
    refine G_iconst (z := 4) dX12_readsStreet_229 rfl ?_
    refine G_iadd dX12_readsStreet_230 ?_
    refine G_iconst (z := (-1)) dX12_readsStreet_231 rfl ?_
    refine G_iast (mem2 := (up2 (up2 mem 183 (a1 + 2) (if 0 ≤ s0 then ((2 * s0) - 1) else (0 : Int))) 183 (a1 + 4) (-1))) dX12_readsStreet_232 (by decide) sh_183 (by decide) (q3).1 (q3).2 rfl ?_
    refine G_aload_n dX12_readsStreet_233 rfl ?_
    refine G_getR (t := 183) dX12_readsStreet_234 fl_12_51 (by decide) sh_169 rr_169_21 ?_
    refine G_iload_n dX12_readsStreet_237 rfl ?_
    refine G_iconst (z := 5) dX12_readsStreet_238 rfl ?_
    refine G_iadd dX12_readsStreet_239 ?_
    refine G_iconst (z := (-1)) dX12_readsStreet_240 rfl ?_
    refine G_iast (mem2 := (up2 (up2 (up2 mem 183 (a1 + 2) (if 0 ≤ s0 then ((2 * s0) - 1) else (0 : Int))) 183 (a1 + 4) (-1)) 183 (a1 + 5) (-1))) dX12_readsStreet_241 (by decide) sh_183 (by decide) (q4).1 (q4).2 rfl ?_
    refine G_aload_n dX12_readsStreet_242 rfl ?_
    refine G_dup dX12_readsStreet_243 rfl ?_
    refine G_getI (z := (mem 169 23)) dX12_readsStreet_244 fl_12_192 (by decide) sh_169 (by simp [up2, upr]) ?_
    refine G_iconst (z := 1) dX12_readsStreet_247 rfl ?_
    refine G_iadd dX12_readsStreet_248 ?_
    refine G_putI (mem2 := (up2 (up2 (up2 (up2 mem 183 (a1 + 2) (if 0 ≤ s0 then ((2 * s0) - 1) else (0 : Int))) 183 (a1 + 4) (-1)) 183 (a1 + 5) (-1)) 169 23 ((mem 169 23) + 1))) dX12_readsStreet_249 fp_12_192 (by decide) sh_169 rfl ?_
    refine G_aload_n dX12_readsStreet_252 rfl ?_
    refine G_bipush (z := 120) dX12_readsStreet_253 rfl ?_
    refine cb_X12_readsStreet_255 (ic_X12_isNext (a := (mem 169 18)) (b := (mem 169 19)) (t := (mem 182 (mem 169 18))) (by simp [up2, upr]) (by simp [up2, upr]) (q5) (by decide) (by simp [up2, upr]) (w6) (fun c2 => ?_) (fun c3 => ?_))
    · -- (mem 169 18) < (mem 169 19) ∧ (mem 182 (mem 169 18)) = 120
      refine G_if_ne (tgt := 263) dX12_readsStreet_258 (by decide) (by decide) (fun _ => ?_) (fun h => absurd h (by decide))
      refine G_aload_n dX12_readsStreet_263 rfl ?_
      refine G_getR (t := 183) dX12_readsStreet_264 fl_12_51 (by decide) sh_169 rr_169_21 ?_
      refine G_iload_n dX12_readsStreet_267 rfl ?_
      refine G_iconst (z := 4) dX12_readsStreet_268 rfl ?_
      refine G_iadd dX12_readsStreet_269 ?_
      refine G_aload_n dX12_readsStreet_270 rfl ?_
      refine G_iconst (z := 3) dX12_readsStreet_271 rfl ?_
      exact k1 c2
    · -- ¬ ((mem 169 18) < (mem 169 19) ∧ (mem 182 (mem 169 18)) = 120)
      refine G_if_ne (tgt := 263) dX12_readsStreet_258 (by decide) (by decide) (fun h => absurd h (by decide)) (fun _ => ?_)
      refine G_iconst (z := 1) dX12_readsStreet_261 rfl ?_
      exact G_zret dX12_readsStreet_262 rfl (nar_zb (by decide)) (Nat.zero_le _) (Nat.zero_le _) (Nat.le_refl _) ⟨rfl, k2 c3⟩
  refine G_if_ge (tgt := 218) dX12_readsStreet_211 (by decide) (w1) (fun c1 => ?_) (fun c1 => ?_)
  · -- 0 ≤ s0
    refine G_iconst (z := 2) dX12_readsStreet_218 rfl ?_
    refine G_iload_n dX12_readsStreet_219 rfl ?_
    refine G_imul dX12_readsStreet_220 ?_
    refine G_iconst (z := 1) dX12_readsStreet_221 rfl ?_
    refine G_isub dX12_readsStreet_222 ?_
    have qj1 := j1
    simp only [if_pos c1] at qj1
    exact qj1
  · -- ¬ 0 ≤ s0
    refine G_iconst (z := 0) dX12_readsStreet_214 rfl ?_
    refine G_goto (tgt := 223) dX12_readsStreet_215 (by decide) ?_
    have qj1 := j1
    simp only [if_neg c1] at qj1
    exact qj1
set_option maxRecDepth 20000 in
set_option maxHeartbeats 8000000 in
theorem sg_X12_readsStreet_275 {E : Nat × (Nat → Int32)} {P : Option Value → Mem → Prop} {mem : Mem} {a1 : Int} {a2 : Int} {a3 : Int} {s0 : Int} {s1 : Int} (q1 : 0 ≤ s1 ∧ s1 < 36) (q2 : 0 ≤ (a1 + 4) ∧ (a1 + 4) < 36) (w3 : -2147483648 ≤ ((up2 mem 183 s1 s0) 183 (a1 + 4)) ∧ ((up2 mem 183 s1 s0) 183 (a1 + 4)) < 2147483648) (q4 : ¬ ((up2 mem 183 s1 s0) 183 (a1 + 4)) < 0 → 0 ≤ (mem 169 18) ∧ (mem 169 18) < 2147483648 ∧ -2147483648 ≤ (mem 169 19) ∧ (mem 169 19) ≤ 80) (w5 : ¬ ((up2 mem 183 s1 s0) 183 (a1 + 4)) < 0 → -2147483648 ≤ (mem 182 (mem 169 18)) ∧ (mem 182 (mem 169 18)) < 2147483648)
    (k1 : ((up2 mem 183 s1 s0) 183 (a1 + 4)) < 0 → P (some (vi 0)) (up2 mem 183 s1 s0))
    (k2 : ¬ ((up2 mem 183 s1 s0) 183 (a1 + 4)) < 0 → (mem 169 18) < (mem 169 19) ∧ (mem 182 (mem 169 18)) = 45 → GM E (m_X12_readsStreet 7) P 307 [.ref 169, vi a1, vi a2, vi a3] [vi 3, .ref 169, vi (a1 + 5), .ref 183] (up2 (up2 mem 183 s1 s0) 169 18 ((mem 169 18) + 1)))
    (k3 : ¬ ((up2 mem 183 s1 s0) 183 (a1 + 4)) < 0 → ¬ ((mem 169 18) < (mem 169 19) ∧ (mem 182 (mem 169 18)) = 45) → P (some (vi 0)) (up2 (up2 mem 183 s1 s0) 169 18 ((mem 169 18) + 0))) :
    GM E (m_X12_readsStreet 7) P 275 [.ref 169, vi a1, vi a2, vi a3] [vi s0, vi s1, .ref 183] mem := by
  refine G_iast (mem2 := (up2 mem 183 s1 s0)) dX12_readsStreet_275 (by decide) sh_183 (by decide) (q1).1 (q1).2 rfl ?_
  refine G_aload_n dX12_readsStreet_276 rfl ?_
  refine G_getR (t := 183) dX12_readsStreet_277 fl_12_51 (by decide) sh_169 rr_169_21 ?_
  refine G_iload_n dX12_readsStreet_280 rfl ?_
  refine G_iconst (z := 4) dX12_readsStreet_281 rfl ?_
  refine G_iadd dX12_readsStreet_282 ?_
  refine G_iald (z := ((up2 mem 183 s1 s0) 183 (a1 + 4))) dX12_readsStreet_283 (by decide) sh_183 (by decide) (q2).1 (q2).2 (by simp [up2, upr]) ?_
  refine G_if_lt (tgt := 296) dX12_readsStreet_284 (by decide) (w3) (fun c1 => ?_) (fun c1 => ?_)
  · -- ((up2 mem 183 s1 s0) 183 (a1 + 4)) < 0
    refine G_iconst (z := 0) dX12_readsStreet_296 rfl ?_
    exact G_zret dX12_readsStreet_297 rfl (nar_zb (by decide)) (Nat.zero_le _) (Nat.zero_le _) (Nat.le_refl _) ⟨rfl, k1 c1⟩
  · -- ¬ ((up2 mem 183 s1 s0) 183 (a1 + 4)) < 0
    refine G_aload_n dX12_readsStreet_287 rfl ?_
    refine G_bipush (z := 45) dX12_readsStreet_288 rfl ?_
    refine cb_X12_readsStreet_290 (ic_X12_isNext (a := (mem 169 18)) (b := (mem 169 19)) (t := (mem 182 (mem 169 18))) (by simp [up2, upr]) (by simp [up2, upr]) (q4 c1) (by decide) (by simp [up2, upr]) (w5 c1) (fun c2 => ?_) (fun c3 => ?_))
    · -- (mem 169 18) < (mem 169 19) ∧ (mem 182 (mem 169 18)) = 45
      refine G_if_ne (tgt := 298) dX12_readsStreet_293 (by decide) (by decide) (fun _ => ?_) (fun h => absurd h (by decide))
      refine G_aload_n dX12_readsStreet_298 rfl ?_
      refine G_getR (t := 183) dX12_readsStreet_299 fl_12_51 (by decide) sh_169 rr_169_21 ?_
      refine G_iload_n dX12_readsStreet_302 rfl ?_
      refine G_iconst (z := 5) dX12_readsStreet_303 rfl ?_
      refine G_iadd dX12_readsStreet_304 ?_
      refine G_aload_n dX12_readsStreet_305 rfl ?_
      refine G_iconst (z := 3) dX12_readsStreet_306 rfl ?_
      exact k2 c1 c2
    · -- ¬ ((mem 169 18) < (mem 169 19) ∧ (mem 182 (mem 169 18)) = 45)
      refine G_if_ne (tgt := 298) dX12_readsStreet_293 (by decide) (by decide) (fun h => absurd h (by decide)) (fun _ => ?_)
      refine G_iconst (z := 0) dX12_readsStreet_296 rfl ?_
      exact G_zret dX12_readsStreet_297 rfl (nar_zb (by decide)) (Nat.zero_le _) (Nat.zero_le _) (Nat.le_refl _) ⟨rfl, k3 c1 c3⟩
set_option maxRecDepth 20000 in
set_option maxHeartbeats 8000000 in
theorem sg_X12_readsStreet_310 {E : Nat × (Nat → Int32)} {P : Option Value → Mem → Prop} {mem : Mem} {a1 : Int} {a2 : Int} {a3 : Int} {s0 : Int} {s1 : Int} (q1 : 0 ≤ s1 ∧ s1 < 36) (q2 : 0 ≤ (a1 + 5) ∧ (a1 + 5) < 36) (q3 : 0 ≤ (a1 + 4) ∧ (a1 + 4) < 36) (w4 : -2147483648 ≤ ((up2 mem 183 s1 s0) 183 (a1 + 5)) ∧ ((up2 mem 183 s1 s0) 183 (a1 + 5)) < 2147483648) (w5 : -2147483648 ≤ ((up2 mem 183 s1 s0) 183 (a1 + 4)) ∧ ((up2 mem 183 s1 s0) 183 (a1 + 4)) < 2147483648)
    (k1 : ((up2 mem 183 s1 s0) 183 (a1 + 5)) < ((up2 mem 183 s1 s0) 183 (a1 + 4)) → ((up2 mem 183 s1 s0) 183 (a1 + 5)) < 0 → P (some (vi 0)) (up2 (up2 mem 183 s1 s0) 169 18 ((mem 169 18) - 0)))
    (k2 : ((up2 mem 183 s1 s0) 183 (a1 + 5)) < ((up2 mem 183 s1 s0) 183 (a1 + 4)) → ¬ ((up2 mem 183 s1 s0) 183 (a1 + 5)) < 0 → P (some (vi 0)) (up2 (up2 mem 183 s1 s0) 169 18 ((mem 169 18) - 1)))
    (k3 : ¬ ((up2 mem 183 s1 s0) 183 (a1 + 5)) < ((up2 mem 183 s1 s0) 183 (a1 + 4)) → P (some (vi 1)) (up2 mem 183 s1 s0)) :
    GM E (m_X12_readsStreet 7) P 310 [.ref 169, vi a1, vi a2, vi a3] [vi s0, vi s1, .ref 183] mem := by
  refine G_iast (mem2 := (up2 mem 183 s1 s0)) dX12_readsStreet_310 (by decide) sh_183 (by decide) (q1).1 (q1).2 rfl ?_
  refine G_aload_n dX12_readsStreet_311 rfl ?_
  refine G_getR (t := 183) dX12_readsStreet_312 fl_12_51 (by decide) sh_169 rr_169_21 ?_
  refine G_iload_n dX12_readsStreet_315 rfl ?_
  refine G_iconst (z := 5) dX12_readsStreet_316 rfl ?_
  refine G_iadd dX12_readsStreet_317 ?_
  refine G_iald (z := ((up2 mem 183 s1 s0) 183 (a1 + 5))) dX12_readsStreet_318 (by decide) sh_183 (by decide) (q2).1 (q2).2 (by simp [up2, upr]) ?_
  refine G_aload_n dX12_readsStreet_319 rfl ?_
  refine G_getR (t := 183) dX12_readsStreet_320 fl_12_51 (by decide) sh_169 rr_169_21 ?_
  refine G_iload_n dX12_readsStreet_323 rfl ?_
  refine G_iconst (z := 4) dX12_readsStreet_324 rfl ?_
  refine G_iadd dX12_readsStreet_325 ?_
  refine G_iald (z := ((up2 mem 183 s1 s0) 183 (a1 + 4))) dX12_readsStreet_326 (by decide) sh_183 (by decide) (q3).1 (q3).2 (by simp [up2, upr]) ?_
  refine G_icmp_lt (tgt := 332) dX12_readsStreet_327 (by decide) (w4) (w5) (fun c1 => ?_) (fun c1 => ?_)
  · -- ((up2 mem 183 s1 s0) 183 (a1 + 5)) < ((up2 mem 183 s1 s0) 183 (a1 + 4))
    refine G_aload_n dX12_readsStreet_332 rfl ?_
    refine G_dup dX12_readsStreet_333 rfl ?_
    refine G_getI (z := (mem 169 18)) dX12_readsStreet_334 fl_12_151 (by decide) sh_169 (by simp [up2, upr]) ?_
    refine G_aload_n dX12_readsStreet_337 rfl ?_
    refine G_getR (t := 183) dX12_readsStreet_338 fl_12_51 (by decide) sh_169 rr_169_21 ?_
    refine G_iload_n dX12_readsStreet_341 rfl ?_
    refine G_iconst (z := 5) dX12_readsStreet_342 rfl ?_
    refine G_iadd dX12_readsStreet_343 ?_
    refine G_iald (z := ((up2 mem 183 s1 s0) 183 (a1 + 5))) dX12_readsStreet_344 (by decide) sh_183 (by decide) (q2).1 (q2).2 (by simp [up2, upr]) ?_
    refine G_if_lt (tgt := 352) dX12_readsStreet_345 (by decide) (w4) (fun c2 => ?_) (fun c2 => ?_)
    · -- ((up2 mem 183 s1 s0) 183 (a1 + 5)) < 0
      refine G_iconst (z := 0) dX12_readsStreet_352 rfl ?_
      refine cb_X12_readsStreet_353 (ic_X12_flagL (by decide) ?_)
      refine G_isub dX12_readsStreet_356 ?_
      refine G_putI (mem2 := (up2 (up2 mem 183 s1 s0) 169 18 ((mem 169 18) - 0))) dX12_readsStreet_357 fp_12_151 (by decide) sh_169 rfl ?_
      refine G_iconst (z := 0) dX12_readsStreet_360 rfl ?_
      exact G_zret dX12_readsStreet_361 rfl (nar_zb (by decide)) (Nat.zero_le _) (Nat.zero_le _) (Nat.le_refl _) ⟨rfl, k1 c1 c2⟩
    · -- ¬ ((up2 mem 183 s1 s0) 183 (a1 + 5)) < 0
      refine G_iconst (z := 1) dX12_readsStreet_348 rfl ?_
      refine G_goto (tgt := 353) dX12_readsStreet_349 (by decide) ?_
      refine cb_X12_readsStreet_353 (ic_X12_flagL (by decide) ?_)
      refine G_isub dX12_readsStreet_356 ?_
      refine G_putI (mem2 := (up2 (up2 mem 183 s1 s0) 169 18 ((mem 169 18) - 1))) dX12_readsStreet_357 fp_12_151 (by decide) sh_169 rfl ?_
      refine G_iconst (z := 0) dX12_readsStreet_360 rfl ?_
      exact G_zret dX12_readsStreet_361 rfl (nar_zb (by decide)) (Nat.zero_le _) (Nat.zero_le _) (Nat.le_refl _) ⟨rfl, k2 c1 c2⟩
  · -- ¬ ((up2 mem 183 s1 s0) 183 (a1 + 5)) < ((up2 mem 183 s1 s0) 183 (a1 + 4))
    refine G_iconst (z := 1) dX12_readsStreet_330 rfl ?_
    exact G_zret dX12_readsStreet_331 rfl (nar_zb (by decide)) (Nat.zero_le _) (Nat.zero_le _) (Nat.le_refl _) ⟨rfl, k3 c1⟩
set_option maxRecDepth 20000 in
set_option maxHeartbeats 8000000 in
theorem sg_X12_readsThing_0 {E : Nat × (Nat → Int32)} {d : Nat} (hd : 2 ≤ d) {P : Option Value → Mem → Prop} {mem : Mem} (q1 : 0 ≤ (mem 169 18) ∧ (mem 169 18) < 2147483648 ∧ -2147483648 ≤ (mem 169 19) ∧ (mem 169 19) ≤ 80) (w2 : -2147483648 ≤ (mem 182 (mem 169 18)) ∧ (mem 182 (mem 169 18)) < 2147483648) (q3 : ¬ ((mem 169 18) < (mem 169 19) ∧ (mem 182 (mem 169 18)) = 45) → 0 ≤ ((mem 169 18) + 0) ∧ ((mem 169 18) + 0) < 2147483648 ∧ -2147483648 ≤ (mem 169 19) ∧ (mem 169 19) ≤ 80) (w4 : ¬ ((mem 169 18) < (mem 169 19) ∧ (mem 182 (mem 169 18)) = 45) → -2147483648 ≤ (mem 182 ((mem 169 18) + 0)) ∧ (mem 182 ((mem 169 18) + 0)) < 2147483648)
    (k1 : (mem 169 18) < (mem 169 19) ∧ (mem 182 (mem 169 18)) = 45 → GM E (m_X12_readsThing d) P 10 [.ref 169, un] [.ref 169] (up2 mem 169 18 ((mem 169 18) + 1)))
    (k2 : ¬ ((mem 169 18) < (mem 169 19) ∧ (mem 182 (mem 169 18)) = 45) → ((mem 169 18) + 0) < (mem 169 19) ∧ 48 ≤ (mem 182 ((mem 169 18) + 0)) ∧ (mem 182 ((mem 169 18) + 0)) ≤ 57 → GM E (m_X12_readsThing d) P 33 [.ref 169, un] [vi 3, .ref 169, .ref 169] (up2 mem 169 18 ((mem 169 18) + 0)))
    (k3 : ¬ ((mem 169 18) < (mem 169 19) ∧ (mem 182 (mem 169 18)) = 45) → ¬ (((mem 169 18) + 0) < (mem 169 19) ∧ 48 ≤ (mem 182 ((mem 169 18) + 0)) ∧ (mem 182 ((mem 169 18) + 0)) ≤ 57) → GM E (m_X12_readsThing d) P 44 [.ref 169, un] [.ref 1100, .ref 169] (up2 mem 169 18 ((mem 169 18) + 0))) :
    GM E (m_X12_readsThing d) P 0 [.ref 169, un] [] mem := by
  refine G_aload_n dX12_readsThing_0 rfl ?_
  refine G_bipush (z := 45) dX12_readsThing_1 rfl ?_
  refine cb_X12_readsThing_3 (by omega) (ic_X12_isNext (a := (mem 169 18)) (b := (mem 169 19)) (t := (mem 182 (mem 169 18))) rfl rfl (q1) (by decide) rfl (w2) (fun c1 => ?_) (fun c2 => ?_))
  · -- (mem 169 18) < (mem 169 19) ∧ (mem 182 (mem 169 18)) = 45
    refine G_if_eq (tgt := 23) dX12_readsThing_6 (by decide) (by decide) (fun h => absurd h (by decide)) (fun _ => ?_)
    refine G_aload_n dX12_readsThing_9 rfl ?_
    exact k1 c1
  · -- ¬ ((mem 169 18) < (mem 169 19) ∧ (mem 182 (mem 169 18)) = 45)
    refine G_if_eq (tgt := 23) dX12_readsThing_6 (by decide) (by decide) (fun _ => ?_) (fun h => absurd h (by decide))
    refine G_aload_n dX12_readsThing_23 rfl ?_
    refine cb_X12_readsThing_24 (by omega) (ic_X12_isDigit (a := ((mem 169 18) + 0)) (b := (mem 169 19)) (t := (mem 182 ((mem 169 18) + 0))) (by simp [up2, upr]) (by simp [up2, upr]) (q3 c2) (by simp [up2, upr]) (w4 c2) (fun c3 => ?_) (fun c4 => ?_))
    · -- ((mem 169 18) + 0) < (mem 169 19) ∧ 48 ≤ (mem 182 ((mem 169 18) + 0)) ∧ (mem 182 ((mem 169 18) + 0)) ≤ 57
      refine G_if_eq (tgt := 41) dX12_readsThing_27 (by decide) (by decide) (fun h => absurd h (by decide)) (fun _ => ?_)
      refine G_aload_n dX12_readsThing_30 rfl ?_
      refine G_aload_n dX12_readsThing_31 rfl ?_
      refine G_iconst (z := 3) dX12_readsThing_32 rfl ?_
      exact k2 c2 c3
    · -- ¬ (((mem 169 18) + 0) < (mem 169 19) ∧ 48 ≤ (mem 182 ((mem 169 18) + 0)) ∧ (mem 182 ((mem 169 18) + 0)) ≤ 57)
      refine G_if_eq (tgt := 41) dX12_readsThing_27 (by decide) (by decide) (fun _ => ?_) (fun h => absurd h (by decide))
      refine G_aload_n dX12_readsThing_41 rfl ?_
      refine G_ldcS (i := 0) (tx := "wbsumrct") dX12_readsThing_42 (by decide +kernel : (RX12, 240, "wbsumrct", 0) ∈ strTab) (by decide) ?_
      exact k3 c2 c4
set_option maxRecDepth 20000 in
set_option maxHeartbeats 8000000 in
theorem sg_X12_readsThing_13 {E : Nat × (Nat → Int32)} {d : Nat} (hd : 1 ≤ d) {P : Option Value → Mem → Prop} {mem : Mem} {s0 : Int} (q1 : 0 ≤ (mem 169 27) ∧ (mem 169 27) < 80) (b2 : s0 = 0 ∨ s0 = 1)
    (k1 : P (some (vi s0)) (up2 (up2 mem 186 (mem 169 27) 3000) 169 27 ((mem 169 27) + 1))) :
    GM E (m_X12_readsThing d) P 13 [.ref 169, un] [vi s0] mem := by
  refine G_istore_n dX12_readsThing_13 rfl (by decide : 1 < 2) rfl ?_
  refine G_aload_n dX12_readsThing_14 rfl ?_
  refine G_sipush (z := 3000) dX12_readsThing_15 rfl ?_
  refine cb_X12_readsThing_18 (by omega) (ic_X12_codes (z := (mem 169 27)) rfl (q1) ?_)
  refine G_iload_n dX12_readsThing_21 rfl ?_
  exact G_zret dX12_readsThing_22 rfl (nar_zb (b2)) (Nat.zero_le _) (Nat.zero_le _) (Nat.le_refl _) ⟨rfl, k1⟩
set_option maxRecDepth 20000 in
set_option maxHeartbeats 8000000 in
theorem sg_X12_readsThing_36 {E : Nat × (Nat → Int32)} {d : Nat} (hd : 1 ≤ d) {P : Option Value → Mem → Prop} {mem : Mem} {s0 : Int} (q1 : 0 ≤ (mem 169 27) ∧ (mem 169 27) < 80)
    (k1 : P (some (vi 1)) (up2 (up2 mem 186 (mem 169 27) s0) 169 27 ((mem 169 27) + 1))) :
    GM E (m_X12_readsThing d) P 36 [.ref 169, un] [vi s0, .ref 169] mem := by
  refine cb_X12_readsThing_36 (by omega) (ic_X12_codes (z := (mem 169 27)) rfl (q1) ?_)
  refine G_iconst (z := 1) dX12_readsThing_39 rfl ?_
  exact G_zret dX12_readsThing_40 rfl (nar_zb (by decide)) (Nat.zero_le _) (Nat.zero_le _) (Nat.le_refl _) ⟨rfl, k1⟩
set_option maxRecDepth 20000 in
set_option maxHeartbeats 8000000 in
theorem sg_X12_readsThing_47 {E : Nat × (Nat → Int32)} {d : Nat} (hd : 2 ≤ d) {P : Option Value → Mem → Prop} {mem : Mem} {s0 : Int} (w1 : -2147483648 ≤ s0 ∧ s0 < 2147483648) (w2 : s0 < 0 → -2147483648 ≤ (mem 169 20) ∧ (mem 169 20) < 2147483648) (q3 : s0 < 0 → ¬ (mem 169 20) = 4 → 0 ≤ (mem 169 18) ∧ (mem 169 18) < 2147483648 ∧ -2147483648 ≤ (mem 169 19) ∧ (mem 169 19) ≤ 80) (w4 : s0 < 0 → ¬ (mem 169 20) = 4 → -2147483648 ≤ (mem 182 (mem 169 18)) ∧ (mem 182 (mem 169 18)) < 2147483648) (q5 : ¬ s0 < 0 → 0 ≤ (mem 169 27) ∧ (mem 169 27) < 80)
    (k1 : s0 < 0 → (mem 169 20) = 4 → P (some (vi 0)) mem)
    (k2 : s0 < 0 → ¬ (mem 169 20) = 4 → (mem 169 18) < (mem 169 19) ∧ (mem 182 (mem 169 18)) = 40 → GM E (m_X12_readsThing d) P 94 [.ref 169, vi s0] [vi 0, .ref 169] (up2 (up2 mem 169 18 ((mem 169 18) + 1)) 169 20 ((mem 169 20) + 1)))
    (k3 : s0 < 0 → ¬ (mem 169 20) = 4 → ¬ ((mem 169 18) < (mem 169 19) ∧ (mem 182 (mem 169 18)) = 40) → P (some (vi 0)) (up2 mem 169 18 ((mem 169 18) + 0)))
    (k4 : ¬ s0 < 0 → P (some (vi 1)) (up2 (up2 mem 186 (mem 169 27) (1000 + s0)) 169 27 ((mem 169 27) + 1))) :
    GM E (m_X12_readsThing d) P 47 [.ref 169, un] [vi s0] mem := by
  refine G_istore_n dX12_readsThing_47 rfl (by decide : 1 < 2) rfl ?_
  refine G_iload_n dX12_readsThing_48 rfl ?_
  refine G_if_lt (tgt := 63) dX12_readsThing_49 (by decide) (w1) (fun c1 => ?_) (fun c1 => ?_)
  · -- s0 < 0
    refine G_aload_n dX12_readsThing_63 rfl ?_
    refine G_getI (z := (mem 169 20)) dX12_readsThing_64 fl_12_154 (by decide) sh_169 rfl ?_
    refine G_iconst (z := 4) dX12_readsThing_67 rfl ?_
    refine G_icmp_eq (tgt := 80) dX12_readsThing_68 (by decide) (w2 c1) (by decide) (fun c2 => ?_) (fun c2 => ?_)
    · -- (mem 169 20) = 4
      refine G_iconst (z := 0) dX12_readsThing_80 rfl ?_
      exact G_zret dX12_readsThing_81 rfl (nar_zb (by decide)) (Nat.zero_le _) (Nat.zero_le _) (Nat.le_refl _) ⟨rfl, k1 c1 c2⟩
    · -- ¬ (mem 169 20) = 4
      refine G_aload_n dX12_readsThing_71 rfl ?_
      refine G_bipush (z := 40) dX12_readsThing_72 rfl ?_
      refine cb_X12_readsThing_74 (by omega) (ic_X12_isNext (a := (mem 169 18)) (b := (mem 169 19)) (t := (mem 182 (mem 169 18))) rfl rfl (q3 c1 c2) (by decide) rfl (w4 c1 c2) (fun c3 => ?_) (fun c4 => ?_))
      · -- (mem 169 18) < (mem 169 19) ∧ (mem 182 (mem 169 18)) = 40
        refine G_if_ne (tgt := 82) dX12_readsThing_77 (by decide) (by decide) (fun _ => ?_) (fun h => absurd h (by decide))
        refine G_aload_n dX12_readsThing_82 rfl ?_
        refine G_dup dX12_readsThing_83 rfl ?_
        refine G_getI (z := (mem 169 20)) dX12_readsThing_84 fl_12_154 (by decide) sh_169 (by simp [up2, upr]) ?_
        refine G_iconst (z := 1) dX12_readsThing_87 rfl ?_
        refine G_iadd dX12_readsThing_88 ?_
        refine G_putI (mem2 := (up2 (up2 mem 169 18 ((mem 169 18) + 1)) 169 20 ((mem 169 20) + 1))) dX12_readsThing_89 fp_12_154 (by decide) sh_169 rfl ?_
        refine G_aload_n dX12_readsThing_92 rfl ?_
        refine G_iconst (z := 0) dX12_readsThing_93 rfl ?_
        exact k2 c1 c2 c3
      · -- ¬ ((mem 169 18) < (mem 169 19) ∧ (mem 182 (mem 169 18)) = 40)
        refine G_if_ne (tgt := 82) dX12_readsThing_77 (by decide) (by decide) (fun h => absurd h (by decide)) (fun _ => ?_)
        refine G_iconst (z := 0) dX12_readsThing_80 rfl ?_
        exact G_zret dX12_readsThing_81 rfl (nar_zb (by decide)) (Nat.zero_le _) (Nat.zero_le _) (Nat.le_refl _) ⟨rfl, k3 c1 c2 c4⟩
  · -- ¬ s0 < 0
    refine G_aload_n dX12_readsThing_52 rfl ?_
    refine G_sipush (z := 1000) dX12_readsThing_53 rfl ?_
    refine G_iload_n dX12_readsThing_56 rfl ?_
    refine G_iadd dX12_readsThing_57 ?_
    refine cb_X12_readsThing_58 (by omega) (ic_X12_codes (z := (mem 169 27)) rfl (q5 c1) ?_)
    refine G_iconst (z := 1) dX12_readsThing_61 rfl ?_
    exact G_zret dX12_readsThing_62 rfl (nar_zb (by decide)) (Nat.zero_le _) (Nat.zero_le _) (Nat.le_refl _) ⟨rfl, k4 c1⟩
set_option maxRecDepth 20000 in
set_option maxHeartbeats 8000000 in
theorem sg_X12_readsThing_97 {E : Nat × (Nat → Int32)} {d : Nat} (hd : 2 ≤ d) {P : Option Value → Mem → Prop} {mem : Mem} {a1 : Int} {s0 : Int} (w1 : -2147483648 ≤ s0 ∧ s0 < 2147483648) (q2 : ¬ s0 = 0 → 0 ≤ (mem 169 18) ∧ (mem 169 18) < 2147483648 ∧ -2147483648 ≤ (mem 169 19) ∧ (mem 169 19) ≤ 80) (w3 : ¬ s0 = 0 → -2147483648 ≤ (mem 182 (mem 169 18)) ∧ (mem 182 (mem 169 18)) < 2147483648)
    (k1 : s0 = 0 → P (some (vi 0)) mem)
    (k2 : ¬ s0 = 0 → (mem 169 18) < (mem 169 19) ∧ (mem 182 (mem 169 18)) = 41 → P (some (vi 1)) (up2 (up2 mem 169 18 ((mem 169 18) + 1)) 169 20 ((mem 169 20) - 1)))
    (k3 : ¬ s0 = 0 → ¬ ((mem 169 18) < (mem 169 19) ∧ (mem 182 (mem 169 18)) = 41) → P (some (vi 0)) (up2 mem 169 18 ((mem 169 18) + 0))) :
    GM E (m_X12_readsThing d) P 97 [.ref 169, vi a1] [vi s0] mem := by
  refine G_if_eq (tgt := 109) dX12_readsThing_97 (by decide) (w1) (fun c1 => ?_) (fun c1 => ?_)
  · -- s0 = 0
    refine G_iconst (z := 0) dX12_readsThing_109 rfl ?_
    exact G_zret dX12_readsThing_110 rfl (nar_zb (by decide)) (Nat.zero_le _) (Nat.zero_le _) (Nat.le_refl _) ⟨rfl, k1 c1⟩
  · -- ¬ s0 = 0
    refine G_aload_n dX12_readsThing_100 rfl ?_
    refine G_bipush (z := 41) dX12_readsThing_101 rfl ?_
    refine cb_X12_readsThing_103 (by omega) (ic_X12_isNext (a := (mem 169 18)) (b := (mem 169 19)) (t := (mem 182 (mem 169 18))) rfl rfl (q2 c1) (by decide) rfl (w3 c1) (fun c2 => ?_) (fun c3 => ?_))
    · -- (mem 169 18) < (mem 169 19) ∧ (mem 182 (mem 169 18)) = 41
      refine G_if_ne (tgt := 111) dX12_readsThing_106 (by decide) (by decide) (fun _ => ?_) (fun h => absurd h (by decide))
      refine G_aload_n dX12_readsThing_111 rfl ?_
      refine G_dup dX12_readsThing_112 rfl ?_
      refine G_getI (z := (mem 169 20)) dX12_readsThing_113 fl_12_154 (by decide) sh_169 (by simp [up2, upr]) ?_
      refine G_iconst (z := 1) dX12_readsThing_116 rfl ?_
      refine G_isub dX12_readsThing_117 ?_
      refine G_putI (mem2 := (up2 (up2 mem 169 18 ((mem 169 18) + 1)) 169 20 ((mem 169 20) - 1))) dX12_readsThing_118 fp_12_154 (by decide) sh_169 rfl ?_
      refine G_iconst (z := 1) dX12_readsThing_121 rfl ?_
      exact G_zret dX12_readsThing_122 rfl (nar_zb (by decide)) (Nat.zero_le _) (Nat.zero_le _) (Nat.le_refl _) ⟨rfl, k2 c1 c2⟩
    · -- ¬ ((mem 169 18) < (mem 169 19) ∧ (mem 182 (mem 169 18)) = 41)
      refine G_if_ne (tgt := 111) dX12_readsThing_106 (by decide) (by decide) (fun h => absurd h (by decide)) (fun _ => ?_)
      refine G_iconst (z := 0) dX12_readsThing_109 rfl ?_
      exact G_zret dX12_readsThing_110 rfl (nar_zb (by decide)) (Nat.zero_le _) (Nat.zero_le _) (Nat.le_refl _) ⟨rfl, k3 c1 c3⟩
set_option maxRecDepth 20000 in
set_option maxHeartbeats 8000000 in
theorem sg_X12_right_0 {E : Nat × (Nat → Int32)} {P : Option Value → Mem → Prop} {mem : Mem} {a1 : Int} {a2 : Int} (w1 : 0 ≤ (mem 169 3) ∧ (mem 169 3) < 2147483648) (w2 : -2147483648 ≤ a1 ∧ a1 < 2147483648) (w3 : -2147483648 ≤ a2 ∧ a2 < 2147483648) (w4 : -9223372036854775808 ≤ a2 ∧ a2 < 9223372036854775808)
    (k1 : 0 ≤ a1 ∧ a1 < (mem 169 3) → 0 ≤ a2 ∧ a2 ≤ 10 → GM E (m_X12_right 201) P 30 [.ref 169, vi a1, vi a2, un, un] [vi a2, vi a1, .ref 169] (up2 mem 169 0 0))
    (k2 : 0 ≤ a1 ∧ a1 < (mem 169 3) → ¬ (0 ≤ a2 ∧ a2 ≤ 10) → P (some (vi (-1))) (up2 mem 169 0 0))
    (k3 : ¬ (0 ≤ a1 ∧ a1 < (mem 169 3)) → P (some (vi (-1))) (up2 mem 169 0 0)) :
    GM E (m_X12_right 201) P 0 [.ref 169, vi a1, vi a2, un, un] [] mem := by
  refine G_aload_n dX12_right_0 rfl ?_
  refine G_iconst (z := 0) dX12_right_1 rfl ?_
  refine G_putI (mem2 := (up2 mem 169 0 0)) dX12_right_2 fp_12_126 (by decide) sh_169 rfl ?_
  refine G_aload_n dX12_right_5 rfl ?_
  refine G_iload_n dX12_right_6 rfl ?_
  refine cb_X12_right_7 (ic_X12_isStreet (z := (mem 169 3)) (by simp [up2, upr]) (w2) (w1) (fun c1 => ?_) (fun c2 => ?_))
  · -- 0 ≤ a1 ∧ a1 < (mem 169 3)
    refine G_if_eq (tgt := 25) dX12_right_10 (by decide) (by decide) (fun h => absurd h (by decide)) (fun _ => ?_)
    refine G_iload_n dX12_right_13 rfl ?_
    refine G_i2l dX12_right_14 (w3) ?_
    refine G_lconst (z := 0) dX12_right_15 rfl ?_
    refine G_ldc2 (z := 10) dX12_right_16 kc_12_489 ?_
    refine cb_X12_right_19 (ic_X12_in (w4) (by decide) (by decide) (fun c3 => ?_) (fun c4 => ?_))
    · -- 0 ≤ a2 ∧ a2 ≤ 10
      refine G_if_ne (tgt := 27) dX12_right_22 (by decide) (by decide) (fun _ => ?_) (fun h => absurd h (by decide))
      refine G_aload_n dX12_right_27 rfl ?_
      refine G_iload_n dX12_right_28 rfl ?_
      refine G_iload_n dX12_right_29 rfl ?_
      exact k1 c1 c3
    · -- ¬ (0 ≤ a2 ∧ a2 ≤ 10)
      refine G_if_ne (tgt := 27) dX12_right_22 (by decide) (by decide) (fun h => absurd h (by decide)) (fun _ => ?_)
      refine G_iconst (z := (-1)) dX12_right_25 rfl ?_
      exact G_iret dX12_right_26 rfl (Nat.zero_le _) (Nat.zero_le _) (Nat.le_refl _) ⟨rfl, k2 c1 c4⟩
  · -- ¬ (0 ≤ a1 ∧ a1 < (mem 169 3))
    refine G_if_eq (tgt := 25) dX12_right_10 (by decide) (by decide) (fun _ => ?_) (fun h => absurd h (by decide))
    refine G_iconst (z := (-1)) dX12_right_25 rfl ?_
    exact G_iret dX12_right_26 rfl (Nat.zero_le _) (Nat.zero_le _) (Nat.le_refl _) ⟨rfl, k3 c2⟩
set_option maxRecDepth 20000 in
set_option maxHeartbeats 8000000 in
theorem sg_X12_right_33 {E : Nat × (Nat → Int32)} {P : Option Value → Mem → Prop} {mem : Mem} {a1 : Int} {a2 : Int}
    (k1 : GM E (m_X12_right 201) P 41 [.ref 169, vi a1, vi a2, un, un] [vl (mem 169 68), vl (mem 169 67)] mem) :
    GM E (m_X12_right 201) P 33 [.ref 169, vi a1, vi a2, un, un] [] mem := by
  refine G_aload_n dX12_right_33 rfl ?_
  refine G_getL (z := (mem 169 67)) dX12_right_34 fl_12_482 (by decide) sh_169 rfl ?_
  refine G_aload_n dX12_right_37 rfl ?_
  refine G_getL (z := (mem 169 68)) dX12_right_38 fl_12_486 (by decide) sh_169 rfl ?_
  exact k1
set_option maxRecDepth 20000 in
set_option maxHeartbeats 8000000 in
theorem sg_X12_right_44 {E : Nat × (Nat → Int32)} {P : Option Value → Mem → Prop} {mem : Mem} {a1 : Int} {a2 : Int} {s0 : Int} (w1 : -9223372036854775808 ≤ s0 ∧ s0 < 9223372036854775808) (z2 : s0 ≠ 0)
    (k1 : P (some (vi 0)) (up2 (up2 (up2 (up2 (up2 mem 169 1 0) 170 0 (divL (mem 169 67) s0)) 169 1 1) 170 1 (divL (mem 169 68) s0)) 169 1 2)) :
    GM E (m_X12_right 201) P 44 [.ref 169, vi a1, vi a2, un, un] [vl s0] mem := by
  refine G_lstore_n dX12_right_44 rfl (by decide : 3 + 1 < 5) rfl ?_
  refine G_aload_n dX12_right_45 rfl ?_
  refine G_iconst (z := 0) dX12_right_46 rfl ?_
  refine G_putI (mem2 := (up2 mem 169 1 0)) dX12_right_47 fp_12_134 (by decide) sh_169 rfl ?_
  refine G_aload_n dX12_right_50 rfl ?_
  refine G_aload_n dX12_right_51 rfl ?_
  refine G_getL (z := (mem 169 67)) dX12_right_52 fl_12_482 (by decide) sh_169 (by simp [up2, upr]) ?_
  refine G_lload_n dX12_right_55 rfl ?_
  refine G_ldiv (z := (divL (mem 169 67) s0)) dX12_right_56 (iL_ne0 (w1) (z2)) (iL_inv _) ?_
  refine cb_X12_right_57 (ic_X12_enters (z := 0) (z2 := 1) (by simp [up2, upr]) (by decide) rfl ?_)
  refine G_aload_n dX12_right_60 rfl ?_
  refine G_aload_n dX12_right_61 rfl ?_
  refine G_getL (z := (mem 169 68)) dX12_right_62 fl_12_486 (by decide) sh_169 (by simp [up2, upr]) ?_
  refine G_lload_n dX12_right_65 rfl ?_
  refine G_ldiv (z := (divL (mem 169 68) s0)) dX12_right_66 (iL_ne0 (w1) (z2)) (iL_inv _) ?_
  refine cb_X12_right_67 (ic_X12_enters (z := 1) (z2 := 2) (by simp [up2, upr]) (by decide) rfl ?_)
  refine G_iconst (z := 0) dX12_right_70 rfl ?_
  exact G_iret dX12_right_71 rfl (Nat.zero_le _) (Nat.zero_le _) (Nat.le_refl _) ⟨rfl, k1⟩
set_option maxRecDepth 20000 in
set_option maxHeartbeats 8000000 in
theorem sg_X12_round_0 {E : Nat × (Nat → Int32)} {P : Option Value → Mem → Prop} {mem : Mem} (w1 : -2147483648 ≤ (mem 169 17) ∧ (mem 169 17) < 2147483648)
    (k1 : (mem 169 17) ≤ 0 → GM E (m_X12_round 8) P 29 [.ref 169, vi (mem 169 17), vi 1, vi 0, un, un, un] [] (up2 (up2 (up2 (up2 (up2 (up2 mem 169 0 0) 169 17 0) 169 18 0) 169 20 0) 169 19 (min (mem 169 17) 60)) 169 46 0))
    (k2 : ¬ (mem 169 17) ≤ 0 → GM E (m_X12_round 8) P 29 [.ref 169, vi (mem 169 17), vi 1, vi 1, un, un, un] [] (up2 (up2 (up2 (up2 (up2 (up2 mem 169 0 0) 169 17 0) 169 18 0) 169 20 0) 169 19 (min (mem 169 17) 60)) 169 46 0)) :
    GM E (m_X12_round 8) P 0 [.ref 169, un, un, un, un, un, un] [] mem := by
  refine G_aload_n dX12_round_0 rfl ?_
  refine G_iconst (z := 0) dX12_round_1 rfl ?_
  refine G_putI (mem2 := (up2 mem 169 0 0)) dX12_round_2 fp_12_126 (by decide) sh_169 rfl ?_
  refine G_aload_n dX12_round_5 rfl ?_
  refine G_bipush (z := 60) dX12_round_6 rfl ?_
  refine cb_X12_round_8 (ic_X12_begins (z := (mem 169 17)) (by simp [up2, upr]) (w1) (by decide) ?_)
  refine G_istore_n dX12_round_11 rfl (by decide : 1 < 7) rfl ?_
  refine G_aload_n dX12_round_12 rfl ?_
  refine G_iconst (z := 0) dX12_round_13 rfl ?_
  refine G_putI (mem2 := (up2 (up2 (up2 (up2 (up2 (up2 mem 169 0 0) 169 17 0) 169 18 0) 169 20 0) 169 19 (min (mem 169 17) 60)) 169 46 0)) dX12_round_14 fp_12_387 (by decide) sh_169 rfl ?_
  refine G_iconst (z := 1) dX12_round_17 rfl ?_
  refine G_istore_n dX12_round_18 rfl (by decide : 2 < 7) rfl ?_
  refine G_iload_n dX12_round_19 rfl ?_
  refine G_if_le (tgt := 27) dX12_round_20 (by decide) (w1) (fun c1 => ?_) (fun c1 => ?_)
  · -- (mem 169 17) ≤ 0
    refine G_iconst (z := 0) dX12_round_27 rfl ?_
    refine G_istore_n dX12_round_28 rfl (by decide : 3 < 7) rfl ?_
    exact k1 c1
  · -- ¬ (mem 169 17) ≤ 0
    refine G_iconst (z := 1) dX12_round_23 rfl ?_
    refine G_goto (tgt := 28) dX12_round_24 (by decide) ?_
    refine G_istore_n dX12_round_28 rfl (by decide : 3 < 7) rfl ?_
    exact k2 c1
set_option maxRecDepth 20000 in
set_option maxHeartbeats 8000000 in
theorem sg_X12_round_29 {E : Nat × (Nat → Int32)} {P : Option Value → Mem → Prop} {mem : Mem} {a1 : Int} {a2 : Int} {a3 : Int} (w1 : -2147483648 ≤ a3 ∧ a3 < 2147483648)
    (k1 : a3 = 0 → GM E (m_X12_round 8) P 65 [.ref 169, vi a1, vi a2, vi a3, un, un, un] [vi a2, vi 60, vi a1, .ref 169] mem)
    (k2 : ¬ a3 = 0 → GM E (m_X12_round 8) P 34 [.ref 169, vi a1, vi a2, vi a3, un, un, un] [.ref 169] mem) :
    GM E (m_X12_round 8) P 29 [.ref 169, vi a1, vi a2, vi a3, un, un, un] [] mem := by
  refine G_iload_n dX12_round_29 rfl ?_
  refine G_if_eq (tgt := 60) dX12_round_30 (by decide) (w1) (fun c1 => ?_) (fun c1 => ?_)
  · -- a3 = 0
    refine G_aload_n dX12_round_60 rfl ?_
    refine G_iload_n dX12_round_61 rfl ?_
    refine G_bipush (z := 60) dX12_round_62 rfl ?_
    refine G_iload_n dX12_round_64 rfl ?_
    exact k1 c1
  · -- ¬ a3 = 0
    refine G_aload_n dX12_round_33 rfl ?_
    exact k2 c1
set_option maxRecDepth 20000 in
set_option maxHeartbeats 8000000 in
theorem sg_X12_round_37 {E : Nat × (Nat → Int32)} {P : Option Value → Mem → Prop} {mem : Mem} {a1 : Int} {a2 : Int} {a3 : Int} {s0 : Int} (w1 : -2147483648 ≤ s0 ∧ s0 < 2147483648) (q2 : ¬ s0 = 0 → 0 ≤ (mem 169 18) ∧ (mem 169 18) < 2147483648 ∧ -2147483648 ≤ (mem 169 19) ∧ (mem 169 19) ≤ 80) (w3 : ¬ s0 = 0 → -2147483648 ≤ (mem 182 (mem 169 18)) ∧ (mem 182 (mem 169 18)) < 2147483648)
    (k1 : s0 = 0 → GM E (m_X12_round 8) P 29 [.ref 169, vi a1, vi s0, vi 0, un, un, un] [] mem)
    (k2 : ¬ s0 = 0 → (mem 169 18) < (mem 169 19) ∧ (mem 182 (mem 169 18)) = 59 → GM E (m_X12_round 8) P 29 [.ref 169, vi a1, vi s0, vi 1, un, un, un] [] (up2 mem 169 18 ((mem 169 18) + 1)))
    (k3 : ¬ s0 = 0 → ¬ ((mem 169 18) < (mem 169 19) ∧ (mem 182 (mem 169 18)) = 59) → GM E (m_X12_round 8) P 29 [.ref 169, vi a1, vi s0, vi 0, un, un, un] [] (up2 mem 169 18 ((mem 169 18) + 0))) :
    GM E (m_X12_round 8) P 37 [.ref 169, vi a1, vi a2, vi a3, un, un, un] [vi s0] mem := by
  refine G_istore_n dX12_round_37 rfl (by decide : 2 < 7) rfl ?_
  refine G_iload_n dX12_round_38 rfl ?_
  refine G_if_eq (tgt := 55) dX12_round_39 (by decide) (w1) (fun c1 => ?_) (fun c1 => ?_)
  · -- s0 = 0
    refine G_iconst (z := 0) dX12_round_55 rfl ?_
    refine G_istore_n dX12_round_56 rfl (by decide : 3 < 7) rfl ?_
    refine G_goto (tgt := 29) dX12_round_57 (by decide) ?_
    exact k1 c1
  · -- ¬ s0 = 0
    refine G_aload_n dX12_round_42 rfl ?_
    refine G_bipush (z := 59) dX12_round_43 rfl ?_
    refine cb_X12_round_45 (ic_X12_isNext (a := (mem 169 18)) (b := (mem 169 19)) (t := (mem 182 (mem 169 18))) rfl rfl (q2 c1) (by decide) rfl (w3 c1) (fun c2 => ?_) (fun c3 => ?_))
    · -- (mem 169 18) < (mem 169 19) ∧ (mem 182 (mem 169 18)) = 59
      refine G_if_eq (tgt := 55) dX12_round_48 (by decide) (by decide) (fun h => absurd h (by decide)) (fun _ => ?_)
      refine G_iconst (z := 1) dX12_round_51 rfl ?_
      refine G_goto (tgt := 56) dX12_round_52 (by decide) ?_
      refine G_istore_n dX12_round_56 rfl (by decide : 3 < 7) rfl ?_
      refine G_goto (tgt := 29) dX12_round_57 (by decide) ?_
      exact k2 c1 c2
    · -- ¬ ((mem 169 18) < (mem 169 19) ∧ (mem 182 (mem 169 18)) = 59)
      refine G_if_eq (tgt := 55) dX12_round_48 (by decide) (by decide) (fun _ => ?_) (fun h => absurd h (by decide))
      refine G_iconst (z := 0) dX12_round_55 rfl ?_
      refine G_istore_n dX12_round_56 rfl (by decide : 3 < 7) rfl ?_
      refine G_goto (tgt := 29) dX12_round_57 (by decide) ?_
      exact k3 c1 c3
set_option maxRecDepth 20000 in
set_option maxHeartbeats 8000000 in
theorem sg_X12_round_68 {E : Nat × (Nat → Int32)} {P : Option Value → Mem → Prop} {mem : Mem} {a1 : Int} {a2 : Int} {a3 : Int} {s0 : Int} (w1 : -2147483648 ≤ s0 ∧ s0 < 2147483648)
    (k1 : 0 ≤ s0 → GM E (m_X12_round 8) P 79 [.ref 169, vi a1, vi a2, vi a3, vi s0, un, un] [.ref 169] mem)
    (k2 : ¬ 0 ≤ s0 → P (some (vi s0)) mem) :
    GM E (m_X12_round 8) P 68 [.ref 169, vi a1, vi a2, vi a3, un, un, un] [vi s0] mem := by
  refine G_istore dX12_round_68 (by decide : 4 < 7) rfl ?_
  refine G_iload dX12_round_70 rfl ?_
  refine G_if_ge (tgt := 78) dX12_round_72 (by decide) (w1) (fun c1 => ?_) (fun c1 => ?_)
  · -- 0 ≤ s0
    refine G_aload_n dX12_round_78 rfl ?_
    exact k1 c1
  · -- ¬ 0 ≤ s0
    refine G_iload dX12_round_75 rfl ?_
    exact G_iret dX12_round_77 rfl (Nat.zero_le _) (Nat.zero_le _) (Nat.le_refl _) ⟨rfl, k2 c1⟩
set_option maxRecDepth 20000 in
set_option maxHeartbeats 8000000 in
theorem sg_X12_round_82 {E : Nat × (Nat → Int32)} {P : Option Value → Mem → Prop} {mem : Mem} {a1 : Int} {a2 : Int} {a3 : Int} {a4 : Int}
    (k1 : GM E (m_X12_round 8) P 99 [.ref 169, vi a1, vi a2, vi a3, vi a4, vi (mem 180 98), vi 0] [] (up2 mem 169 47 0)) :
    GM E (m_X12_round 8) P 82 [.ref 169, vi a1, vi a2, vi a3, vi a4, un, un] [] mem := by
  refine G_aload_n dX12_round_82 rfl ?_
  refine G_iconst (z := 0) dX12_round_83 rfl ?_
  refine G_putI (mem2 := (up2 mem 169 47 0)) dX12_round_84 fp_12_394 (by decide) sh_169 rfl ?_
  refine G_aload_n dX12_round_87 rfl ?_
  refine G_getR (t := 180) dX12_round_88 fl_12_42 (by decide) sh_169 rr_169_14 ?_
  refine G_bipush (z := 98) dX12_round_91 rfl ?_
  refine G_iald (z := (mem 180 98)) dX12_round_93 (by decide) sh_180 (by decide) (by decide) (by decide) (by simp [up2, upr]) ?_
  refine G_istore dX12_round_94 (by decide : 5 < 7) rfl ?_
  refine G_iconst (z := 0) dX12_round_96 rfl ?_
  refine G_istore dX12_round_97 (by decide : 6 < 7) rfl ?_
  exact k1
set_option maxRecDepth 20000 in
set_option maxHeartbeats 8000000 in
theorem sg_X12_round_99 {E : Nat × (Nat → Int32)} {P : Option Value → Mem → Prop} {mem : Mem} {a1 : Int} {a2 : Int} {a3 : Int} {a4 : Int} {a5 : Int} {a6 : Int} (w1 : -2147483648 ≤ a6 ∧ a6 < 2147483648) (w2 : -2147483648 ≤ (mem 169 46) ∧ (mem 169 46) < 2147483648) (w3 : (mem 169 46) ≤ a6 → (mem 169 46) ≤ a6 → -2147483648 ≤ (mem 169 47) ∧ (mem 169 47) < 2147483648) (w4 : (mem 169 46) ≤ a6 → (mem 169 46) ≤ a6 → -2147483648 ≤ ((mem 180 98) - a5) ∧ ((mem 180 98) - a5) < 2147483648) (w5 : (mem 169 46) ≤ a6 → ¬ (mem 169 46) ≤ a6 → -2147483648 ≤ (mem 169 47) ∧ (mem 169 47) < 2147483648) (w6 : (mem 169 46) ≤ a6 → ¬ (mem 169 46) ≤ a6 → -2147483648 ≤ ((mem 180 98) - a5) ∧ ((mem 180 98) - a5) < 2147483648)
    (k1 : (mem 169 46) ≤ a6 → (mem 169 46) ≤ a6 → a6 ≤ 0 → P (some (vi 0)) (up2 (up2 (up2 (up2 (up2 (up2 (up2 mem 169 1 0) 170 0 0) 169 1 1) 170 1 (mem 169 47)) 169 1 2) 170 2 ((mem 180 98) - a5)) 169 1 3))
    (k2 : (mem 169 46) ≤ a6 → (mem 169 46) ≤ a6 → ¬ a6 ≤ 0 → GM E (m_X12_round 8) P 182 [.ref 169, vi a1, vi a2, vi a3, vi a4, vi a5, vi a6] [vi a6, .ref 169] (up2 (up2 (up2 (up2 (up2 (up2 (up2 mem 169 1 0) 170 0 0) 169 1 1) 170 1 (mem 169 47)) 169 1 2) 170 2 ((mem 180 98) - a5)) 169 1 3))
    (k3 : (mem 169 46) ≤ a6 → ¬ (mem 169 46) ≤ a6 → a6 ≤ 0 → P (some (vi 0)) (up2 (up2 (up2 (up2 (up2 (up2 (up2 mem 169 1 0) 170 0 1) 169 1 1) 170 1 (mem 169 47)) 169 1 2) 170 2 ((mem 180 98) - a5)) 169 1 3))
    (k4 : (mem 169 46) ≤ a6 → ¬ (mem 169 46) ≤ a6 → ¬ a6 ≤ 0 → GM E (m_X12_round 8) P 182 [.ref 169, vi a1, vi a2, vi a3, vi a4, vi a5, vi a6] [vi a6, .ref 169] (up2 (up2 (up2 (up2 (up2 (up2 (up2 mem 169 1 0) 170 0 1) 169 1 1) 170 1 (mem 169 47)) 169 1 2) 170 2 ((mem 180 98) - a5)) 169 1 3))
    (k5 : ¬ (mem 169 46) ≤ a6 → GM E (m_X12_round 8) P 111 [.ref 169, vi a1, vi a2, vi a3, vi a4, vi a5, vi a6] [vi a6, .ref 169] mem) :
    GM E (m_X12_round 8) P 99 [.ref 169, vi a1, vi a2, vi a3, vi a4, vi a5, vi a6] [] mem := by
  refine G_iload dX12_round_99 rfl ?_
  refine G_aload_n dX12_round_101 rfl ?_
  refine G_getI (z := (mem 169 46)) dX12_round_102 fl_12_387 (by decide) sh_169 rfl ?_
  refine G_icmp_ge (tgt := 123) dX12_round_105 (by decide) (w1) (w2) (fun c1 => ?_) (fun c1 => ?_)
  · -- (mem 169 46) ≤ a6
    refine G_aload_n dX12_round_123 rfl ?_
    refine G_iconst (z := 0) dX12_round_124 rfl ?_
    refine G_putI (mem2 := (up2 mem 169 1 0)) dX12_round_125 fp_12_134 (by decide) sh_169 rfl ?_
    refine G_aload_n dX12_round_128 rfl ?_
    refine G_iload dX12_round_129 rfl ?_
    refine G_aload_n dX12_round_131 rfl ?_
    refine G_getI (z := (mem 169 46)) dX12_round_132 fl_12_387 (by decide) sh_169 (by simp [up2, upr]) ?_
    refine G_icmp_ge (tgt := 142) dX12_round_135 (by decide) (w1) (w2) (fun c2 => ?_) (fun c2 => ?_)
    · -- (mem 169 46) ≤ a6
      refine G_iconst (z := 0) dX12_round_142 rfl ?_
      refine cb_X12_round_143 (ic_X12_flagL (by decide) ?_)
      refine G_i2l dX12_round_146 (by decide) ?_
      refine cb_X12_round_147 (ic_X12_enters (z := 0) (z2 := 1) (by simp [up2, upr]) (by decide) rfl ?_)
      refine G_aload_n dX12_round_150 rfl ?_
      refine G_aload_n dX12_round_151 rfl ?_
      refine G_getI (z := (mem 169 47)) dX12_round_152 fl_12_394 (by decide) sh_169 (by simp [up2, upr]) ?_
      refine G_i2l dX12_round_155 (w3 c1 c2) ?_
      refine cb_X12_round_156 (ic_X12_enters (z := 1) (z2 := 2) (by simp [up2, upr]) (by decide) rfl ?_)
      refine G_aload_n dX12_round_159 rfl ?_
      refine G_aload_n dX12_round_160 rfl ?_
      refine G_getR (t := 180) dX12_round_161 fl_12_42 (by decide) sh_169 rr_169_14 ?_
      refine G_bipush (z := 98) dX12_round_164 rfl ?_
      refine G_iald (z := (mem 180 98)) dX12_round_166 (by decide) sh_180 (by decide) (by decide) (by decide) (by simp [up2, upr]) ?_
      refine G_iload dX12_round_167 rfl ?_
      refine G_isub dX12_round_169 ?_
      refine G_i2l dX12_round_170 (w4 c1 c2) ?_
      refine cb_X12_round_171 (ic_X12_enters (z := 2) (z2 := 3) (by simp [up2, upr]) (by decide) rfl ?_)
      refine G_iload dX12_round_174 rfl ?_
      refine G_if_le (tgt := 188) dX12_round_176 (by decide) (w1) (fun c3 => ?_) (fun c3 => ?_)
      · -- a6 ≤ 0
        refine G_iconst (z := 0) dX12_round_188 rfl ?_
        exact G_iret dX12_round_189 rfl (Nat.zero_le _) (Nat.zero_le _) (Nat.le_refl _) ⟨rfl, k1 c1 c2 c3⟩
      · -- ¬ a6 ≤ 0
        refine G_aload_n dX12_round_179 rfl ?_
        refine G_iload dX12_round_180 rfl ?_
        exact k2 c1 c2 c3
    · -- ¬ (mem 169 46) ≤ a6
      refine G_iconst (z := 1) dX12_round_138 rfl ?_
      refine G_goto (tgt := 143) dX12_round_139 (by decide) ?_
      refine cb_X12_round_143 (ic_X12_flagL (by decide) ?_)
      refine G_i2l dX12_round_146 (by decide) ?_
      refine cb_X12_round_147 (ic_X12_enters (z := 0) (z2 := 1) (by simp [up2, upr]) (by decide) rfl ?_)
      refine G_aload_n dX12_round_150 rfl ?_
      refine G_aload_n dX12_round_151 rfl ?_
      refine G_getI (z := (mem 169 47)) dX12_round_152 fl_12_394 (by decide) sh_169 (by simp [up2, upr]) ?_
      refine G_i2l dX12_round_155 (w5 c1 c2) ?_
      refine cb_X12_round_156 (ic_X12_enters (z := 1) (z2 := 2) (by simp [up2, upr]) (by decide) rfl ?_)
      refine G_aload_n dX12_round_159 rfl ?_
      refine G_aload_n dX12_round_160 rfl ?_
      refine G_getR (t := 180) dX12_round_161 fl_12_42 (by decide) sh_169 rr_169_14 ?_
      refine G_bipush (z := 98) dX12_round_164 rfl ?_
      refine G_iald (z := (mem 180 98)) dX12_round_166 (by decide) sh_180 (by decide) (by decide) (by decide) (by simp [up2, upr]) ?_
      refine G_iload dX12_round_167 rfl ?_
      refine G_isub dX12_round_169 ?_
      refine G_i2l dX12_round_170 (w6 c1 c2) ?_
      refine cb_X12_round_171 (ic_X12_enters (z := 2) (z2 := 3) (by simp [up2, upr]) (by decide) rfl ?_)
      refine G_iload dX12_round_174 rfl ?_
      refine G_if_le (tgt := 188) dX12_round_176 (by decide) (w1) (fun c4 => ?_) (fun c4 => ?_)
      · -- a6 ≤ 0
        refine G_iconst (z := 0) dX12_round_188 rfl ?_
        exact G_iret dX12_round_189 rfl (Nat.zero_le _) (Nat.zero_le _) (Nat.le_refl _) ⟨rfl, k3 c1 c2 c4⟩
      · -- ¬ a6 ≤ 0
        refine G_aload_n dX12_round_179 rfl ?_
        refine G_iload dX12_round_180 rfl ?_
        exact k4 c1 c2 c4
  · -- ¬ (mem 169 46) ≤ a6
    refine G_aload_n dX12_round_108 rfl ?_
    refine G_iload dX12_round_109 rfl ?_
    exact k5 c1
set_option maxRecDepth 20000 in
set_option maxHeartbeats 8000000 in
theorem sg_X12_round_114 {E : Nat × (Nat → Int32)} {P : Option Value → Mem → Prop} {mem : Mem} {a1 : Int} {a2 : Int} {a3 : Int} {a4 : Int} {a5 : Int} {a6 : Int} {s0 : Int} (w1 : -2147483648 ≤ s0 ∧ s0 < 2147483648) (w2 : -2147483648 ≤ a6 ∧ a6 < 2147483648) (w3 : s0 = 0 → -2147483648 ≤ (mem 169 46) ∧ (mem 169 46) < 2147483648) (w4 : s0 = 0 → (mem 169 46) ≤ a6 → -2147483648 ≤ (mem 169 47) ∧ (mem 169 47) < 2147483648) (w5 : s0 = 0 → (mem 169 46) ≤ a6 → -2147483648 ≤ ((mem 180 98) - a5) ∧ ((mem 180 98) - a5) < 2147483648) (w6 : s0 = 0 → ¬ (mem 169 46) ≤ a6 → -2147483648 ≤ (mem 169 47) ∧ (mem 169 47) < 2147483648) (w7 : s0 = 0 → ¬ (mem 169 46) ≤ a6 → -2147483648 ≤ ((mem 180 98) - a5) ∧ ((mem 180 98) - a5) < 2147483648)
    (k1 : s0 = 0 → (mem 169 46) ≤ a6 → a6 ≤ 0 → P (some (vi 0)) (up2 (up2 (up2 (up2 (up2 (up2 (up2 mem 169 1 0) 170 0 0) 169 1 1) 170 1 (mem 169 47)) 169 1 2) 170 2 ((mem 180 98) - a5)) 169 1 3))
    (k2 : s0 = 0 → (mem 169 46) ≤ a6 → ¬ a6 ≤ 0 → GM E (m_X12_round 8) P 182 [.ref 169, vi a1, vi a2, vi a3, vi a4, vi a5, vi a6] [vi a6, .ref 169] (up2 (up2 (up2 (up2 (up2 (up2 (up2 mem 169 1 0) 170 0 0) 169 1 1) 170 1 (mem 169 47)) 169 1 2) 170 2 ((mem 180 98) - a5)) 169 1 3))
    (k3 : s0 = 0 → ¬ (mem 169 46) ≤ a6 → a6 ≤ 0 → P (some (vi 0)) (up2 (up2 (up2 (up2 (up2 (up2 (up2 mem 169 1 0) 170 0 1) 169 1 1) 170 1 (mem 169 47)) 169 1 2) 170 2 ((mem 180 98) - a5)) 169 1 3))
    (k4 : s0 = 0 → ¬ (mem 169 46) ≤ a6 → ¬ a6 ≤ 0 → GM E (m_X12_round 8) P 182 [.ref 169, vi a1, vi a2, vi a3, vi a4, vi a5, vi a6] [vi a6, .ref 169] (up2 (up2 (up2 (up2 (up2 (up2 (up2 mem 169 1 0) 170 0 1) 169 1 1) 170 1 (mem 169 47)) 169 1 2) 170 2 ((mem 180 98) - a5)) 169 1 3))
    (k5 : ¬ s0 = 0 → GM E (m_X12_round 8) P 99 [.ref 169, vi a1, vi a2, vi a3, vi a4, vi a5, vi (a6 + 1)] [] mem) :
    GM E (m_X12_round 8) P 114 [.ref 169, vi a1, vi a2, vi a3, vi a4, vi a5, vi a6] [vi s0] mem := by
  refine G_if_eq (tgt := 123) dX12_round_114 (by decide) (w1) (fun c1 => ?_) (fun c1 => ?_)
  · -- s0 = 0
    refine G_aload_n dX12_round_123 rfl ?_
    refine G_iconst (z := 0) dX12_round_124 rfl ?_
    refine G_putI (mem2 := (up2 mem 169 1 0)) dX12_round_125 fp_12_134 (by decide) sh_169 rfl ?_
    refine G_aload_n dX12_round_128 rfl ?_
    refine G_iload dX12_round_129 rfl ?_
    refine G_aload_n dX12_round_131 rfl ?_
    refine G_getI (z := (mem 169 46)) dX12_round_132 fl_12_387 (by decide) sh_169 (by simp [up2, upr]) ?_
    refine G_icmp_ge (tgt := 142) dX12_round_135 (by decide) (w2) (w3 c1) (fun c2 => ?_) (fun c2 => ?_)
    · -- (mem 169 46) ≤ a6
      refine G_iconst (z := 0) dX12_round_142 rfl ?_
      refine cb_X12_round_143 (ic_X12_flagL (by decide) ?_)
      refine G_i2l dX12_round_146 (by decide) ?_
      refine cb_X12_round_147 (ic_X12_enters (z := 0) (z2 := 1) (by simp [up2, upr]) (by decide) rfl ?_)
      refine G_aload_n dX12_round_150 rfl ?_
      refine G_aload_n dX12_round_151 rfl ?_
      refine G_getI (z := (mem 169 47)) dX12_round_152 fl_12_394 (by decide) sh_169 (by simp [up2, upr]) ?_
      refine G_i2l dX12_round_155 (w4 c1 c2) ?_
      refine cb_X12_round_156 (ic_X12_enters (z := 1) (z2 := 2) (by simp [up2, upr]) (by decide) rfl ?_)
      refine G_aload_n dX12_round_159 rfl ?_
      refine G_aload_n dX12_round_160 rfl ?_
      refine G_getR (t := 180) dX12_round_161 fl_12_42 (by decide) sh_169 rr_169_14 ?_
      refine G_bipush (z := 98) dX12_round_164 rfl ?_
      refine G_iald (z := (mem 180 98)) dX12_round_166 (by decide) sh_180 (by decide) (by decide) (by decide) (by simp [up2, upr]) ?_
      refine G_iload dX12_round_167 rfl ?_
      refine G_isub dX12_round_169 ?_
      refine G_i2l dX12_round_170 (w5 c1 c2) ?_
      refine cb_X12_round_171 (ic_X12_enters (z := 2) (z2 := 3) (by simp [up2, upr]) (by decide) rfl ?_)
      refine G_iload dX12_round_174 rfl ?_
      refine G_if_le (tgt := 188) dX12_round_176 (by decide) (w2) (fun c3 => ?_) (fun c3 => ?_)
      · -- a6 ≤ 0
        refine G_iconst (z := 0) dX12_round_188 rfl ?_
        exact G_iret dX12_round_189 rfl (Nat.zero_le _) (Nat.zero_le _) (Nat.le_refl _) ⟨rfl, k1 c1 c2 c3⟩
      · -- ¬ a6 ≤ 0
        refine G_aload_n dX12_round_179 rfl ?_
        refine G_iload dX12_round_180 rfl ?_
        exact k2 c1 c2 c3
    · -- ¬ (mem 169 46) ≤ a6
      refine G_iconst (z := 1) dX12_round_138 rfl ?_
      refine G_goto (tgt := 143) dX12_round_139 (by decide) ?_
      refine cb_X12_round_143 (ic_X12_flagL (by decide) ?_)
      refine G_i2l dX12_round_146 (by decide) ?_
      refine cb_X12_round_147 (ic_X12_enters (z := 0) (z2 := 1) (by simp [up2, upr]) (by decide) rfl ?_)
      refine G_aload_n dX12_round_150 rfl ?_
      refine G_aload_n dX12_round_151 rfl ?_
      refine G_getI (z := (mem 169 47)) dX12_round_152 fl_12_394 (by decide) sh_169 (by simp [up2, upr]) ?_
      refine G_i2l dX12_round_155 (w6 c1 c2) ?_
      refine cb_X12_round_156 (ic_X12_enters (z := 1) (z2 := 2) (by simp [up2, upr]) (by decide) rfl ?_)
      refine G_aload_n dX12_round_159 rfl ?_
      refine G_aload_n dX12_round_160 rfl ?_
      refine G_getR (t := 180) dX12_round_161 fl_12_42 (by decide) sh_169 rr_169_14 ?_
      refine G_bipush (z := 98) dX12_round_164 rfl ?_
      refine G_iald (z := (mem 180 98)) dX12_round_166 (by decide) sh_180 (by decide) (by decide) (by decide) (by simp [up2, upr]) ?_
      refine G_iload dX12_round_167 rfl ?_
      refine G_isub dX12_round_169 ?_
      refine G_i2l dX12_round_170 (w7 c1 c2) ?_
      refine cb_X12_round_171 (ic_X12_enters (z := 2) (z2 := 3) (by simp [up2, upr]) (by decide) rfl ?_)
      refine G_iload dX12_round_174 rfl ?_
      refine G_if_le (tgt := 188) dX12_round_176 (by decide) (w2) (fun c4 => ?_) (fun c4 => ?_)
      · -- a6 ≤ 0
        refine G_iconst (z := 0) dX12_round_188 rfl ?_
        exact G_iret dX12_round_189 rfl (Nat.zero_le _) (Nat.zero_le _) (Nat.le_refl _) ⟨rfl, k3 c1 c2 c4⟩
      · -- ¬ a6 ≤ 0
        refine G_aload_n dX12_round_179 rfl ?_
        refine G_iload dX12_round_180 rfl ?_
        exact k4 c1 c2 c4
  · -- ¬ s0 = 0
    refine G_iinc (z := (a6 + 1)) dX12_round_117 rfl rfl (by decide : 6 < 7) rfl ?_
    refine G_goto (tgt := 99) dX12_round_120 (by decide) ?_
    exact k5 c1
set_option maxRecDepth 20000 in
set_option maxHeartbeats 8000000 in
theorem sg_X12_round_185 {E : Nat × (Nat → Int32)} {P : Option Value → Mem → Prop} {mem : Mem} {a1 : Int} {a2 : Int} {a3 : Int} {a4 : Int} {a5 : Int} {a6 : Int} {s0 : Int}
    (k1 : P (some (vi s0)) mem) :
    GM E (m_X12_round 8) P 185 [.ref 169, vi a1, vi a2, vi a3, vi a4, vi a5, vi a6] [vi s0] mem := by
  refine G_goto (tgt := 189) dX12_round_185 (by decide) ?_
  exact G_iret dX12_round_189 rfl (Nat.zero_le _) (Nat.zero_le _) (Nat.le_refl _) ⟨rfl, k1⟩
set_option maxRecDepth 20000 in
set_option maxHeartbeats 8000000 in
theorem sg_X12_row_0 {E : Nat × (Nat → Int32)} {P : Option Value → Mem → Prop} {mem : Mem} {a1 : Int} (w1 : -2147483648 ≤ a1 ∧ a1 < 2147483648) (w2 : -2147483648 ≤ ((mem 169 1) - 1) ∧ ((mem 169 1) - 1) < 2147483648) (w3 : -9223372036854775808 ≤ a1 ∧ a1 < 9223372036854775808) (w4 : -9223372036854775808 ≤ ((mem 169 1) - 1) ∧ ((mem 169 1) - 1) < 9223372036854775808) (q5 : 0 ≤ a1 ∧ a1 ≤ ((mem 169 1) - 1) → 0 ≤ a1 ∧ a1 < 24)
    (k1 : 0 ≤ a1 ∧ a1 ≤ ((mem 169 1) - 1) → P (some (vl (mem 170 a1))) (up2 mem 169 0 0))
    (k2 : ¬ (0 ≤ a1 ∧ a1 ≤ ((mem 169 1) - 1)) → P (some (vl 0)) (up2 (up2 mem 169 0 0) 169 0 1)) :
    GM E (m_X12_row 1) P 0 [.ref 169, vi a1] [] mem := by
  refine G_aload_n dX12_row_0 rfl ?_
  refine G_iconst (z := 0) dX12_row_1 rfl ?_
  refine G_putI (mem2 := (up2 mem 169 0 0)) dX12_row_2 fp_12_126 (by decide) sh_169 rfl ?_
  refine G_iload_n dX12_row_5 rfl ?_
  refine G_i2l dX12_row_6 (w1) ?_
  refine G_lconst (z := 0) dX12_row_7 rfl ?_
  refine G_aload_n dX12_row_8 rfl ?_
  refine G_getI (z := (mem 169 1)) dX12_row_9 fl_12_134 (by decide) sh_169 (by simp [up2, upr]) ?_
  refine G_iconst (z := 1) dX12_row_12 rfl ?_
  refine G_isub dX12_row_13 ?_
  refine G_i2l dX12_row_14 (w2) ?_
  refine cb_X12_row_15 (ic_X12_in (w3) (by decide) (w4) (fun c1 => ?_) (fun c2 => ?_))
  · -- 0 ≤ a1 ∧ a1 ≤ ((mem 169 1) - 1)
    refine G_if_ne (tgt := 28) dX12_row_18 (by decide) (by decide) (fun _ => ?_) (fun h => absurd h (by decide))
    refine G_aload_n dX12_row_28 rfl ?_
    refine G_getR (t := 170) dX12_row_29 fl_12_9 (by decide) sh_169 rr_169_2 ?_
    refine G_iload_n dX12_row_32 rfl ?_
    refine G_lald (z := (mem 170 a1)) dX12_row_33 (by decide) sh_170 (by decide) (q5 c1).1 (q5 c1).2 (by simp [up2, upr]) ?_
    exact G_lret dX12_row_34 rfl (Nat.zero_le _) (Nat.zero_le _) (Nat.le_refl _) ⟨rfl, k1 c1⟩
  · -- ¬ (0 ≤ a1 ∧ a1 ≤ ((mem 169 1) - 1))
    refine G_if_ne (tgt := 28) dX12_row_18 (by decide) (by decide) (fun h => absurd h (by decide)) (fun _ => ?_)
    refine G_aload_n dX12_row_21 rfl ?_
    refine G_iconst (z := 1) dX12_row_22 rfl ?_
    refine G_putI (mem2 := (up2 (up2 mem 169 0 0) 169 0 1)) dX12_row_23 fp_12_126 (by decide) sh_169 rfl ?_
    refine G_lconst (z := 0) dX12_row_26 rfl ?_
    exact G_lret dX12_row_27 rfl (Nat.zero_le _) (Nat.zero_le _) (Nat.le_refl _) ⟨rfl, k2 c2⟩
set_option maxRecDepth 20000 in
set_option maxHeartbeats 8000000 in
theorem sg_X12_rubble_0 {E : Nat × (Nat → Int32)} {P : Option Value → Mem → Prop} {mem : Mem}
    (k1 : GM E (m_X12_rubble 5) P 6 [.ref 169, un, un] [.ref 169] (up2 mem 169 0 0)) :
    GM E (m_X12_rubble 5) P 0 [.ref 169, un, un] [] mem := by
  refine G_aload_n dX12_rubble_0 rfl ?_
  refine G_iconst (z := 0) dX12_rubble_1 rfl ?_
  refine G_putI (mem2 := (up2 mem 169 0 0)) dX12_rubble_2 fp_12_126 (by decide) sh_169 rfl ?_
  refine G_aload_n dX12_rubble_5 rfl ?_
  exact k1
set_option maxRecDepth 20000 in
set_option maxHeartbeats 8000000 in
theorem sg_X12_rubble_9 {E : Nat × (Nat → Int32)} {P : Option Value → Mem → Prop} {mem : Mem}
    (k1 : GM E (m_X12_rubble 5) P 18 [.ref 169, vi 0, vi 0] [] (up2 mem 169 1 0)) :
    GM E (m_X12_rubble 5) P 9 [.ref 169, un, un] [] mem := by
  refine G_aload_n dX12_rubble_9 rfl ?_
  refine G_iconst (z := 0) dX12_rubble_10 rfl ?_
  refine G_putI (mem2 := (up2 mem 169 1 0)) dX12_rubble_11 fp_12_134 (by decide) sh_169 rfl ?_
  refine G_iconst (z := 0) dX12_rubble_14 rfl ?_
  refine G_istore_n dX12_rubble_15 rfl (by decide : 1 < 3) rfl ?_
  refine G_iconst (z := 0) dX12_rubble_16 rfl ?_
  refine G_istore_n dX12_rubble_17 rfl (by decide : 2 < 3) rfl ?_
  exact k1
set_option maxRecDepth 20000 in
set_option maxHeartbeats 8000000 in
theorem sg_X12_rubble_18 {E : Nat × (Nat → Int32)} {P : Option Value → Mem → Prop} {mem : Mem} {a1 : Int} {a2 : Int} (w1 : -2147483648 ≤ a2 ∧ a2 < 2147483648) (w2 : -2147483648 ≤ (mem 169 3) ∧ (mem 169 3) < 2147483648) (w3 : -2147483648 ≤ a1 ∧ a1 < 2147483648) (q4 : ¬ (mem 169 3) ≤ a2 → a1 ≠ 0 → 0 ≤ a2 ∧ a2 < 6) (q5 : ¬ (mem 169 3) ≤ a2 → a1 = 0 → 0 ≤ a2 ∧ a2 < 6) (w6 : ¬ (mem 169 3) ≤ a2 → a1 = 0 → -2147483648 ≤ (mem 203 a2) ∧ (mem 203 a2) < 2147483648) (q7 : ¬ (mem 169 3) ≤ a2 → a1 = 0 → ¬ (mem 203 a2) ≤ 0 → 0 ≤ (mem 169 1) ∧ (mem 169 1) < 24) (q8 : ¬ (mem 169 3) ≤ a2 → a1 = 0 → ¬ (mem 203 a2) ≤ 0 → 0 ≤ ((mem 169 1) + 1) ∧ ((mem 169 1) + 1) < 24) (q9 : ¬ (mem 169 3) ≤ a2 → a1 = 0 → ¬ (mem 203 a2) ≤ 0 → 0 ≤ (((mem 169 1) + 1) + 1) ∧ (((mem 169 1) + 1) + 1) < 24) (w10 : ¬ (mem 169 3) ≤ a2 → a1 = 0 → ¬ (mem 203 a2) ≤ 0 → -2147483648 ≤ (mem 204 a2) ∧ (mem 204 a2) < 2147483648) (q11 : ¬ (mem 169 3) ≤ a2 → a1 = 0 → ¬ (mem 203 a2) ≤ 0 → 0 ≤ ((((mem 169 1) + 1) + 1) + 1) ∧ ((((mem 169 1) + 1) + 1) + 1) < 24)
    (k1 : (mem 169 3) ≤ a2 → P (some (vi a1)) mem)
    (k2 : ¬ (mem 169 3) ≤ a2 → a1 ≠ 0 → GM E (m_X12_rubble 5) P 18 [.ref 169, vi (a1 + ((2 * (mem 172 a2)) * (mem 203 a2))), vi (a2 + 1)] [] mem)
    (k3 : ¬ (mem 169 3) ≤ a2 → a1 = 0 → (mem 203 a2) ≤ 0 → GM E (m_X12_rubble 5) P 18 [.ref 169, vi (a1 + ((2 * (mem 172 a2)) * (mem 203 a2))), vi (a2 + 1)] [] mem)
    (k4 : ¬ (mem 169 3) ≤ a2 → a1 = 0 → ¬ (mem 203 a2) ≤ 0 → GM E (m_X12_rubble 5) P 18 [.ref 169, vi (a1 + ((2 * (mem 172 a2)) * (mem 203 a2))), vi (a2 + 1)] [] (up2 (up2 (up2 (up2 (up2 (up2 (up2 (up2 mem 170 (mem 169 1) a2) 169 1 ((mem 169 1) + 1)) 170 ((mem 169 1) + 1) 0) 169 1 (((mem 169 1) + 1) + 1)) 170 (((mem 169 1) + 1) + 1) 0) 169 1 ((((mem 169 1) + 1) + 1) + 1)) 170 ((((mem 169 1) + 1) + 1) + 1) (mem 204 a2)) 169 1 (((((mem 169 1) + 1) + 1) + 1) + 1))) :
    GM E (m_X12_rubble 5) P 18 [.ref 169, vi a1, vi a2] [] mem := by
  refine G_iload_n dX12_rubble_18 rfl ?_
  refine G_aload_n dX12_rubble_19 rfl ?_
  refine G_getI (z := (mem 169 3)) dX12_rubble_20 fl_12_137 (by decide) sh_169 rfl ?_
  refine G_icmp_ge (tgt := 90) dX12_rubble_23 (by decide) (w1) (w2) (fun c1 => ?_) (fun c1 => ?_)
  · -- (mem 169 3) ≤ a2
    refine G_iload_n dX12_rubble_90 rfl ?_
    exact G_iret dX12_rubble_91 rfl (Nat.zero_le _) (Nat.zero_le _) (Nat.le_refl _) ⟨rfl, k1 c1⟩
  · -- ¬ (mem 169 3) ≤ a2
    refine G_iload_n dX12_rubble_26 rfl ?_
    refine G_if_ne (tgt := 66) dX12_rubble_27 (by decide) (w3) (fun c2 => ?_) (fun c2 => ?_)
    · -- a1 ≠ 0
      refine G_iload_n dX12_rubble_66 rfl ?_
      refine G_iconst (z := 2) dX12_rubble_67 rfl ?_
      refine G_aload_n dX12_rubble_68 rfl ?_
      refine G_getR (t := 172) dX12_rubble_69 fl_12_17 (by decide) sh_169 rr_169_6 ?_
      refine G_iload_n dX12_rubble_72 rfl ?_
      refine G_iald (z := (mem 172 a2)) dX12_rubble_73 (by decide) sh_172 (by decide) (q4 c1 c2).1 (q4 c1 c2).2 rfl ?_
      refine G_imul dX12_rubble_74 ?_
      refine G_aload_n dX12_rubble_75 rfl ?_
      refine G_getR (t := 203) dX12_rubble_76 fl_12_111 (by decide) sh_169 rr_169_65 ?_
      refine G_iload_n dX12_rubble_79 rfl ?_
      refine G_iald (z := (mem 203 a2)) dX12_rubble_80 (by decide) sh_203 (by decide) (q4 c1 c2).1 (q4 c1 c2).2 rfl ?_
      refine G_imul dX12_rubble_81 ?_
      refine G_iadd dX12_rubble_82 ?_
      refine G_istore_n dX12_rubble_83 rfl (by decide : 1 < 3) rfl ?_
      refine G_iinc (z := (a2 + 1)) dX12_rubble_84 rfl rfl (by decide : 2 < 3) rfl ?_
      refine G_goto (tgt := 18) dX12_rubble_87 (by decide) ?_
      exact k2 c1 c2
    · -- a1 = 0
      refine G_aload_n dX12_rubble_30 rfl ?_
      refine G_getR (t := 203) dX12_rubble_31 fl_12_111 (by decide) sh_169 rr_169_65 ?_
      refine G_iload_n dX12_rubble_34 rfl ?_
      refine G_iald (z := (mem 203 a2)) dX12_rubble_35 (by decide) sh_203 (by decide) (q5 c1 c2).1 (q5 c1 c2).2 rfl ?_
      refine G_if_le (tgt := 66) dX12_rubble_36 (by decide) (w6 c1 c2) (fun c3 => ?_) (fun c3 => ?_)
      · -- (mem 203 a2) ≤ 0
        refine G_iload_n dX12_rubble_66 rfl ?_
        refine G_iconst (z := 2) dX12_rubble_67 rfl ?_
        refine G_aload_n dX12_rubble_68 rfl ?_
        refine G_getR (t := 172) dX12_rubble_69 fl_12_17 (by decide) sh_169 rr_169_6 ?_
        refine G_iload_n dX12_rubble_72 rfl ?_
        refine G_iald (z := (mem 172 a2)) dX12_rubble_73 (by decide) sh_172 (by decide) (q5 c1 c2).1 (q5 c1 c2).2 rfl ?_
        refine G_imul dX12_rubble_74 ?_
        refine G_aload_n dX12_rubble_75 rfl ?_
        refine G_getR (t := 203) dX12_rubble_76 fl_12_111 (by decide) sh_169 rr_169_65 ?_
        refine G_iload_n dX12_rubble_79 rfl ?_
        refine G_iald (z := (mem 203 a2)) dX12_rubble_80 (by decide) sh_203 (by decide) (q5 c1 c2).1 (q5 c1 c2).2 rfl ?_
        refine G_imul dX12_rubble_81 ?_
        refine G_iadd dX12_rubble_82 ?_
        refine G_istore_n dX12_rubble_83 rfl (by decide : 1 < 3) rfl ?_
        refine G_iinc (z := (a2 + 1)) dX12_rubble_84 rfl rfl (by decide : 2 < 3) rfl ?_
        refine G_goto (tgt := 18) dX12_rubble_87 (by decide) ?_
        exact k3 c1 c2 c3
      · -- ¬ (mem 203 a2) ≤ 0
        refine G_aload_n dX12_rubble_39 rfl ?_
        refine G_iload_n dX12_rubble_40 rfl ?_
        refine G_i2l dX12_rubble_41 (w1) ?_
        refine cb_X12_rubble_42 (ic_X12_enters (z := (mem 169 1)) (z2 := ((mem 169 1) + 1)) rfl (q7 c1 c2 c3) rfl ?_)
        refine G_aload_n dX12_rubble_45 rfl ?_
        refine G_lconst (z := 0) dX12_rubble_46 rfl ?_
        refine cb_X12_rubble_47 (ic_X12_enters (z := ((mem 169 1) + 1)) (z2 := (((mem 169 1) + 1) + 1)) (by simp [up2, upr]) (q8 c1 c2 c3) rfl ?_)
        refine G_aload_n dX12_rubble_50 rfl ?_
        refine G_lconst (z := 0) dX12_rubble_51 rfl ?_
        refine cb_X12_rubble_52 (ic_X12_enters (z := (((mem 169 1) + 1) + 1)) (z2 := ((((mem 169 1) + 1) + 1) + 1)) (by simp [up2, upr]) (q9 c1 c2 c3) rfl ?_)
        refine G_aload_n dX12_rubble_55 rfl ?_
        refine G_aload_n dX12_rubble_56 rfl ?_
        refine G_getR (t := 204) dX12_rubble_57 fl_12_114 (by decide) sh_169 rr_169_66 ?_
        refine G_iload_n dX12_rubble_60 rfl ?_
        refine G_iald (z := (mem 204 a2)) dX12_rubble_61 (by decide) sh_204 (by decide) (q5 c1 c2).1 (q5 c1 c2).2 (by simp [up2, upr]) ?_
        refine G_i2l dX12_rubble_62 (w10 c1 c2 c3) ?_
        refine cb_X12_rubble_63 (ic_X12_enters (z := ((((mem 169 1) + 1) + 1) + 1)) (z2 := (((((mem 169 1) + 1) + 1) + 1) + 1)) (by simp [up2, upr]) (q11 c1 c2 c3) rfl ?_)
        refine G_iload_n dX12_rubble_66 rfl ?_
        refine G_iconst (z := 2) dX12_rubble_67 rfl ?_
        refine G_aload_n dX12_rubble_68 rfl ?_
        refine G_getR (t := 172) dX12_rubble_69 fl_12_17 (by decide) sh_169 rr_169_6 ?_
        refine G_iload_n dX12_rubble_72 rfl ?_
        refine G_iald (z := (mem 172 a2)) dX12_rubble_73 (by decide) sh_172 (by decide) (q5 c1 c2).1 (q5 c1 c2).2 (by simp [up2, upr]) ?_
        refine G_imul dX12_rubble_74 ?_
        refine G_aload_n dX12_rubble_75 rfl ?_
        refine G_getR (t := 203) dX12_rubble_76 fl_12_111 (by decide) sh_169 rr_169_65 ?_
        refine G_iload_n dX12_rubble_79 rfl ?_
        refine G_iald (z := (mem 203 a2)) dX12_rubble_80 (by decide) sh_203 (by decide) (q5 c1 c2).1 (q5 c1 c2).2 (by simp [up2, upr]) ?_
        refine G_imul dX12_rubble_81 ?_
        refine G_iadd dX12_rubble_82 ?_
        refine G_istore_n dX12_rubble_83 rfl (by decide : 1 < 3) rfl ?_
        refine G_iinc (z := (a2 + 1)) dX12_rubble_84 rfl rfl (by decide : 2 < 3) rfl ?_
        refine G_goto (tgt := 18) dX12_rubble_87 (by decide) ?_
        exact k4 c1 c2 c3
set_option maxRecDepth 20000 in
set_option maxHeartbeats 8000000 in
theorem sg_X12_rule_0 {E : Nat × (Nat → Int32)} {P : Option Value → Mem → Prop} {mem : Mem} (w1 : -2147483648 ≤ (mem 169 17) ∧ (mem 169 17) < 2147483648)
    (k1 : (mem 169 17) = 0 → GM E (m_X12_rule 201) P 40 [.ref 169, vi (mem 169 17), vi 1, un, un] [vi 1, vi 40, vi (mem 169 17), .ref 169] (up2 (up2 (up2 (up2 (up2 (up2 mem 169 0 0) 169 17 0) 169 18 0) 169 20 0) 169 19 (min (mem 169 17) 40)) 169 27 0))
    (k2 : ¬ (mem 169 17) = 0 → GM E (m_X12_rule 201) P 23 [.ref 169, vi (mem 169 17), un, un, un] [vi 0, .ref 169] (up2 (up2 (up2 (up2 (up2 (up2 mem 169 0 0) 169 17 0) 169 18 0) 169 20 0) 169 19 (min (mem 169 17) 40)) 169 27 0)) :
    GM E (m_X12_rule 201) P 0 [.ref 169, un, un, un, un] [] mem := by
  refine G_aload_n dX12_rule_0 rfl ?_
  refine G_iconst (z := 0) dX12_rule_1 rfl ?_
  refine G_putI (mem2 := (up2 mem 169 0 0)) dX12_rule_2 fp_12_126 (by decide) sh_169 rfl ?_
  refine G_aload_n dX12_rule_5 rfl ?_
  refine G_bipush (z := 40) dX12_rule_6 rfl ?_
  refine cb_X12_rule_8 (ic_X12_begins (z := (mem 169 17)) (by simp [up2, upr]) (w1) (by decide) ?_)
  refine G_istore_n dX12_rule_11 rfl (by decide : 1 < 5) rfl ?_
  refine G_aload_n dX12_rule_12 rfl ?_
  refine G_iconst (z := 0) dX12_rule_13 rfl ?_
  refine G_putI (mem2 := (up2 (up2 (up2 (up2 (up2 (up2 mem 169 0 0) 169 17 0) 169 18 0) 169 20 0) 169 19 (min (mem 169 17) 40)) 169 27 0)) dX12_rule_14 fp_12_230 (by decide) sh_169 rfl ?_
  refine G_iload_n dX12_rule_17 rfl ?_
  refine G_if_eq (tgt := 29) dX12_rule_18 (by decide) (w1) (fun c1 => ?_) (fun c1 => ?_)
  · -- (mem 169 17) = 0
    refine G_iconst (z := 1) dX12_rule_29 rfl ?_
    refine G_goto (tgt := 34) dX12_rule_30 (by decide) ?_
    refine G_istore_n dX12_rule_34 rfl (by decide : 2 < 5) rfl ?_
    refine G_aload_n dX12_rule_35 rfl ?_
    refine G_iload_n dX12_rule_36 rfl ?_
    refine G_bipush (z := 40) dX12_rule_37 rfl ?_
    refine G_iload_n dX12_rule_39 rfl ?_
    exact k1 c1
  · -- ¬ (mem 169 17) = 0
    refine G_aload_n dX12_rule_21 rfl ?_
    refine G_iconst (z := 0) dX12_rule_22 rfl ?_
    exact k2 c1
set_option maxRecDepth 20000 in
set_option maxHeartbeats 8000000 in
theorem sg_X12_rule_26 {E : Nat × (Nat → Int32)} {P : Option Value → Mem → Prop} {mem : Mem} {a1 : Int} {s0 : Int} (w1 : -2147483648 ≤ s0 ∧ s0 < 2147483648)
    (k1 : s0 = 0 → GM E (m_X12_rule 201) P 40 [.ref 169, vi a1, vi 0, un, un] [vi 0, vi 40, vi a1, .ref 169] mem)
    (k2 : ¬ s0 = 0 → GM E (m_X12_rule 201) P 40 [.ref 169, vi a1, vi 1, un, un] [vi 1, vi 40, vi a1, .ref 169] mem) :
    GM E (m_X12_rule 201) P 26 [.ref 169, vi a1, un, un, un] [vi s0] mem := by
  refine G_if_eq (tgt := 33) dX12_rule_26 (by decide) (w1) (fun c1 => ?_) (fun c1 => ?_)
  · -- s0 = 0
    refine G_iconst (z := 0) dX12_rule_33 rfl ?_
    refine G_istore_n dX12_rule_34 rfl (by decide : 2 < 5) rfl ?_
    refine G_aload_n dX12_rule_35 rfl ?_
    refine G_iload_n dX12_rule_36 rfl ?_
    refine G_bipush (z := 40) dX12_rule_37 rfl ?_
    refine G_iload_n dX12_rule_39 rfl ?_
    exact k1 c1
  · -- ¬ s0 = 0
    refine G_iconst (z := 1) dX12_rule_29 rfl ?_
    refine G_goto (tgt := 34) dX12_rule_30 (by decide) ?_
    refine G_istore_n dX12_rule_34 rfl (by decide : 2 < 5) rfl ?_
    refine G_aload_n dX12_rule_35 rfl ?_
    refine G_iload_n dX12_rule_36 rfl ?_
    refine G_bipush (z := 40) dX12_rule_37 rfl ?_
    refine G_iload_n dX12_rule_39 rfl ?_
    exact k2 c1
set_option maxRecDepth 20000 in
set_option maxHeartbeats 8000000 in
theorem sg_X12_rule_43 {E : Nat × (Nat → Int32)} {P : Option Value → Mem → Prop} {mem : Mem} {a1 : Int} {a2 : Int} {s0 : Int} (w1 : -2147483648 ≤ s0 ∧ s0 < 2147483648)
    (k1 : 0 ≤ s0 → GM E (m_X12_rule 201) P 61 [.ref 169, vi a1, vi a2, vi s0, vi 0] [] (up2 mem 169 26 (mem 169 27)))
    (k2 : ¬ 0 ≤ s0 → P (some (vi s0)) mem) :
    GM E (m_X12_rule 201) P 43 [.ref 169, vi a1, vi a2, un, un] [vi s0] mem := by
  refine G_istore_n dX12_rule_43 rfl (by decide : 3 < 5) rfl ?_
  refine G_iload_n dX12_rule_44 rfl ?_
  refine G_if_ge (tgt := 50) dX12_rule_45 (by decide) (w1) (fun c1 => ?_) (fun c1 => ?_)
  · -- 0 ≤ s0
    refine G_aload_n dX12_rule_50 rfl ?_
    refine G_aload_n dX12_rule_51 rfl ?_
    refine G_getI (z := (mem 169 27)) dX12_rule_52 fl_12_230 (by decide) sh_169 rfl ?_
    refine G_putI (mem2 := (up2 mem 169 26 (mem 169 27))) dX12_rule_55 fp_12_251 (by decide) sh_169 rfl ?_
    refine G_iconst (z := 0) dX12_rule_58 rfl ?_
    refine G_istore dX12_rule_59 (by decide : 4 < 5) rfl ?_
    exact k1 c1
  · -- ¬ 0 ≤ s0
    refine G_iload_n dX12_rule_48 rfl ?_
    exact G_iret dX12_rule_49 rfl (Nat.zero_le _) (Nat.zero_le _) (Nat.le_refl _) ⟨rfl, k2 c1⟩
set_option maxRecDepth 20000 in
set_option maxHeartbeats 8000000 in
theorem sg_X12_rule_61 {E : Nat × (Nat → Int32)} {P : Option Value → Mem → Prop} {mem : Mem} {a1 : Int} {a2 : Int} {a3 : Int} {a4 : Int} (w1 : -2147483648 ≤ a4 ∧ a4 < 2147483648) (w2 : -2147483648 ≤ (mem 169 27) ∧ (mem 169 27) < 2147483648) (q3 : ¬ (mem 169 27) ≤ a4 → 0 ≤ a4 ∧ a4 < 80)
    (k1 : (mem 169 27) ≤ a4 → P (some (vi 0)) mem)
    (k2 : ¬ (mem 169 27) ≤ a4 → GM E (m_X12_rule 201) P 61 [.ref 169, vi a1, vi a2, vi a3, vi (a4 + 1)] [] (up2 mem 185 a4 (mem 186 a4))) :
    GM E (m_X12_rule 201) P 61 [.ref 169, vi a1, vi a2, vi a3, vi a4] [] mem := by
  refine G_iload dX12_rule_61 rfl ?_
  refine G_aload_n dX12_rule_63 rfl ?_
  refine G_getI (z := (mem 169 27)) dX12_rule_64 fl_12_230 (by decide) sh_169 rfl ?_
  refine G_icmp_ge (tgt := 90) dX12_rule_67 (by decide) (w1) (w2) (fun c1 => ?_) (fun c1 => ?_)
  · -- (mem 169 27) ≤ a4
    refine G_iconst (z := 0) dX12_rule_90 rfl ?_
    exact G_iret dX12_rule_91 rfl (Nat.zero_le _) (Nat.zero_le _) (Nat.le_refl _) ⟨rfl, k1 c1⟩
  · -- ¬ (mem 169 27) ≤ a4
    refine G_aload_n dX12_rule_70 rfl ?_
    refine G_getR (t := 185) dX12_rule_71 fl_12_57 (by decide) sh_169 rr_169_24 ?_
    refine G_iload dX12_rule_74 rfl ?_
    refine G_aload_n dX12_rule_76 rfl ?_
    refine G_getR (t := 186) dX12_rule_77 fl_12_60 (by decide) sh_169 rr_169_25 ?_
    refine G_iload dX12_rule_80 rfl ?_
    refine G_iald (z := (mem 186 a4)) dX12_rule_82 (by decide) sh_186 (by decide) (q3 c1).1 (q3 c1).2 rfl ?_
    refine G_iast (mem2 := (up2 mem 185 a4 (mem 186 a4))) dX12_rule_83 (by decide) sh_185 (by decide) (q3 c1).1 (q3 c1).2 rfl ?_
    refine G_iinc (z := (a4 + 1)) dX12_rule_84 rfl rfl (by decide : 4 < 5) rfl ?_
    refine G_goto (tgt := 61) dX12_rule_87 (by decide) ?_
    exact k2 c1
set_option maxRecDepth 20000 in
set_option maxHeartbeats 8000000 in
theorem sg_X12_ruled_0 {E : Nat × (Nat → Int32)} {P : Option Value → Mem → Prop} {mem : Mem}
    (k1 : GM E (m_X12_ruled 2) P 4 [.ref 169, vi 0, vi 0, un] [] mem) :
    GM E (m_X12_ruled 2) P 0 [.ref 169, un, un, un] [] mem := by
  refine G_iconst (z := 0) dX12_ruled_0 rfl ?_
  refine G_istore_n dX12_ruled_1 rfl (by decide : 1 < 4) rfl ?_
  refine G_iconst (z := 0) dX12_ruled_2 rfl ?_
  refine G_istore_n dX12_ruled_3 rfl (by decide : 2 < 4) rfl ?_
  exact k1
set_option maxRecDepth 20000 in
set_option maxHeartbeats 8000000 in
theorem sg_X12_ruled_4 {E : Nat × (Nat → Int32)} {P : Option Value → Mem → Prop} {mem : Mem} {a1 : Int} {a2 : Int} (w1 : -2147483648 ≤ a2 ∧ a2 < 2147483648) (w2 : -2147483648 ≤ (mem 169 26) ∧ (mem 169 26) < 2147483648) (w3 : (mem 169 26) ≤ a2 → -2147483648 ≤ (if (mem 169 26) ≠ 0 then (mem 187 0) else (8 + (mem 188 0))) ∧ (if (mem 169 26) ≠ 0 then (mem 187 0) else (8 + (mem 188 0))) < 2147483648) (w4 : (mem 169 26) ≤ a2 → -2147483648 ≤ (min 999 (if (mem 169 26) ≠ 0 then (mem 187 0) else (8 + (mem 188 0)))) ∧ (min 999 (if (mem 169 26) ≠ 0 then (mem 187 0) else (8 + (mem 188 0)))) < 2147483648) (q5 : ¬ (mem 169 26) ≤ a2 → 0 ≤ a2 ∧ a2 < 80) (w6 : ¬ (mem 169 26) ≤ a2 → -2147483648 ≤ (mem 185 a2) ∧ (mem 185 a2) < 2147483648) (q7 : ¬ (mem 169 26) ≤ a2 → (mem 185 a2) ≠ 3000 → (mem 185 a2) < 2000 → ¬ (mem 185 a2) < 1000 → 0 ≤ ((mem 185 a2) - 1000) ∧ ((mem 185 a2) - 1000) < 8) (q8 : ¬ (mem 169 26) ≤ a2 → (mem 185 a2) ≠ 3000 → (mem 185 a2) < 2000 → 0 ≤ a1 ∧ a1 < 80) (q9 : ¬ (mem 169 26) ≤ a2 → (mem 185 a2) ≠ 3000 → ¬ (mem 185 a2) < 2000 → 0 ≤ ((a1 + (-1)) - 1) ∧ ((a1 + (-1)) - 1) < 80) (q10 : ¬ (mem 169 26) ≤ a2 → (mem 185 a2) ≠ 3000 → ¬ (mem 185 a2) < 2000 → 0 ≤ (a1 + (-1)) ∧ (a1 + (-1)) < 80) (q11 : ¬ (mem 169 26) ≤ a2 → (mem 185 a2) = 3000 → 0 ≤ (a1 - 1) ∧ (a1 - 1) < 80)
    (k1 : (mem 169 26) ≤ a2 → P (some (vi (max 1 (min 999 (if (mem 169 26) ≠ 0 then (mem 187 0) else (8 + (mem 188 0))))))) mem)
    (k2 : ¬ (mem 169 26) ≤ a2 → (mem 185 a2) ≠ 3000 → (mem 185 a2) < 2000 → GM E (m_X12_ruled 2) P 4 [.ref 169, vi (a1 + 1), vi (a2 + 1), un] [] (up2 mem 187 a1 (if (mem 185 a2) < 1000 then (mem 185 a2) else (mem 188 ((mem 185 a2) - 1000)))))
    (k3 : ¬ (mem 169 26) ≤ a2 → (mem 185 a2) ≠ 3000 → ¬ (mem 185 a2) < 2000 → GM E (m_X12_ruled 2) P 82 [.ref 169, vi (a1 + (-1)), vi a2, vi (mem 185 a2)] [vi (mem 187 (a1 + (-1))), vi (mem 187 ((a1 + (-1)) - 1)), vi ((mem 185 a2) - 2000), vi ((a1 + (-1)) - 1), .ref 187] mem)
    (k4 : ¬ (mem 169 26) ≤ a2 → (mem 185 a2) = 3000 → GM E (m_X12_ruled 2) P 4 [.ref 169, vi a1, vi (a2 + 1), un] [] (up2 mem 187 (a1 - 1) (-(mem 187 (a1 - 1))))) :
    GM E (m_X12_ruled 2) P 4 [.ref 169, vi a1, vi a2, un] [] mem := by
  refine G_iload_n dX12_ruled_4 rfl ?_
  refine G_aload_n dX12_ruled_5 rfl ?_
  refine G_getI (z := (mem 169 26)) dX12_ruled_6 fl_12_251 (by decide) sh_169 rfl ?_
  refine G_icmp_ge (tgt := 125) dX12_ruled_9 (by decide) (w1) (w2) (fun c1 => ?_) (fun c1 => ?_)
  · -- (mem 169 26) ≤ a2
    refine G_aload_n dX12_ruled_125 rfl ?_
    refine G_getI (z := (mem 169 26)) dX12_ruled_126 fl_12_251 (by decide) sh_169 rfl ?_
    have j1 : GM E (m_X12_ruled 2) P 150 [.ref 169, vi a1, vi a2, un] [vi (if (mem 169 26) ≠ 0 then (mem 187 0) else (8 + (mem 188 0)))] mem := by
      refine G_istore_n dX12_ruled_150 rfl (by decide : 2 < 4) rfl ?_
      refine G_iconst (z := 1) dX12_ruled_151 rfl ?_
      refine G_sipush (z := 999) dX12_ruled_152 rfl ?_
      refine G_iload_n dX12_ruled_155 rfl ?_
      refine G_min (z := (min 999 (if (mem 169 26) ≠ 0 then (mem 187 0) else (8 + (mem 188 0))))) dX12_ruled_156 ml_12_157 mw_min (by decide) (w3 c1) ⟨by show 1 ≤ 2; first | decide | omega, by show 21 ≤ 40 * 2; first | decide | omega, Nat.zero_le _, Nat.zero_le _⟩ (Nat.le_of_ble_eq_true rfl) rfl ?_
      refine G_max (z := (max 1 (min 999 (if (mem 169 26) ≠ 0 then (mem 187 0) else (8 + (mem 188 0)))))) dX12_ruled_159 ml_12_257 mw_max (by decide) (w4 c1) ⟨by show 1 ≤ 2; first | decide | omega, by show 21 ≤ 40 * 2; first | decide | omega, Nat.zero_le _, Nat.zero_le _⟩ (Nat.le_of_ble_eq_true rfl) rfl ?_
      exact G_iret dX12_ruled_162 rfl (Nat.zero_le _) (Nat.zero_le _) (Nat.le_refl _) ⟨rfl, k1 c1⟩
    refine G_if_ne (tgt := 144) dX12_ruled_129 (by decide) (w2) (fun c2 => ?_) (fun c2 => ?_)
    · -- (mem 169 26) ≠ 0
      refine G_aload_n dX12_ruled_144 rfl ?_
      refine G_getR (t := 187) dX12_ruled_145 fl_12_63 (by decide) sh_169 rr_169_28 ?_
      refine G_iconst (z := 0) dX12_ruled_148 rfl ?_
      refine G_iald (z := (mem 187 0)) dX12_ruled_149 (by decide) sh_187 (by decide) (by decide) (by decide) rfl ?_
      have qj1 := j1
      simp only [if_pos c2] at qj1
      exact qj1
    · -- (mem 169 26) = 0
      refine G_bipush (z := 8) dX12_ruled_132 rfl ?_
      refine G_aload_n dX12_ruled_134 rfl ?_
      refine G_getR (t := 188) dX12_ruled_135 fl_12_66 (by decide) sh_169 rr_169_29 ?_
      refine G_iconst (z := 0) dX12_ruled_138 rfl ?_
      refine G_iald (z := (mem 188 0)) dX12_ruled_139 (by decide) sh_188 (by decide) (by decide) (by decide) rfl ?_
      refine G_iadd dX12_ruled_140 ?_
      refine G_goto (tgt := 150) dX12_ruled_141 (by decide) ?_
      have qj1 := j1
      simp only [if_neg (show ¬ ((mem 169 26) ≠ 0) from fun q => q c2)] at qj1
      exact qj1
  · -- ¬ (mem 169 26) ≤ a2
    refine G_aload_n dX12_ruled_12 rfl ?_
    refine G_getR (t := 185) dX12_ruled_13 fl_12_57 (by decide) sh_169 rr_169_24 ?_
    refine G_iload_n dX12_ruled_16 rfl ?_
    refine G_iald (z := (mem 185 a2)) dX12_ruled_17 (by decide) sh_185 (by decide) (q5 c1).1 (q5 c1).2 rfl ?_
    refine G_istore_n dX12_ruled_18 rfl (by decide : 3 < 4) rfl ?_
    refine G_iload_n dX12_ruled_19 rfl ?_
    refine G_sipush (z := 3000) dX12_ruled_20 rfl ?_
    refine G_icmp_ne (tgt := 46) dX12_ruled_23 (by decide) (w6 c1) (by decide) (fun c3 => ?_) (fun c3 => ?_)
    · -- (mem 185 a2) ≠ 3000
      refine G_iload_n dX12_ruled_46 rfl ?_
      refine G_sipush (z := 2000) dX12_ruled_47 rfl ?_
      refine G_icmp_lt (tgt := 89) dX12_ruled_50 (by decide) (w6 c1) (by decide) (fun c4 => ?_) (fun c4 => ?_)
      · -- (mem 185 a2) < 2000
        refine G_aload_n dX12_ruled_89 rfl ?_
        refine G_getR (t := 187) dX12_ruled_90 fl_12_63 (by decide) sh_169 rr_169_28 ?_
        refine G_iload_n dX12_ruled_93 rfl ?_
        refine G_iload_n dX12_ruled_94 rfl ?_
        refine G_sipush (z := 1000) dX12_ruled_95 rfl ?_
        have j2 : GM E (m_X12_ruled 2) P 115 [.ref 169, vi a1, vi a2, vi (mem 185 a2)] [vi (if (mem 185 a2) < 1000 then (mem 185 a2) else (mem 188 ((mem 185 a2) - 1000))), vi a1, .ref 187] mem := by
          refine G_iast (mem2 := (up2 mem 187 a1 (if (mem 185 a2) < 1000 then (mem 185 a2) else (mem 188 ((mem 185 a2) - 1000))))) dX12_ruled_115 (by decide) sh_187 (by decide) (q8 c1 c3 c4).1 (q8 c1 c3 c4).2 rfl ?_
          refine G_iinc (z := (a1 + 1)) dX12_ruled_116 rfl rfl (by decide : 1 < 4) rfl ?_
          refine G_iinc (z := (a2 + 1)) dX12_ruled_119 rfl rfl (by decide : 2 < 4) rfl ?_
          refine G_goto (tgt := 4) dX12_ruled_122 (by decide) ?_
          refine G_weak (lv2 := [.ref 169, vi (a1 + 1), vi (a2 + 1), un]) ⟨Or.inr rfl, Or.inr rfl, Or.inr rfl, Or.inl rfl, trivial⟩ ?_
          exact k2 c1 c3 c4
        refine G_icmp_lt (tgt := 114) dX12_ruled_98 (by decide) (w6 c1) (by decide) (fun c5 => ?_) (fun c5 => ?_)
        · -- (mem 185 a2) < 1000
          refine G_iload_n dX12_ruled_114 rfl ?_
          have qj2 := j2
          simp only [if_pos c5] at qj2
          exact qj2
        · -- ¬ (mem 185 a2) < 1000
          refine G_aload_n dX12_ruled_101 rfl ?_
          refine G_getR (t := 188) dX12_ruled_102 fl_12_66 (by decide) sh_169 rr_169_29 ?_
          refine G_iload_n dX12_ruled_105 rfl ?_
          refine G_sipush (z := 1000) dX12_ruled_106 rfl ?_
          refine G_isub dX12_ruled_109 ?_
          refine G_iald (z := (mem 188 ((mem 185 a2) - 1000))) dX12_ruled_110 (by decide) sh_188 (by decide) (q7 c1 c3 c4 c5).1 (q7 c1 c3 c4 c5).2 rfl ?_
          refine G_goto (tgt := 115) dX12_ruled_111 (by decide) ?_
          have qj2 := j2
          simp only [if_neg c5] at qj2
          exact qj2
      · -- ¬ (mem 185 a2) < 2000
        refine G_iinc (z := (a1 + (-1))) dX12_ruled_53 rfl rfl (by decide : 1 < 4) rfl ?_
        refine G_aload_n dX12_ruled_56 rfl ?_
        refine G_getR (t := 187) dX12_ruled_57 fl_12_63 (by decide) sh_169 rr_169_28 ?_
        refine G_iload_n dX12_ruled_60 rfl ?_
        refine G_iconst (z := 1) dX12_ruled_61 rfl ?_
        refine G_isub dX12_ruled_62 ?_
        refine G_iload_n dX12_ruled_63 rfl ?_
        refine G_sipush (z := 2000) dX12_ruled_64 rfl ?_
        refine G_isub dX12_ruled_67 ?_
        refine G_aload_n dX12_ruled_68 rfl ?_
        refine G_getR (t := 187) dX12_ruled_69 fl_12_63 (by decide) sh_169 rr_169_28 ?_
        refine G_iload_n dX12_ruled_72 rfl ?_
        refine G_iconst (z := 1) dX12_ruled_73 rfl ?_
        refine G_isub dX12_ruled_74 ?_
        refine G_iald (z := (mem 187 ((a1 + (-1)) - 1))) dX12_ruled_75 (by decide) sh_187 (by decide) (q9 c1 c3 c4).1 (q9 c1 c3 c4).2 rfl ?_
        refine G_aload_n dX12_ruled_76 rfl ?_
        refine G_getR (t := 187) dX12_ruled_77 fl_12_63 (by decide) sh_169 rr_169_28 ?_
        refine G_iload_n dX12_ruled_80 rfl ?_
        refine G_iald (z := (mem 187 (a1 + (-1)))) dX12_ruled_81 (by decide) sh_187 (by decide) (q10 c1 c3 c4).1 (q10 c1 c3 c4).2 rfl ?_
        exact k3 c1 c3 c4
    · -- (mem 185 a2) = 3000
      refine G_aload_n dX12_ruled_26 rfl ?_
      refine G_getR (t := 187) dX12_ruled_27 fl_12_63 (by decide) sh_169 rr_169_28 ?_
      refine G_iload_n dX12_ruled_30 rfl ?_
      refine G_iconst (z := 1) dX12_ruled_31 rfl ?_
      refine G_isub dX12_ruled_32 ?_
      refine G_aload_n dX12_ruled_33 rfl ?_
      refine G_getR (t := 187) dX12_ruled_34 fl_12_63 (by decide) sh_169 rr_169_28 ?_
      refine G_iload_n dX12_ruled_37 rfl ?_
      refine G_iconst (z := 1) dX12_ruled_38 rfl ?_
      refine G_isub dX12_ruled_39 ?_
      refine G_iald (z := (mem 187 (a1 - 1))) dX12_ruled_40 (by decide) sh_187 (by decide) (q11 c1 c3).1 (q11 c1 c3).2 rfl ?_
      refine G_ineg dX12_ruled_41 ?_
      refine G_iast (mem2 := (up2 mem 187 (a1 - 1) (-(mem 187 (a1 - 1))))) dX12_ruled_42 (by decide) sh_187 (by decide) (q11 c1 c3).1 (q11 c1 c3).2 rfl ?_
      refine G_goto (tgt := 119) dX12_ruled_43 (by decide) ?_
      refine G_iinc (z := (a2 + 1)) dX12_ruled_119 rfl rfl (by decide : 2 < 4) rfl ?_
      refine G_goto (tgt := 4) dX12_ruled_122 (by decide) ?_
      refine G_weak (lv2 := [.ref 169, vi a1, vi (a2 + 1), un]) ⟨Or.inr rfl, Or.inr rfl, Or.inr rfl, Or.inl rfl, trivial⟩ ?_
      exact k4 c1 c3
set_option maxRecDepth 20000 in
set_option maxHeartbeats 8000000 in
theorem sg_X12_ruled_85 {E : Nat × (Nat → Int32)} {P : Option Value → Mem → Prop} {mem : Mem} {a1 : Int} {a2 : Int} {a3 : Int} {s0 : Int} {s1 : Int} (q1 : 0 ≤ s1 ∧ s1 < 80)
    (k1 : GM E (m_X12_ruled 2) P 4 [.ref 169, vi a1, vi (a2 + 1), un] [] (up2 mem 187 s1 s0)) :
    GM E (m_X12_ruled 2) P 85 [.ref 169, vi a1, vi a2, vi a3] [vi s0, vi s1, .ref 187] mem := by
  refine G_iast (mem2 := (up2 mem 187 s1 s0)) dX12_ruled_85 (by decide) sh_187 (by decide) (q1).1 (q1).2 rfl ?_
  refine G_goto (tgt := 119) dX12_ruled_86 (by decide) ?_
  refine G_iinc (z := (a2 + 1)) dX12_ruled_119 rfl rfl (by decide : 2 < 4) rfl ?_
  refine G_goto (tgt := 4) dX12_ruled_122 (by decide) ?_
  refine G_weak (lv2 := [.ref 169, vi a1, vi (a2 + 1), un]) ⟨Or.inr rfl, Or.inr rfl, Or.inr rfl, Or.inl rfl, trivial⟩ ?_
  exact k1
set_option maxRecDepth 20000 in
set_option maxHeartbeats 8000000 in
theorem sg_X12_secondsOf_0 {E : Nat × (Nat → Int32)} {P : Option Value → Mem → Prop} {mem : Mem} {a1 : Int} {a2 : Int} {a3 : Int} {a4 : Int} (q1 : 0 ≤ (((16 * a1) + (8 * a2)) + a3) ∧ (((16 * a1) + (8 * a2)) + a3) < 96)
    (k1 : GM E (m_X12_secondsOf 3) P 80 [.ref 169, vi a1, vi a2, vi a3, vi a4] [.ref 169] (up2 (up2 (up2 (up2 (up2 (up2 (up2 (up2 mem 188 0 (divI (((mem 178 (((16 * a1) + (8 * a2)) + a3)) * (mem 179 3)) * (10 + (mem 179 2))) 10)) 188 1 a3) 188 2 a2) 188 3 (mem 169 31)) 188 4 (mem 169 30)) 188 5 (mem 179 2)) 188 6 a4) 188 7 a1)) :
    GM E (m_X12_secondsOf 3) P 0 [.ref 169, vi a1, vi a2, vi a3, vi a4] [] mem := by
  refine G_aload_n dX12_secondsOf_0 rfl ?_
  refine G_getR (t := 188) dX12_secondsOf_1 fl_12_66 (by decide) sh_169 rr_169_29 ?_
  refine G_iconst (z := 0) dX12_secondsOf_4 rfl ?_
  refine G_aload_n dX12_secondsOf_5 rfl ?_
  refine G_iload_n dX12_secondsOf_6 rfl ?_
  refine G_iload_n dX12_secondsOf_7 rfl ?_
  refine G_iload_n dX12_secondsOf_8 rfl ?_
  refine cb_X12_secondsOf_9 (ic_X12_at ?_)
  refine cb_X12_secondsOf_12 (ic_X12_heavy (w := (mem 178 (((16 * a1) + (8 * a2)) + a3))) (z := (mem 179 3)) (r := (mem 179 2)) ⟨(q1).1, (q1).2⟩ rfl rfl rfl ?_)
  refine G_iast (mem2 := (up2 mem 188 0 (divI (((mem 178 (((16 * a1) + (8 * a2)) + a3)) * (mem 179 3)) * (10 + (mem 179 2))) 10))) dX12_secondsOf_15 (by decide) sh_188 (by decide) (by decide) (by decide) rfl ?_
  refine G_aload_n dX12_secondsOf_16 rfl ?_
  refine G_getR (t := 188) dX12_secondsOf_17 fl_12_66 (by decide) sh_169 rr_169_29 ?_
  refine G_iconst (z := 1) dX12_secondsOf_20 rfl ?_
  refine G_iload_n dX12_secondsOf_21 rfl ?_
  refine G_iast (mem2 := (up2 (up2 mem 188 0 (divI (((mem 178 (((16 * a1) + (8 * a2)) + a3)) * (mem 179 3)) * (10 + (mem 179 2))) 10)) 188 1 a3)) dX12_secondsOf_22 (by decide) sh_188 (by decide) (by decide) (by decide) rfl ?_
  refine G_aload_n dX12_secondsOf_23 rfl ?_
  refine G_getR (t := 188) dX12_secondsOf_24 fl_12_66 (by decide) sh_169 rr_169_29 ?_
  refine G_iconst (z := 2) dX12_secondsOf_27 rfl ?_
  refine G_iload_n dX12_secondsOf_28 rfl ?_
  refine G_iast (mem2 := (up2 (up2 (up2 mem 188 0 (divI (((mem 178 (((16 * a1) + (8 * a2)) + a3)) * (mem 179 3)) * (10 + (mem 179 2))) 10)) 188 1 a3) 188 2 a2)) dX12_secondsOf_29 (by decide) sh_188 (by decide) (by decide) (by decide) rfl ?_
  refine G_aload_n dX12_secondsOf_30 rfl ?_
  refine G_getR (t := 188) dX12_secondsOf_31 fl_12_66 (by decide) sh_169 rr_169_29 ?_
  refine G_iconst (z := 3) dX12_secondsOf_34 rfl ?_
  refine G_aload_n dX12_secondsOf_35 rfl ?_
  refine G_getI (z := (mem 169 31)) dX12_secondsOf_36 fl_12_266 (by decide) sh_169 (by simp [up2, upr]) ?_
  refine G_iast (mem2 := (up2 (up2 (up2 (up2 mem 188 0 (divI (((mem 178 (((16 * a1) + (8 * a2)) + a3)) * (mem 179 3)) * (10 + (mem 179 2))) 10)) 188 1 a3) 188 2 a2) 188 3 (mem 169 31))) dX12_secondsOf_39 (by decide) sh_188 (by decide) (by decide) (by decide) rfl ?_
  refine G_aload_n dX12_secondsOf_40 rfl ?_
  refine G_getR (t := 188) dX12_secondsOf_41 fl_12_66 (by decide) sh_169 rr_169_29 ?_
  refine G_iconst (z := 4) dX12_secondsOf_44 rfl ?_
  refine G_aload_n dX12_secondsOf_45 rfl ?_
  refine G_getI (z := (mem 169 30)) dX12_secondsOf_46 fl_12_269 (by decide) sh_169 (by simp [up2, upr]) ?_
  refine G_iast (mem2 := (up2 (up2 (up2 (up2 (up2 mem 188 0 (divI (((mem 178 (((16 * a1) + (8 * a2)) + a3)) * (mem 179 3)) * (10 + (mem 179 2))) 10)) 188 1 a3) 188 2 a2) 188 3 (mem 169 31)) 188 4 (mem 169 30))) dX12_secondsOf_49 (by decide) sh_188 (by decide) (by decide) (by decide) rfl ?_
  refine G_aload_n dX12_secondsOf_50 rfl ?_
  refine G_getR (t := 188) dX12_secondsOf_51 fl_12_66 (by decide) sh_169 rr_169_29 ?_
  refine G_iconst (z := 5) dX12_secondsOf_54 rfl ?_
  refine G_aload_n dX12_secondsOf_55 rfl ?_
  refine G_getR (t := 179) dX12_secondsOf_56 fl_12_39 (by decide) sh_169 rr_169_13 ?_
  refine G_iconst (z := 2) dX12_secondsOf_59 rfl ?_
  refine G_iald (z := (mem 179 2)) dX12_secondsOf_60 (by decide) sh_179 (by decide) (by decide) (by decide) (by simp [up2, upr]) ?_
  refine G_iast (mem2 := (up2 (up2 (up2 (up2 (up2 (up2 mem 188 0 (divI (((mem 178 (((16 * a1) + (8 * a2)) + a3)) * (mem 179 3)) * (10 + (mem 179 2))) 10)) 188 1 a3) 188 2 a2) 188 3 (mem 169 31)) 188 4 (mem 169 30)) 188 5 (mem 179 2))) dX12_secondsOf_61 (by decide) sh_188 (by decide) (by decide) (by decide) rfl ?_
  refine G_aload_n dX12_secondsOf_62 rfl ?_
  refine G_getR (t := 188) dX12_secondsOf_63 fl_12_66 (by decide) sh_169 rr_169_29 ?_
  refine G_bipush (z := 6) dX12_secondsOf_66 rfl ?_
  refine G_iload dX12_secondsOf_68 rfl ?_
  refine G_iast (mem2 := (up2 (up2 (up2 (up2 (up2 (up2 (up2 mem 188 0 (divI (((mem 178 (((16 * a1) + (8 * a2)) + a3)) * (mem 179 3)) * (10 + (mem 179 2))) 10)) 188 1 a3) 188 2 a2) 188 3 (mem 169 31)) 188 4 (mem 169 30)) 188 5 (mem 179 2)) 188 6 a4)) dX12_secondsOf_70 (by decide) sh_188 (by decide) (by decide) (by decide) rfl ?_
  refine G_aload_n dX12_secondsOf_71 rfl ?_
  refine G_getR (t := 188) dX12_secondsOf_72 fl_12_66 (by decide) sh_169 rr_169_29 ?_
  refine G_bipush (z := 7) dX12_secondsOf_75 rfl ?_
  refine G_iload_n dX12_secondsOf_77 rfl ?_
  refine G_iast (mem2 := (up2 (up2 (up2 (up2 (up2 (up2 (up2 (up2 mem 188 0 (divI (((mem 178 (((16 * a1) + (8 * a2)) + a3)) * (mem 179 3)) * (10 + (mem 179 2))) 10)) 188 1 a3) 188 2 a2) 188 3 (mem 169 31)) 188 4 (mem 169 30)) 188 5 (mem 179 2)) 188 6 a4) 188 7 a1)) dX12_secondsOf_78 (by decide) sh_188 (by decide) (by decide) (by decide) rfl ?_
  refine G_aload_n dX12_secondsOf_79 rfl ?_
  exact k1
set_option maxRecDepth 20000 in
set_option maxHeartbeats 8000000 in
theorem sg_X12_secondsOf_83 {E : Nat × (Nat → Int32)} {P : Option Value → Mem → Prop} {mem : Mem} {a1 : Int} {a2 : Int} {a3 : Int} {a4 : Int} {s0 : Int}
    (k1 : P (some (vi s0)) mem) :
    GM E (m_X12_secondsOf 3) P 83 [.ref 169, vi a1, vi a2, vi a3, vi a4] [vi s0] mem := by
  exact G_iret dX12_secondsOf_83 rfl (Nat.zero_le _) (Nat.zero_le _) (Nat.le_refl _) ⟨rfl, k1⟩
set_option maxRecDepth 20000 in
set_option maxHeartbeats 8000000 in
theorem sg_X12_set_0 {E : Nat × (Nat → Int32)} {P : Option Value → Mem → Prop} {mem : Mem} {a1 : Int} {a2 : Int} (w1 : -2147483648 ≤ a1 ∧ a1 < 2147483648) (w2 : -9223372036854775808 ≤ a1 ∧ a1 < 9223372036854775808) (w3 : 0 ≤ a1 ∧ a1 ≤ 6 → a1 = 0 → -2147483648 ≤ (mem 180 96) ∧ (mem 180 96) < 2147483648) (w4 : -2147483648 ≤ a2 ∧ a2 < 2147483648) (w5 : 0 ≤ a1 ∧ a1 ≤ 6 → -2147483648 ≤ (if a1 ≠ 0 then (if a1 = 1 then (1 : Int) else (if a1 = 3 then (1 : Int) else (if a1 ≠ 4 then (0 : Int) else (1 : Int)))) else (max 1 (mem 180 96))) ∧ (if a1 ≠ 0 then (if a1 = 1 then (1 : Int) else (if a1 = 3 then (1 : Int) else (if a1 ≠ 4 then (0 : Int) else (1 : Int)))) else (max 1 (mem 180 96))) < 2147483648) (w6 : 0 ≤ a1 ∧ a1 ≤ 6 → -2147483648 ≤ (if a1 = 0 then (999 : Int) else (if a1 ≠ 6 then (if a1 ≠ 1 then (if a1 ≠ 2 then (if a1 ≠ 3 then (99 : Int) else (2 : Int)) else (9 : Int)) else (4 : Int)) else (999 : Int))) ∧ (if a1 = 0 then (999 : Int) else (if a1 ≠ 6 then (if a1 ≠ 1 then (if a1 ≠ 2 then (if a1 ≠ 3 then (99 : Int) else (2 : Int)) else (9 : Int)) else (4 : Int)) else (999 : Int))) < 2147483648) (w7 : -9223372036854775808 ≤ a2 ∧ a2 < 9223372036854775808) (w8 : 0 ≤ a1 ∧ a1 ≤ 6 → -9223372036854775808 ≤ (if a1 ≠ 0 then (if a1 = 1 then (1 : Int) else (if a1 = 3 then (1 : Int) else (if a1 ≠ 4 then (0 : Int) else (1 : Int)))) else (max 1 (mem 180 96))) ∧ (if a1 ≠ 0 then (if a1 = 1 then (1 : Int) else (if a1 = 3 then (1 : Int) else (if a1 ≠ 4 then (0 : Int) else (1 : Int)))) else (max 1 (mem 180 96))) < 9223372036854775808) (w9 : 0 ≤ a1 ∧ a1 ≤ 6 → -9223372036854775808 ≤ (if a1 = 0 then (999 : Int) else (if a1 ≠ 6 then (if a1 ≠ 1 then (if a1 ≠ 2 then (if a1 ≠ 3 then (99 : Int) else (2 : Int)) else (9 : Int)) else (4 : Int)) else (999 : Int))) ∧ (if a1 = 0 then (999 : Int) else (if a1 ≠ 6 then (if a1 ≠ 1 then (if a1 ≠ 2 then (if a1 ≠ 3 then (99 : Int) else (2 : Int)) else (9 : Int)) else (4 : Int)) else (999 : Int))) < 9223372036854775808) (q10 : 0 ≤ a1 ∧ a1 ≤ 6 → (if a1 ≠ 0 then (if a1 = 1 then (1 : Int) else (if a1 = 3 then (1 : Int) else (if a1 ≠ 4 then (0 : Int) else (1 : Int)))) else (max 1 (mem 180 96))) ≤ a2 ∧ a2 ≤ (if a1 = 0 then (999 : Int) else (if a1 ≠ 6 then (if a1 ≠ 1 then (if a1 ≠ 2 then (if a1 ≠ 3 then (99 : Int) else (2 : Int)) else (9 : Int)) else (4 : Int)) else (999 : Int))) → 0 ≤ a1 ∧ a1 < 7)
    (k1 : 0 ≤ a1 ∧ a1 ≤ 6 → (if a1 ≠ 0 then (if a1 = 1 then (1 : Int) else (if a1 = 3 then (1 : Int) else (if a1 ≠ 4 then (0 : Int) else (1 : Int)))) else (max 1 (mem 180 96))) ≤ a2 ∧ a2 ≤ (if a1 = 0 then (999 : Int) else (if a1 ≠ 6 then (if a1 ≠ 1 then (if a1 ≠ 2 then (if a1 ≠ 3 then (99 : Int) else (2 : Int)) else (9 : Int)) else (4 : Int)) else (999 : Int))) → P (some (vi (mem 179 a1))) (up2 (up2 mem 169 0 0) 179 a1 a2))
    (k2 : 0 ≤ a1 ∧ a1 ≤ 6 → ¬ ((if a1 ≠ 0 then (if a1 = 1 then (1 : Int) else (if a1 = 3 then (1 : Int) else (if a1 ≠ 4 then (0 : Int) else (1 : Int)))) else (max 1 (mem 180 96))) ≤ a2 ∧ a2 ≤ (if a1 = 0 then (999 : Int) else (if a1 ≠ 6 then (if a1 ≠ 1 then (if a1 ≠ 2 then (if a1 ≠ 3 then (99 : Int) else (2 : Int)) else (9 : Int)) else (4 : Int)) else (999 : Int)))) → P (some (vi (-1))) (up2 mem 169 0 0))
    (k3 : ¬ (0 ≤ a1 ∧ a1 ≤ 6) → P (some (vi (-1))) (up2 mem 169 0 0)) :
    GM E (m_X12_set 1) P 0 [.ref 169, vi a1, vi a2, un, un, un] [] mem := by
  refine G_aload_n dX12_set_0 rfl ?_
  refine G_iconst (z := 0) dX12_set_1 rfl ?_
  refine G_putI (mem2 := (up2 mem 169 0 0)) dX12_set_2 fp_12_126 (by decide) sh_169 rfl ?_
  refine G_iload_n dX12_set_5 rfl ?_
  refine G_i2l dX12_set_6 (w1) ?_
  refine G_lconst (z := 0) dX12_set_7 rfl ?_
  refine G_ldc2 (z := 6) dX12_set_8 kc_12_338 ?_
  refine cb_X12_set_11 (ic_X12_in (w2) (by decide) (by decide) (fun c1 => ?_) (fun c2 => ?_))
  · -- 0 ≤ a1 ∧ a1 ≤ 6
    refine G_if_ne (tgt := 19) dX12_set_14 (by decide) (by decide) (fun _ => ?_) (fun h => absurd h (by decide))
    refine G_iload_n dX12_set_19 rfl ?_
    have j1 : GM E (m_X12_set 1) P 57 [.ref 169, vi a1, vi a2, un, un, un] [vi (if a1 ≠ 0 then (if a1 = 1 then (1 : Int) else (if a1 = 3 then (1 : Int) else (if a1 ≠ 4 then (0 : Int) else (1 : Int)))) else (max 1 (mem 180 96)))] (up2 mem 169 0 0) := by
      refine G_istore_n dX12_set_57 rfl (by decide : 3 < 6) rfl ?_
      refine G_iload_n dX12_set_58 rfl ?_
      have j5 : GM E (m_X12_set 1) P 104 [.ref 169, vi a1, vi a2, vi (if a1 ≠ 0 then (if a1 = 1 then (1 : Int) else (if a1 = 3 then (1 : Int) else (if a1 ≠ 4 then (0 : Int) else (1 : Int)))) else (max 1 (mem 180 96))), un, un] [vi (if a1 = 0 then (999 : Int) else (if a1 ≠ 6 then (if a1 ≠ 1 then (if a1 ≠ 2 then (if a1 ≠ 3 then (99 : Int) else (2 : Int)) else (9 : Int)) else (4 : Int)) else (999 : Int)))] (up2 mem 169 0 0) := by
        refine G_istore dX12_set_104 (by decide : 4 < 6) rfl ?_
        refine G_iload_n dX12_set_106 rfl ?_
        refine G_i2l dX12_set_107 (w4) ?_
        refine G_iload_n dX12_set_108 rfl ?_
        refine G_i2l dX12_set_109 (w5 c1) ?_
        refine G_iload dX12_set_110 rfl ?_
        refine G_i2l dX12_set_112 (w6 c1) ?_
        refine cb_X12_set_113 (ic_X12_in (w7) (w8 c1) (w9 c1) (fun c12 => ?_) (fun c13 => ?_))
        · -- (if a1 ≠ 0 then (if a1 = 1 then (1 : Int) else (if a1 = 3 then (1 : Int) else (if a1 ≠ 4 then (0 : Int) else (1 : Int)))) else (max 1 (mem 180 96))) ≤ a2 ∧ a2 ≤ (if a1 = 0 then (999 : Int) else (if a1 ≠ 6 then (if a1 ≠ 1 then (if a1 ≠ 2 then (if a1 ≠ 3 then (99 : Int) else (2 : Int)) else (9 : Int)) else (4 : Int)) else (999 : Int)))
          refine G_if_ne (tgt := 121) dX12_set_116 (by decide) (by decide) (fun _ => ?_) (fun h => absurd h (by decide))
          refine G_aload_n dX12_set_121 rfl ?_
          refine G_getR (t := 179) dX12_set_122 fl_12_39 (by decide) sh_169 rr_169_13 ?_
          refine G_iload_n dX12_set_125 rfl ?_
          refine G_iald (z := (mem 179 a1)) dX12_set_126 (by decide) sh_179 (by decide) (q10 c1 c12).1 (q10 c1 c12).2 (by simp [up2, upr]) ?_
          refine G_istore dX12_set_127 (by decide : 5 < 6) rfl ?_
          refine G_aload_n dX12_set_129 rfl ?_
          refine G_getR (t := 179) dX12_set_130 fl_12_39 (by decide) sh_169 rr_169_13 ?_
          refine G_iload_n dX12_set_133 rfl ?_
          refine G_iload_n dX12_set_134 rfl ?_
          refine G_iast (mem2 := (up2 (up2 mem 169 0 0) 179 a1 a2)) dX12_set_135 (by decide) sh_179 (by decide) (q10 c1 c12).1 (q10 c1 c12).2 rfl ?_
          refine G_iload dX12_set_136 rfl ?_
          exact G_iret dX12_set_138 rfl (Nat.zero_le _) (Nat.zero_le _) (Nat.le_refl _) ⟨rfl, k1 c1 c12⟩
        · -- ¬ ((if a1 ≠ 0 then (if a1 = 1 then (1 : Int) else (if a1 = 3 then (1 : Int) else (if a1 ≠ 4 then (0 : Int) else (1 : Int)))) else (max 1 (mem 180 96))) ≤ a2 ∧ a2 ≤ (if a1 = 0 then (999 : Int) else (if a1 ≠ 6 then (if a1 ≠ 1 then (if a1 ≠ 2 then (if a1 ≠ 3 then (99 : Int) else (2 : Int)) else (9 : Int)) else (4 : Int)) else (999 : Int))))
          refine G_if_ne (tgt := 121) dX12_set_116 (by decide) (by decide) (fun h => absurd h (by decide)) (fun _ => ?_)
          refine G_iconst (z := (-1)) dX12_set_119 rfl ?_
          exact G_iret dX12_set_120 rfl (Nat.zero_le _) (Nat.zero_le _) (Nat.le_refl _) ⟨rfl, k2 c1 c13⟩
      refine G_if_eq (tgt := 68) dX12_set_59 (by decide) (w1) (fun c7 => ?_) (fun c7 => ?_)
      · -- a1 = 0
        refine G_sipush (z := 999) dX12_set_68 rfl ?_
        refine G_goto (tgt := 104) dX12_set_71 (by decide) ?_
        have qj5 := j5
        simp only [if_pos c7] at qj5
        exact qj5
      · -- ¬ a1 = 0
        refine G_iload_n dX12_set_62 rfl ?_
        refine G_bipush (z := 6) dX12_set_63 rfl ?_
        have j6 : GM E (m_X12_set 1) P 104 [.ref 169, vi a1, vi a2, vi (if a1 ≠ 0 then (if a1 = 1 then (1 : Int) else (if a1 = 3 then (1 : Int) else (if a1 ≠ 4 then (0 : Int) else (1 : Int)))) else (max 1 (mem 180 96))), un, un] [vi (if a1 ≠ 6 then (if a1 ≠ 1 then (if a1 ≠ 2 then (if a1 ≠ 3 then (99 : Int) else (2 : Int)) else (9 : Int)) else (4 : Int)) else (999 : Int))] (up2 mem 169 0 0) := by
          have qj5 := j5
          simp only [if_neg c7] at qj5
          exact qj5
        refine G_icmp_ne (tgt := 74) dX12_set_65 (by decide) (w1) (by decide) (fun c8 => ?_) (fun c8 => ?_)
        · -- a1 ≠ 6
          refine G_iload_n dX12_set_74 rfl ?_
          refine G_iconst (z := 1) dX12_set_75 rfl ?_
          have j7 : GM E (m_X12_set 1) P 104 [.ref 169, vi a1, vi a2, vi (if a1 ≠ 0 then (if a1 = 1 then (1 : Int) else (if a1 = 3 then (1 : Int) else (if a1 ≠ 4 then (0 : Int) else (1 : Int)))) else (max 1 (mem 180 96))), un, un] [vi (if a1 ≠ 1 then (if a1 ≠ 2 then (if a1 ≠ 3 then (99 : Int) else (2 : Int)) else (9 : Int)) else (4 : Int))] (up2 mem 169 0 0) := by
            have qj6 := j6
            simp only [if_pos c8] at qj6
            exact qj6
          refine G_icmp_ne (tgt := 83) dX12_set_76 (by decide) (w1) (by decide) (fun c9 => ?_) (fun c9 => ?_)
          · -- a1 ≠ 1
            refine G_iload_n dX12_set_83 rfl ?_
            refine G_iconst (z := 2) dX12_set_84 rfl ?_
            have j8 : GM E (m_X12_set 1) P 104 [.ref 169, vi a1, vi a2, vi (if a1 ≠ 0 then (if a1 = 1 then (1 : Int) else (if a1 = 3 then (1 : Int) else (if a1 ≠ 4 then (0 : Int) else (1 : Int)))) else (max 1 (mem 180 96))), un, un] [vi (if a1 ≠ 2 then (if a1 ≠ 3 then (99 : Int) else (2 : Int)) else (9 : Int))] (up2 mem 169 0 0) := by
              have qj7 := j7
              simp only [if_pos c9] at qj7
              exact qj7
            refine G_icmp_ne (tgt := 93) dX12_set_85 (by decide) (w1) (by decide) (fun c10 => ?_) (fun c10 => ?_)
            · -- a1 ≠ 2
              refine G_iload_n dX12_set_93 rfl ?_
              refine G_iconst (z := 3) dX12_set_94 rfl ?_
              have j9 : GM E (m_X12_set 1) P 104 [.ref 169, vi a1, vi a2, vi (if a1 ≠ 0 then (if a1 = 1 then (1 : Int) else (if a1 = 3 then (1 : Int) else (if a1 ≠ 4 then (0 : Int) else (1 : Int)))) else (max 1 (mem 180 96))), un, un] [vi (if a1 ≠ 3 then (99 : Int) else (2 : Int))] (up2 mem 169 0 0) := by
                have qj8 := j8
                simp only [if_pos c10] at qj8
                exact qj8
              refine G_icmp_ne (tgt := 102) dX12_set_95 (by decide) (w1) (by decide) (fun c11 => ?_) (fun c11 => ?_)
              · -- a1 ≠ 3
                refine G_bipush (z := 99) dX12_set_102 rfl ?_
                have qj9 := j9
                simp only [if_pos c11] at qj9
                exact qj9
              · -- a1 = 3
                refine G_iconst (z := 2) dX12_set_98 rfl ?_
                refine G_goto (tgt := 104) dX12_set_99 (by decide) ?_
                have qj9 := j9
                simp only [if_neg (show ¬ (a1 ≠ 3) from fun q => q c11)] at qj9
                exact qj9
            · -- a1 = 2
              refine G_bipush (z := 9) dX12_set_88 rfl ?_
              refine G_goto (tgt := 104) dX12_set_90 (by decide) ?_
              have qj8 := j8
              simp only [if_neg (show ¬ (a1 ≠ 2) from fun q => q c10)] at qj8
              exact qj8
          · -- a1 = 1
            refine G_iconst (z := 4) dX12_set_79 rfl ?_
            refine G_goto (tgt := 104) dX12_set_80 (by decide) ?_
            have qj7 := j7
            simp only [if_neg (show ¬ (a1 ≠ 1) from fun q => q c9)] at qj7
            exact qj7
        · -- a1 = 6
          refine G_sipush (z := 999) dX12_set_68 rfl ?_
          refine G_goto (tgt := 104) dX12_set_71 (by decide) ?_
          have qj6 := j6
          simp only [if_neg (show ¬ (a1 ≠ 6) from fun q => q c8)] at qj6
          exact qj6
    refine G_if_ne (tgt := 37) dX12_set_20 (by decide) (w1) (fun c3 => ?_) (fun c3 => ?_)
    · -- a1 ≠ 0
      refine G_iload_n dX12_set_37 rfl ?_
      refine G_iconst (z := 1) dX12_set_38 rfl ?_
      have j2 : GM E (m_X12_set 1) P 57 [.ref 169, vi a1, vi a2, un, un, un] [vi (if a1 = 1 then (1 : Int) else (if a1 = 3 then (1 : Int) else (if a1 ≠ 4 then (0 : Int) else (1 : Int))))] (up2 mem 169 0 0) := by
        have qj1 := j1
        simp only [if_pos c3] at qj1
        exact qj1
      refine G_icmp_eq (tgt := 52) dX12_set_39 (by decide) (w1) (by decide) (fun c4 => ?_) (fun c4 => ?_)
      · -- a1 = 1
        refine G_iconst (z := 1) dX12_set_52 rfl ?_
        refine G_goto (tgt := 57) dX12_set_53 (by decide) ?_
        have qj2 := j2
        simp only [if_pos c4] at qj2
        exact qj2
      · -- ¬ a1 = 1
        refine G_iload_n dX12_set_42 rfl ?_
        refine G_iconst (z := 3) dX12_set_43 rfl ?_
        have j3 : GM E (m_X12_set 1) P 57 [.ref 169, vi a1, vi a2, un, un, un] [vi (if a1 = 3 then (1 : Int) else (if a1 ≠ 4 then (0 : Int) else (1 : Int)))] (up2 mem 169 0 0) := by
          have qj2 := j2
          simp only [if_neg c4] at qj2
          exact qj2
        refine G_icmp_eq (tgt := 52) dX12_set_44 (by decide) (w1) (by decide) (fun c5 => ?_) (fun c5 => ?_)
        · -- a1 = 3
          refine G_iconst (z := 1) dX12_set_52 rfl ?_
          refine G_goto (tgt := 57) dX12_set_53 (by decide) ?_
          have qj3 := j3
          simp only [if_pos c5] at qj3
          exact qj3
        · -- ¬ a1 = 3
          refine G_iload_n dX12_set_47 rfl ?_
          refine G_iconst (z := 4) dX12_set_48 rfl ?_
          have j4 : GM E (m_X12_set 1) P 57 [.ref 169, vi a1, vi a2, un, un, un] [vi (if a1 ≠ 4 then (0 : Int) else (1 : Int))] (up2 mem 169 0 0) := by
            have qj3 := j3
            simp only [if_neg c5] at qj3
            exact qj3
          refine G_icmp_ne (tgt := 56) dX12_set_49 (by decide) (w1) (by decide) (fun c6 => ?_) (fun c6 => ?_)
          · -- a1 ≠ 4
            refine G_iconst (z := 0) dX12_set_56 rfl ?_
            have qj4 := j4
            simp only [if_pos c6] at qj4
            exact qj4
          · -- a1 = 4
            refine G_iconst (z := 1) dX12_set_52 rfl ?_
            refine G_goto (tgt := 57) dX12_set_53 (by decide) ?_
            have qj4 := j4
            simp only [if_neg (show ¬ (a1 ≠ 4) from fun q => q c6)] at qj4
            exact qj4
    · -- a1 = 0
      refine G_iconst (z := 1) dX12_set_23 rfl ?_
      refine G_aload_n dX12_set_24 rfl ?_
      refine G_getR (t := 180) dX12_set_25 fl_12_42 (by decide) sh_169 rr_169_14 ?_
      refine G_bipush (z := 96) dX12_set_28 rfl ?_
      refine G_iald (z := (mem 180 96)) dX12_set_30 (by decide) sh_180 (by decide) (by decide) (by decide) (by simp [up2, upr]) ?_
      refine G_max (z := (max 1 (mem 180 96))) dX12_set_31 ml_12_257 mw_max (by decide) (w3 c1 c3) ⟨by show 1 ≤ 1; first | decide | omega, by show 21 ≤ 40 * 1; first | decide | omega, Nat.zero_le _, Nat.zero_le _⟩ (Nat.le_of_ble_eq_true rfl) rfl ?_
      refine G_goto (tgt := 57) dX12_set_34 (by decide) ?_
      have qj1 := j1
      simp only [if_neg (show ¬ (a1 ≠ 0) from fun q => q c3)] at qj1
      exact qj1
  · -- ¬ (0 ≤ a1 ∧ a1 ≤ 6)
    refine G_if_ne (tgt := 19) dX12_set_14 (by decide) (by decide) (fun h => absurd h (by decide)) (fun _ => ?_)
    refine G_iconst (z := (-1)) dX12_set_17 rfl ?_
    exact G_iret dX12_set_18 rfl (Nat.zero_le _) (Nat.zero_le _) (Nat.le_refl _) ⟨rfl, k3 c2⟩
set_option maxRecDepth 20000 in
set_option maxHeartbeats 8000000 in
theorem sg_X12_share_0 {E : Nat × (Nat → Int32)} {P : Option Value → Mem → Prop} {mem : Mem} {a1 : Int} (w1 : -2147483648 ≤ a1 ∧ a1 < 2147483648) (w2 : -2147483648 ≤ ((shlI 1 (mem 169 3)) - 1) ∧ ((shlI 1 (mem 169 3)) - 1) < 2147483648) (w3 : -9223372036854775808 ≤ a1 ∧ a1 < 9223372036854775808) (w4 : -9223372036854775808 ≤ ((shlI 1 (mem 169 3)) - 1) ∧ ((shlI 1 (mem 169 3)) - 1) < 9223372036854775808)
    (k1 : 0 ≤ a1 ∧ a1 ≤ ((shlI 1 (mem 169 3)) - 1) → GM E (m_X12_share 10) P 25 [.ref 169, vi a1, vi 0, un, un, un, un, un] [vi a1, .ref 169] (up2 mem 169 0 0))
    (k2 : ¬ (0 ≤ a1 ∧ a1 ≤ ((shlI 1 (mem 169 3)) - 1)) → P (some (vi (-1))) (up2 mem 169 0 0)) :
    GM E (m_X12_share 10) P 0 [.ref 169, vi a1, un, un, un, un, un, un] [] mem := by
  refine G_aload_n dX12_share_0 rfl ?_
  refine G_iconst (z := 0) dX12_share_1 rfl ?_
  refine G_putI (mem2 := (up2 mem 169 0 0)) dX12_share_2 fp_12_126 (by decide) sh_169 rfl ?_
  refine G_iload_n dX12_share_5 rfl ?_
  refine G_i2l dX12_share_6 (w1) ?_
  refine G_lconst (z := 0) dX12_share_7 rfl ?_
  refine G_aload_n dX12_share_8 rfl ?_
  refine cb_X12_share_9 (ic_X12_all (z := (mem 169 3)) (by simp [up2, upr]) ?_)
  refine G_i2l dX12_share_12 (w2) ?_
  refine cb_X12_share_13 (ic_X12_in (w3) (by decide) (w4) (fun c1 => ?_) (fun c2 => ?_))
  · -- 0 ≤ a1 ∧ a1 ≤ ((shlI 1 (mem 169 3)) - 1)
    refine G_if_ne (tgt := 21) dX12_share_16 (by decide) (by decide) (fun _ => ?_) (fun h => absurd h (by decide))
    refine G_iconst (z := 0) dX12_share_21 rfl ?_
    refine G_istore_n dX12_share_22 rfl (by decide : 2 < 8) rfl ?_
    refine G_aload_n dX12_share_23 rfl ?_
    refine G_iload_n dX12_share_24 rfl ?_
    exact k1 c1
  · -- ¬ (0 ≤ a1 ∧ a1 ≤ ((shlI 1 (mem 169 3)) - 1))
    refine G_if_ne (tgt := 21) dX12_share_16 (by decide) (by decide) (fun h => absurd h (by decide)) (fun _ => ?_)
    refine G_iconst (z := (-1)) dX12_share_19 rfl ?_
    exact G_iret dX12_share_20 rfl (Nat.zero_le _) (Nat.zero_le _) (Nat.le_refl _) ⟨rfl, k2 c2⟩
set_option maxRecDepth 20000 in
set_option maxHeartbeats 8000000 in
theorem sg_X12_share_28 {E : Nat × (Nat → Int32)} {P : Option Value → Mem → Prop} {mem : Mem} {a1 : Int} {a2 : Int} {s0 : Int}
    (k1 : GM E (m_X12_share 10) P 35 [.ref 169, vi a1, vi a2, vi s0, vi 0, vi 1, un, un] [] mem) :
    GM E (m_X12_share 10) P 28 [.ref 169, vi a1, vi a2, un, un, un, un, un] [vi s0] mem := by
  refine G_istore_n dX12_share_28 rfl (by decide : 3 < 8) rfl ?_
  refine G_iconst (z := 0) dX12_share_29 rfl ?_
  refine G_istore dX12_share_30 (by decide : 4 < 8) rfl ?_
  refine G_iconst (z := 1) dX12_share_32 rfl ?_
  refine G_istore dX12_share_33 (by decide : 5 < 8) rfl ?_
  exact k1
set_option maxRecDepth 20000 in
set_option maxHeartbeats 8000000 in
theorem sg_X12_share_35 {E : Nat × (Nat → Int32)} {P : Option Value → Mem → Prop} {mem : Mem} {a1 : Int} {a2 : Int} {a3 : Int} {a4 : Int} {a5 : Int} (w1 : -2147483648 ≤ a5 ∧ a5 < 2147483648) (w2 : -2147483648 ≤ a1 ∧ a1 < 2147483648) (w3 : -2147483648 ≤ a2 ∧ a2 < 2147483648) (w4 : -2147483648 ≤ a4 ∧ a4 < 2147483648)
    (k1 : a1 < a5 → P (some (vi a3)) (up2 (up2 (up2 (up2 (up2 mem 169 1 0) 170 0 a2) 169 1 1) 170 1 a4) 169 1 2))
    (k2 : ¬ a1 < a5 → (bandI a5 (bxorI a1 (-1))) ≠ 0 → GM E (m_X12_share 10) P 35 [.ref 169, vi a1, vi a2, vi a3, vi a4, vi (a5 + 1), un, un] [] mem)
    (k3 : ¬ a1 < a5 → (bandI a5 (bxorI a1 (-1))) = 0 → GM E (m_X12_share 10) P 53 [.ref 169, vi a1, vi a2, vi a3, vi a4, vi a5, un, un] [vi a5, .ref 169] mem) :
    GM E (m_X12_share 10) P 35 [.ref 169, vi a1, vi a2, vi a3, vi a4, vi a5, un, un] [] mem := by
  refine G_iload dX12_share_35 rfl ?_
  refine G_iload_n dX12_share_37 rfl ?_
  refine G_icmp_gt (tgt := 107) dX12_share_38 (by decide) (w1) (w2) (fun c1 => ?_) (fun c1 => ?_)
  · -- a1 < a5
    refine G_aload_n dX12_share_107 rfl ?_
    refine G_iconst (z := 0) dX12_share_108 rfl ?_
    refine G_putI (mem2 := (up2 mem 169 1 0)) dX12_share_109 fp_12_134 (by decide) sh_169 rfl ?_
    refine G_aload_n dX12_share_112 rfl ?_
    refine G_iload_n dX12_share_113 rfl ?_
    refine G_i2l dX12_share_114 (w3) ?_
    refine cb_X12_share_115 (ic_X12_enters (z := 0) (z2 := 1) (by simp [up2, upr]) (by decide) rfl ?_)
    refine G_aload_n dX12_share_118 rfl ?_
    refine G_iload dX12_share_119 rfl ?_
    refine G_i2l dX12_share_121 (w4) ?_
    refine cb_X12_share_122 (ic_X12_enters (z := 1) (z2 := 2) (by simp [up2, upr]) (by decide) rfl ?_)
    refine G_iload_n dX12_share_125 rfl ?_
    exact G_iret dX12_share_126 rfl (Nat.zero_le _) (Nat.zero_le _) (Nat.le_refl _) ⟨rfl, k1 c1⟩
  · -- ¬ a1 < a5
    refine G_iload dX12_share_41 rfl ?_
    refine G_iload_n dX12_share_43 rfl ?_
    refine G_iconst (z := (-1)) dX12_share_44 rfl ?_
    refine G_ixor (z := (bxorI a1 (-1))) dX12_share_45 (iI_inv _) ?_
    refine G_iand (z := (bandI a5 (bxorI a1 (-1)))) dX12_share_46 (iI_inv _) ?_
    refine G_if_ne (tgt := 101) dX12_share_47 (by decide) (iI_rng _) (fun c2 => ?_) (fun c2 => ?_)
    · -- (bandI a5 (bxorI a1 (-1))) ≠ 0
      refine G_iinc (z := (a5 + 1)) dX12_share_101 rfl rfl (by decide : 5 < 8) rfl ?_
      refine G_goto (tgt := 35) dX12_share_104 (by decide) ?_
      exact k2 c1 c2
    · -- (bandI a5 (bxorI a1 (-1))) = 0
      refine G_aload_n dX12_share_50 rfl ?_
      refine G_iload dX12_share_51 rfl ?_
      exact k3 c1 c2
set_option maxRecDepth 20000 in
set_option maxHeartbeats 8000000 in
theorem sg_X12_share_56 {E : Nat × (Nat → Int32)} {P : Option Value → Mem → Prop} {mem : Mem} {a1 : Int} {a2 : Int} {a3 : Int} {a4 : Int} {a5 : Int} {s0 : Int}
    (k1 : GM E (m_X12_share 10) P 65 [.ref 169, vi a1, vi a2, vi a3, vi a4, vi a5, vi s0, un] [vi (bandI a1 (bxorI a5 (-1))), .ref 169] mem) :
    GM E (m_X12_share 10) P 56 [.ref 169, vi a1, vi a2, vi a3, vi a4, vi a5, un, un] [vi s0] mem := by
  refine G_istore dX12_share_56 (by decide : 6 < 8) rfl ?_
  refine G_aload_n dX12_share_58 rfl ?_
  refine G_iload_n dX12_share_59 rfl ?_
  refine G_iload dX12_share_60 rfl ?_
  refine G_iconst (z := (-1)) dX12_share_62 rfl ?_
  refine G_ixor (z := (bxorI a5 (-1))) dX12_share_63 (iI_inv _) ?_
  refine G_iand (z := (bandI a1 (bxorI a5 (-1)))) dX12_share_64 (iI_inv _) ?_
  exact k1
set_option maxRecDepth 20000 in
set_option maxHeartbeats 8000000 in
theorem sg_X12_share_68 {E : Nat × (Nat → Int32)} {P : Option Value → Mem → Prop} {mem : Mem} {a1 : Int} {a2 : Int} {a3 : Int} {a4 : Int} {a5 : Int} {a6 : Int} {s0 : Int} (w1 : -2147483648 ≤ a6 ∧ a6 < 2147483648) (w2 : -2147483648 ≤ s0 ∧ s0 < 2147483648) (w3 : -2147483648 ≤ (max a6 s0) ∧ (max a6 s0) < 2147483648) (w4 : -2147483648 ≤ a3 ∧ a3 < 2147483648)
    (k1 : GM E (m_X12_share 10) P 35 [.ref 169, vi a1, vi (if a3 ≤ (max a6 s0) then a2 else a5), vi (if a3 ≤ (max a6 s0) then a3 else (max a6 s0)), vi (if a3 ≤ (max a6 s0) then a4 else (min a6 s0)), vi (a5 + 1), un, un] [] mem) :
    GM E (m_X12_share 10) P 68 [.ref 169, vi a1, vi a2, vi a3, vi a4, vi a5, vi a6, un] [vi s0] mem := by
  refine G_istore dX12_share_68 (by decide : 7 < 8) rfl ?_
  refine G_iload dX12_share_70 rfl ?_
  refine G_iload dX12_share_72 rfl ?_
  refine G_max (z := (max a6 s0)) dX12_share_74 ml_12_257 mw_max (w1) (w2) ⟨by show 1 ≤ 10; first | decide | omega, by show 21 ≤ 40 * 10; first | decide | omega, Nat.zero_le _, Nat.zero_le _⟩ (Nat.le_of_ble_eq_true rfl) rfl ?_
  refine G_iload_n dX12_share_77 rfl ?_
  have j1 : GM E (m_X12_share 10) P 101 [.ref 169, vi a1, vi (if a3 ≤ (max a6 s0) then a2 else a5), vi (if a3 ≤ (max a6 s0) then a3 else (max a6 s0)), vi (if a3 ≤ (max a6 s0) then a4 else (min a6 s0)), vi a5, vi a6, vi s0] [] mem := by
    refine G_iinc (z := (a5 + 1)) dX12_share_101 rfl rfl (by decide : 5 < 8) rfl ?_
    refine G_goto (tgt := 35) dX12_share_104 (by decide) ?_
    refine G_weak (lv2 := [.ref 169, vi a1, vi (if a3 ≤ (max a6 s0) then a2 else a5), vi (if a3 ≤ (max a6 s0) then a3 else (max a6 s0)), vi (if a3 ≤ (max a6 s0) then a4 else (min a6 s0)), vi (a5 + 1), un, un]) ⟨Or.inr rfl, Or.inr rfl, Or.inr rfl, Or.inr rfl, Or.inr rfl, Or.inr rfl, Or.inl rfl, Or.inl rfl, trivial⟩ ?_
    exact k1
  refine G_icmp_ge (tgt := 101) dX12_share_78 (by decide) (w3) (w4) (fun c1 => ?_) (fun c1 => ?_)
  · -- a3 ≤ (max a6 s0)
    have qj1 := j1
    simp only [if_pos c1] at qj1
    exact qj1
  · -- ¬ a3 ≤ (max a6 s0)
    refine G_iload dX12_share_81 rfl ?_
    refine G_istore_n dX12_share_83 rfl (by decide : 2 < 8) rfl ?_
    refine G_iload dX12_share_84 rfl ?_
    refine G_iload dX12_share_86 rfl ?_
    refine G_max (z := (max a6 s0)) dX12_share_88 ml_12_257 mw_max (w1) (w2) ⟨by show 1 ≤ 10; first | decide | omega, by show 21 ≤ 40 * 10; first | decide | omega, Nat.zero_le _, Nat.zero_le _⟩ (Nat.le_of_ble_eq_true rfl) rfl ?_
    refine G_istore_n dX12_share_91 rfl (by decide : 3 < 8) rfl ?_
    refine G_iload dX12_share_92 rfl ?_
    refine G_iload dX12_share_94 rfl ?_
    refine G_min (z := (min a6 s0)) dX12_share_96 ml_12_157 mw_min (w1) (w2) ⟨by show 1 ≤ 10; first | decide | omega, by show 21 ≤ 40 * 10; first | decide | omega, Nat.zero_le _, Nat.zero_le _⟩ (Nat.le_of_ble_eq_true rfl) rfl ?_
    refine G_istore dX12_share_99 (by decide : 4 < 8) rfl ?_
    have qj1 := j1
    simp only [if_neg c1] at qj1
    exact qj1
set_option maxRecDepth 20000 in
set_option maxHeartbeats 8000000 in
theorem sg_X12_sheet_0 {E : Nat × (Nat → Int32)} {P : Option Value → Mem → Prop} {mem : Mem} {a1 : Int} {a2 : Int} {a3 : Int} {a4 : Int} (w1 : -2147483648 ≤ a1 ∧ a1 < 2147483648) (w2 : -9223372036854775808 ≤ a1 ∧ a1 < 9223372036854775808) (w3 : -2147483648 ≤ a2 ∧ a2 < 2147483648)
    (k1 : 0 ≤ a1 ∧ a1 ≤ 3 → a2 ≤ 6 → a1 = 3 → GM E (m_X12_sheet 1) P 46 [.ref 169, vi a1, vi a2, vi a3, vi a4, vi 0, vi a3, vi 0, un] [] (up2 mem 169 0 0))
    (k2 : 0 ≤ a1 ∧ a1 ≤ 3 → a2 ≤ 6 → ¬ a1 = 3 → 0 ≤ a2 → GM E (m_X12_sheet 1) P 46 [.ref 169, vi a1, vi a2, vi a3, vi a4, vi 0, vi a3, vi 0, un] [] (up2 mem 169 0 0))
    (k3 : 0 ≤ a1 ∧ a1 ≤ 3 → a2 ≤ 6 → ¬ a1 = 3 → ¬ 0 ≤ a2 → P (some (vi (-2))) (up2 mem 169 0 0))
    (k4 : 0 ≤ a1 ∧ a1 ≤ 3 → ¬ a2 ≤ 6 → P (some (vi (-1))) (up2 mem 169 0 0))
    (k5 : ¬ (0 ≤ a1 ∧ a1 ≤ 3) → P (some (vi (-1))) (up2 mem 169 0 0)) :
    GM E (m_X12_sheet 1) P 0 [.ref 169, vi a1, vi a2, vi a3, vi a4, un, un, un, un] [] mem := by
  refine G_aload_n dX12_sheet_0 rfl ?_
  refine G_iconst (z := 0) dX12_sheet_1 rfl ?_
  refine G_putI (mem2 := (up2 mem 169 0 0)) dX12_sheet_2 fp_12_126 (by decide) sh_169 rfl ?_
  refine G_iload_n dX12_sheet_5 rfl ?_
  refine G_i2l dX12_sheet_6 (w1) ?_
  refine G_lconst (z := 0) dX12_sheet_7 rfl ?_
  refine G_ldc2 (z := 3) dX12_sheet_8 kc_12_336 ?_
  refine cb_X12_sheet_11 (ic_X12_in (w2) (by decide) (by decide) (fun c1 => ?_) (fun c2 => ?_))
  · -- 0 ≤ a1 ∧ a1 ≤ 3
    refine G_if_eq (tgt := 23) dX12_sheet_14 (by decide) (by decide) (fun h => absurd h (by decide)) (fun _ => ?_)
    refine G_iload_n dX12_sheet_17 rfl ?_
    refine G_bipush (z := 6) dX12_sheet_18 rfl ?_
    refine G_icmp_le (tgt := 25) dX12_sheet_20 (by decide) (w3) (by decide) (fun c3 => ?_) (fun c3 => ?_)
    · -- a2 ≤ 6
      refine G_iload_n dX12_sheet_25 rfl ?_
      refine G_iconst (z := 3) dX12_sheet_26 rfl ?_
      refine G_icmp_eq (tgt := 37) dX12_sheet_27 (by decide) (w1) (by decide) (fun c4 => ?_) (fun c4 => ?_)
      · -- a1 = 3
        refine G_iconst (z := 0) dX12_sheet_37 rfl ?_
        refine G_istore dX12_sheet_38 (by decide : 5 < 9) rfl ?_
        refine G_iload_n dX12_sheet_40 rfl ?_
        refine G_istore dX12_sheet_41 (by decide : 6 < 9) rfl ?_
        refine G_iconst (z := 0) dX12_sheet_43 rfl ?_
        refine G_istore dX12_sheet_44 (by decide : 7 < 9) rfl ?_
        exact k1 c1 c3 c4
      · -- ¬ a1 = 3
        refine G_iload_n dX12_sheet_30 rfl ?_
        refine G_if_ge (tgt := 37) dX12_sheet_31 (by decide) (w3) (fun c5 => ?_) (fun c5 => ?_)
        · -- 0 ≤ a2
          refine G_iconst (z := 0) dX12_sheet_37 rfl ?_
          refine G_istore dX12_sheet_38 (by decide : 5 < 9) rfl ?_
          refine G_iload_n dX12_sheet_40 rfl ?_
          refine G_istore dX12_sheet_41 (by decide : 6 < 9) rfl ?_
          refine G_iconst (z := 0) dX12_sheet_43 rfl ?_
          refine G_istore dX12_sheet_44 (by decide : 7 < 9) rfl ?_
          exact k2 c1 c3 c4 c5
        · -- ¬ 0 ≤ a2
          refine G_bipush (z := (-2)) dX12_sheet_34 rfl ?_
          exact G_iret dX12_sheet_36 rfl (Nat.zero_le _) (Nat.zero_le _) (Nat.le_refl _) ⟨rfl, k3 c1 c3 c4 c5⟩
    · -- ¬ a2 ≤ 6
      refine G_iconst (z := (-1)) dX12_sheet_23 rfl ?_
      exact G_iret dX12_sheet_24 rfl (Nat.zero_le _) (Nat.zero_le _) (Nat.le_refl _) ⟨rfl, k4 c1 c3⟩
  · -- ¬ (0 ≤ a1 ∧ a1 ≤ 3)
    refine G_if_eq (tgt := 23) dX12_sheet_14 (by decide) (by decide) (fun _ => ?_) (fun h => absurd h (by decide))
    refine G_iconst (z := (-1)) dX12_sheet_23 rfl ?_
    exact G_iret dX12_sheet_24 rfl (Nat.zero_le _) (Nat.zero_le _) (Nat.le_refl _) ⟨rfl, k5 c2⟩
set_option maxRecDepth 20000 in
set_option maxHeartbeats 8000000 in
theorem sg_X12_sheet_46 {E : Nat × (Nat → Int32)} {P : Option Value → Mem → Prop} {mem : Mem} {a1 : Int} {a2 : Int} {a3 : Int} {a4 : Int} {a5 : Int} {a6 : Int} {a7 : Int} (w1 : -2147483648 ≤ a7 ∧ a7 < 2147483648) (w2 : -2147483648 ≤ (mem 169 3) ∧ (mem 169 3) < 2147483648) (w3 : -2147483648 ≤ a1 ∧ a1 < 2147483648) (w4 : -2147483648 ≤ a2 ∧ a2 < 2147483648) (w5 : ¬ (mem 169 3) ≤ a7 → ¬ a1 = 3 → a7 < a2 → -2147483648 ≤ (if a1 ≠ 0 then (if a1 ≠ 1 then a6 else (shortI a6)) else (byteI a6)) ∧ (if a1 ≠ 0 then (if a1 ≠ 1 then a6 else (shortI a6)) else (byteI a6)) < 2147483648) (w6 : ¬ (mem 169 3) ≤ a7 → ¬ a1 = 3 → a7 < a2 → -2147483648 ≤ (min 99 (if a1 ≠ 0 then (if a1 ≠ 1 then a6 else (shortI a6)) else (byteI a6))) ∧ (min 99 (if a1 ≠ 0 then (if a1 ≠ 1 then a6 else (shortI a6)) else (byteI a6))) < 2147483648) (q7 : ¬ (mem 169 3) ≤ a7 → 0 ≤ a7 ∧ a7 < 6)
    (k1 : (mem 169 3) ≤ a7 → P (some (vi (if a1 ≠ 3 then a5 else ((-3) : Int)))) mem)
    (k2 : ¬ (mem 169 3) ≤ a7 → GM E (m_X12_sheet 1) P 46 [.ref 169, vi a1, vi a2, vi a3, vi a4, vi (a5 + (if a1 = 3 then (0 : Int) else (if a7 < a2 then (max 0 (min 99 (if a1 ≠ 0 then (if a1 ≠ 1 then a6 else (shortI a6)) else (byteI a6)))) else (0 : Int)))), vi (a6 + a4), vi (a7 + 1), un] [] (up2 mem 171 a7 (if a1 = 3 then (0 : Int) else (if a7 < a2 then (max 0 (min 99 (if a1 ≠ 0 then (if a1 ≠ 1 then a6 else (shortI a6)) else (byteI a6)))) else (0 : Int))))) :
    GM E (m_X12_sheet 1) P 46 [.ref 169, vi a1, vi a2, vi a3, vi a4, vi a5, vi a6, vi a7, un] [] mem := by
  refine G_iload dX12_sheet_46 rfl ?_
  refine G_aload_n dX12_sheet_48 rfl ?_
  refine G_getI (z := (mem 169 3)) dX12_sheet_49 fl_12_137 (by decide) sh_169 rfl ?_
  refine G_icmp_ge (tgt := 138) dX12_sheet_52 (by decide) (w1) (w2) (fun c1 => ?_) (fun c1 => ?_)
  · -- (mem 169 3) ≤ a7
    refine G_iload_n dX12_sheet_138 rfl ?_
    refine G_iconst (z := 3) dX12_sheet_139 rfl ?_
    have j1 : GM E (m_X12_sheet 1) P 150 [.ref 169, vi a1, vi a2, vi a3, vi a4, vi a5, vi a6, vi a7, un] [vi (if a1 ≠ 3 then a5 else ((-3) : Int))] mem := by
      exact G_iret dX12_sheet_150 rfl (Nat.zero_le _) (Nat.zero_le _) (Nat.le_refl _) ⟨rfl, k1 c1⟩
    refine G_icmp_ne (tgt := 148) dX12_sheet_140 (by decide) (w3) (by decide) (fun c2 => ?_) (fun c2 => ?_)
    · -- a1 ≠ 3
      refine G_iload dX12_sheet_148 rfl ?_
      have qj1 := j1
      simp only [if_pos c2] at qj1
      exact qj1
    · -- a1 = 3
      refine G_bipush (z := (-3)) dX12_sheet_143 rfl ?_
      refine G_goto (tgt := 150) dX12_sheet_145 (by decide) ?_
      have qj1 := j1
      simp only [if_neg (show ¬ (a1 ≠ 3) from fun q => q c2)] at qj1
      exact qj1
  · -- ¬ (mem 169 3) ≤ a7
    refine G_iload_n dX12_sheet_55 rfl ?_
    have j2 : GM E (m_X12_sheet 1) P 78 [.ref 169, vi a1, vi a2, vi a3, vi a4, vi a5, vi a6, vi a7, un] [vi (if a1 ≠ 0 then (if a1 ≠ 1 then a6 else (shortI a6)) else (byteI a6))] mem := by
      refine G_istore dX12_sheet_78 (by decide : 8 < 9) rfl ?_
      refine G_aload_n dX12_sheet_80 rfl ?_
      refine G_getR (t := 171) dX12_sheet_81 fl_12_13 (by decide) sh_169 rr_169_5 ?_
      refine G_iload dX12_sheet_84 rfl ?_
      refine G_iload_n dX12_sheet_86 rfl ?_
      refine G_iconst (z := 3) dX12_sheet_87 rfl ?_
      have j4 : GM E (m_X12_sheet 1) P 112 [.ref 169, vi a1, vi a2, vi a3, vi a4, vi a5, vi a6, vi a7, vi (if a1 ≠ 0 then (if a1 ≠ 1 then a6 else (shortI a6)) else (byteI a6))] [vi (if a1 = 3 then (0 : Int) else (if a7 < a2 then (max 0 (min 99 (if a1 ≠ 0 then (if a1 ≠ 1 then a6 else (shortI a6)) else (byteI a6)))) else (0 : Int))), vi a7, .ref 171] mem := by
        refine G_iast (mem2 := (up2 mem 171 a7 (if a1 = 3 then (0 : Int) else (if a7 < a2 then (max 0 (min 99 (if a1 ≠ 0 then (if a1 ≠ 1 then a6 else (shortI a6)) else (byteI a6)))) else (0 : Int))))) dX12_sheet_112 (by decide) sh_171 (by decide) (q7 c1).1 (q7 c1).2 rfl ?_
        refine G_iload dX12_sheet_113 rfl ?_
        refine G_aload_n dX12_sheet_115 rfl ?_
        refine G_getR (t := 171) dX12_sheet_116 fl_12_13 (by decide) sh_169 rr_169_5 ?_
        refine G_iload dX12_sheet_119 rfl ?_
        refine G_iald (z := (if a1 = 3 then (0 : Int) else (if a7 < a2 then (max 0 (min 99 (if a1 ≠ 0 then (if a1 ≠ 1 then a6 else (shortI a6)) else (byteI a6)))) else (0 : Int)))) dX12_sheet_121 (by decide) sh_171 (by decide) (q7 c1).1 (q7 c1).2 (by simp [up2, upr]) ?_
        refine G_iadd dX12_sheet_122 ?_
        refine G_istore dX12_sheet_123 (by decide : 5 < 9) rfl ?_
        refine G_iload dX12_sheet_125 rfl ?_
        refine G_iload dX12_sheet_127 rfl ?_
        refine G_iadd dX12_sheet_129 ?_
        refine G_istore dX12_sheet_130 (by decide : 6 < 9) rfl ?_
        refine G_iinc (z := (a7 + 1)) dX12_sheet_132 rfl rfl (by decide : 7 < 9) rfl ?_
        refine G_goto (tgt := 46) dX12_sheet_135 (by decide) ?_
        refine G_weak (lv2 := [.ref 169, vi a1, vi a2, vi a3, vi a4, vi (a5 + (if a1 = 3 then (0 : Int) else (if a7 < a2 then (max 0 (min 99 (if a1 ≠ 0 then (if a1 ≠ 1 then a6 else (shortI a6)) else (byteI a6)))) else (0 : Int)))), vi (a6 + a4), vi (a7 + 1), un]) ⟨Or.inr rfl, Or.inr rfl, Or.inr rfl, Or.inr rfl, Or.inr rfl, Or.inr rfl, Or.inr rfl, Or.inr rfl, Or.inl rfl, trivial⟩ ?_
        exact k2 c1
      refine G_icmp_eq (tgt := 97) dX12_sheet_88 (by decide) (w3) (by decide) (fun c5 => ?_) (fun c5 => ?_)
      · -- a1 = 3
        refine G_iconst (z := 0) dX12_sheet_97 rfl ?_
        refine G_goto (tgt := 112) dX12_sheet_98 (by decide) ?_
        have qj4 := j4
        simp only [if_pos c5] at qj4
        exact qj4
      · -- ¬ a1 = 3
        refine G_iload dX12_sheet_91 rfl ?_
        refine G_iload_n dX12_sheet_93 rfl ?_
        have j5 : GM E (m_X12_sheet 1) P 112 [.ref 169, vi a1, vi a2, vi a3, vi a4, vi a5, vi a6, vi a7, vi (if a1 ≠ 0 then (if a1 ≠ 1 then a6 else (shortI a6)) else (byteI a6))] [vi (if a7 < a2 then (max 0 (min 99 (if a1 ≠ 0 then (if a1 ≠ 1 then a6 else (shortI a6)) else (byteI a6)))) else (0 : Int)), vi a7, .ref 171] mem := by
          have qj4 := j4
          simp only [if_neg c5] at qj4
          exact qj4
        refine G_icmp_lt (tgt := 101) dX12_sheet_94 (by decide) (w1) (w4) (fun c6 => ?_) (fun c6 => ?_)
        · -- a7 < a2
          refine G_iconst (z := 0) dX12_sheet_101 rfl ?_
          refine G_bipush (z := 99) dX12_sheet_102 rfl ?_
          refine G_iload dX12_sheet_104 rfl ?_
          refine G_min (z := (min 99 (if a1 ≠ 0 then (if a1 ≠ 1 then a6 else (shortI a6)) else (byteI a6)))) dX12_sheet_106 ml_12_157 mw_min (by decide) (w5 c1 c5 c6) ⟨by show 1 ≤ 1; first | decide | omega, by show 21 ≤ 40 * 1; first | decide | omega, Nat.zero_le _, Nat.zero_le _⟩ (Nat.le_of_ble_eq_true rfl) rfl ?_
          refine G_max (z := (max 0 (min 99 (if a1 ≠ 0 then (if a1 ≠ 1 then a6 else (shortI a6)) else (byteI a6))))) dX12_sheet_109 ml_12_257 mw_max (by decide) (w6 c1 c5 c6) ⟨by show 1 ≤ 1; first | decide | omega, by show 21 ≤ 40 * 1; first | decide | omega, Nat.zero_le _, Nat.zero_le _⟩ (Nat.le_of_ble_eq_true rfl) rfl ?_
          have qj5 := j5
          simp only [if_pos c6] at qj5
          exact qj5
        · -- ¬ a7 < a2
          refine G_iconst (z := 0) dX12_sheet_97 rfl ?_
          refine G_goto (tgt := 112) dX12_sheet_98 (by decide) ?_
          have qj5 := j5
          simp only [if_neg c6] at qj5
          exact qj5
    refine G_if_ne (tgt := 65) dX12_sheet_56 (by decide) (w3) (fun c3 => ?_) (fun c3 => ?_)
    · -- a1 ≠ 0
      refine G_iload_n dX12_sheet_65 rfl ?_
      refine G_iconst (z := 1) dX12_sheet_66 rfl ?_
      have j3 : GM E (m_X12_sheet 1) P 78 [.ref 169, vi a1, vi a2, vi a3, vi a4, vi a5, vi a6, vi a7, un] [vi (if a1 ≠ 1 then a6 else (shortI a6))] mem := by
        have qj2 := j2
        simp only [if_pos c3] at qj2
        exact qj2
      refine G_icmp_ne (tgt := 76) dX12_sheet_67 (by decide) (w3) (by decide) (fun c4 => ?_) (fun c4 => ?_)
      · -- a1 ≠ 1
        refine G_iload dX12_sheet_76 rfl ?_
        have qj3 := j3
        simp only [if_pos c4] at qj3
        exact qj3
      · -- a1 = 1
        refine G_iload dX12_sheet_70 rfl ?_
        refine G_i2s (z := (shortI a6)) dX12_sheet_72 (iI_inv _) ?_
        refine G_goto (tgt := 78) dX12_sheet_73 (by decide) ?_
        have qj3 := j3
        simp only [if_neg (show ¬ (a1 ≠ 1) from fun q => q c4)] at qj3
        exact qj3
    · -- a1 = 0
      refine G_iload dX12_sheet_59 rfl ?_
      refine G_i2b (z := (byteI a6)) dX12_sheet_61 (iI_inv _) ?_
      refine G_goto (tgt := 78) dX12_sheet_62 (by decide) ?_
      have qj2 := j2
      simp only [if_neg (show ¬ (a1 ≠ 0) from fun q => q c3)] at qj2
      exact qj2
set_option maxRecDepth 20000 in
set_option maxHeartbeats 8000000 in
theorem sg_X12_sign_0 {E : Nat × (Nat → Int32)} {P : Option Value → Mem → Prop} {mem : Mem} {a1 : Int} (w1 : -2147483648 ≤ (mem 169 17) ∧ (mem 169 17) < 2147483648)
    (k1 : (mem 169 17) ≤ 76 → GM E (m_X12_sign 0) P 18 [.ref 169, vi a1, vi 0] [] (up2 mem 169 0 0))
    (k2 : ¬ (mem 169 17) ≤ 76 → P (some (vi (-1))) (up2 mem 169 0 0)) :
    GM E (m_X12_sign 0) P 0 [.ref 169, vi a1, un] [] mem := by
  refine G_aload_n dX12_sign_0 rfl ?_
  refine G_iconst (z := 0) dX12_sign_1 rfl ?_
  refine G_putI (mem2 := (up2 mem 169 0 0)) dX12_sign_2 fp_12_126 (by decide) sh_169 rfl ?_
  refine G_aload_n dX12_sign_5 rfl ?_
  refine G_getI (z := (mem 169 17)) dX12_sign_6 fl_12_148 (by decide) sh_169 (by simp [up2, upr]) ?_
  refine G_bipush (z := 76) dX12_sign_9 rfl ?_
  refine G_icmp_le (tgt := 16) dX12_sign_11 (by decide) (w1) (by decide) (fun c1 => ?_) (fun c1 => ?_)
  · -- (mem 169 17) ≤ 76
    refine G_iconst (z := 0) dX12_sign_16 rfl ?_
    refine G_istore_n dX12_sign_17 rfl (by decide : 2 < 3) rfl ?_
    exact k1 c1
  · -- ¬ (mem 169 17) ≤ 76
    refine G_iconst (z := (-1)) dX12_sign_14 rfl ?_
    exact G_iret dX12_sign_15 rfl (Nat.zero_le _) (Nat.zero_le _) (Nat.le_refl _) ⟨rfl, k2 c1⟩
set_option maxRecDepth 20000 in
set_option maxHeartbeats 8000000 in
theorem sg_X12_sign_18 {E : Nat × (Nat → Int32)} {P : Option Value → Mem → Prop} {mem : Mem} {a1 : Int} {a2 : Int} (w1 : -2147483648 ≤ a2 ∧ a2 < 2147483648) (q2 : ¬ 4 ≤ a2 → 0 ≤ ((mem 169 17) + a2) ∧ ((mem 169 17) + a2) < 80)
    (k1 : 4 ≤ a2 → P (some (vi ((mem 169 17) + 4))) (up2 mem 169 17 ((mem 169 17) + 4)))
    (k2 : ¬ 4 ≤ a2 → GM E (m_X12_sign 0) P 18 [.ref 169, vi a1, vi (a2 + 1)] [] (up2 mem 182 ((mem 169 17) + a2) (bandI (shrI a1 (24 - (8 * a2))) 255))) :
    GM E (m_X12_sign 0) P 18 [.ref 169, vi a1, vi a2] [] mem := by
  refine G_iload_n dX12_sign_18 rfl ?_
  refine G_iconst (z := 4) dX12_sign_19 rfl ?_
  refine G_icmp_ge (tgt := 53) dX12_sign_20 (by decide) (w1) (by decide) (fun c1 => ?_) (fun c1 => ?_)
  · -- 4 ≤ a2
    refine G_aload_n dX12_sign_53 rfl ?_
    refine G_dup dX12_sign_54 rfl ?_
    refine G_getI (z := (mem 169 17)) dX12_sign_55 fl_12_148 (by decide) sh_169 rfl ?_
    refine G_iconst (z := 4) dX12_sign_58 rfl ?_
    refine G_iadd dX12_sign_59 ?_
    refine G_putI (mem2 := (up2 mem 169 17 ((mem 169 17) + 4))) dX12_sign_60 fp_12_148 (by decide) sh_169 rfl ?_
    refine G_aload_n dX12_sign_63 rfl ?_
    refine G_getI (z := ((mem 169 17) + 4)) dX12_sign_64 fl_12_148 (by decide) sh_169 (by simp [up2, upr]) ?_
    exact G_iret dX12_sign_67 rfl (Nat.zero_le _) (Nat.zero_le _) (Nat.le_refl _) ⟨rfl, k1 c1⟩
  · -- ¬ 4 ≤ a2
    refine G_aload_n dX12_sign_23 rfl ?_
    refine G_getR (t := 182) dX12_sign_24 fl_12_48 (by decide) sh_169 rr_169_16 ?_
    refine G_aload_n dX12_sign_27 rfl ?_
    refine G_getI (z := (mem 169 17)) dX12_sign_28 fl_12_148 (by decide) sh_169 rfl ?_
    refine G_iload_n dX12_sign_31 rfl ?_
    refine G_iadd dX12_sign_32 ?_
    refine G_iload_n dX12_sign_33 rfl ?_
    refine G_bipush (z := 24) dX12_sign_34 rfl ?_
    refine G_bipush (z := 8) dX12_sign_36 rfl ?_
    refine G_iload_n dX12_sign_38 rfl ?_
    refine G_imul dX12_sign_39 ?_
    refine G_isub dX12_sign_40 ?_
    refine G_ishr (z := (shrI a1 (24 - (8 * a2)))) dX12_sign_41 (iI_inv _) ?_
    refine G_sipush (z := 255) dX12_sign_42 rfl ?_
    refine G_iand (z := (bandI (shrI a1 (24 - (8 * a2))) 255)) dX12_sign_45 (iI_inv _) ?_
    refine G_iast (mem2 := (up2 mem 182 ((mem 169 17) + a2) (bandI (shrI a1 (24 - (8 * a2))) 255))) dX12_sign_46 (by decide) sh_182 (by decide) (q2 c1).1 (q2 c1).2 rfl ?_
    refine G_iinc (z := (a2 + 1)) dX12_sign_47 rfl rfl (by decide : 2 < 3) rfl ?_
    refine G_goto (tgt := 18) dX12_sign_50 (by decide) ?_
    exact k2 c1
set_option maxRecDepth 20000 in
set_option maxHeartbeats 8000000 in
theorem sg_X12_soonest_0 {E : Nat × (Nat → Int32)} {P : Option Value → Mem → Prop} {mem : Mem} {a1 : Int} (w1 : -2147483648 ≤ a1 ∧ a1 < 2147483648) (w2 : -2147483648 ≤ ((shlI 1 (mem 169 3)) - 1) ∧ ((shlI 1 (mem 169 3)) - 1) < 2147483648) (w3 : -9223372036854775808 ≤ a1 ∧ a1 < 9223372036854775808) (w4 : -9223372036854775808 ≤ ((shlI 1 (mem 169 3)) - 1) ∧ ((shlI 1 (mem 169 3)) - 1) < 9223372036854775808)
    (k1 : 1 ≤ a1 ∧ a1 ≤ ((shlI 1 (mem 169 3)) - 1) → GM E (m_X12_soonest 202) P 23 [.ref 169, vi a1, un, un] [vi a1, .ref 169] (up2 mem 169 0 0))
    (k2 : ¬ (1 ≤ a1 ∧ a1 ≤ ((shlI 1 (mem 169 3)) - 1)) → P (some (vi (-1))) (up2 mem 169 0 0)) :
    GM E (m_X12_soonest 202) P 0 [.ref 169, vi a1, un, un] [] mem := by
  refine G_aload_n dX12_soonest_0 rfl ?_
  refine G_iconst (z := 0) dX12_soonest_1 rfl ?_
  refine G_putI (mem2 := (up2 mem 169 0 0)) dX12_soonest_2 fp_12_126 (by decide) sh_169 rfl ?_
  refine G_iload_n dX12_soonest_5 rfl ?_
  refine G_i2l dX12_soonest_6 (w1) ?_
  refine G_lconst (z := 1) dX12_soonest_7 rfl ?_
  refine G_aload_n dX12_soonest_8 rfl ?_
  refine cb_X12_soonest_9 (ic_X12_all (z := (mem 169 3)) (by simp [up2, upr]) ?_)
  refine G_i2l dX12_soonest_12 (w2) ?_
  refine cb_X12_soonest_13 (ic_X12_in (w3) (by decide) (w4) (fun c1 => ?_) (fun c2 => ?_))
  · -- 1 ≤ a1 ∧ a1 ≤ ((shlI 1 (mem 169 3)) - 1)
    refine G_if_ne (tgt := 21) dX12_soonest_16 (by decide) (by decide) (fun _ => ?_) (fun h => absurd h (by decide))
    refine G_aload_n dX12_soonest_21 rfl ?_
    refine G_iload_n dX12_soonest_22 rfl ?_
    exact k1 c1
  · -- ¬ (1 ≤ a1 ∧ a1 ≤ ((shlI 1 (mem 169 3)) - 1))
    refine G_if_ne (tgt := 21) dX12_soonest_16 (by decide) (by decide) (fun h => absurd h (by decide)) (fun _ => ?_)
    refine G_iconst (z := (-1)) dX12_soonest_19 rfl ?_
    exact G_iret dX12_soonest_20 rfl (Nat.zero_le _) (Nat.zero_le _) (Nat.le_refl _) ⟨rfl, k2 c2⟩
set_option maxRecDepth 20000 in
set_option maxHeartbeats 8000000 in
theorem sg_X12_soonest_26 {E : Nat × (Nat → Int32)} {P : Option Value → Mem → Prop} {mem : Mem} {a1 : Int} {s0 : Int} (w1 : -2147483648 ≤ s0 ∧ s0 < 2147483648)
    (k1 : s0 < 0 → P (some (vi s0)) mem)
    (k2 : ¬ s0 < 0 → GM E (m_X12_soonest 202) P 38 [.ref 169, vi a1, vi s0, vi 0] [] (up2 mem 169 1 0)) :
    GM E (m_X12_soonest 202) P 26 [.ref 169, vi a1, un, un] [vi s0] mem := by
  refine G_istore_n dX12_soonest_26 rfl (by decide : 2 < 4) rfl ?_
  refine G_iload_n dX12_soonest_27 rfl ?_
  refine G_if_lt (tgt := 63) dX12_soonest_28 (by decide) (w1) (fun c1 => ?_) (fun c1 => ?_)
  · -- s0 < 0
    refine G_iload_n dX12_soonest_63 rfl ?_
    exact G_iret dX12_soonest_64 rfl (Nat.zero_le _) (Nat.zero_le _) (Nat.le_refl _) ⟨rfl, k1 c1⟩
  · -- ¬ s0 < 0
    refine G_aload_n dX12_soonest_31 rfl ?_
    refine G_iconst (z := 0) dX12_soonest_32 rfl ?_
    refine G_putI (mem2 := (up2 mem 169 1 0)) dX12_soonest_33 fp_12_134 (by decide) sh_169 rfl ?_
    refine G_iconst (z := 0) dX12_soonest_36 rfl ?_
    refine G_istore_n dX12_soonest_37 rfl (by decide : 3 < 4) rfl ?_
    exact k2 c1
set_option maxRecDepth 20000 in
set_option maxHeartbeats 8000000 in
theorem sg_X12_soonest_38 {E : Nat × (Nat → Int32)} {P : Option Value → Mem → Prop} {mem : Mem} {a1 : Int} {a2 : Int} {a3 : Int}
    (k1 : GM E (m_X12_soonest 202) P 40 [.ref 169, vi a1, vi a2, vi a3] [vi a1, vi a3] mem) :
    GM E (m_X12_soonest 202) P 38 [.ref 169, vi a1, vi a2, vi a3] [] mem := by
  refine G_iload_n dX12_soonest_38 rfl ?_
  refine G_iload_n dX12_soonest_39 rfl ?_
  exact k1
set_option maxRecDepth 20000 in
set_option maxHeartbeats 8000000 in
theorem sg_X12_soonest_43 {E : Nat × (Nat → Int32)} {P : Option Value → Mem → Prop} {mem : Mem} {a1 : Int} {a2 : Int} {a3 : Int} {s0 : Int} {s1 : Int} (w1 : -2147483648 ≤ s1 ∧ s1 < 2147483648) (w2 : -2147483648 ≤ s0 ∧ s0 < 2147483648) (q3 : ¬ s0 ≤ s1 → 0 ≤ a3 ∧ a3 < 6) (w4 : ¬ s0 ≤ s1 → -2147483648 ≤ (mem 196 a3) ∧ (mem 196 a3) < 2147483648) (q5 : ¬ s0 ≤ s1 → 0 ≤ (mem 169 1) ∧ (mem 169 1) < 24)
    (k1 : s0 ≤ s1 → P (some (vi a2)) mem)
    (k2 : ¬ s0 ≤ s1 → GM E (m_X12_soonest 202) P 38 [.ref 169, vi a1, vi a2, vi (a3 + 1)] [] (up2 (up2 mem 170 (mem 169 1) (mem 196 a3)) 169 1 ((mem 169 1) + 1))) :
    GM E (m_X12_soonest 202) P 43 [.ref 169, vi a1, vi a2, vi a3] [vi s0, vi s1] mem := by
  refine G_icmp_ge (tgt := 63) dX12_soonest_43 (by decide) (w1) (w2) (fun c1 => ?_) (fun c1 => ?_)
  · -- s0 ≤ s1
    refine G_iload_n dX12_soonest_63 rfl ?_
    exact G_iret dX12_soonest_64 rfl (Nat.zero_le _) (Nat.zero_le _) (Nat.le_refl _) ⟨rfl, k1 c1⟩
  · -- ¬ s0 ≤ s1
    refine G_aload_n dX12_soonest_46 rfl ?_
    refine G_aload_n dX12_soonest_47 rfl ?_
    refine G_getR (t := 196) dX12_soonest_48 fl_12_90 (by decide) sh_169 rr_169_53 ?_
    refine G_iload_n dX12_soonest_51 rfl ?_
    refine G_iald (z := (mem 196 a3)) dX12_soonest_52 (by decide) sh_196 (by decide) (q3 c1).1 (q3 c1).2 rfl ?_
    refine G_i2l dX12_soonest_53 (w4 c1) ?_
    refine cb_X12_soonest_54 (ic_X12_enters (z := (mem 169 1)) (z2 := ((mem 169 1) + 1)) rfl (q5 c1) rfl ?_)
    refine G_iinc (z := (a3 + 1)) dX12_soonest_57 rfl rfl (by decide : 3 < 4) rfl ?_
    refine G_goto (tgt := 38) dX12_soonest_60 (by decide) ?_
    exact k2 c1
set_option maxRecDepth 20000 in
set_option maxHeartbeats 8000000 in
theorem sg_X12_street_0 {E : Nat × (Nat → Int32)} {P : Option Value → Mem → Prop} {mem : Mem} {a1 : Int} {a2 : Int} (w1 : 0 ≤ (mem 169 3) ∧ (mem 169 3) < 2147483648) (w2 : -2147483648 ≤ a1 ∧ a1 < 2147483648) (w3 : -2147483648 ≤ a2 ∧ a2 < 2147483648) (w4 : -9223372036854775808 ≤ a2 ∧ a2 < 9223372036854775808) (q5 : 0 ≤ a1 ∧ a1 < (mem 169 3) → 0 ≤ a2 ∧ a2 ≤ 8 → a2 = 0 → 0 ≤ a1 ∧ a1 < 6) (q6 : 0 ≤ a1 ∧ a1 < (mem 169 3) → 0 ≤ a2 ∧ a2 ≤ 8 → ¬ a2 = 0 → a2 = 1 → 0 ≤ a1 ∧ a1 < 6) (q7 : 0 ≤ a1 ∧ a1 < (mem 169 3) → 0 ≤ a2 ∧ a2 ≤ 8 → ¬ a2 = 0 → ¬ a2 = 1 → a2 = 2 → 0 ≤ a1 ∧ a1 < 6) (q8 : 0 ≤ a1 ∧ a1 < (mem 169 3) → 0 ≤ a2 ∧ a2 ≤ 8 → ¬ a2 = 0 → ¬ a2 = 1 → ¬ a2 = 2 → a2 = 3 → 0 ≤ a1 ∧ a1 < 6) (w9 : 0 ≤ a1 ∧ a1 < (mem 169 3) → 0 ≤ a2 ∧ a2 ≤ 8 → ¬ a2 = 0 → ¬ a2 = 1 → ¬ a2 = 2 → a2 = 3 → -2147483648 ≤ (mem 174 a1) ∧ (mem 174 a1) < 2147483648) (q10 : 0 ≤ a1 ∧ a1 < (mem 169 3) → 0 ≤ a2 ∧ a2 ≤ 8 → ¬ a2 = 0 → ¬ a2 = 1 → ¬ a2 = 2 → ¬ a2 = 3 → a2 = 4 → 0 ≤ a1 ∧ a1 < 6) (q11 : 0 ≤ a1 ∧ a1 < (mem 169 3) → 0 ≤ a2 ∧ a2 ≤ 8 → ¬ a2 = 0 → ¬ a2 = 1 → ¬ a2 = 2 → ¬ a2 = 3 → ¬ a2 = 4 → a2 = 5 → 0 ≤ a1 ∧ a1 < 6) (q12 : 0 ≤ a1 ∧ a1 < (mem 169 3) → 0 ≤ a2 ∧ a2 ≤ 8 → ¬ a2 = 0 → ¬ a2 = 1 → ¬ a2 = 2 → ¬ a2 = 3 → ¬ a2 = 4 → ¬ a2 = 5 → a2 = 6 → 0 ≤ a1 ∧ a1 < 6)
    (k1 : 0 ≤ a1 ∧ a1 < (mem 169 3) → 0 ≤ a2 ∧ a2 ≤ 8 → a2 = 0 → P (some (vi (mem 171 a1))) (up2 mem 169 0 0))
    (k2 : 0 ≤ a1 ∧ a1 < (mem 169 3) → 0 ≤ a2 ∧ a2 ≤ 8 → ¬ a2 = 0 → a2 = 1 → P (some (vi (mem 172 a1))) (up2 mem 169 0 0))
    (k3 : 0 ≤ a1 ∧ a1 < (mem 169 3) → 0 ≤ a2 ∧ a2 ≤ 8 → ¬ a2 = 0 → ¬ a2 = 1 → a2 = 2 → P (some (vi (mem 173 a1))) (up2 mem 169 0 0))
    (k4 : 0 ≤ a1 ∧ a1 < (mem 169 3) → 0 ≤ a2 ∧ a2 ≤ 8 → ¬ a2 = 0 → ¬ a2 = 1 → ¬ a2 = 2 → a2 = 3 → ¬ (mem 174 a1) = 0 → P (some (vi 1)) (up2 mem 169 0 0))
    (k5 : 0 ≤ a1 ∧ a1 < (mem 169 3) → 0 ≤ a2 ∧ a2 ≤ 8 → ¬ a2 = 0 → ¬ a2 = 1 → ¬ a2 = 2 → a2 = 3 → (mem 174 a1) = 0 → P (some (vi 0)) (up2 mem 169 0 0))
    (k6 : 0 ≤ a1 ∧ a1 < (mem 169 3) → 0 ≤ a2 ∧ a2 ≤ 8 → ¬ a2 = 0 → ¬ a2 = 1 → ¬ a2 = 2 → ¬ a2 = 3 → a2 = 4 → P (some (vi (mem 175 a1))) (up2 mem 169 0 0))
    (k7 : 0 ≤ a1 ∧ a1 < (mem 169 3) → 0 ≤ a2 ∧ a2 ≤ 8 → ¬ a2 = 0 → ¬ a2 = 1 → ¬ a2 = 2 → ¬ a2 = 3 → ¬ a2 = 4 → a2 = 5 → P (some (vi (mem 176 a1))) (up2 mem 169 0 0))
    (k8 : 0 ≤ a1 ∧ a1 < (mem 169 3) → 0 ≤ a2 ∧ a2 ≤ 8 → ¬ a2 = 0 → ¬ a2 = 1 → ¬ a2 = 2 → ¬ a2 = 3 → ¬ a2 = 4 → ¬ a2 = 5 → a2 = 6 → P (some (vi (mem 177 a1))) (up2 mem 169 0 0))
    (k9 : 0 ≤ a1 ∧ a1 < (mem 169 3) → 0 ≤ a2 ∧ a2 ≤ 8 → ¬ a2 = 0 → ¬ a2 = 1 → ¬ a2 = 2 → ¬ a2 = 3 → ¬ a2 = 4 → ¬ a2 = 5 → ¬ a2 = 6 → a2 = 7 → GM E (m_X12_street 2) P 134 [.ref 169, vi a1, vi a2, un, un] [vi a1, .ref 180, .ref 169] (up2 mem 169 0 0))
    (k10 : 0 ≤ a1 ∧ a1 < (mem 169 3) → 0 ≤ a2 ∧ a2 ≤ 8 → ¬ a2 = 0 → ¬ a2 = 1 → ¬ a2 = 2 → ¬ a2 = 3 → ¬ a2 = 4 → ¬ a2 = 5 → ¬ a2 = 6 → ¬ a2 = 7 → GM E (m_X12_street 2) P 146 [.ref 169, vi a1, vi a2, vi 0, vi (16 * a1)] [] (up2 mem 169 0 0))
    (k11 : 0 ≤ a1 ∧ a1 < (mem 169 3) → ¬ (0 ≤ a2 ∧ a2 ≤ 8) → P (some (vi 0)) (up2 (up2 mem 169 0 0) 169 0 1))
    (k12 : ¬ (0 ≤ a1 ∧ a1 < (mem 169 3)) → P (some (vi 0)) (up2 (up2 mem 169 0 0) 169 0 1)) :
    GM E (m_X12_street 2) P 0 [.ref 169, vi a1, vi a2, un, un] [] mem := by
  refine G_aload_n dX12_street_0 rfl ?_
  refine G_iconst (z := 0) dX12_street_1 rfl ?_
  refine G_putI (mem2 := (up2 mem 169 0 0)) dX12_street_2 fp_12_126 (by decide) sh_169 rfl ?_
  refine G_aload_n dX12_street_5 rfl ?_
  refine G_iload_n dX12_street_6 rfl ?_
  refine cb_X12_street_7 (ic_X12_isStreet (z := (mem 169 3)) (by simp [up2, upr]) (w2) (w1) (fun c1 => ?_) (fun c2 => ?_))
  · -- 0 ≤ a1 ∧ a1 < (mem 169 3)
    refine G_if_eq (tgt := 25) dX12_street_10 (by decide) (by decide) (fun h => absurd h (by decide)) (fun _ => ?_)
    refine G_iload_n dX12_street_13 rfl ?_
    refine G_i2l dX12_street_14 (w3) ?_
    refine G_lconst (z := 0) dX12_street_15 rfl ?_
    refine G_ldc2 (z := 8) dX12_street_16 kc_12_324 ?_
    refine cb_X12_street_19 (ic_X12_in (w4) (by decide) (by decide) (fun c3 => ?_) (fun c4 => ?_))
    · -- 0 ≤ a2 ∧ a2 ≤ 8
      refine G_if_ne (tgt := 30) dX12_street_22 (by decide) (by decide) (fun _ => ?_) (fun h => absurd h (by decide))
      refine G_iload_n dX12_street_30 rfl ?_
      by_cases c5 : a2 = 0
      · refine G_tableIn (off := 45) (tgt := 76) dX12_street_31 (w3) (by omega) (by omega) (by rw [c5]; rfl) (by decide) ?_
        refine G_aload_n dX12_street_76 rfl ?_
        refine G_getR (t := 171) dX12_street_77 fl_12_13 (by decide) sh_169 rr_169_5 ?_
        refine G_iload_n dX12_street_80 rfl ?_
        refine G_iald (z := (mem 171 a1)) dX12_street_81 (by decide) sh_171 (by decide) (q5 c1 c3 c5).1 (q5 c1 c3 c5).2 (by simp [up2, upr]) ?_
        exact G_iret dX12_street_82 rfl (Nat.zero_le _) (Nat.zero_le _) (Nat.le_refl _) ⟨rfl, k1 c1 c3 c5⟩
      by_cases c6 : a2 = 1
      · refine G_tableIn (off := 52) (tgt := 83) dX12_street_31 (w3) (by omega) (by omega) (by rw [c6]; rfl) (by decide) ?_
        refine G_aload_n dX12_street_83 rfl ?_
        refine G_getR (t := 172) dX12_street_84 fl_12_17 (by decide) sh_169 rr_169_6 ?_
        refine G_iload_n dX12_street_87 rfl ?_
        refine G_iald (z := (mem 172 a1)) dX12_street_88 (by decide) sh_172 (by decide) (q6 c1 c3 c5 c6).1 (q6 c1 c3 c5 c6).2 (by simp [up2, upr]) ?_
        exact G_iret dX12_street_89 rfl (Nat.zero_le _) (Nat.zero_le _) (Nat.le_refl _) ⟨rfl, k2 c1 c3 c5 c6⟩
      by_cases c7 : a2 = 2
      · refine G_tableIn (off := 59) (tgt := 90) dX12_street_31 (w3) (by omega) (by omega) (by rw [c7]; rfl) (by decide) ?_
        refine G_aload_n dX12_street_90 rfl ?_
        refine G_getR (t := 173) dX12_street_91 fl_12_20 (by decide) sh_169 rr_169_7 ?_
        refine G_iload_n dX12_street_94 rfl ?_
        refine G_iald (z := (mem 173 a1)) dX12_street_95 (by decide) sh_173 (by decide) (q7 c1 c3 c5 c6 c7).1 (q7 c1 c3 c5 c6 c7).2 (by simp [up2, upr]) ?_
        exact G_iret dX12_street_96 rfl (Nat.zero_le _) (Nat.zero_le _) (Nat.le_refl _) ⟨rfl, k3 c1 c3 c5 c6 c7⟩
      by_cases c8 : a2 = 3
      · refine G_tableIn (off := 66) (tgt := 97) dX12_street_31 (w3) (by omega) (by omega) (by rw [c8]; rfl) (by decide) ?_
        refine G_aload_n dX12_street_97 rfl ?_
        refine G_getR (t := 174) dX12_street_98 fl_12_23 (by decide) sh_169 rr_169_8 ?_
        refine G_iload_n dX12_street_101 rfl ?_
        refine G_zald (z := (mem 174 a1)) dX12_street_102 (by decide) sh_174 (by decide) (q8 c1 c3 c5 c6 c7 c8).1 (q8 c1 c3 c5 c6 c7 c8).2 (by simp [up2, upr]) ?_
        refine cb_X12_street_103 (ic_X12_flag (w9 c1 c3 c5 c6 c7 c8) (fun c9 => ?_) (fun c10 => ?_))
        · -- ¬ (mem 174 a1) = 0
          exact G_iret dX12_street_106 rfl (Nat.zero_le _) (Nat.zero_le _) (Nat.le_refl _) ⟨rfl, k4 c1 c3 c5 c6 c7 c8 c9⟩
        · -- (mem 174 a1) = 0
          exact G_iret dX12_street_106 rfl (Nat.zero_le _) (Nat.zero_le _) (Nat.le_refl _) ⟨rfl, k5 c1 c3 c5 c6 c7 c8 c10⟩
      by_cases c11 : a2 = 4
      · refine G_tableIn (off := 76) (tgt := 107) dX12_street_31 (w3) (by omega) (by omega) (by rw [c11]; rfl) (by decide) ?_
        refine G_aload_n dX12_street_107 rfl ?_
        refine G_getR (t := 175) dX12_street_108 fl_12_27 (by decide) sh_169 rr_169_9 ?_
        refine G_iload_n dX12_street_111 rfl ?_
        refine G_iald (z := (mem 175 a1)) dX12_street_112 (by decide) sh_175 (by decide) (q10 c1 c3 c5 c6 c7 c8 c11).1 (q10 c1 c3 c5 c6 c7 c8 c11).2 (by simp [up2, upr]) ?_
        exact G_iret dX12_street_113 rfl (Nat.zero_le _) (Nat.zero_le _) (Nat.le_refl _) ⟨rfl, k6 c1 c3 c5 c6 c7 c8 c11⟩
      by_cases c12 : a2 = 5
      · refine G_tableIn (off := 83) (tgt := 114) dX12_street_31 (w3) (by omega) (by omega) (by rw [c12]; rfl) (by decide) ?_
        refine G_aload_n dX12_street_114 rfl ?_
        refine G_getR (t := 176) dX12_street_115 fl_12_30 (by decide) sh_169 rr_169_10 ?_
        refine G_iload_n dX12_street_118 rfl ?_
        refine G_iald (z := (mem 176 a1)) dX12_street_119 (by decide) sh_176 (by decide) (q11 c1 c3 c5 c6 c7 c8 c11 c12).1 (q11 c1 c3 c5 c6 c7 c8 c11 c12).2 (by simp [up2, upr]) ?_
        exact G_iret dX12_street_120 rfl (Nat.zero_le _) (Nat.zero_le _) (Nat.le_refl _) ⟨rfl, k7 c1 c3 c5 c6 c7 c8 c11 c12⟩
      by_cases c13 : a2 = 6
      · refine G_tableIn (off := 90) (tgt := 121) dX12_street_31 (w3) (by omega) (by omega) (by rw [c13]; rfl) (by decide) ?_
        refine G_aload_n dX12_street_121 rfl ?_
        refine G_getR (t := 177) dX12_street_122 fl_12_33 (by decide) sh_169 rr_169_11 ?_
        refine G_iload_n dX12_street_125 rfl ?_
        refine G_iald (z := (mem 177 a1)) dX12_street_126 (by decide) sh_177 (by decide) (q12 c1 c3 c5 c6 c7 c8 c11 c12 c13).1 (q12 c1 c3 c5 c6 c7 c8 c11 c12 c13).2 (by simp [up2, upr]) ?_
        exact G_iret dX12_street_127 rfl (Nat.zero_le _) (Nat.zero_le _) (Nat.le_refl _) ⟨rfl, k8 c1 c3 c5 c6 c7 c8 c11 c12 c13⟩
      by_cases c14 : a2 = 7
      · refine G_tableIn (off := 97) (tgt := 128) dX12_street_31 (w3) (by omega) (by omega) (by rw [c14]; rfl) (by decide) ?_
        refine G_aload_n dX12_street_128 rfl ?_
        refine G_aload_n dX12_street_129 rfl ?_
        refine G_getR (t := 180) dX12_street_130 fl_12_42 (by decide) sh_169 rr_169_14 ?_
        refine G_iload_n dX12_street_133 rfl ?_
        exact k9 c1 c3 c5 c6 c7 c8 c11 c12 c13 c14
      refine G_tableOut (tgt := 138) dX12_street_31 (w3) (by omega) (by decide) ?_
      refine G_iconst (z := 0) dX12_street_138 rfl ?_
      refine G_istore_n dX12_street_139 rfl (by decide : 3 < 5) rfl ?_
      refine G_bipush (z := 16) dX12_street_140 rfl ?_
      refine G_iload_n dX12_street_142 rfl ?_
      refine G_imul dX12_street_143 ?_
      refine G_istore dX12_street_144 (by decide : 4 < 5) rfl ?_
      exact k10 c1 c3 c5 c6 c7 c8 c11 c12 c13 c14
    · -- ¬ (0 ≤ a2 ∧ a2 ≤ 8)
      refine G_if_ne (tgt := 30) dX12_street_22 (by decide) (by decide) (fun h => absurd h (by decide)) (fun _ => ?_)
      refine G_aload_n dX12_street_25 rfl ?_
      refine cb_X12_street_26 (ic_X12_refuse ?_)
      exact G_iret dX12_street_29 rfl (Nat.zero_le _) (Nat.zero_le _) (Nat.le_refl _) ⟨rfl, k11 c1 c4⟩
  · -- ¬ (0 ≤ a1 ∧ a1 < (mem 169 3))
    refine G_if_eq (tgt := 25) dX12_street_10 (by decide) (by decide) (fun _ => ?_) (fun h => absurd h (by decide))
    refine G_aload_n dX12_street_25 rfl ?_
    refine cb_X12_street_26 (ic_X12_refuse ?_)
    exact G_iret dX12_street_29 rfl (Nat.zero_le _) (Nat.zero_le _) (Nat.le_refl _) ⟨rfl, k12 c2⟩
set_option maxRecDepth 20000 in
set_option maxHeartbeats 8000000 in
theorem sg_X12_street_137 {E : Nat × (Nat → Int32)} {P : Option Value → Mem → Prop} {mem : Mem} {a1 : Int} {a2 : Int} {s0 : Int}
    (k1 : P (some (vi s0)) mem) :
    GM E (m_X12_street 2) P 137 [.ref 169, vi a1, vi a2, un, un] [vi s0] mem := by
  exact G_iret dX12_street_137 rfl (Nat.zero_le _) (Nat.zero_le _) (Nat.le_refl _) ⟨rfl, k1⟩
set_option maxRecDepth 20000 in
set_option maxHeartbeats 8000000 in
theorem sg_X12_street_146 {E : Nat × (Nat → Int32)} {P : Option Value → Mem → Prop} {mem : Mem} {a1 : Int} {a2 : Int} {a3 : Int} {a4 : Int} (w1 : -2147483648 ≤ a4 ∧ a4 < 2147483648) (w2 : -2147483648 ≤ (16 * (a1 + 1)) ∧ (16 * (a1 + 1)) < 2147483648) (q3 : ¬ (16 * (a1 + 1)) ≤ a4 → 0 ≤ a4 ∧ a4 < 99) (w4 : ¬ (16 * (a1 + 1)) ≤ a4 → -2147483648 ≤ (mem 180 a4) ∧ (mem 180 a4) < 2147483648) (q5 : ¬ (16 * (a1 + 1)) ≤ a4 → (mem 180 a4) = 1 → 0 ≤ a4 ∧ a4 < 96)
    (k1 : (16 * (a1 + 1)) ≤ a4 → P (some (vi a3)) mem)
    (k2 : ¬ (16 * (a1 + 1)) ≤ a4 → GM E (m_X12_street 2) P 146 [.ref 169, vi a1, vi a2, vi (a3 + (if (mem 180 a4) ≠ 1 then (0 : Int) else (divI (((mem 178 a4) * (mem 179 3)) * (10 + (mem 179 2))) 10))), vi (a4 + 1)] [] mem) :
    GM E (m_X12_street 2) P 146 [.ref 169, vi a1, vi a2, vi a3, vi a4] [] mem := by
  refine G_iload dX12_street_146 rfl ?_
  refine G_bipush (z := 16) dX12_street_148 rfl ?_
  refine G_iload_n dX12_street_150 rfl ?_
  refine G_iconst (z := 1) dX12_street_151 rfl ?_
  refine G_iadd dX12_street_152 ?_
  refine G_imul dX12_street_153 ?_
  refine G_icmp_ge (tgt := 187) dX12_street_154 (by decide) (w1) (w2) (fun c1 => ?_) (fun c1 => ?_)
  · -- (16 * (a1 + 1)) ≤ a4
    refine G_iload_n dX12_street_187 rfl ?_
    exact G_iret dX12_street_188 rfl (Nat.zero_le _) (Nat.zero_le _) (Nat.le_refl _) ⟨rfl, k1 c1⟩
  · -- ¬ (16 * (a1 + 1)) ≤ a4
    refine G_iload_n dX12_street_157 rfl ?_
    refine G_aload_n dX12_street_158 rfl ?_
    refine G_getR (t := 180) dX12_street_159 fl_12_42 (by decide) sh_169 rr_169_14 ?_
    refine G_iload dX12_street_162 rfl ?_
    refine G_iald (z := (mem 180 a4)) dX12_street_164 (by decide) sh_180 (by decide) (q3 c1).1 (q3 c1).2 rfl ?_
    refine G_iconst (z := 1) dX12_street_165 rfl ?_
    have j1 : GM E (m_X12_street 2) P 179 [.ref 169, vi a1, vi a2, vi a3, vi a4] [vi (if (mem 180 a4) ≠ 1 then (0 : Int) else (divI (((mem 178 a4) * (mem 179 3)) * (10 + (mem 179 2))) 10)), vi a3] mem := by
      refine G_iadd dX12_street_179 ?_
      refine G_istore_n dX12_street_180 rfl (by decide : 3 < 5) rfl ?_
      refine G_iinc (z := (a4 + 1)) dX12_street_181 rfl rfl (by decide : 4 < 5) rfl ?_
      refine G_goto (tgt := 146) dX12_street_184 (by decide) ?_
      exact k2 c1
    refine G_icmp_ne (tgt := 178) dX12_street_166 (by decide) (w4 c1) (by decide) (fun c2 => ?_) (fun c2 => ?_)
    · -- (mem 180 a4) ≠ 1
      refine G_iconst (z := 0) dX12_street_178 rfl ?_
      have qj1 := j1
      simp only [if_pos c2] at qj1
      exact qj1
    · -- (mem 180 a4) = 1
      refine G_aload_n dX12_street_169 rfl ?_
      refine G_iload dX12_street_170 rfl ?_
      refine cb_X12_street_172 (ic_X12_heavy (w := (mem 178 a4)) (z := (mem 179 3)) (r := (mem 179 2)) ⟨(q5 c1 c2).1, (q5 c1 c2).2⟩ rfl rfl rfl ?_)
      refine G_goto (tgt := 179) dX12_street_175 (by decide) ?_
      have qj1 := j1
      simp only [if_neg (show ¬ ((mem 180 a4) ≠ 1) from fun q => q c2)] at qj1
      exact qj1
set_option maxRecDepth 20000 in
set_option maxHeartbeats 8000000 in
theorem sg_X12_streetGoes_0 {E : Nat × (Nat → Int32)} {P : Option Value → Mem → Prop} {mem : Mem} {r1 : Nat} {a2 : Int} {a3 : Int} {a4 : Int} (hl1 : r1 < 209) (hs1 : SH[r1]? = some (.inr (0, 99))) (q1 : 0 ≤ a2 ∧ a2 < 6)
    (k1 : GM E (m_X12_streetGoes 5) P 36 [.ref 169, .ref r1, vi a2, vi a3, vi a4, vi (mem 172 a2), vi 0] [] (up2 (up2 (up2 (up2 (up2 mem 169 32 0) 169 34 0) 169 35 0) 169 36 0) 169 37 0)) :
    GM E (m_X12_streetGoes 5) P 0 [.ref 169, .ref r1, vi a2, vi a3, vi a4, un, un] [] mem := by
  refine G_aload_n dX12_streetGoes_0 rfl ?_
  refine G_iconst (z := 0) dX12_streetGoes_1 rfl ?_
  refine G_putI (mem2 := (up2 mem 169 32 0)) dX12_streetGoes_2 fp_12_282 (by decide) sh_169 rfl ?_
  refine G_aload_n dX12_streetGoes_5 rfl ?_
  refine G_iconst (z := 0) dX12_streetGoes_6 rfl ?_
  refine G_putI (mem2 := (up2 (up2 mem 169 32 0) 169 34 0)) dX12_streetGoes_7 fp_12_288 (by decide) sh_169 rfl ?_
  refine G_aload_n dX12_streetGoes_10 rfl ?_
  refine G_iconst (z := 0) dX12_streetGoes_11 rfl ?_
  refine G_putI (mem2 := (up2 (up2 (up2 mem 169 32 0) 169 34 0) 169 35 0)) dX12_streetGoes_12 fp_12_279 (by decide) sh_169 rfl ?_
  refine G_aload_n dX12_streetGoes_15 rfl ?_
  refine G_iconst (z := 0) dX12_streetGoes_16 rfl ?_
  refine G_putI (mem2 := (up2 (up2 (up2 (up2 mem 169 32 0) 169 34 0) 169 35 0) 169 36 0)) dX12_streetGoes_17 fp_12_285 (by decide) sh_169 rfl ?_
  refine G_aload_n dX12_streetGoes_20 rfl ?_
  refine G_iconst (z := 0) dX12_streetGoes_21 rfl ?_
  refine G_putZ (mem2 := (up2 (up2 (up2 (up2 (up2 mem 169 32 0) 169 34 0) 169 35 0) 169 36 0) 169 37 0)) (by decide) dX12_streetGoes_22 fp_12_275 (by decide) sh_169 rfl ?_
  refine G_aload_n dX12_streetGoes_25 rfl ?_
  refine G_getR (t := 172) dX12_streetGoes_26 fl_12_17 (by decide) sh_169 rr_169_6 ?_
  refine G_iload_n dX12_streetGoes_29 rfl ?_
  refine G_iald (z := (mem 172 a2)) dX12_streetGoes_30 (by decide) sh_172 (by decide) (q1).1 (q1).2 (by simp [up2, upr]) ?_
  refine G_istore dX12_streetGoes_31 (by decide : 5 < 7) rfl ?_
  refine G_iconst (z := 0) dX12_streetGoes_33 rfl ?_
  refine G_istore dX12_streetGoes_34 (by decide : 6 < 7) rfl ?_
  exact k1
set_option maxRecDepth 20000 in
set_option maxHeartbeats 8000000 in
theorem sg_X12_streetGoes_36 {E : Nat × (Nat → Int32)} {P : Option Value → Mem → Prop} {mem : Mem} {r1 : Nat} {a2 : Int} {a3 : Int} {a4 : Int} {a5 : Int} {a6 : Int} (hl1 : r1 < 209) (hs1 : SH[r1]? = some (.inr (0, 99))) (w1 : -2147483648 ≤ a6 ∧ a6 < 2147483648) (w2 : -2147483648 ≤ a5 ∧ a5 < 2147483648)
    (k1 : a5 ≤ a6 → GM E (m_X12_streetGoes 5) P 83 [.ref 169, .ref r1, vi a2, vi a3, vi a4, vi a5, vi (a5 - 1)] [] mem)
    (k2 : ¬ a5 ≤ a6 → GM E (m_X12_streetGoes 5) P 52 [.ref 169, .ref r1, vi a2, vi a3, vi a4, vi a5, vi a6] [vi a4, vi a3, vi a6, vi 0, vi a2, .ref r1, .ref 169] mem) :
    GM E (m_X12_streetGoes 5) P 36 [.ref 169, .ref r1, vi a2, vi a3, vi a4, vi a5, vi a6] [] mem := by
  refine G_iload dX12_streetGoes_36 rfl ?_
  refine G_iload dX12_streetGoes_38 rfl ?_
  refine G_icmp_ge (tgt := 77) dX12_streetGoes_40 (by decide) (w1) (w2) (fun c1 => ?_) (fun c1 => ?_)
  · -- a5 ≤ a6
    refine G_iload dX12_streetGoes_77 rfl ?_
    refine G_iconst (z := 1) dX12_streetGoes_79 rfl ?_
    refine G_isub dX12_streetGoes_80 ?_
    refine G_istore dX12_streetGoes_81 (by decide : 6 < 7) rfl ?_
    exact k1 c1
  · -- ¬ a5 ≤ a6
    refine G_aload_n dX12_streetGoes_43 rfl ?_
    refine G_aload_n dX12_streetGoes_44 rfl ?_
    refine G_iload_n dX12_streetGoes_45 rfl ?_
    refine G_iconst (z := 0) dX12_streetGoes_46 rfl ?_
    refine G_iload dX12_streetGoes_47 rfl ?_
    refine G_iload_n dX12_streetGoes_49 rfl ?_
    refine G_iload dX12_streetGoes_50 rfl ?_
    exact k2 c1
set_option maxRecDepth 20000 in
set_option maxHeartbeats 8000000 in
theorem sg_X12_streetGoes_55 {E : Nat × (Nat → Int32)} {P : Option Value → Mem → Prop} {mem : Mem} {r1 : Nat} {a2 : Int} {a3 : Int} {a4 : Int} {a5 : Int} {a6 : Int} (hl1 : r1 < 209) (hs1 : SH[r1]? = some (.inr (0, 99))) (w1 : -2147483648 ≤ a3 ∧ a3 < 2147483648)
    (k1 : a3 ≤ 0 → GM E (m_X12_streetGoes 5) P 36 [.ref 169, .ref r1, vi a2, vi a3, vi a4, vi a5, vi (a6 + 1)] [] mem)
    (k2 : ¬ a3 ≤ 0 → GM E (m_X12_streetGoes 5) P 68 [.ref 169, .ref r1, vi a2, vi a3, vi a4, vi a5, vi a6] [vi a4, vi a3, vi a6, vi 1, vi a2, .ref r1, .ref 169] mem) :
    GM E (m_X12_streetGoes 5) P 55 [.ref 169, .ref r1, vi a2, vi a3, vi a4, vi a5, vi a6] [] mem := by
  refine G_iload_n dX12_streetGoes_55 rfl ?_
  refine G_if_le (tgt := 71) dX12_streetGoes_56 (by decide) (w1) (fun c1 => ?_) (fun c1 => ?_)
  · -- a3 ≤ 0
    refine G_iinc (z := (a6 + 1)) dX12_streetGoes_71 rfl rfl (by decide : 6 < 7) rfl ?_
    refine G_goto (tgt := 36) dX12_streetGoes_74 (by decide) ?_
    exact k1 c1
  · -- ¬ a3 ≤ 0
    refine G_aload_n dX12_streetGoes_59 rfl ?_
    refine G_aload_n dX12_streetGoes_60 rfl ?_
    refine G_iload_n dX12_streetGoes_61 rfl ?_
    refine G_iconst (z := 1) dX12_streetGoes_62 rfl ?_
    refine G_iload dX12_streetGoes_63 rfl ?_
    refine G_iload_n dX12_streetGoes_65 rfl ?_
    refine G_iload dX12_streetGoes_66 rfl ?_
    exact k2 c1
set_option maxRecDepth 20000 in
set_option maxHeartbeats 8000000 in
theorem sg_X12_streetGoes_71 {E : Nat × (Nat → Int32)} {P : Option Value → Mem → Prop} {mem : Mem} {r1 : Nat} {a2 : Int} {a3 : Int} {a4 : Int} {a5 : Int} {a6 : Int} (hl1 : r1 < 209) (hs1 : SH[r1]? = some (.inr (0, 99)))
    (k1 : GM E (m_X12_streetGoes 5) P 36 [.ref 169, .ref r1, vi a2, vi a3, vi a4, vi a5, vi (a6 + 1)] [] mem) :
    GM E (m_X12_streetGoes 5) P 71 [.ref 169, .ref r1, vi a2, vi a3, vi a4, vi a5, vi a6] [] mem := by
  refine G_iinc (z := (a6 + 1)) dX12_streetGoes_71 rfl rfl (by decide : 6 < 7) rfl ?_
  refine G_goto (tgt := 36) dX12_streetGoes_74 (by decide) ?_
  exact k1
set_option maxRecDepth 20000 in
set_option maxHeartbeats 8000000 in
theorem sg_X12_streetGoes_83 {E : Nat × (Nat → Int32)} {P : Option Value → Mem → Prop} {mem : Mem} {r1 : Nat} {a2 : Int} {a3 : Int} {a4 : Int} {a5 : Int} {a6 : Int} (hl1 : r1 < 209) (hs1 : SH[r1]? = some (.inr (0, 99))) (w1 : -2147483648 ≤ a6 ∧ a6 < 2147483648) (w2 : a6 < 0 → -2147483648 ≤ (mem 169 30) ∧ (mem 169 30) < 2147483648) (z3 : a6 < 0 → (mem 169 30) ≠ 0) (w4 : -2147483648 ≤ a3 ∧ a3 < 2147483648) (q5 : a6 < 0 → a3 ≠ 0 → a3 = 1 → 0 ≤ a2 ∧ a2 < 6) (w6 : a6 < 0 → a3 ≠ 0 → a3 = 1 → -2147483648 ≤ (mem 174 a2) ∧ (mem 174 a2) < 2147483648) (w7 : ¬ a6 < 0 → a3 ≠ 0 → -2147483648 ≤ (mem 169 30) ∧ (mem 169 30) < 2147483648) (z8 : ¬ a6 < 0 → a3 ≠ 0 → (mem 169 30) ≠ 0) (q9 : ¬ a6 < 0 → a3 ≠ 0 → a3 ≠ 0 → a3 = 1 → 0 ≤ a2 ∧ a2 < 6) (w10 : ¬ a6 < 0 → a3 ≠ 0 → a3 ≠ 0 → a3 = 1 → -2147483648 ≤ (mem 174 a2) ∧ (mem 174 a2) < 2147483648)
    (k1 : a6 < 0 → P (some (vi ((divI (((mem 169 32) + (mem 169 30)) - 1) (mem 169 30)) + (if a3 ≠ 0 then (if a3 ≠ 1 then (0 : Int) else ((5 * a5) + (if (mem 174 a2) = 0 then (0 : Int) else (9 * a5)))) else (10 * a5))))) (up2 (up2 mem 169 32 (divI (((mem 169 32) + (mem 169 30)) - 1) (mem 169 30))) 169 33 (if a3 ≠ 0 then (if a3 ≠ 1 then (0 : Int) else ((5 * a5) + (if (mem 174 a2) = 0 then (0 : Int) else (9 * a5)))) else (10 * a5))))
    (k2 : ¬ a6 < 0 → a3 ≠ 0 → P (some (vi ((divI (((mem 169 32) + (mem 169 30)) - 1) (mem 169 30)) + (if a3 ≠ 0 then (if a3 ≠ 1 then (0 : Int) else ((5 * a5) + (if (mem 174 a2) = 0 then (0 : Int) else (9 * a5)))) else (10 * a5))))) (up2 (up2 mem 169 32 (divI (((mem 169 32) + (mem 169 30)) - 1) (mem 169 30))) 169 33 (if a3 ≠ 0 then (if a3 ≠ 1 then (0 : Int) else ((5 * a5) + (if (mem 174 a2) = 0 then (0 : Int) else (9 * a5)))) else (10 * a5))))
    (k3 : ¬ a6 < 0 → a3 = 0 → GM E (m_X12_streetGoes 5) P 101 [.ref 169, .ref r1, vi a2, vi a3, vi a4, vi a5, vi a6] [vi a4, vi a3, vi a6, vi 1, vi a2, .ref r1, .ref 169] mem) :
    GM E (m_X12_streetGoes 5) P 83 [.ref 169, .ref r1, vi a2, vi a3, vi a4, vi a5, vi a6] [] mem := by
  refine G_iload dX12_streetGoes_83 rfl ?_
  refine G_if_lt (tgt := 110) dX12_streetGoes_85 (by decide) (w1) (fun c1 => ?_) (fun c1 => ?_)
  · -- a6 < 0
    refine G_aload_n dX12_streetGoes_110 rfl ?_
    refine G_aload_n dX12_streetGoes_111 rfl ?_
    refine G_getI (z := (mem 169 32)) dX12_streetGoes_112 fl_12_282 (by decide) sh_169 rfl ?_
    refine G_aload_n dX12_streetGoes_115 rfl ?_
    refine G_getI (z := (mem 169 30)) dX12_streetGoes_116 fl_12_269 (by decide) sh_169 rfl ?_
    refine G_iadd dX12_streetGoes_119 ?_
    refine G_iconst (z := 1) dX12_streetGoes_120 rfl ?_
    refine G_isub dX12_streetGoes_121 ?_
    refine G_aload_n dX12_streetGoes_122 rfl ?_
    refine G_getI (z := (mem 169 30)) dX12_streetGoes_123 fl_12_269 (by decide) sh_169 rfl ?_
    refine G_idiv (z := (divI (((mem 169 32) + (mem 169 30)) - 1) (mem 169 30))) dX12_streetGoes_126 (iI_ne0 (w2 c1) (z3 c1)) (iI_inv _) ?_
    refine G_putI (mem2 := (up2 mem 169 32 (divI (((mem 169 32) + (mem 169 30)) - 1) (mem 169 30)))) dX12_streetGoes_127 fp_12_282 (by decide) sh_169 rfl ?_
    refine G_aload_n dX12_streetGoes_130 rfl ?_
    refine G_iload_n dX12_streetGoes_131 rfl ?_
    have j1 : GM E (m_X12_streetGoes 5) P 175 [.ref 169, .ref r1, vi a2, vi a3, vi a4, vi a5, vi a6] [vi (if a3 ≠ 0 then (if a3 ≠ 1 then (0 : Int) else ((5 * a5) + (if (mem 174 a2) = 0 then (0 : Int) else (9 * a5)))) else (10 * a5)), .ref 169] (up2 mem 169 32 (divI (((mem 169 32) + (mem 169 30)) - 1) (mem 169 30))) := by
      refine G_putI (mem2 := (up2 (up2 mem 169 32 (divI (((mem 169 32) + (mem 169 30)) - 1) (mem 169 30))) 169 33 (if a3 ≠ 0 then (if a3 ≠ 1 then (0 : Int) else ((5 * a5) + (if (mem 174 a2) = 0 then (0 : Int) else (9 * a5)))) else (10 * a5)))) dX12_streetGoes_175 fp_12_299 (by decide) sh_169 rfl ?_
      refine G_aload_n dX12_streetGoes_178 rfl ?_
      refine G_getI (z := (divI (((mem 169 32) + (mem 169 30)) - 1) (mem 169 30))) dX12_streetGoes_179 fl_12_282 (by decide) sh_169 (by simp [up2, upr]) ?_
      refine G_aload_n dX12_streetGoes_182 rfl ?_
      refine G_getI (z := (if a3 ≠ 0 then (if a3 ≠ 1 then (0 : Int) else ((5 * a5) + (if (mem 174 a2) = 0 then (0 : Int) else (9 * a5)))) else (10 * a5))) dX12_streetGoes_183 fl_12_299 (by decide) sh_169 (by simp [up2, upr]) ?_
      refine G_iadd dX12_streetGoes_186 ?_
      exact G_iret dX12_streetGoes_187 rfl (Nat.zero_le _) (Nat.zero_le _) (Nat.le_refl _) ⟨rfl, k1 c1⟩
    refine G_if_ne (tgt := 143) dX12_streetGoes_132 (by decide) (w4) (fun c2 => ?_) (fun c2 => ?_)
    · -- a3 ≠ 0
      refine G_iload_n dX12_streetGoes_143 rfl ?_
      refine G_iconst (z := 1) dX12_streetGoes_144 rfl ?_
      have j2 : GM E (m_X12_streetGoes 5) P 175 [.ref 169, .ref r1, vi a2, vi a3, vi a4, vi a5, vi a6] [vi (if a3 ≠ 1 then (0 : Int) else ((5 * a5) + (if (mem 174 a2) = 0 then (0 : Int) else (9 * a5)))), .ref 169] (up2 mem 169 32 (divI (((mem 169 32) + (mem 169 30)) - 1) (mem 169 30))) := by
        have qj1 := j1
        simp only [if_pos c2] at qj1
        exact qj1
      refine G_icmp_ne (tgt := 174) dX12_streetGoes_145 (by decide) (w4) (by decide) (fun c3 => ?_) (fun c3 => ?_)
      · -- a3 ≠ 1
        refine G_iconst (z := 0) dX12_streetGoes_174 rfl ?_
        have qj2 := j2
        simp only [if_pos c3] at qj2
        exact qj2
      · -- a3 = 1
        refine G_iconst (z := 5) dX12_streetGoes_148 rfl ?_
        refine G_iload dX12_streetGoes_149 rfl ?_
        refine G_imul dX12_streetGoes_151 ?_
        refine G_aload_n dX12_streetGoes_152 rfl ?_
        refine G_getR (t := 174) dX12_streetGoes_153 fl_12_23 (by decide) sh_169 rr_169_8 ?_
        refine G_iload_n dX12_streetGoes_156 rfl ?_
        refine G_zald (z := (mem 174 a2)) dX12_streetGoes_157 (by decide) sh_174 (by decide) (q5 c1 c2 c3).1 (q5 c1 c2 c3).2 (by simp [up2, upr]) ?_
        have j3 : GM E (m_X12_streetGoes 5) P 170 [.ref 169, .ref r1, vi a2, vi a3, vi a4, vi a5, vi a6] [vi (if (mem 174 a2) = 0 then (0 : Int) else (9 * a5)), vi (5 * a5), .ref 169] (up2 mem 169 32 (divI (((mem 169 32) + (mem 169 30)) - 1) (mem 169 30))) := by
          refine G_iadd dX12_streetGoes_170 ?_
          refine G_goto (tgt := 175) dX12_streetGoes_171 (by decide) ?_
          have qj2 := j2
          simp only [if_neg (show ¬ (a3 ≠ 1) from fun q => q c3)] at qj2
          exact qj2
        refine G_if_eq (tgt := 169) dX12_streetGoes_158 (by decide) (w6 c1 c2 c3) (fun c4 => ?_) (fun c4 => ?_)
        · -- (mem 174 a2) = 0
          refine G_iconst (z := 0) dX12_streetGoes_169 rfl ?_
          have qj3 := j3
          simp only [if_pos c4] at qj3
          exact qj3
        · -- ¬ (mem 174 a2) = 0
          refine G_bipush (z := 9) dX12_streetGoes_161 rfl ?_
          refine G_iload dX12_streetGoes_163 rfl ?_
          refine G_imul dX12_streetGoes_165 ?_
          refine G_goto (tgt := 170) dX12_streetGoes_166 (by decide) ?_
          have qj3 := j3
          simp only [if_neg c4] at qj3
          exact qj3
    · -- a3 = 0
      refine G_bipush (z := 10) dX12_streetGoes_135 rfl ?_
      refine G_iload dX12_streetGoes_137 rfl ?_
      refine G_imul dX12_streetGoes_139 ?_
      refine G_goto (tgt := 175) dX12_streetGoes_140 (by decide) ?_
      have qj1 := j1
      simp only [if_neg (show ¬ (a3 ≠ 0) from fun q => q c2)] at qj1
      exact qj1
  · -- ¬ a6 < 0
    refine G_iload_n dX12_streetGoes_88 rfl ?_
    refine G_if_ne (tgt := 110) dX12_streetGoes_89 (by decide) (w4) (fun c5 => ?_) (fun c5 => ?_)
    · -- a3 ≠ 0
      refine G_aload_n dX12_streetGoes_110 rfl ?_
      refine G_aload_n dX12_streetGoes_111 rfl ?_
      refine G_getI (z := (mem 169 32)) dX12_streetGoes_112 fl_12_282 (by decide) sh_169 rfl ?_
      refine G_aload_n dX12_streetGoes_115 rfl ?_
      refine G_getI (z := (mem 169 30)) dX12_streetGoes_116 fl_12_269 (by decide) sh_169 rfl ?_
      refine G_iadd dX12_streetGoes_119 ?_
      refine G_iconst (z := 1) dX12_streetGoes_120 rfl ?_
      refine G_isub dX12_streetGoes_121 ?_
      refine G_aload_n dX12_streetGoes_122 rfl ?_
      refine G_getI (z := (mem 169 30)) dX12_streetGoes_123 fl_12_269 (by decide) sh_169 rfl ?_
      refine G_idiv (z := (divI (((mem 169 32) + (mem 169 30)) - 1) (mem 169 30))) dX12_streetGoes_126 (iI_ne0 (w7 c1 c5) (z8 c1 c5)) (iI_inv _) ?_
      refine G_putI (mem2 := (up2 mem 169 32 (divI (((mem 169 32) + (mem 169 30)) - 1) (mem 169 30)))) dX12_streetGoes_127 fp_12_282 (by decide) sh_169 rfl ?_
      refine G_aload_n dX12_streetGoes_130 rfl ?_
      refine G_iload_n dX12_streetGoes_131 rfl ?_
      have j4 : GM E (m_X12_streetGoes 5) P 175 [.ref 169, .ref r1, vi a2, vi a3, vi a4, vi a5, vi a6] [vi (if a3 ≠ 0 then (if a3 ≠ 1 then (0 : Int) else ((5 * a5) + (if (mem 174 a2) = 0 then (0 : Int) else (9 * a5)))) else (10 * a5)), .ref 169] (up2 mem 169 32 (divI (((mem 169 32) + (mem 169 30)) - 1) (mem 169 30))) := by
        refine G_putI (mem2 := (up2 (up2 mem 169 32 (divI (((mem 169 32) + (mem 169 30)) - 1) (mem 169 30))) 169 33 (if a3 ≠ 0 then (if a3 ≠ 1 then (0 : Int) else ((5 * a5) + (if (mem 174 a2) = 0 then (0 : Int) else (9 * a5)))) else (10 * a5)))) dX12_streetGoes_175 fp_12_299 (by decide) sh_169 rfl ?_
        refine G_aload_n dX12_streetGoes_178 rfl ?_
        refine G_getI (z := (divI (((mem 169 32) + (mem 169 30)) - 1) (mem 169 30))) dX12_streetGoes_179 fl_12_282 (by decide) sh_169 (by simp [up2, upr]) ?_
        refine G_aload_n dX12_streetGoes_182 rfl ?_
        refine G_getI (z := (if a3 ≠ 0 then (if a3 ≠ 1 then (0 : Int) else ((5 * a5) + (if (mem 174 a2) = 0 then (0 : Int) else (9 * a5)))) else (10 * a5))) dX12_streetGoes_183 fl_12_299 (by decide) sh_169 (by simp [up2, upr]) ?_
        refine G_iadd dX12_streetGoes_186 ?_
        exact G_iret dX12_streetGoes_187 rfl (Nat.zero_le _) (Nat.zero_le _) (Nat.le_refl _) ⟨rfl, k2 c1 c5⟩
      refine G_if_ne (tgt := 143) dX12_streetGoes_132 (by decide) (w4) (fun c6 => ?_) (fun c6 => ?_)
      · -- a3 ≠ 0
        refine G_iload_n dX12_streetGoes_143 rfl ?_
        refine G_iconst (z := 1) dX12_streetGoes_144 rfl ?_
        have j5 : GM E (m_X12_streetGoes 5) P 175 [.ref 169, .ref r1, vi a2, vi a3, vi a4, vi a5, vi a6] [vi (if a3 ≠ 1 then (0 : Int) else ((5 * a5) + (if (mem 174 a2) = 0 then (0 : Int) else (9 * a5)))), .ref 169] (up2 mem 169 32 (divI (((mem 169 32) + (mem 169 30)) - 1) (mem 169 30))) := by
          have qj4 := j4
          simp only [if_pos c6] at qj4
          exact qj4
        refine G_icmp_ne (tgt := 174) dX12_streetGoes_145 (by decide) (w4) (by decide) (fun c7 => ?_) (fun c7 => ?_)
        · -- a3 ≠ 1
          refine G_iconst (z := 0) dX12_streetGoes_174 rfl ?_
          have qj5 := j5
          simp only [if_pos c7] at qj5
          exact qj5
        · -- a3 = 1
          refine G_iconst (z := 5) dX12_streetGoes_148 rfl ?_
          refine G_iload dX12_streetGoes_149 rfl ?_
          refine G_imul dX12_streetGoes_151 ?_
          refine G_aload_n dX12_streetGoes_152 rfl ?_
          refine G_getR (t := 174) dX12_streetGoes_153 fl_12_23 (by decide) sh_169 rr_169_8 ?_
          refine G_iload_n dX12_streetGoes_156 rfl ?_
          refine G_zald (z := (mem 174 a2)) dX12_streetGoes_157 (by decide) sh_174 (by decide) (q9 c1 c5 c6 c7).1 (q9 c1 c5 c6 c7).2 (by simp [up2, upr]) ?_
          have j6 : GM E (m_X12_streetGoes 5) P 170 [.ref 169, .ref r1, vi a2, vi a3, vi a4, vi a5, vi a6] [vi (if (mem 174 a2) = 0 then (0 : Int) else (9 * a5)), vi (5 * a5), .ref 169] (up2 mem 169 32 (divI (((mem 169 32) + (mem 169 30)) - 1) (mem 169 30))) := by
            refine G_iadd dX12_streetGoes_170 ?_
            refine G_goto (tgt := 175) dX12_streetGoes_171 (by decide) ?_
            have qj5 := j5
            simp only [if_neg (show ¬ (a3 ≠ 1) from fun q => q c7)] at qj5
            exact qj5
          refine G_if_eq (tgt := 169) dX12_streetGoes_158 (by decide) (w10 c1 c5 c6 c7) (fun c8 => ?_) (fun c8 => ?_)
          · -- (mem 174 a2) = 0
            refine G_iconst (z := 0) dX12_streetGoes_169 rfl ?_
            have qj6 := j6
            simp only [if_pos c8] at qj6
            exact qj6
          · -- ¬ (mem 174 a2) = 0
            refine G_bipush (z := 9) dX12_streetGoes_161 rfl ?_
            refine G_iload dX12_streetGoes_163 rfl ?_
            refine G_imul dX12_streetGoes_165 ?_
            refine G_goto (tgt := 170) dX12_streetGoes_166 (by decide) ?_
            have qj6 := j6
            simp only [if_neg c8] at qj6
            exact qj6
      · -- a3 = 0
        refine G_bipush (z := 10) dX12_streetGoes_135 rfl ?_
        refine G_iload dX12_streetGoes_137 rfl ?_
        refine G_imul dX12_streetGoes_139 ?_
        refine G_goto (tgt := 175) dX12_streetGoes_140 (by decide) ?_
        have qj4 := j4
        simp only [if_neg (show ¬ (a3 ≠ 0) from fun q => q c6)] at qj4
        exact qj4
    · -- a3 = 0
      refine G_aload_n dX12_streetGoes_92 rfl ?_
      refine G_aload_n dX12_streetGoes_93 rfl ?_
      refine G_iload_n dX12_streetGoes_94 rfl ?_
      refine G_iconst (z := 1) dX12_streetGoes_95 rfl ?_
      refine G_iload dX12_streetGoes_96 rfl ?_
      refine G_iload_n dX12_streetGoes_98 rfl ?_
      refine G_iload dX12_streetGoes_99 rfl ?_
      exact k3 c1 c5
set_option maxRecDepth 20000 in
set_option maxHeartbeats 8000000 in
theorem sg_X12_streetGoes_104 {E : Nat × (Nat → Int32)} {P : Option Value → Mem → Prop} {mem : Mem} {r1 : Nat} {a2 : Int} {a3 : Int} {a4 : Int} {a5 : Int} {a6 : Int} (hl1 : r1 < 209) (hs1 : SH[r1]? = some (.inr (0, 99)))
    (k1 : GM E (m_X12_streetGoes 5) P 83 [.ref 169, .ref r1, vi a2, vi a3, vi a4, vi a5, vi (a6 + (-1))] [] mem) :
    GM E (m_X12_streetGoes 5) P 104 [.ref 169, .ref r1, vi a2, vi a3, vi a4, vi a5, vi a6] [] mem := by
  refine G_iinc (z := (a6 + (-1))) dX12_streetGoes_104 rfl rfl (by decide : 6 < 7) rfl ?_
  refine G_goto (tgt := 83) dX12_streetGoes_107 (by decide) ?_
  exact k1
set_option maxRecDepth 20000 in
set_option maxHeartbeats 8000000 in
theorem sg_X12_streets_0 {E : Nat × (Nat → Int32)} {P : Option Value → Mem → Prop} {mem : Mem} (w1 : -2147483648 ≤ (mem 169 17) ∧ (mem 169 17) < 2147483648)
    (k1 : (mem 169 17) ≤ 0 → GM E (m_X12_streets 8) P 29 [.ref 169, vi (mem 169 17), vi 1, vi 0, un, un] [] (up2 (up2 (up2 (up2 (up2 (up2 mem 169 0 0) 169 17 0) 169 18 0) 169 20 0) 169 19 (min (mem 169 17) 76)) 169 23 0))
    (k2 : ¬ (mem 169 17) ≤ 0 → GM E (m_X12_streets 8) P 29 [.ref 169, vi (mem 169 17), vi 1, vi 1, un, un] [] (up2 (up2 (up2 (up2 (up2 (up2 mem 169 0 0) 169 17 0) 169 18 0) 169 20 0) 169 19 (min (mem 169 17) 76)) 169 23 0)) :
    GM E (m_X12_streets 8) P 0 [.ref 169, un, un, un, un, un] [] mem := by
  refine G_aload_n dX12_streets_0 rfl ?_
  refine G_iconst (z := 0) dX12_streets_1 rfl ?_
  refine G_putI (mem2 := (up2 mem 169 0 0)) dX12_streets_2 fp_12_126 (by decide) sh_169 rfl ?_
  refine G_aload_n dX12_streets_5 rfl ?_
  refine G_bipush (z := 76) dX12_streets_6 rfl ?_
  refine cb_X12_streets_8 (ic_X12_begins (z := (mem 169 17)) (by simp [up2, upr]) (w1) (by decide) ?_)
  refine G_istore_n dX12_streets_11 rfl (by decide : 1 < 6) rfl ?_
  refine G_aload_n dX12_streets_12 rfl ?_
  refine G_iconst (z := 0) dX12_streets_13 rfl ?_
  refine G_putI (mem2 := (up2 (up2 (up2 (up2 (up2 (up2 mem 169 0 0) 169 17 0) 169 18 0) 169 20 0) 169 19 (min (mem 169 17) 76)) 169 23 0)) dX12_streets_14 fp_12_192 (by decide) sh_169 rfl ?_
  refine G_iconst (z := 1) dX12_streets_17 rfl ?_
  refine G_istore_n dX12_streets_18 rfl (by decide : 2 < 6) rfl ?_
  refine G_iload_n dX12_streets_19 rfl ?_
  refine G_if_le (tgt := 27) dX12_streets_20 (by decide) (w1) (fun c1 => ?_) (fun c1 => ?_)
  · -- (mem 169 17) ≤ 0
    refine G_iconst (z := 0) dX12_streets_27 rfl ?_
    refine G_istore_n dX12_streets_28 rfl (by decide : 3 < 6) rfl ?_
    exact k1 c1
  · -- ¬ (mem 169 17) ≤ 0
    refine G_iconst (z := 1) dX12_streets_23 rfl ?_
    refine G_goto (tgt := 28) dX12_streets_24 (by decide) ?_
    refine G_istore_n dX12_streets_28 rfl (by decide : 3 < 6) rfl ?_
    exact k2 c1
set_option maxRecDepth 20000 in
set_option maxHeartbeats 8000000 in
theorem sg_X12_streets_29 {E : Nat × (Nat → Int32)} {P : Option Value → Mem → Prop} {mem : Mem} {a1 : Int} {a2 : Int} {a3 : Int} (w1 : -2147483648 ≤ a3 ∧ a3 < 2147483648)
    (k1 : a3 = 0 → GM E (m_X12_streets 8) P 65 [.ref 169, vi a1, vi a2, vi a3, un, un] [vi a2, vi 76, vi a1, .ref 169] mem)
    (k2 : ¬ a3 = 0 → GM E (m_X12_streets 8) P 34 [.ref 169, vi a1, vi a2, vi a3, un, un] [.ref 169] mem) :
    GM E (m_X12_streets 8) P 29 [.ref 169, vi a1, vi a2, vi a3, un, un] [] mem := by
  refine G_iload_n dX12_streets_29 rfl ?_
  refine G_if_eq (tgt := 60) dX12_streets_30 (by decide) (w1) (fun c1 => ?_) (fun c1 => ?_)
  · -- a3 = 0
    refine G_aload_n dX12_streets_60 rfl ?_
    refine G_iload_n dX12_streets_61 rfl ?_
    refine G_bipush (z := 76) dX12_streets_62 rfl ?_
    refine G_iload_n dX12_streets_64 rfl ?_
    exact k1 c1
  · -- ¬ a3 = 0
    refine G_aload_n dX12_streets_33 rfl ?_
    exact k2 c1
set_option maxRecDepth 20000 in
set_option maxHeartbeats 8000000 in
theorem sg_X12_streets_37 {E : Nat × (Nat → Int32)} {P : Option Value → Mem → Prop} {mem : Mem} {a1 : Int} {a2 : Int} {a3 : Int} {s0 : Int} (w1 : -2147483648 ≤ s0 ∧ s0 < 2147483648) (q2 : ¬ s0 = 0 → 0 ≤ (mem 169 18) ∧ (mem 169 18) < 2147483648 ∧ -2147483648 ≤ (mem 169 19) ∧ (mem 169 19) ≤ 80) (w3 : ¬ s0 = 0 → -2147483648 ≤ (mem 182 (mem 169 18)) ∧ (mem 182 (mem 169 18)) < 2147483648)
    (k1 : s0 = 0 → GM E (m_X12_streets 8) P 29 [.ref 169, vi a1, vi s0, vi 0, un, un] [] mem)
    (k2 : ¬ s0 = 0 → (mem 169 18) < (mem 169 19) ∧ (mem 182 (mem 169 18)) = 59 → GM E (m_X12_streets 8) P 29 [.ref 169, vi a1, vi s0, vi 1, un, un] [] (up2 mem 169 18 ((mem 169 18) + 1)))
    (k3 : ¬ s0 = 0 → ¬ ((mem 169 18) < (mem 169 19) ∧ (mem 182 (mem 169 18)) = 59) → GM E (m_X12_streets 8) P 29 [.ref 169, vi a1, vi s0, vi 0, un, un] [] (up2 mem 169 18 ((mem 169 18) + 0))) :
    GM E (m_X12_streets 8) P 37 [.ref 169, vi a1, vi a2, vi a3, un, un] [vi s0] mem := by
  refine G_istore_n dX12_streets_37 rfl (by decide : 2 < 6) rfl ?_
  refine G_iload_n dX12_streets_38 rfl ?_
  refine G_if_eq (tgt := 55) dX12_streets_39 (by decide) (w1) (fun c1 => ?_) (fun c1 => ?_)
  · -- s0 = 0
    refine G_iconst (z := 0) dX12_streets_55 rfl ?_
    refine G_istore_n dX12_streets_56 rfl (by decide : 3 < 6) rfl ?_
    refine G_goto (tgt := 29) dX12_streets_57 (by decide) ?_
    exact k1 c1
  · -- ¬ s0 = 0
    refine G_aload_n dX12_streets_42 rfl ?_
    refine G_bipush (z := 59) dX12_streets_43 rfl ?_
    refine cb_X12_streets_45 (ic_X12_isNext (a := (mem 169 18)) (b := (mem 169 19)) (t := (mem 182 (mem 169 18))) rfl rfl (q2 c1) (by decide) rfl (w3 c1) (fun c2 => ?_) (fun c3 => ?_))
    · -- (mem 169 18) < (mem 169 19) ∧ (mem 182 (mem 169 18)) = 59
      refine G_if_eq (tgt := 55) dX12_streets_48 (by decide) (by decide) (fun h => absurd h (by decide)) (fun _ => ?_)
      refine G_iconst (z := 1) dX12_streets_51 rfl ?_
      refine G_goto (tgt := 56) dX12_streets_52 (by decide) ?_
      refine G_istore_n dX12_streets_56 rfl (by decide : 3 < 6) rfl ?_
      refine G_goto (tgt := 29) dX12_streets_57 (by decide) ?_
      exact k2 c1 c2
    · -- ¬ ((mem 169 18) < (mem 169 19) ∧ (mem 182 (mem 169 18)) = 59)
      refine G_if_eq (tgt := 55) dX12_streets_48 (by decide) (by decide) (fun _ => ?_) (fun h => absurd h (by decide))
      refine G_iconst (z := 0) dX12_streets_55 rfl ?_
      refine G_istore_n dX12_streets_56 rfl (by decide : 3 < 6) rfl ?_
      refine G_goto (tgt := 29) dX12_streets_57 (by decide) ?_
      exact k3 c1 c3
set_option maxRecDepth 20000 in
set_option maxHeartbeats 8000000 in
theorem sg_X12_streets_68 {E : Nat × (Nat → Int32)} {P : Option Value → Mem → Prop} {mem : Mem} {a1 : Int} {a2 : Int} {a3 : Int} {s0 : Int} (w1 : -2147483648 ≤ s0 ∧ s0 < 2147483648)
    (k1 : 0 ≤ s0 → GM E (m_X12_streets 8) P 81 [.ref 169, vi a1, vi a2, vi a3, vi s0, vi 0] [] mem)
    (k2 : ¬ 0 ≤ s0 → P (some (vi s0)) mem) :
    GM E (m_X12_streets 8) P 68 [.ref 169, vi a1, vi a2, vi a3, un, un] [vi s0] mem := by
  refine G_istore dX12_streets_68 (by decide : 4 < 6) rfl ?_
  refine G_iload dX12_streets_70 rfl ?_
  refine G_if_ge (tgt := 78) dX12_streets_72 (by decide) (w1) (fun c1 => ?_) (fun c1 => ?_)
  · -- 0 ≤ s0
    refine G_iconst (z := 0) dX12_streets_78 rfl ?_
    refine G_istore dX12_streets_79 (by decide : 5 < 6) rfl ?_
    exact k1 c1
  · -- ¬ 0 ≤ s0
    refine G_iload dX12_streets_75 rfl ?_
    exact G_iret dX12_streets_77 rfl (Nat.zero_le _) (Nat.zero_le _) (Nat.le_refl _) ⟨rfl, k2 c1⟩
set_option maxRecDepth 20000 in
set_option maxHeartbeats 8000000 in
theorem sg_X12_streets_81 {E : Nat × (Nat → Int32)} {P : Option Value → Mem → Prop} {mem : Mem} {a1 : Int} {a2 : Int} {a3 : Int} {a4 : Int} {a5 : Int} (w1 : -2147483648 ≤ a5 ∧ a5 < 2147483648) (w2 : -2147483648 ≤ (mem 169 23) ∧ (mem 169 23) < 2147483648) (w3 : -2147483648 ≤ a1 ∧ a1 < 2147483648)
    (k1 : (mem 169 23) ≤ a5 → a1 ≤ 0 → P (some (vi (mem 169 23))) (up2 mem 169 3 ((mem 169 3) + (mem 169 23))))
    (k2 : (mem 169 23) ≤ a5 → ¬ a1 ≤ 0 → P (some (vi (mem 169 23))) (up2 (up2 (up2 mem 169 3 ((mem 169 3) + (mem 169 23))) 169 40 0) 169 4 ((mem 169 4) + 1)))
    (k3 : ¬ (mem 169 23) ≤ a5 → GM E (m_X12_streets 8) P 100 [.ref 169, vi a1, vi a2, vi a3, vi a4, vi a5] [vi a5, vi ((mem 169 3) + a5), .ref 169] mem) :
    GM E (m_X12_streets 8) P 81 [.ref 169, vi a1, vi a2, vi a3, vi a4, vi a5] [] mem := by
  refine G_iload dX12_streets_81 rfl ?_
  refine G_aload_n dX12_streets_83 rfl ?_
  refine G_getI (z := (mem 169 23)) dX12_streets_84 fl_12_192 (by decide) sh_169 rfl ?_
  refine G_icmp_ge (tgt := 109) dX12_streets_87 (by decide) (w1) (w2) (fun c1 => ?_) (fun c1 => ?_)
  · -- (mem 169 23) ≤ a5
    refine G_aload_n dX12_streets_109 rfl ?_
    refine G_dup dX12_streets_110 rfl ?_
    refine G_getI (z := (mem 169 3)) dX12_streets_111 fl_12_137 (by decide) sh_169 rfl ?_
    refine G_aload_n dX12_streets_114 rfl ?_
    refine G_getI (z := (mem 169 23)) dX12_streets_115 fl_12_192 (by decide) sh_169 rfl ?_
    refine G_iadd dX12_streets_118 ?_
    refine G_putI (mem2 := (up2 mem 169 3 ((mem 169 3) + (mem 169 23)))) dX12_streets_119 fp_12_137 (by decide) sh_169 rfl ?_
    refine G_iload_n dX12_streets_122 rfl ?_
    refine G_if_le (tgt := 141) dX12_streets_123 (by decide) (w3) (fun c2 => ?_) (fun c2 => ?_)
    · -- a1 ≤ 0
      refine G_aload_n dX12_streets_141 rfl ?_
      refine G_getI (z := (mem 169 23)) dX12_streets_142 fl_12_192 (by decide) sh_169 (by simp [up2, upr]) ?_
      exact G_iret dX12_streets_145 rfl (Nat.zero_le _) (Nat.zero_le _) (Nat.le_refl _) ⟨rfl, k1 c1 c2⟩
    · -- ¬ a1 ≤ 0
      refine G_aload_n dX12_streets_126 rfl ?_
      refine G_iconst (z := 0) dX12_streets_127 rfl ?_
      refine G_putI (mem2 := (up2 (up2 mem 169 3 ((mem 169 3) + (mem 169 23))) 169 40 0)) dX12_streets_128 fp_12_224 (by decide) sh_169 rfl ?_
      refine G_aload_n dX12_streets_131 rfl ?_
      refine G_dup dX12_streets_132 rfl ?_
      refine G_getI (z := (mem 169 4)) dX12_streets_133 fl_12_227 (by decide) sh_169 (by simp [up2, upr]) ?_
      refine G_iconst (z := 1) dX12_streets_136 rfl ?_
      refine G_iadd dX12_streets_137 ?_
      refine G_putI (mem2 := (up2 (up2 (up2 mem 169 3 ((mem 169 3) + (mem 169 23))) 169 40 0) 169 4 ((mem 169 4) + 1))) dX12_streets_138 fp_12_227 (by decide) sh_169 rfl ?_
      refine G_aload_n dX12_streets_141 rfl ?_
      refine G_getI (z := (mem 169 23)) dX12_streets_142 fl_12_192 (by decide) sh_169 (by simp [up2, upr]) ?_
      exact G_iret dX12_streets_145 rfl (Nat.zero_le _) (Nat.zero_le _) (Nat.le_refl _) ⟨rfl, k2 c1 c2⟩
  · -- ¬ (mem 169 23) ≤ a5
    refine G_aload_n dX12_streets_90 rfl ?_
    refine G_aload_n dX12_streets_91 rfl ?_
    refine G_getI (z := (mem 169 3)) dX12_streets_92 fl_12_137 (by decide) sh_169 rfl ?_
    refine G_iload dX12_streets_95 rfl ?_
    refine G_iadd dX12_streets_97 ?_
    refine G_iload dX12_streets_98 rfl ?_
    exact k3 c1
set_option maxRecDepth 20000 in
set_option maxHeartbeats 8000000 in
theorem sg_X12_streets_103 {E : Nat × (Nat → Int32)} {P : Option Value → Mem → Prop} {mem : Mem} {a1 : Int} {a2 : Int} {a3 : Int} {a4 : Int} {a5 : Int}
    (k1 : GM E (m_X12_streets 8) P 81 [.ref 169, vi a1, vi a2, vi a3, vi a4, vi (a5 + 1)] [] mem) :
    GM E (m_X12_streets 8) P 103 [.ref 169, vi a1, vi a2, vi a3, vi a4, vi a5] [] mem := by
  refine G_iinc (z := (a5 + 1)) dX12_streets_103 rfl rfl (by decide : 5 < 6) rfl ?_
  refine G_goto (tgt := 81) dX12_streets_106 (by decide) ?_
  exact k1
set_option maxRecDepth 20000 in
set_option maxHeartbeats 8000000 in
theorem sg_X12_sumOf_0 {E : Nat × (Nat → Int32)} {P : Option Value → Mem → Prop} {mem : Mem} {a1 : Int}
    (k1 : GM E (m_X12_sumOf 9) P 4 [.ref 169, vi a1, vi 0, vi 0] [] mem) :
    GM E (m_X12_sumOf 9) P 0 [.ref 169, vi a1, un, un] [] mem := by
  refine G_iconst (z := 0) dX12_sumOf_0 rfl ?_
  refine G_istore_n dX12_sumOf_1 rfl (by decide : 2 < 4) rfl ?_
  refine G_iconst (z := 0) dX12_sumOf_2 rfl ?_
  refine G_istore_n dX12_sumOf_3 rfl (by decide : 3 < 4) rfl ?_
  exact k1
set_option maxRecDepth 20000 in
set_option maxHeartbeats 8000000 in
theorem sg_X12_sumOf_4 {E : Nat × (Nat → Int32)} {P : Option Value → Mem → Prop} {mem : Mem} {a1 : Int} {a2 : Int} {a3 : Int} (w1 : -2147483648 ≤ a3 ∧ a3 < 2147483648) (w2 : -2147483648 ≤ (mem 169 3) ∧ (mem 169 3) < 2147483648)
    (k1 : (mem 169 3) ≤ a3 → P (some (vi a2)) mem)
    (k2 : ¬ (mem 169 3) ≤ a3 → (bandI (shrI a1 a3) 1) = 1 → GM E (m_X12_sumOf 9) P 23 [.ref 169, vi a1, vi a2, vi a3] [vi a3, .ref 169, vi a2] mem)
    (k3 : ¬ (mem 169 3) ≤ a3 → ¬ (bandI (shrI a1 a3) 1) = 1 → GM E (m_X12_sumOf 9) P 4 [.ref 169, vi a1, vi (a2 + 0), vi (a3 + 1)] [] mem) :
    GM E (m_X12_sumOf 9) P 4 [.ref 169, vi a1, vi a2, vi a3] [] mem := by
  refine G_iload_n dX12_sumOf_4 rfl ?_
  refine G_aload_n dX12_sumOf_5 rfl ?_
  refine G_getI (z := (mem 169 3)) dX12_sumOf_6 fl_12_137 (by decide) sh_169 rfl ?_
  refine G_icmp_ge (tgt := 38) dX12_sumOf_9 (by decide) (w1) (w2) (fun c1 => ?_) (fun c1 => ?_)
  · -- (mem 169 3) ≤ a3
    refine G_iload_n dX12_sumOf_38 rfl ?_
    exact G_iret dX12_sumOf_39 rfl (Nat.zero_le _) (Nat.zero_le _) (Nat.le_refl _) ⟨rfl, k1 c1⟩
  · -- ¬ (mem 169 3) ≤ a3
    refine G_iload_n dX12_sumOf_12 rfl ?_
    refine G_iload_n dX12_sumOf_13 rfl ?_
    refine G_iload_n dX12_sumOf_14 rfl ?_
    refine cb_X12_sumOf_15 (ic_X12_has (fun c2 => ?_) (fun c3 => ?_))
    · -- (bandI (shrI a1 a3) 1) = 1
      refine G_if_eq (tgt := 29) dX12_sumOf_18 (by decide) (by decide) (fun h => absurd h (by decide)) (fun _ => ?_)
      refine G_aload_n dX12_sumOf_21 rfl ?_
      refine G_iload_n dX12_sumOf_22 rfl ?_
      exact k2 c1 c2
    · -- ¬ (bandI (shrI a1 a3) 1) = 1
      refine G_if_eq (tgt := 29) dX12_sumOf_18 (by decide) (by decide) (fun _ => ?_) (fun h => absurd h (by decide))
      refine G_iconst (z := 0) dX12_sumOf_29 rfl ?_
      refine G_iadd dX12_sumOf_30 ?_
      refine G_istore_n dX12_sumOf_31 rfl (by decide : 2 < 4) rfl ?_
      refine G_iinc (z := (a3 + 1)) dX12_sumOf_32 rfl rfl (by decide : 3 < 4) rfl ?_
      refine G_goto (tgt := 4) dX12_sumOf_35 (by decide) ?_
      exact k3 c1 c3
set_option maxRecDepth 20000 in
set_option maxHeartbeats 8000000 in
theorem sg_X12_sumOf_26 {E : Nat × (Nat → Int32)} {P : Option Value → Mem → Prop} {mem : Mem} {a1 : Int} {a2 : Int} {a3 : Int} {s0 : Int} {s1 : Int}
    (k1 : GM E (m_X12_sumOf 9) P 4 [.ref 169, vi a1, vi (s1 + s0), vi (a3 + 1)] [] mem) :
    GM E (m_X12_sumOf 9) P 26 [.ref 169, vi a1, vi a2, vi a3] [vi s0, vi s1] mem := by
  refine G_goto (tgt := 30) dX12_sumOf_26 (by decide) ?_
  refine G_iadd dX12_sumOf_30 ?_
  refine G_istore_n dX12_sumOf_31 rfl (by decide : 2 < 4) rfl ?_
  refine G_iinc (z := (a3 + 1)) dX12_sumOf_32 rfl rfl (by decide : 3 < 4) rfl ?_
  refine G_goto (tgt := 4) dX12_sumOf_35 (by decide) ?_
  exact k1
set_option maxRecDepth 20000 in
set_option maxHeartbeats 8000000 in
theorem sg_X12_takes_0 {E : Nat × (Nat → Int32)} {P : Option Value → Mem → Prop} {mem : Mem} {a1 : Int} {a2 : Int} (w1 : 0 ≤ (mem 169 3) ∧ (mem 169 3) < 2147483648) (w2 : -2147483648 ≤ a1 ∧ a1 < 2147483648) (w3 : -2147483648 ≤ a2 ∧ a2 < 2147483648) (w4 : -9223372036854775808 ≤ a2 ∧ a2 < 9223372036854775808) (q5 : 0 ≤ a1 ∧ a1 < (mem 169 3) → 0 ≤ a2 ∧ a2 ≤ 2 → 0 ≤ a1 ∧ a1 < 6)
    (k1 : 0 ≤ a1 ∧ a1 < (mem 169 3) → 0 ≤ a2 ∧ a2 ≤ 2 → GM E (m_X12_takes 7) P 39 [.ref 169, vi a1, vi a2, un] [vi a2, vi a1, .ref 180, .ref 169] (up2 (up2 (up2 mem 169 0 0) 169 30 (mem 179 1)) 169 31 (mem 173 a1)))
    (k2 : 0 ≤ a1 ∧ a1 < (mem 169 3) → ¬ (0 ≤ a2 ∧ a2 ≤ 2) → P (some (vi (-1))) (up2 mem 169 0 0))
    (k3 : ¬ (0 ≤ a1 ∧ a1 < (mem 169 3)) → P (some (vi (-1))) (up2 mem 169 0 0)) :
    GM E (m_X12_takes 7) P 0 [.ref 169, vi a1, vi a2, un] [] mem := by
  refine G_aload_n dX12_takes_0 rfl ?_
  refine G_iconst (z := 0) dX12_takes_1 rfl ?_
  refine G_putI (mem2 := (up2 mem 169 0 0)) dX12_takes_2 fp_12_126 (by decide) sh_169 rfl ?_
  refine G_aload_n dX12_takes_5 rfl ?_
  refine G_iload_n dX12_takes_6 rfl ?_
  refine cb_X12_takes_7 (ic_X12_isStreet (z := (mem 169 3)) (by simp [up2, upr]) (w2) (w1) (fun c1 => ?_) (fun c2 => ?_))
  · -- 0 ≤ a1 ∧ a1 < (mem 169 3)
    refine G_if_eq (tgt := 25) dX12_takes_10 (by decide) (by decide) (fun h => absurd h (by decide)) (fun _ => ?_)
    refine G_iload_n dX12_takes_13 rfl ?_
    refine G_i2l dX12_takes_14 (w3) ?_
    refine G_lconst (z := 0) dX12_takes_15 rfl ?_
    refine G_ldc2 (z := 2) dX12_takes_16 kc_12_346 ?_
    refine cb_X12_takes_19 (ic_X12_in (w4) (by decide) (by decide) (fun c3 => ?_) (fun c4 => ?_))
    · -- 0 ≤ a2 ∧ a2 ≤ 2
      refine G_if_ne (tgt := 27) dX12_takes_22 (by decide) (by decide) (fun _ => ?_) (fun h => absurd h (by decide))
      refine G_aload_n dX12_takes_27 rfl ?_
      refine G_iload_n dX12_takes_28 rfl ?_
      refine cb_X12_takes_29 (ic_X12_thinksAsIs (a := (mem 179 1)) (b := (mem 173 a1)) ⟨(q5 c1 c3).1, (q5 c1 c3).2⟩ (by simp [up2, upr]) (by simp [up2, upr]) ?_)
      refine G_aload_n dX12_takes_32 rfl ?_
      refine G_aload_n dX12_takes_33 rfl ?_
      refine G_getR (t := 180) dX12_takes_34 fl_12_42 (by decide) sh_169 rr_169_14 ?_
      refine G_iload_n dX12_takes_37 rfl ?_
      refine G_iload_n dX12_takes_38 rfl ?_
      exact k1 c1 c3
    · -- ¬ (0 ≤ a2 ∧ a2 ≤ 2)
      refine G_if_ne (tgt := 27) dX12_takes_22 (by decide) (by decide) (fun h => absurd h (by decide)) (fun _ => ?_)
      refine G_iconst (z := (-1)) dX12_takes_25 rfl ?_
      exact G_iret dX12_takes_26 rfl (Nat.zero_le _) (Nat.zero_le _) (Nat.le_refl _) ⟨rfl, k2 c1 c4⟩
  · -- ¬ (0 ≤ a1 ∧ a1 < (mem 169 3))
    refine G_if_eq (tgt := 25) dX12_takes_10 (by decide) (by decide) (fun _ => ?_) (fun h => absurd h (by decide))
    refine G_iconst (z := (-1)) dX12_takes_25 rfl ?_
    exact G_iret dX12_takes_26 rfl (Nat.zero_le _) (Nat.zero_le _) (Nat.le_refl _) ⟨rfl, k3 c2⟩
set_option maxRecDepth 20000 in
set_option maxHeartbeats 8000000 in
theorem sg_X12_takes_42 {E : Nat × (Nat → Int32)} {P : Option Value → Mem → Prop} {mem : Mem} {a1 : Int} {a2 : Int} {s0 : Int} (w1 : -2147483648 ≤ (mem 169 32) ∧ (mem 169 32) < 2147483648) (w2 : -2147483648 ≤ (mem 169 33) ∧ (mem 169 33) < 2147483648)
    (k1 : P (some (vi s0)) (up2 (up2 (up2 (up2 (up2 mem 169 1 0) 170 0 (mem 169 32)) 169 1 1) 170 1 (mem 169 33)) 169 1 2)) :
    GM E (m_X12_takes 7) P 42 [.ref 169, vi a1, vi a2, un] [vi s0] mem := by
  refine G_istore_n dX12_takes_42 rfl (by decide : 3 < 4) rfl ?_
  refine G_aload_n dX12_takes_43 rfl ?_
  refine G_iconst (z := 0) dX12_takes_44 rfl ?_
  refine G_putI (mem2 := (up2 mem 169 1 0)) dX12_takes_45 fp_12_134 (by decide) sh_169 rfl ?_
  refine G_aload_n dX12_takes_48 rfl ?_
  refine G_aload_n dX12_takes_49 rfl ?_
  refine G_getI (z := (mem 169 32)) dX12_takes_50 fl_12_282 (by decide) sh_169 (by simp [up2, upr]) ?_
  refine G_i2l dX12_takes_53 (w1) ?_
  refine cb_X12_takes_54 (ic_X12_enters (z := 0) (z2 := 1) (by simp [up2, upr]) (by decide) rfl ?_)
  refine G_aload_n dX12_takes_57 rfl ?_
  refine G_aload_n dX12_takes_58 rfl ?_
  refine G_getI (z := (mem 169 33)) dX12_takes_59 fl_12_299 (by decide) sh_169 (by simp [up2, upr]) ?_
  refine G_i2l dX12_takes_62 (w2) ?_
  refine cb_X12_takes_63 (ic_X12_enters (z := 1) (z2 := 2) (by simp [up2, upr]) (by decide) rfl ?_)
  refine G_iload_n dX12_takes_66 rfl ?_
  exact G_iret dX12_takes_67 rfl (Nat.zero_le _) (Nat.zero_le _) (Nat.le_refl _) ⟨rfl, k1⟩
set_option maxRecDepth 20000 in
set_option maxHeartbeats 8000000 in
theorem sg_X12_takesOf_0 {E : Nat × (Nat → Int32)} {P : Option Value → Mem → Prop} {mem : Mem} {o1 : Nat}
    (k1 : GM E (m_X12_takesOf 6) P 2 [.ref 169, .ref (1100 + o1), un] [.ref (1100 + o1), .ref 169] mem) :
    GM E (m_X12_takesOf 6) P 0 [.ref 169, .ref (1100 + o1), un] [] mem := by
  refine G_aload_n dX12_takesOf_0 rfl ?_
  refine G_aload_n dX12_takesOf_1 rfl ?_
  exact k1
set_option maxRecDepth 20000 in
set_option maxHeartbeats 8000000 in
theorem sg_X12_takesOf_5 {E : Nat × (Nat → Int32)} {P : Option Value → Mem → Prop} {mem : Mem} {o1 : Nat} {s0 : Int} (w1 : -2147483648 ≤ s0 ∧ s0 < 2147483648)
    (k1 : s0 < 0 → P (some (vi s0)) (up2 mem 169 18 ((mem 169 18) + 0)))
    (k2 : ¬ s0 < 0 → P (some (vi s0)) (up2 mem 169 18 ((mem 169 18) + 1))) :
    GM E (m_X12_takesOf 6) P 5 [.ref 169, .ref (1100 + o1), un] [vi s0] mem := by
  refine G_istore_n dX12_takesOf_5 rfl (by decide : 2 < 3) rfl ?_
  refine G_aload_n dX12_takesOf_6 rfl ?_
  refine G_dup dX12_takesOf_7 rfl ?_
  refine G_getI (z := (mem 169 18)) dX12_takesOf_8 fl_12_151 (by decide) sh_169 rfl ?_
  refine G_iload_n dX12_takesOf_11 rfl ?_
  refine G_if_lt (tgt := 19) dX12_takesOf_12 (by decide) (w1) (fun c1 => ?_) (fun c1 => ?_)
  · -- s0 < 0
    refine G_iconst (z := 0) dX12_takesOf_19 rfl ?_
    refine cb_X12_takesOf_20 (ic_X12_flagL (by decide) ?_)
    refine G_iadd dX12_takesOf_23 ?_
    refine G_putI (mem2 := (up2 mem 169 18 ((mem 169 18) + 0))) dX12_takesOf_24 fp_12_151 (by decide) sh_169 rfl ?_
    refine G_iload_n dX12_takesOf_27 rfl ?_
    exact G_iret dX12_takesOf_28 rfl (Nat.zero_le _) (Nat.zero_le _) (Nat.le_refl _) ⟨rfl, k1 c1⟩
  · -- ¬ s0 < 0
    refine G_iconst (z := 1) dX12_takesOf_15 rfl ?_
    refine G_goto (tgt := 20) dX12_takesOf_16 (by decide) ?_
    refine cb_X12_takesOf_20 (ic_X12_flagL (by decide) ?_)
    refine G_iadd dX12_takesOf_23 ?_
    refine G_putI (mem2 := (up2 mem 169 18 ((mem 169 18) + 1))) dX12_takesOf_24 fp_12_151 (by decide) sh_169 rfl ?_
    refine G_iload_n dX12_takesOf_27 rfl ?_
    exact G_iret dX12_takesOf_28 rfl (Nat.zero_le _) (Nat.zero_le _) (Nat.le_refl _) ⟨rfl, k2 c1⟩
set_option maxRecDepth 20000 in
set_option maxHeartbeats 8000000 in
theorem sg_X12_takesOf__0 {E : Nat × (Nat → Int32)} {P : Option Value → Mem → Prop} {mem : Mem} {r1 : Nat} {a2 : Int} {a3 : Int} (hl1 : r1 < 209) (hs1 : SH[r1]? = some (.inr (0, 99)))
    (k1 : GM E (m_X12_takesOf_ 6) P 5 [.ref 169, .ref r1, vi a2, vi a3] [.ref 189, .ref r1] mem) :
    GM E (m_X12_takesOf_ 6) P 0 [.ref 169, .ref r1, vi a2, vi a3] [] mem := by
  refine G_aload_n dX12_takesOf__0 rfl ?_
  refine G_aload_n dX12_takesOf__1 rfl ?_
  refine G_getR (t := 189) dX12_takesOf__2 fl_12_69 (by decide) sh_169 rr_169_38 ?_
  exact k1
set_option maxRecDepth 20000 in
set_option maxHeartbeats 8000000 in
theorem sg_X12_takesOf__8 {E : Nat × (Nat → Int32)} {P : Option Value → Mem → Prop} {mem : Mem} {r1 : Nat} {a2 : Int} {a3 : Int} (hl1 : r1 < 209) (hs1 : SH[r1]? = some (.inr (0, 99)))
    (k1 : GM E (m_X12_takesOf_ 6) P 26 [.ref 169, .ref r1, vi a2, vi a3] [vi 1000000, vi a3, vi a2, .ref 189, .ref 169] (up2 mem 189 96 0)) :
    GM E (m_X12_takesOf_ 6) P 8 [.ref 169, .ref r1, vi a2, vi a3] [] mem := by
  refine G_aload_n dX12_takesOf__8 rfl ?_
  refine G_getR (t := 189) dX12_takesOf__9 fl_12_69 (by decide) sh_169 rr_169_38 ?_
  refine G_bipush (z := 96) dX12_takesOf__12 rfl ?_
  refine G_iconst (z := 0) dX12_takesOf__14 rfl ?_
  refine G_iast (mem2 := (up2 mem 189 96 0)) dX12_takesOf__15 (by decide) sh_189 (by decide) (by decide) (by decide) rfl ?_
  refine G_aload_n dX12_takesOf__16 rfl ?_
  refine G_aload_n dX12_takesOf__17 rfl ?_
  refine G_getR (t := 189) dX12_takesOf__18 fl_12_69 (by decide) sh_169 rr_169_38 ?_
  refine G_iload_n dX12_takesOf__21 rfl ?_
  refine G_iload_n dX12_takesOf__22 rfl ?_
  refine G_ldcw (z := 1000000) dX12_takesOf__23 kc_12_306 ?_
  exact k1
set_option maxRecDepth 20000 in
set_option maxHeartbeats 8000000 in
theorem sg_X12_takesOf__29 {E : Nat × (Nat → Int32)} {P : Option Value → Mem → Prop} {mem : Mem} {r1 : Nat} {a2 : Int} {a3 : Int} {s0 : Int} (hl1 : r1 < 209) (hs1 : SH[r1]? = some (.inr (0, 99)))
    (k1 : P (some (vi s0)) mem) :
    GM E (m_X12_takesOf_ 6) P 29 [.ref 169, .ref r1, vi a2, vi a3] [vi s0] mem := by
  exact G_iret dX12_takesOf__29 rfl (Nat.zero_le _) (Nat.zero_le _) (Nat.le_refl _) ⟨rfl, k1⟩
set_option maxRecDepth 20000 in
set_option maxHeartbeats 8000000 in
theorem sg_X12_thrown_0 {E : Nat × (Nat → Int32)} {P : Option Value → Mem → Prop} {mem : Mem}
    (k1 : P (some (vi (mem 169 0))) mem) :
    GM E (m_X12_thrown 0) P 0 [.ref 169] [] mem := by
  refine G_aload_n dX12_thrown_0 rfl ?_
  refine G_getI (z := (mem 169 0)) dX12_thrown_1 fl_12_126 (by decide) sh_169 rfl ?_
  exact G_iret dX12_thrown_4 rfl (Nat.zero_le _) (Nat.zero_le _) (Nat.le_refl _) ⟨rfl, k1⟩
set_option maxRecDepth 20000 in
set_option maxHeartbeats 8000000 in
theorem sg_X12_tip_0 {E : Nat × (Nat → Int32)} {P : Option Value → Mem → Prop} {mem : Mem}
    (k1 : GM E (m_X12_tip 3) P 6 [.ref 169, un] [.ref 169] (up2 mem 169 0 0)) :
    GM E (m_X12_tip 3) P 0 [.ref 169, un] [] mem := by
  refine G_aload_n dX12_tip_0 rfl ?_
  refine G_iconst (z := 0) dX12_tip_1 rfl ?_
  refine G_putI (mem2 := (up2 mem 169 0 0)) dX12_tip_2 fp_12_126 (by decide) sh_169 rfl ?_
  refine G_aload_n dX12_tip_5 rfl ?_
  exact k1
set_option maxRecDepth 20000 in
set_option maxHeartbeats 8000000 in
theorem sg_X12_tip_9 {E : Nat × (Nat → Int32)} {P : Option Value → Mem → Prop} {mem : Mem}
    (k1 : GM E (m_X12_tip 3) P 14 [.ref 169, un] [.ref 180, .ref 169] mem) :
    GM E (m_X12_tip 3) P 9 [.ref 169, un] [] mem := by
  refine G_aload_n dX12_tip_9 rfl ?_
  refine G_aload_n dX12_tip_10 rfl ?_
  refine G_getR (t := 180) dX12_tip_11 fl_12_42 (by decide) sh_169 rr_169_14 ?_
  exact k1
set_option maxRecDepth 20000 in
set_option maxHeartbeats 8000000 in
theorem sg_X12_tip_17 {E : Nat × (Nat → Int32)} {P : Option Value → Mem → Prop} {mem : Mem} {s0 : Int} (w1 : -2147483648 ≤ s0 ∧ s0 < 2147483648) (w2 : ¬ s0 < 0 → -2147483648 ≤ (mem 169 42) ∧ (mem 169 42) < 2147483648)
    (k1 : s0 < 0 → GM E (m_X12_tip 3) P 38 [.ref 169, vi s0] [vi s0, .ref 169] mem)
    (k2 : ¬ s0 < 0 → GM E (m_X12_tip 3) P 38 [.ref 169, vi s0] [vi s0, .ref 169] (up2 (up2 (up2 mem 169 1 0) 170 0 (mem 169 42)) 169 1 1)) :
    GM E (m_X12_tip 3) P 17 [.ref 169, un] [vi s0] mem := by
  refine G_istore_n dX12_tip_17 rfl (by decide : 1 < 2) rfl ?_
  refine G_iload_n dX12_tip_18 rfl ?_
  refine G_if_lt (tgt := 36) dX12_tip_19 (by decide) (w1) (fun c1 => ?_) (fun c1 => ?_)
  · -- s0 < 0
    refine G_aload_n dX12_tip_36 rfl ?_
    refine G_iload_n dX12_tip_37 rfl ?_
    exact k1 c1
  · -- ¬ s0 < 0
    refine G_aload_n dX12_tip_22 rfl ?_
    refine G_iconst (z := 0) dX12_tip_23 rfl ?_
    refine G_putI (mem2 := (up2 mem 169 1 0)) dX12_tip_24 fp_12_134 (by decide) sh_169 rfl ?_
    refine G_aload_n dX12_tip_27 rfl ?_
    refine G_aload_n dX12_tip_28 rfl ?_
    refine G_getI (z := (mem 169 42)) dX12_tip_29 fl_12_362 (by decide) sh_169 (by simp [up2, upr]) ?_
    refine G_i2l dX12_tip_32 (w2 c1) ?_
    refine cb_X12_tip_33 (ic_X12_enters (z := 0) (z2 := 1) (by simp [up2, upr]) (by decide) rfl ?_)
    refine G_aload_n dX12_tip_36 rfl ?_
    refine G_iload_n dX12_tip_37 rfl ?_
    exact k2 c1
set_option maxRecDepth 20000 in
set_option maxHeartbeats 8000000 in
theorem sg_X12_tip_41 {E : Nat × (Nat → Int32)} {P : Option Value → Mem → Prop} {mem : Mem} {a1 : Int} {s0 : Int}
    (k1 : P (some (vi s0)) mem) :
    GM E (m_X12_tip 3) P 41 [.ref 169, vi a1] [vi s0] mem := by
  exact G_iret dX12_tip_41 rfl (Nat.zero_le _) (Nat.zero_le _) (Nat.le_refl _) ⟨rfl, k1⟩
set_option maxRecDepth 20000 in
set_option maxHeartbeats 8000000 in
theorem sg_X12_tipnow_0 {E : Nat × (Nat → Int32)} {P : Option Value → Mem → Prop} {mem : Mem} {a1 : Int} (w1 : 0 ≤ (mem 169 3) ∧ (mem 169 3) < 2147483648) (w2 : -2147483648 ≤ a1 ∧ a1 < 2147483648)
    (k1 : 0 ≤ a1 ∧ a1 < (mem 169 3) → GM E (m_X12_tipnow 9) P 21 [.ref 169, vi a1, un, un, un, un, un, un] [vi a1, .ref 180, .ref 169] (up2 mem 169 0 0))
    (k2 : ¬ (0 ≤ a1 ∧ a1 < (mem 169 3)) → P (some (vi (-1))) (up2 mem 169 0 0)) :
    GM E (m_X12_tipnow 9) P 0 [.ref 169, vi a1, un, un, un, un, un, un] [] mem := by
  refine G_aload_n dX12_tipnow_0 rfl ?_
  refine G_iconst (z := 0) dX12_tipnow_1 rfl ?_
  refine G_putI (mem2 := (up2 mem 169 0 0)) dX12_tipnow_2 fp_12_126 (by decide) sh_169 rfl ?_
  refine G_aload_n dX12_tipnow_5 rfl ?_
  refine G_iload_n dX12_tipnow_6 rfl ?_
  refine cb_X12_tipnow_7 (ic_X12_isStreet (z := (mem 169 3)) (by simp [up2, upr]) (w2) (w1) (fun c1 => ?_) (fun c2 => ?_))
  · -- 0 ≤ a1 ∧ a1 < (mem 169 3)
    refine G_if_ne (tgt := 15) dX12_tipnow_10 (by decide) (by decide) (fun _ => ?_) (fun h => absurd h (by decide))
    refine G_aload_n dX12_tipnow_15 rfl ?_
    refine G_aload_n dX12_tipnow_16 rfl ?_
    refine G_getR (t := 180) dX12_tipnow_17 fl_12_42 (by decide) sh_169 rr_169_14 ?_
    refine G_iload_n dX12_tipnow_20 rfl ?_
    exact k1 c1
  · -- ¬ (0 ≤ a1 ∧ a1 < (mem 169 3))
    refine G_if_ne (tgt := 15) dX12_tipnow_10 (by decide) (by decide) (fun h => absurd h (by decide)) (fun _ => ?_)
    refine G_iconst (z := (-1)) dX12_tipnow_13 rfl ?_
    exact G_iret dX12_tipnow_14 rfl (Nat.zero_le _) (Nat.zero_le _) (Nat.le_refl _) ⟨rfl, k2 c2⟩
set_option maxRecDepth 20000 in
set_option maxHeartbeats 8000000 in
theorem sg_X12_tipnow_24 {E : Nat × (Nat → Int32)} {P : Option Value → Mem → Prop} {mem : Mem} {a1 : Int} {s0 : Int} (w1 : -2147483648 ≤ s0 ∧ s0 < 2147483648) (w2 : -2147483648 ≤ (mem 179 0) ∧ (mem 179 0) < 2147483648)
    (k1 : s0 ≤ (mem 179 0) → GM E (m_X12_tipnow 9) P 40 [.ref 169, vi a1, vi s0, un, un, un, un, un] [vi a1, .ref 169] mem)
    (k2 : ¬ s0 ≤ (mem 179 0) → P (some (vi (-2))) mem) :
    GM E (m_X12_tipnow 9) P 24 [.ref 169, vi a1, un, un, un, un, un, un] [vi s0] mem := by
  refine G_istore_n dX12_tipnow_24 rfl (by decide : 2 < 8) rfl ?_
  refine G_iload_n dX12_tipnow_25 rfl ?_
  refine G_aload_n dX12_tipnow_26 rfl ?_
  refine G_getR (t := 179) dX12_tipnow_27 fl_12_39 (by decide) sh_169 rr_169_13 ?_
  refine G_iconst (z := 0) dX12_tipnow_30 rfl ?_
  refine G_iald (z := (mem 179 0)) dX12_tipnow_31 (by decide) sh_179 (by decide) (by decide) (by decide) rfl ?_
  refine G_icmp_le (tgt := 38) dX12_tipnow_32 (by decide) (w1) (w2) (fun c1 => ?_) (fun c1 => ?_)
  · -- s0 ≤ (mem 179 0)
    refine G_aload_n dX12_tipnow_38 rfl ?_
    refine G_iload_n dX12_tipnow_39 rfl ?_
    exact k1 c1
  · -- ¬ s0 ≤ (mem 179 0)
    refine G_bipush (z := (-2)) dX12_tipnow_35 rfl ?_
    exact G_iret dX12_tipnow_37 rfl (Nat.zero_le _) (Nat.zero_le _) (Nat.le_refl _) ⟨rfl, k2 c1⟩
set_option maxRecDepth 20000 in
set_option maxHeartbeats 8000000 in
theorem sg_X12_tipnow_43 {E : Nat × (Nat → Int32)} {P : Option Value → Mem → Prop} {mem : Mem} {a1 : Int} {a2 : Int} {s0 : Int} (q1 : 0 ≤ a1 ∧ a1 < 6) (w2 : -2147483648 ≤ ((mem 171 a1) - (mem 179 5)) ∧ ((mem 171 a1) - (mem 179 5)) < 2147483648) (w3 : -2147483648 ≤ ((mem 180 97) - (mem 179 5)) ∧ ((mem 180 97) - (mem 179 5)) < 2147483648) (w4 : -2147483648 ≤ ((mem 180 97) - (mem 171 a1)) ∧ ((mem 180 97) - (mem 171 a1)) < 2147483648) (w5 : -2147483648 ≤ ((mem 180 96) + a2) ∧ ((mem 180 96) + a2) < 2147483648) (w6 : -2147483648 ≤ (mem 179 0) ∧ (mem 179 0) < 2147483648) (w7 : (mem 179 0) < ((mem 180 96) + a2) → -2147483648 ≤ ((((((10 * (if 0 ≤ ((mem 180 97) - (mem 179 5)) then ((mem 180 97) - (mem 179 5)) else -((mem 180 97) - (mem 179 5)))) + 300) + (10 * (if 0 ≤ ((mem 171 a1) - (mem 179 5)) then ((mem 171 a1) - (mem 179 5)) else -((mem 171 a1) - (mem 179 5))))) + s0) + (10 * (if 0 ≤ ((mem 171 a1) - (mem 179 5)) then ((mem 171 a1) - (mem 179 5)) else -((mem 171 a1) - (mem 179 5))))) + 300) ∧ ((((((10 * (if 0 ≤ ((mem 180 97) - (mem 179 5)) then ((mem 180 97) - (mem 179 5)) else -((mem 180 97) - (mem 179 5)))) + 300) + (10 * (if 0 ≤ ((mem 171 a1) - (mem 179 5)) then ((mem 171 a1) - (mem 179 5)) else -((mem 171 a1) - (mem 179 5))))) + s0) + (10 * (if 0 ≤ ((mem 171 a1) - (mem 179 5)) then ((mem 171 a1) - (mem 179 5)) else -((mem 171 a1) - (mem 179 5))))) + 300) < 2147483648) (w8 : ¬ (mem 179 0) < ((mem 180 96) + a2) → -2147483648 ≤ ((((((10 * (if 0 ≤ ((mem 180 97) - (mem 179 5)) then ((mem 180 97) - (mem 179 5)) else -((mem 180 97) - (mem 179 5)))) + 300) + (10 * (if 0 ≤ ((mem 171 a1) - (mem 179 5)) then ((mem 171 a1) - (mem 179 5)) else -((mem 171 a1) - (mem 179 5))))) + s0) + (10 * (if 0 ≤ ((mem 171 a1) - (mem 179 5)) then ((mem 171 a1) - (mem 179 5)) else -((mem 171 a1) - (mem 179 5))))) + 300) ∧ ((((((10 * (if 0 ≤ ((mem 180 97) - (mem 179 5)) then ((mem 180 97) - (mem 179 5)) else -((mem 180 97) - (mem 179 5)))) + 300) + (10 * (if 0 ≤ ((mem 171 a1) - (mem 179 5)) then ((mem 171 a1) - (mem 179 5)) else -((mem 171 a1) - (mem 179 5))))) + s0) + (10 * (if 0 ≤ ((mem 171 a1) - (mem 179 5)) then ((mem 171 a1) - (mem 179 5)) else -((mem 171 a1) - (mem 179 5))))) + 300) < 2147483648) (w9 : ¬ (mem 179 0) < ((mem 180 96) + a2) → -2147483648 ≤ ((((10 * (if 0 ≤ ((mem 180 97) - (mem 171 a1)) then ((mem 180 97) - (mem 171 a1)) else -((mem 180 97) - (mem 171 a1)))) + s0) + (10 * (if 0 ≤ ((mem 171 a1) - (mem 179 5)) then ((mem 171 a1) - (mem 179 5)) else -((mem 171 a1) - (mem 179 5))))) + 300) ∧ ((((10 * (if 0 ≤ ((mem 180 97) - (mem 171 a1)) then ((mem 180 97) - (mem 171 a1)) else -((mem 180 97) - (mem 171 a1)))) + s0) + (10 * (if 0 ≤ ((mem 171 a1) - (mem 179 5)) then ((mem 171 a1) - (mem 179 5)) else -((mem 171 a1) - (mem 179 5))))) + 300) < 2147483648) (w10 : ¬ (mem 179 0) < ((mem 180 96) + a2) → ¬ ((((10 * (if 0 ≤ ((mem 180 97) - (mem 171 a1)) then ((mem 180 97) - (mem 171 a1)) else -((mem 180 97) - (mem 171 a1)))) + s0) + (10 * (if 0 ≤ ((mem 171 a1) - (mem 179 5)) then ((mem 171 a1) - (mem 179 5)) else -((mem 171 a1) - (mem 179 5))))) + 300) ≤ ((((((10 * (if 0 ≤ ((mem 180 97) - (mem 179 5)) then ((mem 180 97) - (mem 179 5)) else -((mem 180 97) - (mem 179 5)))) + 300) + (10 * (if 0 ≤ ((mem 171 a1) - (mem 179 5)) then ((mem 171 a1) - (mem 179 5)) else -((mem 171 a1) - (mem 179 5))))) + s0) + (10 * (if 0 ≤ ((mem 171 a1) - (mem 179 5)) then ((mem 171 a1) - (mem 179 5)) else -((mem 171 a1) - (mem 179 5))))) + 300) → -2147483648 ≤ (mem 180 96) ∧ (mem 180 96) < 2147483648)
    (k1 : (mem 179 0) < ((mem 180 96) + a2) → P (some (vi 2)) (up2 (up2 (up2 (up2 (up2 mem 169 1 0) 170 0 ((((((10 * (if 0 ≤ ((mem 180 97) - (mem 179 5)) then ((mem 180 97) - (mem 179 5)) else -((mem 180 97) - (mem 179 5)))) + 300) + (10 * (if 0 ≤ ((mem 171 a1) - (mem 179 5)) then ((mem 171 a1) - (mem 179 5)) else -((mem 171 a1) - (mem 179 5))))) + s0) + (10 * (if 0 ≤ ((mem 171 a1) - (mem 179 5)) then ((mem 171 a1) - (mem 179 5)) else -((mem 171 a1) - (mem 179 5))))) + 300)) 169 1 1) 170 1 (-1)) 169 1 2))
    (k2 : ¬ (mem 179 0) < ((mem 180 96) + a2) → ((((10 * (if 0 ≤ ((mem 180 97) - (mem 171 a1)) then ((mem 180 97) - (mem 171 a1)) else -((mem 180 97) - (mem 171 a1)))) + s0) + (10 * (if 0 ≤ ((mem 171 a1) - (mem 179 5)) then ((mem 171 a1) - (mem 179 5)) else -((mem 171 a1) - (mem 179 5))))) + 300) ≤ ((((((10 * (if 0 ≤ ((mem 180 97) - (mem 179 5)) then ((mem 180 97) - (mem 179 5)) else -((mem 180 97) - (mem 179 5)))) + 300) + (10 * (if 0 ≤ ((mem 171 a1) - (mem 179 5)) then ((mem 171 a1) - (mem 179 5)) else -((mem 171 a1) - (mem 179 5))))) + s0) + (10 * (if 0 ≤ ((mem 171 a1) - (mem 179 5)) then ((mem 171 a1) - (mem 179 5)) else -((mem 171 a1) - (mem 179 5))))) + 300) → P (some (vi 0)) (up2 (up2 (up2 (up2 (up2 mem 169 1 0) 170 0 ((((((10 * (if 0 ≤ ((mem 180 97) - (mem 179 5)) then ((mem 180 97) - (mem 179 5)) else -((mem 180 97) - (mem 179 5)))) + 300) + (10 * (if 0 ≤ ((mem 171 a1) - (mem 179 5)) then ((mem 171 a1) - (mem 179 5)) else -((mem 171 a1) - (mem 179 5))))) + s0) + (10 * (if 0 ≤ ((mem 171 a1) - (mem 179 5)) then ((mem 171 a1) - (mem 179 5)) else -((mem 171 a1) - (mem 179 5))))) + 300)) 169 1 1) 170 1 ((((10 * (if 0 ≤ ((mem 180 97) - (mem 171 a1)) then ((mem 180 97) - (mem 171 a1)) else -((mem 180 97) - (mem 171 a1)))) + s0) + (10 * (if 0 ≤ ((mem 171 a1) - (mem 179 5)) then ((mem 171 a1) - (mem 179 5)) else -((mem 171 a1) - (mem 179 5))))) + 300)) 169 1 2))
    (k3 : ¬ (mem 179 0) < ((mem 180 96) + a2) → ¬ ((((10 * (if 0 ≤ ((mem 180 97) - (mem 171 a1)) then ((mem 180 97) - (mem 171 a1)) else -((mem 180 97) - (mem 171 a1)))) + s0) + (10 * (if 0 ≤ ((mem 171 a1) - (mem 179 5)) then ((mem 171 a1) - (mem 179 5)) else -((mem 171 a1) - (mem 179 5))))) + 300) ≤ ((((((10 * (if 0 ≤ ((mem 180 97) - (mem 179 5)) then ((mem 180 97) - (mem 179 5)) else -((mem 180 97) - (mem 179 5)))) + 300) + (10 * (if 0 ≤ ((mem 171 a1) - (mem 179 5)) then ((mem 171 a1) - (mem 179 5)) else -((mem 171 a1) - (mem 179 5))))) + s0) + (10 * (if 0 ≤ ((mem 171 a1) - (mem 179 5)) then ((mem 171 a1) - (mem 179 5)) else -((mem 171 a1) - (mem 179 5))))) + 300) → (mem 180 96) ≤ 0 → P (some (vi 0)) (up2 (up2 (up2 (up2 (up2 mem 169 1 0) 170 0 ((((((10 * (if 0 ≤ ((mem 180 97) - (mem 179 5)) then ((mem 180 97) - (mem 179 5)) else -((mem 180 97) - (mem 179 5)))) + 300) + (10 * (if 0 ≤ ((mem 171 a1) - (mem 179 5)) then ((mem 171 a1) - (mem 179 5)) else -((mem 171 a1) - (mem 179 5))))) + s0) + (10 * (if 0 ≤ ((mem 171 a1) - (mem 179 5)) then ((mem 171 a1) - (mem 179 5)) else -((mem 171 a1) - (mem 179 5))))) + 300)) 169 1 1) 170 1 ((((10 * (if 0 ≤ ((mem 180 97) - (mem 171 a1)) then ((mem 180 97) - (mem 171 a1)) else -((mem 180 97) - (mem 171 a1)))) + s0) + (10 * (if 0 ≤ ((mem 171 a1) - (mem 179 5)) then ((mem 171 a1) - (mem 179 5)) else -((mem 171 a1) - (mem 179 5))))) + 300)) 169 1 2))
    (k4 : ¬ (mem 179 0) < ((mem 180 96) + a2) → ¬ ((((10 * (if 0 ≤ ((mem 180 97) - (mem 171 a1)) then ((mem 180 97) - (mem 171 a1)) else -((mem 180 97) - (mem 171 a1)))) + s0) + (10 * (if 0 ≤ ((mem 171 a1) - (mem 179 5)) then ((mem 171 a1) - (mem 179 5)) else -((mem 171 a1) - (mem 179 5))))) + 300) ≤ ((((((10 * (if 0 ≤ ((mem 180 97) - (mem 179 5)) then ((mem 180 97) - (mem 179 5)) else -((mem 180 97) - (mem 179 5)))) + 300) + (10 * (if 0 ≤ ((mem 171 a1) - (mem 179 5)) then ((mem 171 a1) - (mem 179 5)) else -((mem 171 a1) - (mem 179 5))))) + s0) + (10 * (if 0 ≤ ((mem 171 a1) - (mem 179 5)) then ((mem 171 a1) - (mem 179 5)) else -((mem 171 a1) - (mem 179 5))))) + 300) → ¬ (mem 180 96) ≤ 0 → P (some (vi 1)) (up2 (up2 (up2 (up2 (up2 mem 169 1 0) 170 0 ((((((10 * (if 0 ≤ ((mem 180 97) - (mem 179 5)) then ((mem 180 97) - (mem 179 5)) else -((mem 180 97) - (mem 179 5)))) + 300) + (10 * (if 0 ≤ ((mem 171 a1) - (mem 179 5)) then ((mem 171 a1) - (mem 179 5)) else -((mem 171 a1) - (mem 179 5))))) + s0) + (10 * (if 0 ≤ ((mem 171 a1) - (mem 179 5)) then ((mem 171 a1) - (mem 179 5)) else -((mem 171 a1) - (mem 179 5))))) + 300)) 169 1 1) 170 1 ((((10 * (if 0 ≤ ((mem 180 97) - (mem 171 a1)) then ((mem 180 97) - (mem 171 a1)) else -((mem 180 97) - (mem 171 a1)))) + s0) + (10 * (if 0 ≤ ((mem 171 a1) - (mem 179 5)) then ((mem 171 a1) - (mem 179 5)) else -((mem 171 a1) - (mem 179 5))))) + 300)) 169 1 2)) :
    GM E (m_X12_tipnow 9) P 43 [.ref 169, vi a1, vi a2, un, un, un, un, un] [vi s0] mem := by
  refine G_istore_n dX12_tipnow_43 rfl (by decide : 3 < 8) rfl ?_
  refine G_bipush (z := 10) dX12_tipnow_44 rfl ?_
  refine G_aload_n dX12_tipnow_46 rfl ?_
  refine G_getR (t := 171) dX12_tipnow_47 fl_12_13 (by decide) sh_169 rr_169_5 ?_
  refine G_iload_n dX12_tipnow_50 rfl ?_
  refine G_iald (z := (mem 171 a1)) dX12_tipnow_51 (by decide) sh_171 (by decide) (q1).1 (q1).2 rfl ?_
  refine G_aload_n dX12_tipnow_52 rfl ?_
  refine G_getR (t := 179) dX12_tipnow_53 fl_12_39 (by decide) sh_169 rr_169_13 ?_
  refine G_iconst (z := 5) dX12_tipnow_56 rfl ?_
  refine G_iald (z := (mem 179 5)) dX12_tipnow_57 (by decide) sh_179 (by decide) (by decide) (by decide) rfl ?_
  refine G_isub dX12_tipnow_58 ?_
  refine G_abs (z := (if 0 ≤ ((mem 171 a1) - (mem 179 5)) then ((mem 171 a1) - (mem 179 5)) else -((mem 171 a1) - (mem 179 5)))) dX12_tipnow_59 ml_12_343 mw_abs (w2) ⟨by show 1 ≤ 9; first | decide | omega, by show 21 ≤ 40 * 9; first | decide | omega, Nat.zero_le _, Nat.zero_le _⟩ (Nat.le_of_ble_eq_true rfl) rfl ?_
  refine G_imul dX12_tipnow_62 ?_
  refine G_istore dX12_tipnow_63 (by decide : 4 < 8) rfl ?_
  refine G_bipush (z := 10) dX12_tipnow_65 rfl ?_
  refine G_aload_n dX12_tipnow_67 rfl ?_
  refine G_getR (t := 180) dX12_tipnow_68 fl_12_42 (by decide) sh_169 rr_169_14 ?_
  refine G_bipush (z := 97) dX12_tipnow_71 rfl ?_
  refine G_iald (z := (mem 180 97)) dX12_tipnow_73 (by decide) sh_180 (by decide) (by decide) (by decide) rfl ?_
  refine G_aload_n dX12_tipnow_74 rfl ?_
  refine G_getR (t := 179) dX12_tipnow_75 fl_12_39 (by decide) sh_169 rr_169_13 ?_
  refine G_iconst (z := 5) dX12_tipnow_78 rfl ?_
  refine G_iald (z := (mem 179 5)) dX12_tipnow_79 (by decide) sh_179 (by decide) (by decide) (by decide) rfl ?_
  refine G_isub dX12_tipnow_80 ?_
  refine G_abs (z := (if 0 ≤ ((mem 180 97) - (mem 179 5)) then ((mem 180 97) - (mem 179 5)) else -((mem 180 97) - (mem 179 5)))) dX12_tipnow_81 ml_12_343 mw_abs (w3) ⟨by show 1 ≤ 9; first | decide | omega, by show 21 ≤ 40 * 9; first | decide | omega, Nat.zero_le _, Nat.zero_le _⟩ (Nat.le_of_ble_eq_true rfl) rfl ?_
  refine G_imul dX12_tipnow_84 ?_
  refine G_sipush (z := 300) dX12_tipnow_85 rfl ?_
  refine G_iadd dX12_tipnow_88 ?_
  refine G_iload dX12_tipnow_89 rfl ?_
  refine G_iadd dX12_tipnow_91 ?_
  refine G_iload_n dX12_tipnow_92 rfl ?_
  refine G_iadd dX12_tipnow_93 ?_
  refine G_iload dX12_tipnow_94 rfl ?_
  refine G_iadd dX12_tipnow_96 ?_
  refine G_sipush (z := 300) dX12_tipnow_97 rfl ?_
  refine G_iadd dX12_tipnow_100 ?_
  refine G_istore dX12_tipnow_101 (by decide : 5 < 8) rfl ?_
  refine G_bipush (z := 10) dX12_tipnow_103 rfl ?_
  refine G_aload_n dX12_tipnow_105 rfl ?_
  refine G_getR (t := 180) dX12_tipnow_106 fl_12_42 (by decide) sh_169 rr_169_14 ?_
  refine G_bipush (z := 97) dX12_tipnow_109 rfl ?_
  refine G_iald (z := (mem 180 97)) dX12_tipnow_111 (by decide) sh_180 (by decide) (by decide) (by decide) rfl ?_
  refine G_aload_n dX12_tipnow_112 rfl ?_
  refine G_getR (t := 171) dX12_tipnow_113 fl_12_13 (by decide) sh_169 rr_169_5 ?_
  refine G_iload_n dX12_tipnow_116 rfl ?_
  refine G_iald (z := (mem 171 a1)) dX12_tipnow_117 (by decide) sh_171 (by decide) (q1).1 (q1).2 rfl ?_
  refine G_isub dX12_tipnow_118 ?_
  refine G_abs (z := (if 0 ≤ ((mem 180 97) - (mem 171 a1)) then ((mem 180 97) - (mem 171 a1)) else -((mem 180 97) - (mem 171 a1)))) dX12_tipnow_119 ml_12_343 mw_abs (w4) ⟨by show 1 ≤ 9; first | decide | omega, by show 21 ≤ 40 * 9; first | decide | omega, Nat.zero_le _, Nat.zero_le _⟩ (Nat.le_of_ble_eq_true rfl) rfl ?_
  refine G_imul dX12_tipnow_122 ?_
  refine G_iload_n dX12_tipnow_123 rfl ?_
  refine G_iadd dX12_tipnow_124 ?_
  refine G_iload dX12_tipnow_125 rfl ?_
  refine G_iadd dX12_tipnow_127 ?_
  refine G_sipush (z := 300) dX12_tipnow_128 rfl ?_
  refine G_iadd dX12_tipnow_131 ?_
  refine G_istore dX12_tipnow_132 (by decide : 6 < 8) rfl ?_
  refine G_aload_n dX12_tipnow_134 rfl ?_
  refine G_getR (t := 180) dX12_tipnow_135 fl_12_42 (by decide) sh_169 rr_169_14 ?_
  refine G_bipush (z := 96) dX12_tipnow_138 rfl ?_
  refine G_iald (z := (mem 180 96)) dX12_tipnow_140 (by decide) sh_180 (by decide) (by decide) (by decide) rfl ?_
  refine G_iload_n dX12_tipnow_141 rfl ?_
  refine G_iadd dX12_tipnow_142 ?_
  refine G_aload_n dX12_tipnow_143 rfl ?_
  refine G_getR (t := 179) dX12_tipnow_144 fl_12_39 (by decide) sh_169 rr_169_13 ?_
  refine G_iconst (z := 0) dX12_tipnow_147 rfl ?_
  refine G_iald (z := (mem 179 0)) dX12_tipnow_148 (by decide) sh_179 (by decide) (by decide) (by decide) rfl ?_
  refine G_icmp_gt (tgt := 156) dX12_tipnow_149 (by decide) (w5) (w6) (fun c1 => ?_) (fun c1 => ?_)
  · -- (mem 179 0) < ((mem 180 96) + a2)
    refine G_iconst (z := 0) dX12_tipnow_156 rfl ?_
    refine G_istore dX12_tipnow_157 (by decide : 7 < 8) rfl ?_
    refine G_aload_n dX12_tipnow_159 rfl ?_
    refine G_iconst (z := 0) dX12_tipnow_160 rfl ?_
    refine G_putI (mem2 := (up2 mem 169 1 0)) dX12_tipnow_161 fp_12_134 (by decide) sh_169 rfl ?_
    refine G_aload_n dX12_tipnow_164 rfl ?_
    refine G_iload dX12_tipnow_165 rfl ?_
    refine G_i2l dX12_tipnow_167 (w7 c1) ?_
    refine cb_X12_tipnow_168 (ic_X12_enters (z := 0) (z2 := 1) (by simp [up2, upr]) (by decide) rfl ?_)
    refine G_aload_n dX12_tipnow_171 rfl ?_
    refine G_iload dX12_tipnow_172 rfl ?_
    refine G_if_eq (tgt := 183) dX12_tipnow_174 (by decide) (by decide) (fun _ => ?_) (fun h => absurd h (by decide))
    refine G_ldc2 (z := (-1)) dX12_tipnow_183 kc_12_412 ?_
    refine cb_X12_tipnow_186 (ic_X12_enters (z := 1) (z2 := 2) (by simp [up2, upr]) (by decide) rfl ?_)
    refine G_iload dX12_tipnow_189 rfl ?_
    refine G_if_ne (tgt := 198) dX12_tipnow_191 (by decide) (by decide) (fun h => absurd h (by decide)) (fun _ => ?_)
    refine G_iconst (z := 2) dX12_tipnow_194 rfl ?_
    refine G_goto (tgt := 223) dX12_tipnow_195 (by decide) ?_
    exact G_iret dX12_tipnow_223 rfl (Nat.zero_le _) (Nat.zero_le _) (Nat.le_refl _) ⟨rfl, k1 c1⟩
  · -- ¬ (mem 179 0) < ((mem 180 96) + a2)
    refine G_iconst (z := 1) dX12_tipnow_152 rfl ?_
    refine G_goto (tgt := 157) dX12_tipnow_153 (by decide) ?_
    refine G_istore dX12_tipnow_157 (by decide : 7 < 8) rfl ?_
    refine G_aload_n dX12_tipnow_159 rfl ?_
    refine G_iconst (z := 0) dX12_tipnow_160 rfl ?_
    refine G_putI (mem2 := (up2 mem 169 1 0)) dX12_tipnow_161 fp_12_134 (by decide) sh_169 rfl ?_
    refine G_aload_n dX12_tipnow_164 rfl ?_
    refine G_iload dX12_tipnow_165 rfl ?_
    refine G_i2l dX12_tipnow_167 (w8 c1) ?_
    refine cb_X12_tipnow_168 (ic_X12_enters (z := 0) (z2 := 1) (by simp [up2, upr]) (by decide) rfl ?_)
    refine G_aload_n dX12_tipnow_171 rfl ?_
    refine G_iload dX12_tipnow_172 rfl ?_
    refine G_if_eq (tgt := 183) dX12_tipnow_174 (by decide) (by decide) (fun h => absurd h (by decide)) (fun _ => ?_)
    refine G_iload dX12_tipnow_177 rfl ?_
    refine G_i2l dX12_tipnow_179 (w9 c1) ?_
    refine G_goto (tgt := 186) dX12_tipnow_180 (by decide) ?_
    refine cb_X12_tipnow_186 (ic_X12_enters (z := 1) (z2 := 2) (by simp [up2, upr]) (by decide) rfl ?_)
    refine G_iload dX12_tipnow_189 rfl ?_
    refine G_if_ne (tgt := 198) dX12_tipnow_191 (by decide) (by decide) (fun _ => ?_) (fun h => absurd h (by decide))
    refine G_iload dX12_tipnow_198 rfl ?_
    refine G_iload dX12_tipnow_200 rfl ?_
    refine G_icmp_ge (tgt := 219) dX12_tipnow_202 (by decide) (w8 c1) (w9 c1) (fun c2 => ?_) (fun c2 => ?_)
    · -- ((((10 * (if 0 ≤ ((mem 180 97) - (mem 171 a1)) then ((mem 180 97) - (mem 171 a1)) else -((mem 180 97) - (mem 171 a1)))) + s0) + (10 * (if 0 ≤ ((mem 171 a1) - (mem 179 5)) then ((mem 171 a1) - (mem 179 5)) else -((mem 171 a1) - (mem 179 5))))) + 300) ≤ ((((((10 * (if 0 ≤ ((mem 180 97) - (mem 179 5)) then ((mem 180 97) - (mem 179 5)) else -((mem 180 97) - (mem 179 5)))) + 300) + (10 * (if 0 ≤ ((mem 171 a1) - (mem 179 5)) then ((mem 171 a1) - (mem 179 5)) else -((mem 171 a1) - (mem 179 5))))) + s0) + (10 * (if 0 ≤ ((mem 171 a1) - (mem 179 5)) then ((mem 171 a1) - (mem 179 5)) else -((mem 171 a1) - (mem 179 5))))) + 300)
      refine G_iconst (z := 0) dX12_tipnow_219 rfl ?_
      refine cb_X12_tipnow_220 (ic_X12_flagL (by decide) ?_)
      exact G_iret dX12_tipnow_223 rfl (Nat.zero_le _) (Nat.zero_le _) (Nat.le_refl _) ⟨rfl, k2 c1 c2⟩
    · -- ¬ ((((10 * (if 0 ≤ ((mem 180 97) - (mem 171 a1)) then ((mem 180 97) - (mem 171 a1)) else -((mem 180 97) - (mem 171 a1)))) + s0) + (10 * (if 0 ≤ ((mem 171 a1) - (mem 179 5)) then ((mem 171 a1) - (mem 179 5)) else -((mem 171 a1) - (mem 179 5))))) + 300) ≤ ((((((10 * (if 0 ≤ ((mem 180 97) - (mem 179 5)) then ((mem 180 97) - (mem 179 5)) else -((mem 180 97) - (mem 179 5)))) + 300) + (10 * (if 0 ≤ ((mem 171 a1) - (mem 179 5)) then ((mem 171 a1) - (mem 179 5)) else -((mem 171 a1) - (mem 179 5))))) + s0) + (10 * (if 0 ≤ ((mem 171 a1) - (mem 179 5)) then ((mem 171 a1) - (mem 179 5)) else -((mem 171 a1) - (mem 179 5))))) + 300)
      refine G_aload_n dX12_tipnow_205 rfl ?_
      refine G_getR (t := 180) dX12_tipnow_206 fl_12_42 (by decide) sh_169 rr_169_14 ?_
      refine G_bipush (z := 96) dX12_tipnow_209 rfl ?_
      refine G_iald (z := (mem 180 96)) dX12_tipnow_211 (by decide) sh_180 (by decide) (by decide) (by decide) (by simp [up2, upr]) ?_
      refine G_if_le (tgt := 219) dX12_tipnow_212 (by decide) (w10 c1 c2) (fun c3 => ?_) (fun c3 => ?_)
      · -- (mem 180 96) ≤ 0
        refine G_iconst (z := 0) dX12_tipnow_219 rfl ?_
        refine cb_X12_tipnow_220 (ic_X12_flagL (by decide) ?_)
        exact G_iret dX12_tipnow_223 rfl (Nat.zero_le _) (Nat.zero_le _) (Nat.le_refl _) ⟨rfl, k3 c1 c2 c3⟩
      · -- ¬ (mem 180 96) ≤ 0
        refine G_iconst (z := 1) dX12_tipnow_215 rfl ?_
        refine G_goto (tgt := 220) dX12_tipnow_216 (by decide) ?_
        refine cb_X12_tipnow_220 (ic_X12_flagL (by decide) ?_)
        exact G_iret dX12_tipnow_223 rfl (Nat.zero_le _) (Nat.zero_le _) (Nat.le_refl _) ⟨rfl, k4 c1 c2 c3⟩
set_option maxRecDepth 20000 in
set_option maxHeartbeats 8000000 in
theorem sg_X12_tips_0 {E : Nat × (Nat → Int32)} {P : Option Value → Mem → Prop} {mem : Mem} {r1 : Nat} (hl1 : r1 < 209) (hs1 : SH[r1]? = some (.inr (0, 99))) (w1 : -2147483648 ≤ ((mem r1 97) - (mem 179 5)) ∧ ((mem r1 97) - (mem 179 5)) < 2147483648) (w2 : -2147483648 ≤ (mem 179 6) ∧ (mem 179 6) < 2147483648)
    (k1 : ¬ (divI ((mem r1 98) + (10 * (if 0 ≤ ((mem r1 97) - (mem 179 5)) then ((mem r1 97) - (mem 179 5)) else -((mem r1 97) - (mem 179 5))))) 60) ≤ (mem 179 6) → P (some (vi (-2))) mem)
    (k2 : (divI ((mem r1 98) + (10 * (if 0 ≤ ((mem r1 97) - (mem 179 5)) then ((mem r1 97) - (mem 179 5)) else -((mem r1 97) - (mem 179 5))))) 60) ≤ (mem 179 6) → P (some (vi ((10 * (if 0 ≤ ((mem r1 97) - (mem 179 5)) then ((mem r1 97) - (mem 179 5)) else -((mem r1 97) - (mem 179 5)))) + 300))) (up2 (up2 (up2 (up2 (up2 mem r1 97 (mem 179 5)) r1 98 ((mem r1 98) + (10 * (if 0 ≤ ((mem r1 97) - (mem 179 5)) then ((mem r1 97) - (mem 179 5)) else -((mem r1 97) - (mem 179 5)))))) r1 98 (((mem r1 98) + (10 * (if 0 ≤ ((mem r1 97) - (mem 179 5)) then ((mem r1 97) - (mem 179 5)) else -((mem r1 97) - (mem 179 5))))) + 300)) 169 42 (mem r1 96)) r1 96 0)) :
    GM E (m_X12_tips 2) P 0 [.ref 169, .ref r1, un] [] mem := by
  refine G_aload_n dX12_tips_0 rfl ?_
  refine G_aload_n dX12_tips_1 rfl ?_
  refine cb_X12_tips_2 (ic_X12_isShut (a := (mem r1 97)) (b := (mem r1 98)) (x := (mem 179 5)) (y := (mem 179 6)) hl1 hs1 rfl rfl rfl rfl (w1) (w2) (fun c1 => ?_) (fun c2 => ?_))
  · -- ¬ (divI ((mem r1 98) + (10 * (if 0 ≤ ((mem r1 97) - (mem 179 5)) then ((mem r1 97) - (mem 179 5)) else -((mem r1 97) - (mem 179 5))))) 60) ≤ (mem 179 6)
    refine G_if_eq (tgt := 11) dX12_tips_5 (by decide) (by decide) (fun h => absurd h (by decide)) (fun _ => ?_)
    refine G_bipush (z := (-2)) dX12_tips_8 rfl ?_
    exact G_iret dX12_tips_10 rfl (Nat.zero_le _) (Nat.zero_le _) (Nat.le_refl _) ⟨rfl, k1 c1⟩
  · -- (divI ((mem r1 98) + (10 * (if 0 ≤ ((mem r1 97) - (mem 179 5)) then ((mem r1 97) - (mem 179 5)) else -((mem r1 97) - (mem 179 5))))) 60) ≤ (mem 179 6)
    refine G_if_eq (tgt := 11) dX12_tips_5 (by decide) (by decide) (fun _ => ?_) (fun h => absurd h (by decide))
    refine G_aload_n dX12_tips_11 rfl ?_
    refine G_aload_n dX12_tips_12 rfl ?_
    refine G_aload_n dX12_tips_13 rfl ?_
    refine G_getR (t := 179) dX12_tips_14 fl_12_39 (by decide) sh_169 rr_169_13 ?_
    refine G_iconst (z := 5) dX12_tips_17 rfl ?_
    refine G_iald (z := (mem 179 5)) dX12_tips_18 (by decide) sh_179 (by decide) (by decide) (by decide) rfl ?_
    refine cb_X12_tips_19 (ic_X12_drives (a := (mem r1 97)) (b := (mem r1 98)) hl1 hs1 rfl rfl (w1) ?_)
    refine G_sipush (z := 300) dX12_tips_22 rfl ?_
    refine G_iadd dX12_tips_25 ?_
    refine G_istore_n dX12_tips_26 rfl (by decide : 2 < 3) rfl ?_
    refine G_aload_n dX12_tips_27 rfl ?_
    refine G_bipush (z := 98) dX12_tips_28 rfl ?_
    refine G_dup2 dX12_tips_30 rfl rfl ?_
    refine G_iald (z := ((mem r1 98) + (10 * (if 0 ≤ ((mem r1 97) - (mem 179 5)) then ((mem r1 97) - (mem 179 5)) else -((mem r1 97) - (mem 179 5)))))) dX12_tips_31 hl1 hs1 (by decide) (by decide) (by decide) (by simp [up2, upr]) ?_
    refine G_sipush (z := 300) dX12_tips_32 rfl ?_
    refine G_iadd dX12_tips_35 ?_
    refine G_iast (mem2 := (up2 (up2 (up2 mem r1 97 (mem 179 5)) r1 98 ((mem r1 98) + (10 * (if 0 ≤ ((mem r1 97) - (mem 179 5)) then ((mem r1 97) - (mem 179 5)) else -((mem r1 97) - (mem 179 5)))))) r1 98 (((mem r1 98) + (10 * (if 0 ≤ ((mem r1 97) - (mem 179 5)) then ((mem r1 97) - (mem 179 5)) else -((mem r1 97) - (mem 179 5))))) + 300))) dX12_tips_36 hl1 hs1 (by decide) (by decide) (by decide) rfl ?_
    refine G_aload_n dX12_tips_37 rfl ?_
    refine G_aload_n dX12_tips_38 rfl ?_
    refine G_bipush (z := 96) dX12_tips_39 rfl ?_
    refine G_iald (z := (mem r1 96)) dX12_tips_41 hl1 hs1 (by decide) (by decide) (by decide) (by simp [up2, upr]) ?_
    refine G_putI (mem2 := (up2 (up2 (up2 (up2 mem r1 97 (mem 179 5)) r1 98 ((mem r1 98) + (10 * (if 0 ≤ ((mem r1 97) - (mem 179 5)) then ((mem r1 97) - (mem 179 5)) else -((mem r1 97) - (mem 179 5)))))) r1 98 (((mem r1 98) + (10 * (if 0 ≤ ((mem r1 97) - (mem 179 5)) then ((mem r1 97) - (mem 179 5)) else -((mem r1 97) - (mem 179 5))))) + 300)) 169 42 (mem r1 96))) dX12_tips_42 fp_12_362 (by decide) sh_169 rfl ?_
    refine G_aload_n dX12_tips_45 rfl ?_
    refine G_bipush (z := 96) dX12_tips_46 rfl ?_
    refine G_iconst (z := 0) dX12_tips_48 rfl ?_
    refine G_iast (mem2 := (up2 (up2 (up2 (up2 (up2 mem r1 97 (mem 179 5)) r1 98 ((mem r1 98) + (10 * (if 0 ≤ ((mem r1 97) - (mem 179 5)) then ((mem r1 97) - (mem 179 5)) else -((mem r1 97) - (mem 179 5)))))) r1 98 (((mem r1 98) + (10 * (if 0 ≤ ((mem r1 97) - (mem 179 5)) then ((mem r1 97) - (mem 179 5)) else -((mem r1 97) - (mem 179 5))))) + 300)) 169 42 (mem r1 96)) r1 96 0)) dX12_tips_49 hl1 hs1 (by decide) (by decide) (by decide) rfl ?_
    refine G_iload_n dX12_tips_50 rfl ?_
    exact G_iret dX12_tips_51 rfl (Nat.zero_le _) (Nat.zero_le _) (Nat.le_refl _) ⟨rfl, k2 c2⟩
set_option maxRecDepth 20000 in
set_option maxHeartbeats 8000000 in
theorem sg_X12_triesOrders_0 {E : Nat × (Nat → Int32)} {d : Nat} {P : Option Value → Mem → Prop} {mem : Mem} {a1 : Int} {a2 : Int} (w1 : -2147483648 ≤ a1 ∧ a1 < 2147483648)
    (k1 : a1 ≠ 0 → GM E (m_X12_triesOrders d) P 81 [.ref 169, vi a1, vi a2, vi 0, un] [] mem)
    (k2 : a1 = 0 → GM E (m_X12_triesOrders d) P 17 [.ref 169, vi a1, vi a2, un, un] [.ref 181, .ref 180] (up2 mem 169 52 a2)) :
    GM E (m_X12_triesOrders d) P 0 [.ref 169, vi a1, vi a2, un, un] [] mem := by
  refine G_iload_n dX12_triesOrders_0 rfl ?_
  refine G_if_ne (tgt := 79) dX12_triesOrders_1 (by decide) (w1) (fun c1 => ?_) (fun c1 => ?_)
  · -- a1 ≠ 0
    refine G_iconst (z := 0) dX12_triesOrders_79 rfl ?_
    refine G_istore_n dX12_triesOrders_80 rfl (by decide : 3 < 5) rfl ?_
    exact k1 c1
  · -- a1 = 0
    refine G_aload_n dX12_triesOrders_4 rfl ?_
    refine G_iload_n dX12_triesOrders_5 rfl ?_
    refine G_putI (mem2 := (up2 mem 169 52 a2)) dX12_triesOrders_6 fp_12_419 (by decide) sh_169 rfl ?_
    refine G_aload_n dX12_triesOrders_9 rfl ?_
    refine G_getR (t := 180) dX12_triesOrders_10 fl_12_42 (by decide) sh_169 rr_169_14 ?_
    refine G_aload_n dX12_triesOrders_13 rfl ?_
    refine G_getR (t := 181) dX12_triesOrders_14 fl_12_45 (by decide) sh_169 rr_169_15 ?_
    exact k2 c1
set_option maxRecDepth 20000 in
set_option maxHeartbeats 8000000 in
theorem sg_X12_triesOrders_20 {E : Nat × (Nat → Int32)} {d : Nat} {P : Option Value → Mem → Prop} {mem : Mem} {a1 : Int} {a2 : Int}
    (k1 : GM E (m_X12_triesOrders d) P 21 [.ref 169, vi a1, vi a2, un, un] [.ref 169] mem) :
    GM E (m_X12_triesOrders d) P 20 [.ref 169, vi a1, vi a2, un, un] [] mem := by
  refine G_aload_n dX12_triesOrders_20 rfl ?_
  exact k1
set_option maxRecDepth 20000 in
set_option maxHeartbeats 8000000 in
theorem sg_X12_triesOrders_24 {E : Nat × (Nat → Int32)} {d : Nat} {P : Option Value → Mem → Prop} {mem : Mem} {a1 : Int} {a2 : Int} {s0 : Int} (w1 : -2147483648 ≤ s0 ∧ s0 < 2147483648) (w2 : ¬ s0 < 0 → -2147483648 ≤ (mem 169 54) ∧ (mem 169 54) < 2147483648)
    (k1 : s0 < 0 → P none mem)
    (k2 : ¬ s0 < 0 → (mem 169 54) < 0 → GM E (m_X12_triesOrders d) P 52 [.ref 169, vi a1, vi a2, vi s0, vi 0] [] (up2 mem 169 54 s0))
    (k3 : ¬ s0 < 0 → ¬ (mem 169 54) < 0 → (mem 169 54) ≤ s0 → P none mem)
    (k4 : ¬ s0 < 0 → ¬ (mem 169 54) < 0 → ¬ (mem 169 54) ≤ s0 → GM E (m_X12_triesOrders d) P 52 [.ref 169, vi a1, vi a2, vi s0, vi 0] [] (up2 mem 169 54 s0)) :
    GM E (m_X12_triesOrders d) P 24 [.ref 169, vi a1, vi a2, un, un] [vi s0] mem := by
  refine G_istore_n dX12_triesOrders_24 rfl (by decide : 3 < 5) rfl ?_
  refine G_iload_n dX12_triesOrders_25 rfl ?_
  refine G_if_lt (tgt := 78) dX12_triesOrders_26 (by decide) (w1) (fun c1 => ?_) (fun c1 => ?_)
  · -- s0 < 0
    exact G_vret dX12_triesOrders_78 rfl (Nat.zero_le _) (Nat.zero_le _) (Nat.le_refl _) ⟨rfl, k1 c1⟩
  · -- ¬ s0 < 0
    refine G_aload_n dX12_triesOrders_29 rfl ?_
    refine G_getI (z := (mem 169 54)) dX12_triesOrders_30 fl_12_432 (by decide) sh_169 rfl ?_
    refine G_if_lt (tgt := 44) dX12_triesOrders_33 (by decide) (w2 c1) (fun c2 => ?_) (fun c2 => ?_)
    · -- (mem 169 54) < 0
      refine G_aload_n dX12_triesOrders_44 rfl ?_
      refine G_iload_n dX12_triesOrders_45 rfl ?_
      refine G_putI (mem2 := (up2 mem 169 54 s0)) dX12_triesOrders_46 fp_12_432 (by decide) sh_169 rfl ?_
      refine G_iconst (z := 0) dX12_triesOrders_49 rfl ?_
      refine G_istore dX12_triesOrders_50 (by decide : 4 < 5) rfl ?_
      exact k2 c1 c2
    · -- ¬ (mem 169 54) < 0
      refine G_iload_n dX12_triesOrders_36 rfl ?_
      refine G_aload_n dX12_triesOrders_37 rfl ?_
      refine G_getI (z := (mem 169 54)) dX12_triesOrders_38 fl_12_432 (by decide) sh_169 rfl ?_
      refine G_icmp_ge (tgt := 78) dX12_triesOrders_41 (by decide) (w1) (w2 c1) (fun c3 => ?_) (fun c3 => ?_)
      · -- (mem 169 54) ≤ s0
        exact G_vret dX12_triesOrders_78 rfl (Nat.zero_le _) (Nat.zero_le _) (Nat.le_refl _) ⟨rfl, k3 c1 c2 c3⟩
      · -- ¬ (mem 169 54) ≤ s0
        refine G_aload_n dX12_triesOrders_44 rfl ?_
        refine G_iload_n dX12_triesOrders_45 rfl ?_
        refine G_putI (mem2 := (up2 mem 169 54 s0)) dX12_triesOrders_46 fp_12_432 (by decide) sh_169 rfl ?_
        refine G_iconst (z := 0) dX12_triesOrders_49 rfl ?_
        refine G_istore dX12_triesOrders_50 (by decide : 4 < 5) rfl ?_
        exact k4 c1 c2 c3
set_option maxRecDepth 20000 in
set_option maxHeartbeats 8000000 in
theorem sg_X12_triesOrders_52 {E : Nat × (Nat → Int32)} {d : Nat} {P : Option Value → Mem → Prop} {mem : Mem} {a1 : Int} {a2 : Int} {a3 : Int} {a4 : Int} (w1 : -2147483648 ≤ a4 ∧ a4 < 2147483648) (w2 : -2147483648 ≤ a2 ∧ a2 < 2147483648) (q3 : ¬ a2 ≤ a4 → 0 ≤ a4 ∧ a4 < 6)
    (k1 : a2 ≤ a4 → P none mem)
    (k2 : ¬ a2 ≤ a4 → GM E (m_X12_triesOrders d) P 52 [.ref 169, vi a1, vi a2, vi a3, vi (a4 + 1)] [] (up2 mem 196 a4 (mem 195 a4))) :
    GM E (m_X12_triesOrders d) P 52 [.ref 169, vi a1, vi a2, vi a3, vi a4] [] mem := by
  refine G_iload dX12_triesOrders_52 rfl ?_
  refine G_iload_n dX12_triesOrders_54 rfl ?_
  refine G_icmp_ge (tgt := 78) dX12_triesOrders_55 (by decide) (w1) (w2) (fun c1 => ?_) (fun c1 => ?_)
  · -- a2 ≤ a4
    exact G_vret dX12_triesOrders_78 rfl (Nat.zero_le _) (Nat.zero_le _) (Nat.le_refl _) ⟨rfl, k1 c1⟩
  · -- ¬ a2 ≤ a4
    refine G_aload_n dX12_triesOrders_58 rfl ?_
    refine G_getR (t := 196) dX12_triesOrders_59 fl_12_90 (by decide) sh_169 rr_169_53 ?_
    refine G_iload dX12_triesOrders_62 rfl ?_
    refine G_aload_n dX12_triesOrders_64 rfl ?_
    refine G_getR (t := 195) dX12_triesOrders_65 fl_12_87 (by decide) sh_169 rr_169_51 ?_
    refine G_iload dX12_triesOrders_68 rfl ?_
    refine G_iald (z := (mem 195 a4)) dX12_triesOrders_70 (by decide) sh_195 (by decide) (q3 c1).1 (q3 c1).2 rfl ?_
    refine G_iast (mem2 := (up2 mem 196 a4 (mem 195 a4))) dX12_triesOrders_71 (by decide) sh_196 (by decide) (q3 c1).1 (q3 c1).2 rfl ?_
    refine G_iinc (z := (a4 + 1)) dX12_triesOrders_72 rfl rfl (by decide : 4 < 5) rfl ?_
    refine G_goto (tgt := 52) dX12_triesOrders_75 (by decide) ?_
    exact k2 c1
set_option maxRecDepth 20000 in
set_option maxHeartbeats 8000000 in
theorem sg_X12_triesOrders_81 {E : Nat × (Nat → Int32)} {d : Nat} (hd : 1 ≤ d) {P : Option Value → Mem → Prop} {mem : Mem} {a1 : Int} {a2 : Int} {a3 : Int} (w1 : -2147483648 ≤ a3 ∧ a3 < 2147483648) (w2 : -2147483648 ≤ (mem 169 3) ∧ (mem 169 3) < 2147483648) (q3 : ¬ (mem 169 3) ≤ a3 → (bandI (shrI a1 a3) 1) = 1 → 0 ≤ a2 ∧ a2 < 6)
    (k1 : (mem 169 3) ≤ a3 → P none mem)
    (k2 : ¬ (mem 169 3) ≤ a3 → (bandI (shrI a1 a3) 1) = 1 → GM E (m_X12_triesOrders d) P 115 [.ref 169, vi a1, vi a2, vi a3, un] [vi (a2 + 1), vi (bandI a1 (bxorI (shlI 1 a3) (-1))), .ref 169] (up2 mem 195 a2 a3))
    (k3 : ¬ (mem 169 3) ≤ a3 → ¬ (bandI (shrI a1 a3) 1) = 1 → GM E (m_X12_triesOrders d) P 81 [.ref 169, vi a1, vi a2, vi (a3 + 1), un] [] mem) :
    GM E (m_X12_triesOrders d) P 81 [.ref 169, vi a1, vi a2, vi a3, un] [] mem := by
  refine G_iload_n dX12_triesOrders_81 rfl ?_
  refine G_aload_n dX12_triesOrders_82 rfl ?_
  refine G_getI (z := (mem 169 3)) dX12_triesOrders_83 fl_12_137 (by decide) sh_169 rfl ?_
  refine G_icmp_ge (tgt := 124) dX12_triesOrders_86 (by decide) (w1) (w2) (fun c1 => ?_) (fun c1 => ?_)
  · -- (mem 169 3) ≤ a3
    exact G_vret dX12_triesOrders_124 rfl (Nat.zero_le _) (Nat.zero_le _) (Nat.le_refl _) ⟨rfl, k1 c1⟩
  · -- ¬ (mem 169 3) ≤ a3
    refine G_iload_n dX12_triesOrders_89 rfl ?_
    refine G_iload_n dX12_triesOrders_90 rfl ?_
    refine cb_X12_triesOrders_91 (by omega) (ic_X12_has (fun c2 => ?_) (fun c3 => ?_))
    · -- (bandI (shrI a1 a3) 1) = 1
      refine G_if_eq (tgt := 118) dX12_triesOrders_94 (by decide) (by decide) (fun h => absurd h (by decide)) (fun _ => ?_)
      refine G_aload_n dX12_triesOrders_97 rfl ?_
      refine G_getR (t := 195) dX12_triesOrders_98 fl_12_87 (by decide) sh_169 rr_169_51 ?_
      refine G_iload_n dX12_triesOrders_101 rfl ?_
      refine G_iload_n dX12_triesOrders_102 rfl ?_
      refine G_iast (mem2 := (up2 mem 195 a2 a3)) dX12_triesOrders_103 (by decide) sh_195 (by decide) (q3 c1 c2).1 (q3 c1 c2).2 rfl ?_
      refine G_aload_n dX12_triesOrders_104 rfl ?_
      refine G_iload_n dX12_triesOrders_105 rfl ?_
      refine G_iconst (z := 1) dX12_triesOrders_106 rfl ?_
      refine G_iload_n dX12_triesOrders_107 rfl ?_
      refine G_ishl (z := (shlI 1 a3)) dX12_triesOrders_108 (iI_inv _) ?_
      refine G_iconst (z := (-1)) dX12_triesOrders_109 rfl ?_
      refine G_ixor (z := (bxorI (shlI 1 a3) (-1))) dX12_triesOrders_110 (iI_inv _) ?_
      refine G_iand (z := (bandI a1 (bxorI (shlI 1 a3) (-1)))) dX12_triesOrders_111 (iI_inv _) ?_
      refine G_iload_n dX12_triesOrders_112 rfl ?_
      refine G_iconst (z := 1) dX12_triesOrders_113 rfl ?_
      refine G_iadd dX12_triesOrders_114 ?_
      exact k2 c1 c2
    · -- ¬ (bandI (shrI a1 a3) 1) = 1
      refine G_if_eq (tgt := 118) dX12_triesOrders_94 (by decide) (by decide) (fun _ => ?_) (fun h => absurd h (by decide))
      refine G_iinc (z := (a3 + 1)) dX12_triesOrders_118 rfl rfl (by decide : 3 < 5) rfl ?_
      refine G_goto (tgt := 81) dX12_triesOrders_121 (by decide) ?_
      exact k3 c1 c3
set_option maxRecDepth 20000 in
set_option maxHeartbeats 8000000 in
theorem sg_X12_triesOrders_118 {E : Nat × (Nat → Int32)} {d : Nat} {P : Option Value → Mem → Prop} {mem : Mem} {a1 : Int} {a2 : Int} {a3 : Int}
    (k1 : GM E (m_X12_triesOrders d) P 81 [.ref 169, vi a1, vi a2, vi (a3 + 1), un] [] mem) :
    GM E (m_X12_triesOrders d) P 118 [.ref 169, vi a1, vi a2, vi a3, un] [] mem := by
  refine G_iinc (z := (a3 + 1)) dX12_triesOrders_118 rfl rfl (by decide : 3 < 5) rfl ?_
  refine G_goto (tgt := 81) dX12_triesOrders_121 (by decide) ?_
  exact k1
set_option maxRecDepth 20000 in
set_option maxHeartbeats 8000000 in
theorem sg_X12_undo_0 {E : Nat × (Nat → Int32)} {P : Option Value → Mem → Prop} {mem : Mem} (w1 : -2147483648 ≤ (mem 169 40) ∧ (mem 169 40) < 2147483648)
    (k1 : (mem 169 40) ≠ 0 → GM E (m_X12_undo 0) P 26 [.ref 169, vi 0] [] (up2 (up2 mem 169 0 0) 169 40 ((mem 169 40) - 1)))
    (k2 : (mem 169 40) = 0 → P (some (vi (-1))) (up2 mem 169 0 0)) :
    GM E (m_X12_undo 0) P 0 [.ref 169, un] [] mem := by
  refine G_aload_n dX12_undo_0 rfl ?_
  refine G_iconst (z := 0) dX12_undo_1 rfl ?_
  refine G_putI (mem2 := (up2 mem 169 0 0)) dX12_undo_2 fp_12_126 (by decide) sh_169 rfl ?_
  refine G_aload_n dX12_undo_5 rfl ?_
  refine G_getI (z := (mem 169 40)) dX12_undo_6 fl_12_224 (by decide) sh_169 (by simp [up2, upr]) ?_
  refine G_if_ne (tgt := 14) dX12_undo_9 (by decide) (w1) (fun c1 => ?_) (fun c1 => ?_)
  · -- (mem 169 40) ≠ 0
    refine G_aload_n dX12_undo_14 rfl ?_
    refine G_dup dX12_undo_15 rfl ?_
    refine G_getI (z := (mem 169 40)) dX12_undo_16 fl_12_224 (by decide) sh_169 (by simp [up2, upr]) ?_
    refine G_iconst (z := 1) dX12_undo_19 rfl ?_
    refine G_isub dX12_undo_20 ?_
    refine G_putI (mem2 := (up2 (up2 mem 169 0 0) 169 40 ((mem 169 40) - 1))) dX12_undo_21 fp_12_224 (by decide) sh_169 rfl ?_
    refine G_iconst (z := 0) dX12_undo_24 rfl ?_
    refine G_istore_n dX12_undo_25 rfl (by decide : 1 < 2) rfl ?_
    exact k1 c1
  · -- (mem 169 40) = 0
    refine G_iconst (z := (-1)) dX12_undo_12 rfl ?_
    exact G_iret dX12_undo_13 rfl (Nat.zero_le _) (Nat.zero_le _) (Nat.le_refl _) ⟨rfl, k2 c1⟩
set_option maxRecDepth 20000 in
set_option maxHeartbeats 8000000 in
theorem sg_X12_undo_26 {E : Nat × (Nat → Int32)} {P : Option Value → Mem → Prop} {mem : Mem} {a1 : Int} (w1 : -2147483648 ≤ a1 ∧ a1 < 2147483648) (q2 : ¬ 99 ≤ a1 → 0 ≤ ((99 * (mem 169 40)) + a1) ∧ ((99 * (mem 169 40)) + a1) < 1584) (q3 : ¬ 99 ≤ a1 → 0 ≤ a1 ∧ a1 < 99)
    (k1 : 99 ≤ a1 → P (some (vi (mem 169 40))) mem)
    (k2 : ¬ 99 ≤ a1 → GM E (m_X12_undo 0) P 26 [.ref 169, vi (a1 + 1)] [] (up2 mem 180 a1 (mem 190 ((99 * (mem 169 40)) + a1)))) :
    GM E (m_X12_undo 0) P 26 [.ref 169, vi a1] [] mem := by
  refine G_iload_n dX12_undo_26 rfl ?_
  refine G_bipush (z := 99) dX12_undo_27 rfl ?_
  refine G_icmp_ge (tgt := 58) dX12_undo_29 (by decide) (w1) (by decide) (fun c1 => ?_) (fun c1 => ?_)
  · -- 99 ≤ a1
    refine G_aload_n dX12_undo_58 rfl ?_
    refine G_getI (z := (mem 169 40)) dX12_undo_59 fl_12_224 (by decide) sh_169 rfl ?_
    exact G_iret dX12_undo_62 rfl (Nat.zero_le _) (Nat.zero_le _) (Nat.le_refl _) ⟨rfl, k1 c1⟩
  · -- ¬ 99 ≤ a1
    refine G_aload_n dX12_undo_32 rfl ?_
    refine G_getR (t := 180) dX12_undo_33 fl_12_42 (by decide) sh_169 rr_169_14 ?_
    refine G_iload_n dX12_undo_36 rfl ?_
    refine G_aload_n dX12_undo_37 rfl ?_
    refine G_getR (t := 190) dX12_undo_38 fl_12_72 (by decide) sh_169 rr_169_41 ?_
    refine G_bipush (z := 99) dX12_undo_41 rfl ?_
    refine G_aload_n dX12_undo_43 rfl ?_
    refine G_getI (z := (mem 169 40)) dX12_undo_44 fl_12_224 (by decide) sh_169 rfl ?_
    refine G_imul dX12_undo_47 ?_
    refine G_iload_n dX12_undo_48 rfl ?_
    refine G_iadd dX12_undo_49 ?_
    refine G_iald (z := (mem 190 ((99 * (mem 169 40)) + a1))) dX12_undo_50 (by decide) sh_190 (by decide) (q2 c1).1 (q2 c1).2 rfl ?_
    refine G_iast (mem2 := (up2 mem 180 a1 (mem 190 ((99 * (mem 169 40)) + a1)))) dX12_undo_51 (by decide) sh_180 (by decide) (q3 c1).1 (q3 c1).2 rfl ?_
    refine G_iinc (z := (a1 + 1)) dX12_undo_52 rfl rfl (by decide : 1 < 2) rfl ?_
    refine G_goto (tgt := 26) dX12_undo_55 (by decide) ?_
    exact k2 c1
set_option maxRecDepth 20000 in
set_option maxHeartbeats 8000000 in
theorem sg_X12_week_0 {E : Nat × (Nat → Int32)} {P : Option Value → Mem → Prop} {mem : Mem}
    (k1 : GM E (m_X12_week 2) P 6 [.ref 169, un] [.ref 169] (up2 mem 169 0 0)) :
    GM E (m_X12_week 2) P 0 [.ref 169, un] [] mem := by
  refine G_aload_n dX12_week_0 rfl ?_
  refine G_iconst (z := 0) dX12_week_1 rfl ?_
  refine G_putI (mem2 := (up2 mem 169 0 0)) dX12_week_2 fp_12_126 (by decide) sh_169 rfl ?_
  refine G_aload_n dX12_week_5 rfl ?_
  exact k1
set_option maxRecDepth 20000 in
set_option maxHeartbeats 8000000 in
theorem sg_X12_week_9 {E : Nat × (Nat → Int32)} {P : Option Value → Mem → Prop} {mem : Mem}
    (k1 : GM E (m_X12_week 2) P 11 [.ref 169, vi 0] [] mem) :
    GM E (m_X12_week 2) P 9 [.ref 169, un] [] mem := by
  refine G_iconst (z := 0) dX12_week_9 rfl ?_
  refine G_istore_n dX12_week_10 rfl (by decide : 1 < 2) rfl ?_
  exact k1
set_option maxRecDepth 20000 in
set_option maxHeartbeats 8000000 in
theorem sg_X12_week_11 {E : Nat × (Nat → Int32)} {P : Option Value → Mem → Prop} {mem : Mem} {a1 : Int} (w1 : -2147483648 ≤ a1 ∧ a1 < 2147483648) (q2 : ¬ 96 ≤ a1 → 0 ≤ a1 ∧ a1 < 96) (w3 : ¬ 96 ≤ a1 → -2147483648 ≤ (mem 178 a1) ∧ (mem 178 a1) < 2147483648) (q4 : ¬ 96 ≤ a1 → (mem 178 a1) ≤ 0 → 0 ≤ a1 ∧ a1 < 99) (q5 : ¬ 96 ≤ a1 → ¬ (mem 178 a1) ≤ 0 → 0 ≤ a1 ∧ a1 < 99)
    (k1 : 96 ≤ a1 → GM E (m_X12_week 2) P 70 [.ref 169, vi a1] [vi 1, .ref 169, .ref 169] (up2 (up2 (up2 mem 180 96 0) 180 97 0) 180 98 0))
    (k2 : ¬ 96 ≤ a1 → (mem 178 a1) ≤ 0 → GM E (m_X12_week 2) P 11 [.ref 169, vi (a1 + 1)] [] (up2 mem 180 a1 0))
    (k3 : ¬ 96 ≤ a1 → ¬ (mem 178 a1) ≤ 0 → GM E (m_X12_week 2) P 11 [.ref 169, vi (a1 + 1)] [] (up2 mem 180 a1 1)) :
    GM E (m_X12_week 2) P 11 [.ref 169, vi a1] [] mem := by
  refine G_iload_n dX12_week_11 rfl ?_
  refine G_bipush (z := 96) dX12_week_12 rfl ?_
  refine G_icmp_ge (tgt := 43) dX12_week_14 (by decide) (w1) (by decide) (fun c1 => ?_) (fun c1 => ?_)
  · -- 96 ≤ a1
    refine G_aload_n dX12_week_43 rfl ?_
    refine G_getR (t := 180) dX12_week_44 fl_12_42 (by decide) sh_169 rr_169_14 ?_
    refine G_bipush (z := 96) dX12_week_47 rfl ?_
    refine G_iconst (z := 0) dX12_week_49 rfl ?_
    refine G_iast (mem2 := (up2 mem 180 96 0)) dX12_week_50 (by decide) sh_180 (by decide) (by decide) (by decide) rfl ?_
    refine G_aload_n dX12_week_51 rfl ?_
    refine G_getR (t := 180) dX12_week_52 fl_12_42 (by decide) sh_169 rr_169_14 ?_
    refine G_bipush (z := 97) dX12_week_55 rfl ?_
    refine G_iconst (z := 0) dX12_week_57 rfl ?_
    refine G_iast (mem2 := (up2 (up2 mem 180 96 0) 180 97 0)) dX12_week_58 (by decide) sh_180 (by decide) (by decide) (by decide) rfl ?_
    refine G_aload_n dX12_week_59 rfl ?_
    refine G_getR (t := 180) dX12_week_60 fl_12_42 (by decide) sh_169 rr_169_14 ?_
    refine G_bipush (z := 98) dX12_week_63 rfl ?_
    refine G_iconst (z := 0) dX12_week_65 rfl ?_
    refine G_iast (mem2 := (up2 (up2 (up2 mem 180 96 0) 180 97 0) 180 98 0)) dX12_week_66 (by decide) sh_180 (by decide) (by decide) (by decide) rfl ?_
    refine G_aload_n dX12_week_67 rfl ?_
    refine G_aload_n dX12_week_68 rfl ?_
    refine G_iconst (z := 1) dX12_week_69 rfl ?_
    exact k1 c1
  · -- ¬ 96 ≤ a1
    refine G_aload_n dX12_week_17 rfl ?_
    refine G_getR (t := 180) dX12_week_18 fl_12_42 (by decide) sh_169 rr_169_14 ?_
    refine G_iload_n dX12_week_21 rfl ?_
    refine G_aload_n dX12_week_22 rfl ?_
    refine G_getR (t := 178) dX12_week_23 fl_12_36 (by decide) sh_169 rr_169_12 ?_
    refine G_iload_n dX12_week_26 rfl ?_
    refine G_iald (z := (mem 178 a1)) dX12_week_27 (by decide) sh_178 (by decide) (q2 c1).1 (q2 c1).2 rfl ?_
    refine G_if_le (tgt := 35) dX12_week_28 (by decide) (w3 c1) (fun c2 => ?_) (fun c2 => ?_)
    · -- (mem 178 a1) ≤ 0
      refine G_iconst (z := 0) dX12_week_35 rfl ?_
      refine G_iast (mem2 := (up2 mem 180 a1 0)) dX12_week_36 (by decide) sh_180 (by decide) (q4 c1 c2).1 (q4 c1 c2).2 rfl ?_
      refine G_iinc (z := (a1 + 1)) dX12_week_37 rfl rfl (by decide : 1 < 2) rfl ?_
      refine G_goto (tgt := 11) dX12_week_40 (by decide) ?_
      exact k2 c1 c2
    · -- ¬ (mem 178 a1) ≤ 0
      refine G_iconst (z := 1) dX12_week_31 rfl ?_
      refine G_goto (tgt := 36) dX12_week_32 (by decide) ?_
      refine G_iast (mem2 := (up2 mem 180 a1 1)) dX12_week_36 (by decide) sh_180 (by decide) (q5 c1 c2).1 (q5 c1 c2).2 rfl ?_
      refine G_iinc (z := (a1 + 1)) dX12_week_37 rfl rfl (by decide : 1 < 2) rfl ?_
      refine G_goto (tgt := 11) dX12_week_40 (by decide) ?_
      exact k3 c1 c2
set_option maxRecDepth 20000 in
set_option maxHeartbeats 8000000 in
theorem sg_X12_week_73 {E : Nat × (Nat → Int32)} {P : Option Value → Mem → Prop} {mem : Mem} {a1 : Int} {s0 : Int}
    (k1 : GM E (m_X12_week 2) P 73 [.ref 169, vi a1] [vi s0, .ref 169] mem) :
    GM E (m_X12_week 2) P 73 [.ref 169, vi a1] [vi s0, .ref 169] mem := by
  exact k1
set_option maxRecDepth 20000 in
set_option maxHeartbeats 8000000 in
theorem sg_X12_week_76 {E : Nat × (Nat → Int32)} {P : Option Value → Mem → Prop} {mem : Mem} {a1 : Int} {s0 : Int}
    (k1 : P (some (vi s0)) mem) :
    GM E (m_X12_week 2) P 76 [.ref 169, vi a1] [vi s0] mem := by
  exact G_iret dX12_week_76 rfl (Nat.zero_le _) (Nat.zero_le _) (Nat.le_refl _) ⟨rfl, k1⟩
set_option maxRecDepth 20000 in
set_option maxHeartbeats 8000000 in
theorem sg_X12_weeks_0 {E : Nat × (Nat → Int32)} {P : Option Value → Mem → Prop} {mem : Mem} {a1 : Int} {a2 : Int} {a3 : Int} (w1 : -2147483648 ≤ a2 ∧ a2 < 2147483648) (w2 : -9223372036854775808 ≤ a2 ∧ a2 < 9223372036854775808) (w3 : -2147483648 ≤ a3 ∧ a3 < 2147483648) (w4 : -9223372036854775808 ≤ a3 ∧ a3 < 9223372036854775808) (w5 : 1 ≤ a2 ∧ a2 ≤ 20 → 0 ≤ a3 ∧ a3 ≤ 10 → -2147483648 ≤ (mem 169 3) ∧ (mem 169 3) < 2147483648)
    (k1 : 1 ≤ a2 ∧ a2 ≤ 20 → 0 ≤ a3 ∧ a3 ≤ 10 → (mem 169 3) ≠ 0 → GM E (m_X12_weeks 9) P 53 [.ref 169, vi a1, vi a2, vi a3, vi a1, vi 0, vi (-1), vi (-1), vi 0, un] [] (up2 mem 169 0 0))
    (k2 : 1 ≤ a2 ∧ a2 ≤ 20 → 0 ≤ a3 ∧ a3 ≤ 10 → (mem 169 3) = 0 → P (some (vi (-1))) (up2 mem 169 0 0))
    (k3 : 1 ≤ a2 ∧ a2 ≤ 20 → ¬ (0 ≤ a3 ∧ a3 ≤ 10) → P (some (vi (-1))) (up2 mem 169 0 0))
    (k4 : ¬ (1 ≤ a2 ∧ a2 ≤ 20) → P (some (vi (-1))) (up2 mem 169 0 0)) :
    GM E (m_X12_weeks 9) P 0 [.ref 169, vi a1, vi a2, vi a3, un, un, un, un, un, un] [] mem := by
  refine G_aload_n dX12_weeks_0 rfl ?_
  refine G_iconst (z := 0) dX12_weeks_1 rfl ?_
  refine G_putI (mem2 := (up2 mem 169 0 0)) dX12_weeks_2 fp_12_126 (by decide) sh_169 rfl ?_
  refine G_iload_n dX12_weeks_5 rfl ?_
  refine G_i2l dX12_weeks_6 (w1) ?_
  refine G_lconst (z := 1) dX12_weeks_7 rfl ?_
  refine G_ldc2 (z := 20) dX12_weeks_8 kc_12_496 ?_
  refine cb_X12_weeks_11 (ic_X12_in (w2) (by decide) (by decide) (fun c1 => ?_) (fun c2 => ?_))
  · -- 1 ≤ a2 ∧ a2 ≤ 20
    refine G_if_eq (tgt := 36) dX12_weeks_14 (by decide) (by decide) (fun h => absurd h (by decide)) (fun _ => ?_)
    refine G_iload_n dX12_weeks_17 rfl ?_
    refine G_i2l dX12_weeks_18 (w3) ?_
    refine G_lconst (z := 0) dX12_weeks_19 rfl ?_
    refine G_ldc2 (z := 10) dX12_weeks_20 kc_12_489 ?_
    refine cb_X12_weeks_23 (ic_X12_in (w4) (by decide) (by decide) (fun c3 => ?_) (fun c4 => ?_))
    · -- 0 ≤ a3 ∧ a3 ≤ 10
      refine G_if_eq (tgt := 36) dX12_weeks_26 (by decide) (by decide) (fun h => absurd h (by decide)) (fun _ => ?_)
      refine G_aload_n dX12_weeks_29 rfl ?_
      refine G_getI (z := (mem 169 3)) dX12_weeks_30 fl_12_137 (by decide) sh_169 (by simp [up2, upr]) ?_
      refine G_if_ne (tgt := 38) dX12_weeks_33 (by decide) (w5 c1 c3) (fun c5 => ?_) (fun c5 => ?_)
      · -- (mem 169 3) ≠ 0
        refine G_iload_n dX12_weeks_38 rfl ?_
        refine G_istore dX12_weeks_39 (by decide : 4 < 10) rfl ?_
        refine G_iconst (z := 0) dX12_weeks_41 rfl ?_
        refine G_istore dX12_weeks_42 (by decide : 5 < 10) rfl ?_
        refine G_iconst (z := (-1)) dX12_weeks_44 rfl ?_
        refine G_istore dX12_weeks_45 (by decide : 6 < 10) rfl ?_
        refine G_iconst (z := (-1)) dX12_weeks_47 rfl ?_
        refine G_istore dX12_weeks_48 (by decide : 7 < 10) rfl ?_
        refine G_iconst (z := 0) dX12_weeks_50 rfl ?_
        refine G_istore dX12_weeks_51 (by decide : 8 < 10) rfl ?_
        exact k1 c1 c3 c5
      · -- (mem 169 3) = 0
        refine G_iconst (z := (-1)) dX12_weeks_36 rfl ?_
        exact G_iret dX12_weeks_37 rfl (Nat.zero_le _) (Nat.zero_le _) (Nat.le_refl _) ⟨rfl, k2 c1 c3 c5⟩
    · -- ¬ (0 ≤ a3 ∧ a3 ≤ 10)
      refine G_if_eq (tgt := 36) dX12_weeks_26 (by decide) (by decide) (fun _ => ?_) (fun h => absurd h (by decide))
      refine G_iconst (z := (-1)) dX12_weeks_36 rfl ?_
      exact G_iret dX12_weeks_37 rfl (Nat.zero_le _) (Nat.zero_le _) (Nat.le_refl _) ⟨rfl, k3 c1 c4⟩
  · -- ¬ (1 ≤ a2 ∧ a2 ≤ 20)
    refine G_if_eq (tgt := 36) dX12_weeks_14 (by decide) (by decide) (fun _ => ?_) (fun h => absurd h (by decide))
    refine G_iconst (z := (-1)) dX12_weeks_36 rfl ?_
    exact G_iret dX12_weeks_37 rfl (Nat.zero_le _) (Nat.zero_le _) (Nat.le_refl _) ⟨rfl, k4 c2⟩
set_option maxRecDepth 20000 in
set_option maxHeartbeats 8000000 in
theorem sg_X12_weeks_53 {E : Nat × (Nat → Int32)} {P : Option Value → Mem → Prop} {mem : Mem} {a1 : Int} {a2 : Int} {a3 : Int} {a4 : Int} {a5 : Int} {a6 : Int} {a7 : Int} {a8 : Int} (w1 : -2147483648 ≤ a8 ∧ a8 < 2147483648) (w2 : -2147483648 ≤ a2 ∧ a2 < 2147483648) (w3 : -2147483648 ≤ a6 ∧ a6 < 2147483648) (w4 : -2147483648 ≤ a7 ∧ a7 < 2147483648)
    (k1 : a2 ≤ a8 → P (some (vi a5)) (up2 (up2 (up2 (up2 (up2 mem 169 1 0) 170 0 a6) 169 1 1) 170 1 a7) 169 1 2))
    (k2 : ¬ a2 ≤ a8 → GM E (m_X12_weeks 9) P 62 [.ref 169, vi a1, vi a2, vi a3, vi a4, vi a5, vi a6, vi a7, vi a8, vi 0] [] mem) :
    GM E (m_X12_weeks 9) P 53 [.ref 169, vi a1, vi a2, vi a3, vi a4, vi a5, vi a6, vi a7, vi a8, un] [] mem := by
  refine G_iload dX12_weeks_53 rfl ?_
  refine G_iload_n dX12_weeks_55 rfl ?_
  refine G_icmp_ge (tgt := 236) dX12_weeks_56 (by decide) (w1) (w2) (fun c1 => ?_) (fun c1 => ?_)
  · -- a2 ≤ a8
    refine G_aload_n dX12_weeks_236 rfl ?_
    refine G_iconst (z := 0) dX12_weeks_237 rfl ?_
    refine G_putI (mem2 := (up2 mem 169 1 0)) dX12_weeks_238 fp_12_134 (by decide) sh_169 rfl ?_
    refine G_aload_n dX12_weeks_241 rfl ?_
    refine G_iload dX12_weeks_242 rfl ?_
    refine G_i2l dX12_weeks_244 (w3) ?_
    refine cb_X12_weeks_245 (ic_X12_enters (z := 0) (z2 := 1) (by simp [up2, upr]) (by decide) rfl ?_)
    refine G_aload_n dX12_weeks_248 rfl ?_
    refine G_iload dX12_weeks_249 rfl ?_
    refine G_i2l dX12_weeks_251 (w4) ?_
    refine cb_X12_weeks_252 (ic_X12_enters (z := 1) (z2 := 2) (by simp [up2, upr]) (by decide) rfl ?_)
    refine G_iload dX12_weeks_255 rfl ?_
    exact G_iret dX12_weeks_257 rfl (Nat.zero_le _) (Nat.zero_le _) (Nat.le_refl _) ⟨rfl, k1 c1⟩
  · -- ¬ a2 ≤ a8
    refine G_iconst (z := 0) dX12_weeks_59 rfl ?_
    refine G_istore dX12_weeks_60 (by decide : 9 < 10) rfl ?_
    exact k2 c1
set_option maxRecDepth 20000 in
set_option maxHeartbeats 8000000 in
theorem sg_X12_weeks_62 {E : Nat × (Nat → Int32)} {P : Option Value → Mem → Prop} {mem : Mem} {a1 : Int} {a2 : Int} {a3 : Int} {a4 : Int} {a5 : Int} {a6 : Int} {a7 : Int} {a8 : Int} {a9 : Int} (w1 : -2147483648 ≤ a9 ∧ a9 < 2147483648) (q2 : ¬ 96 ≤ a9 → 0 ≤ a9 ∧ a9 < 99) (q3 : ¬ 96 ≤ a9 → 0 ≤ a9 ∧ a9 < 96) (w4 : ¬ 96 ≤ a9 → -2147483648 ≤ (mem 178 a9) ∧ (mem 178 a9) < 2147483648) (w5 : -2147483648 ≤ a3 ∧ a3 < 2147483648)
    (k1 : 96 ≤ a9 → GM E (m_X12_weeks 9) P 164 [.ref 169, vi a1, vi a2, vi a3, vi a4, vi a5, vi a6, vi a7, vi a8, vi 0] [] (up2 (up2 (up2 (up2 mem 181 96 0) 181 97 0) 181 98 0) 169 52 (mem 169 3)))
    (k2 : ¬ 96 ≤ a9 → (mem 178 a9) ≤ 0 → GM E (m_X12_weeks 9) P 62 [.ref 169, vi a1, vi a2, vi a3, vi a4, vi a5, vi a6, vi a7, vi a8, vi (a9 + 1)] [] (up2 mem 181 a9 0))
    (k3 : ¬ 96 ≤ a9 → ¬ (mem 178 a9) ≤ 0 → a3 ≤ (remI (ushrI ((a4 * 1103515245) + 12345) 16) 10) → GM E (m_X12_weeks 9) P 62 [.ref 169, vi a1, vi a2, vi a3, vi ((a4 * 1103515245) + 12345), vi a5, vi a6, vi a7, vi a8, vi (a9 + 1)] [] (up2 (up2 mem 181 a9 0) 181 a9 0))
    (k4 : ¬ 96 ≤ a9 → ¬ (mem 178 a9) ≤ 0 → ¬ a3 ≤ (remI (ushrI ((a4 * 1103515245) + 12345) 16) 10) → GM E (m_X12_weeks 9) P 62 [.ref 169, vi a1, vi a2, vi a3, vi ((a4 * 1103515245) + 12345), vi a5, vi a6, vi a7, vi a8, vi (a9 + 1)] [] (up2 (up2 mem 181 a9 0) 181 a9 1)) :
    GM E (m_X12_weeks 9) P 62 [.ref 169, vi a1, vi a2, vi a3, vi a4, vi a5, vi a6, vi a7, vi a8, vi a9] [] mem := by
  refine G_iload dX12_weeks_62 rfl ?_
  refine G_bipush (z := 96) dX12_weeks_64 rfl ?_
  refine G_icmp_ge (tgt := 129) dX12_weeks_66 (by decide) (w1) (by decide) (fun c1 => ?_) (fun c1 => ?_)
  · -- 96 ≤ a9
    refine G_aload_n dX12_weeks_129 rfl ?_
    refine G_getR (t := 181) dX12_weeks_130 fl_12_45 (by decide) sh_169 rr_169_15 ?_
    refine G_bipush (z := 96) dX12_weeks_133 rfl ?_
    refine G_iconst (z := 0) dX12_weeks_135 rfl ?_
    refine G_iast (mem2 := (up2 mem 181 96 0)) dX12_weeks_136 (by decide) sh_181 (by decide) (by decide) (by decide) rfl ?_
    refine G_aload_n dX12_weeks_137 rfl ?_
    refine G_getR (t := 181) dX12_weeks_138 fl_12_45 (by decide) sh_169 rr_169_15 ?_
    refine G_bipush (z := 97) dX12_weeks_141 rfl ?_
    refine G_iconst (z := 0) dX12_weeks_143 rfl ?_
    refine G_iast (mem2 := (up2 (up2 mem 181 96 0) 181 97 0)) dX12_weeks_144 (by decide) sh_181 (by decide) (by decide) (by decide) rfl ?_
    refine G_aload_n dX12_weeks_145 rfl ?_
    refine G_getR (t := 181) dX12_weeks_146 fl_12_45 (by decide) sh_169 rr_169_15 ?_
    refine G_bipush (z := 98) dX12_weeks_149 rfl ?_
    refine G_iconst (z := 0) dX12_weeks_151 rfl ?_
    refine G_iast (mem2 := (up2 (up2 (up2 mem 181 96 0) 181 97 0) 181 98 0)) dX12_weeks_152 (by decide) sh_181 (by decide) (by decide) (by decide) rfl ?_
    refine G_aload_n dX12_weeks_153 rfl ?_
    refine G_aload_n dX12_weeks_154 rfl ?_
    refine G_getI (z := (mem 169 3)) dX12_weeks_155 fl_12_137 (by decide) sh_169 (by simp [up2, upr]) ?_
    refine G_putI (mem2 := (up2 (up2 (up2 (up2 mem 181 96 0) 181 97 0) 181 98 0) 169 52 (mem 169 3))) dX12_weeks_158 fp_12_419 (by decide) sh_169 rfl ?_
    refine G_iconst (z := 0) dX12_weeks_161 rfl ?_
    refine G_istore dX12_weeks_162 (by decide : 9 < 10) rfl ?_
    exact k1 c1
  · -- ¬ 96 ≤ a9
    refine G_aload_n dX12_weeks_69 rfl ?_
    refine G_getR (t := 181) dX12_weeks_70 fl_12_45 (by decide) sh_169 rr_169_15 ?_
    refine G_iload dX12_weeks_73 rfl ?_
    refine G_iconst (z := 0) dX12_weeks_75 rfl ?_
    refine G_iast (mem2 := (up2 mem 181 a9 0)) dX12_weeks_76 (by decide) sh_181 (by decide) (q2 c1).1 (q2 c1).2 rfl ?_
    refine G_aload_n dX12_weeks_77 rfl ?_
    refine G_getR (t := 178) dX12_weeks_78 fl_12_36 (by decide) sh_169 rr_169_12 ?_
    refine G_iload dX12_weeks_81 rfl ?_
    refine G_iald (z := (mem 178 a9)) dX12_weeks_83 (by decide) sh_178 (by decide) (q3 c1).1 (q3 c1).2 (by simp [up2, upr]) ?_
    refine G_if_le (tgt := 123) dX12_weeks_84 (by decide) (w4 c1) (fun c2 => ?_) (fun c2 => ?_)
    · -- (mem 178 a9) ≤ 0
      refine G_iinc (z := (a9 + 1)) dX12_weeks_123 rfl rfl (by decide : 9 < 10) rfl ?_
      refine G_goto (tgt := 62) dX12_weeks_126 (by decide) ?_
      exact k2 c1 c2
    · -- ¬ (mem 178 a9) ≤ 0
      refine G_iload dX12_weeks_87 rfl ?_
      refine G_ldcw (z := 1103515245) dX12_weeks_89 kc_12_498 ?_
      refine G_imul dX12_weeks_92 ?_
      refine G_sipush (z := 12345) dX12_weeks_93 rfl ?_
      refine G_iadd dX12_weeks_96 ?_
      refine G_istore dX12_weeks_97 (by decide : 4 < 10) rfl ?_
      refine G_aload_n dX12_weeks_99 rfl ?_
      refine G_getR (t := 181) dX12_weeks_100 fl_12_45 (by decide) sh_169 rr_169_15 ?_
      refine G_iload dX12_weeks_103 rfl ?_
      refine G_iload dX12_weeks_105 rfl ?_
      refine G_bipush (z := 16) dX12_weeks_107 rfl ?_
      refine G_iushr (z := (ushrI ((a4 * 1103515245) + 12345) 16)) dX12_weeks_109 (iI_inv _) ?_
      refine G_bipush (z := 10) dX12_weeks_110 rfl ?_
      refine G_irem (z := (remI (ushrI ((a4 * 1103515245) + 12345) 16) 10)) dX12_weeks_112 (iI_ne0 (by decide) (by decide)) (iI_inv _) ?_
      refine G_iload_n dX12_weeks_113 rfl ?_
      refine G_icmp_ge (tgt := 121) dX12_weeks_114 (by decide) (iI_rng _) (w5) (fun c3 => ?_) (fun c3 => ?_)
      · -- a3 ≤ (remI (ushrI ((a4 * 1103515245) + 12345) 16) 10)
        refine G_iconst (z := 0) dX12_weeks_121 rfl ?_
        refine G_iast (mem2 := (up2 (up2 mem 181 a9 0) 181 a9 0)) dX12_weeks_122 (by decide) sh_181 (by decide) (q2 c1).1 (q2 c1).2 rfl ?_
        refine G_iinc (z := (a9 + 1)) dX12_weeks_123 rfl rfl (by decide : 9 < 10) rfl ?_
        refine G_goto (tgt := 62) dX12_weeks_126 (by decide) ?_
        exact k3 c1 c2 c3
      · -- ¬ a3 ≤ (remI (ushrI ((a4 * 1103515245) + 12345) 16) 10)
        refine G_iconst (z := 1) dX12_weeks_117 rfl ?_
        refine G_goto (tgt := 122) dX12_weeks_118 (by decide) ?_
        refine G_iast (mem2 := (up2 (up2 mem 181 a9 0) 181 a9 1)) dX12_weeks_122 (by decide) sh_181 (by decide) (q2 c1).1 (q2 c1).2 rfl ?_
        refine G_iinc (z := (a9 + 1)) dX12_weeks_123 rfl rfl (by decide : 9 < 10) rfl ?_
        refine G_goto (tgt := 62) dX12_weeks_126 (by decide) ?_
        exact k4 c1 c2 c3
set_option maxRecDepth 20000 in
set_option maxHeartbeats 8000000 in
theorem sg_X12_weeks_164 {E : Nat × (Nat → Int32)} {P : Option Value → Mem → Prop} {mem : Mem} {a1 : Int} {a2 : Int} {a3 : Int} {a4 : Int} {a5 : Int} {a6 : Int} {a7 : Int} {a8 : Int} {a9 : Int} (w1 : -2147483648 ≤ a9 ∧ a9 < 2147483648) (w2 : -2147483648 ≤ (mem 169 3) ∧ (mem 169 3) < 2147483648) (q3 : ¬ (mem 169 3) ≤ a9 → 0 ≤ a9 ∧ a9 < 6)
    (k1 : (mem 169 3) ≤ a9 → GM E (m_X12_weeks 9) P 189 [.ref 169, vi a1, vi a2, vi a3, vi a4, vi a5, vi a6, vi a7, vi a8, vi a9] [.ref 169] mem)
    (k2 : ¬ (mem 169 3) ≤ a9 → GM E (m_X12_weeks 9) P 164 [.ref 169, vi a1, vi a2, vi a3, vi a4, vi a5, vi a6, vi a7, vi a8, vi (a9 + 1)] [] (up2 mem 195 a9 a9)) :
    GM E (m_X12_weeks 9) P 164 [.ref 169, vi a1, vi a2, vi a3, vi a4, vi a5, vi a6, vi a7, vi a8, vi a9] [] mem := by
  refine G_iload dX12_weeks_164 rfl ?_
  refine G_aload_n dX12_weeks_166 rfl ?_
  refine G_getI (z := (mem 169 3)) dX12_weeks_167 fl_12_137 (by decide) sh_169 rfl ?_
  refine G_icmp_ge (tgt := 188) dX12_weeks_170 (by decide) (w1) (w2) (fun c1 => ?_) (fun c1 => ?_)
  · -- (mem 169 3) ≤ a9
    refine G_aload_n dX12_weeks_188 rfl ?_
    exact k1 c1
  · -- ¬ (mem 169 3) ≤ a9
    refine G_aload_n dX12_weeks_173 rfl ?_
    refine G_getR (t := 195) dX12_weeks_174 fl_12_87 (by decide) sh_169 rr_169_51 ?_
    refine G_iload dX12_weeks_177 rfl ?_
    refine G_iload dX12_weeks_179 rfl ?_
    refine G_iast (mem2 := (up2 mem 195 a9 a9)) dX12_weeks_181 (by decide) sh_195 (by decide) (q3 c1).1 (q3 c1).2 rfl ?_
    refine G_iinc (z := (a9 + 1)) dX12_weeks_182 rfl rfl (by decide : 9 < 10) rfl ?_
    refine G_goto (tgt := 164) dX12_weeks_185 (by decide) ?_
    exact k2 c1
set_option maxRecDepth 20000 in
set_option maxHeartbeats 8000000 in
theorem sg_X12_weeks_192 {E : Nat × (Nat → Int32)} {P : Option Value → Mem → Prop} {mem : Mem} {a1 : Int} {a2 : Int} {a3 : Int} {a4 : Int} {a5 : Int} {a6 : Int} {a7 : Int} {a8 : Int} {a9 : Int} {s0 : Int} (w1 : -2147483648 ≤ s0 ∧ s0 < 2147483648) (w2 : -2147483648 ≤ a6 ∧ a6 < 2147483648) (w3 : -2147483648 ≤ a7 ∧ a7 < 2147483648)
    (k1 : GM E (m_X12_weeks 9) P 53 [.ref 169, vi a1, vi a2, vi a3, vi a4, vi (if s0 < 0 then a5 else (a5 + 1)), vi (if s0 < 0 then a6 else (if 0 ≤ a6 then (min a6 s0) else s0)), vi (if s0 < 0 then a7 else (max a7 s0)), vi (a8 + 1), un] [] mem) :
    GM E (m_X12_weeks 9) P 192 [.ref 169, vi a1, vi a2, vi a3, vi a4, vi a5, vi a6, vi a7, vi a8, vi a9] [vi s0] mem := by
  refine G_istore dX12_weeks_192 (by decide : 9 < 10) rfl ?_
  refine G_iload dX12_weeks_194 rfl ?_
  have j1 : GM E (m_X12_weeks 9) P 230 [.ref 169, vi a1, vi a2, vi a3, vi a4, vi (if s0 < 0 then a5 else (a5 + 1)), vi (if s0 < 0 then a6 else (if 0 ≤ a6 then (min a6 s0) else s0)), vi (if s0 < 0 then a7 else (max a7 s0)), vi a8, vi s0] [] mem := by
    refine G_iinc (z := (a8 + 1)) dX12_weeks_230 rfl rfl (by decide : 8 < 10) rfl ?_
    refine G_goto (tgt := 53) dX12_weeks_233 (by decide) ?_
    refine G_weak (lv2 := [.ref 169, vi a1, vi a2, vi a3, vi a4, vi (if s0 < 0 then a5 else (a5 + 1)), vi (if s0 < 0 then a6 else (if 0 ≤ a6 then (min a6 s0) else s0)), vi (if s0 < 0 then a7 else (max a7 s0)), vi (a8 + 1), un]) ⟨Or.inr rfl, Or.inr rfl, Or.inr rfl, Or.inr rfl, Or.inr rfl, Or.inr rfl, Or.inr rfl, Or.inr rfl, Or.inr rfl, Or.inl rfl, trivial⟩ ?_
    exact k1
  refine G_if_lt (tgt := 230) dX12_weeks_196 (by decide) (w1) (fun c1 => ?_) (fun c1 => ?_)
  · -- s0 < 0
    have qj1 := j1
    simp only [if_pos c1] at qj1
    exact qj1
  · -- ¬ s0 < 0
    refine G_iinc (z := (a5 + 1)) dX12_weeks_199 rfl rfl (by decide : 5 < 10) rfl ?_
    refine G_iload dX12_weeks_202 rfl ?_
    have j2 : GM E (m_X12_weeks 9) P 219 [.ref 169, vi a1, vi a2, vi a3, vi a4, vi (a5 + 1), vi a6, vi a7, vi a8, vi s0] [vi (if 0 ≤ a6 then (min a6 s0) else s0)] mem := by
      refine G_istore dX12_weeks_219 (by decide : 6 < 10) rfl ?_
      refine G_iload dX12_weeks_221 rfl ?_
      refine G_iload dX12_weeks_223 rfl ?_
      refine G_max (z := (max a7 s0)) dX12_weeks_225 ml_12_257 mw_max (w3) (w1) ⟨by show 1 ≤ 9; first | decide | omega, by show 21 ≤ 40 * 9; first | decide | omega, Nat.zero_le _, Nat.zero_le _⟩ (Nat.le_of_ble_eq_true rfl) rfl ?_
      refine G_istore dX12_weeks_228 (by decide : 7 < 10) rfl ?_
      have qj1 := j1
      simp only [if_neg c1] at qj1
      exact qj1
    refine G_if_ge (tgt := 212) dX12_weeks_204 (by decide) (w2) (fun c2 => ?_) (fun c2 => ?_)
    · -- 0 ≤ a6
      refine G_iload dX12_weeks_212 rfl ?_
      refine G_iload dX12_weeks_214 rfl ?_
      refine G_min (z := (min a6 s0)) dX12_weeks_216 ml_12_157 mw_min (w2) (w1) ⟨by show 1 ≤ 9; first | decide | omega, by show 21 ≤ 40 * 9; first | decide | omega, Nat.zero_le _, Nat.zero_le _⟩ (Nat.le_of_ble_eq_true rfl) rfl ?_
      have qj2 := j2
      simp only [if_pos c2] at qj2
      exact qj2
    · -- ¬ 0 ≤ a6
      refine G_iload dX12_weeks_207 rfl ?_
      refine G_goto (tgt := 219) dX12_weeks_209 (by decide) ?_
      have qj2 := j2
      simp only [if_neg c2] at qj2
      exact qj2
set_option maxRecDepth 20000 in
set_option maxHeartbeats 8000000 in
theorem sg_X12_weighed_0 {E : Nat × (Nat → Int32)} {P : Option Value → Mem → Prop} {mem : Mem} {a1 : Int} {a2 : Int} (w1 : -2147483648 ≤ a1 ∧ a1 < 2147483648) (w2 : -2147483648 ≤ ((shlI 1 (mem 169 3)) - 1) ∧ ((shlI 1 (mem 169 3)) - 1) < 2147483648) (w3 : -9223372036854775808 ≤ a1 ∧ a1 < 9223372036854775808) (w4 : -9223372036854775808 ≤ ((shlI 1 (mem 169 3)) - 1) ∧ ((shlI 1 (mem 169 3)) - 1) < 9223372036854775808) (w5 : -2147483648 ≤ a2 ∧ a2 < 2147483648) (w6 : -9223372036854775808 ≤ a2 ∧ a2 < 9223372036854775808) (w7 : 0 ≤ a1 ∧ a1 ≤ ((shlI 1 (mem 169 3)) - 1) → 0 ≤ a2 ∧ a2 ≤ 9999 → -2147483648 ≤ (mem 169 62) ∧ (mem 169 62) < 2147483648) (q8 : 0 ≤ a1 ∧ a1 ≤ ((shlI 1 (mem 169 3)) - 1) → 0 ≤ a2 ∧ a2 ≤ 9999 → (mem 169 62) ≠ 10 → 0 ≤ (mem 169 62) ∧ (mem 169 62) < 10)
    (k1 : 0 ≤ a1 ∧ a1 ≤ ((shlI 1 (mem 169 3)) - 1) → 0 ≤ a2 ∧ a2 ≤ 9999 → (mem 169 62) ≠ 10 → P (some (vi ((mem 169 62) + 1))) (up2 (up2 (up2 (up2 mem 169 0 0) 201 (mem 169 62) a1) 202 (mem 169 62) a2) 169 62 ((mem 169 62) + 1)))
    (k2 : 0 ≤ a1 ∧ a1 ≤ ((shlI 1 (mem 169 3)) - 1) → 0 ≤ a2 ∧ a2 ≤ 9999 → (mem 169 62) = 10 → P (some (vi (-1))) (up2 mem 169 0 0))
    (k3 : 0 ≤ a1 ∧ a1 ≤ ((shlI 1 (mem 169 3)) - 1) → ¬ (0 ≤ a2 ∧ a2 ≤ 9999) → P (some (vi (-1))) (up2 mem 169 0 0))
    (k4 : ¬ (0 ≤ a1 ∧ a1 ≤ ((shlI 1 (mem 169 3)) - 1)) → P (some (vi (-1))) (up2 mem 169 0 0)) :
    GM E (m_X12_weighed 1) P 0 [.ref 169, vi a1, vi a2] [] mem := by
  refine G_aload_n dX12_weighed_0 rfl ?_
  refine G_iconst (z := 0) dX12_weighed_1 rfl ?_
  refine G_putI (mem2 := (up2 mem 169 0 0)) dX12_weighed_2 fp_12_126 (by decide) sh_169 rfl ?_
  refine G_iload_n dX12_weighed_5 rfl ?_
  refine G_i2l dX12_weighed_6 (w1) ?_
  refine G_lconst (z := 0) dX12_weighed_7 rfl ?_
  refine G_aload_n dX12_weighed_8 rfl ?_
  refine cb_X12_weighed_9 (ic_X12_all (z := (mem 169 3)) (by simp [up2, upr]) ?_)
  refine G_i2l dX12_weighed_12 (w2) ?_
  refine cb_X12_weighed_13 (ic_X12_in (w3) (by decide) (w4) (fun c1 => ?_) (fun c2 => ?_))
  · -- 0 ≤ a1 ∧ a1 ≤ ((shlI 1 (mem 169 3)) - 1)
    refine G_if_eq (tgt := 40) dX12_weighed_16 (by decide) (by decide) (fun h => absurd h (by decide)) (fun _ => ?_)
    refine G_iload_n dX12_weighed_19 rfl ?_
    refine G_i2l dX12_weighed_20 (w5) ?_
    refine G_lconst (z := 0) dX12_weighed_21 rfl ?_
    refine G_ldc2 (z := 9999) dX12_weighed_22 kc_12_382 ?_
    refine cb_X12_weighed_25 (ic_X12_in (w6) (by decide) (by decide) (fun c3 => ?_) (fun c4 => ?_))
    · -- 0 ≤ a2 ∧ a2 ≤ 9999
      refine G_if_eq (tgt := 40) dX12_weighed_28 (by decide) (by decide) (fun h => absurd h (by decide)) (fun _ => ?_)
      refine G_aload_n dX12_weighed_31 rfl ?_
      refine G_getI (z := (mem 169 62)) dX12_weighed_32 fl_12_470 (by decide) sh_169 (by simp [up2, upr]) ?_
      refine G_bipush (z := 10) dX12_weighed_35 rfl ?_
      refine G_icmp_ne (tgt := 42) dX12_weighed_37 (by decide) (w7 c1 c3) (by decide) (fun c5 => ?_) (fun c5 => ?_)
      · -- (mem 169 62) ≠ 10
        refine G_aload_n dX12_weighed_42 rfl ?_
        refine G_getR (t := 201) dX12_weighed_43 fl_12_105 (by decide) sh_169 rr_169_63 ?_
        refine G_aload_n dX12_weighed_46 rfl ?_
        refine G_getI (z := (mem 169 62)) dX12_weighed_47 fl_12_470 (by decide) sh_169 (by simp [up2, upr]) ?_
        refine G_iload_n dX12_weighed_50 rfl ?_
        refine G_iast (mem2 := (up2 (up2 mem 169 0 0) 201 (mem 169 62) a1)) dX12_weighed_51 (by decide) sh_201 (by decide) (q8 c1 c3 c5).1 (q8 c1 c3 c5).2 rfl ?_
        refine G_aload_n dX12_weighed_52 rfl ?_
        refine G_getR (t := 202) dX12_weighed_53 fl_12_108 (by decide) sh_169 rr_169_64 ?_
        refine G_aload_n dX12_weighed_56 rfl ?_
        refine G_getI (z := (mem 169 62)) dX12_weighed_57 fl_12_470 (by decide) sh_169 (by simp [up2, upr]) ?_
        refine G_iload_n dX12_weighed_60 rfl ?_
        refine G_iast (mem2 := (up2 (up2 (up2 mem 169 0 0) 201 (mem 169 62) a1) 202 (mem 169 62) a2)) dX12_weighed_61 (by decide) sh_202 (by decide) (q8 c1 c3 c5).1 (q8 c1 c3 c5).2 rfl ?_
        refine G_aload_n dX12_weighed_62 rfl ?_
        refine G_dup dX12_weighed_63 rfl ?_
        refine G_getI (z := (mem 169 62)) dX12_weighed_64 fl_12_470 (by decide) sh_169 (by simp [up2, upr]) ?_
        refine G_iconst (z := 1) dX12_weighed_67 rfl ?_
        refine G_iadd dX12_weighed_68 ?_
        refine G_putI (mem2 := (up2 (up2 (up2 (up2 mem 169 0 0) 201 (mem 169 62) a1) 202 (mem 169 62) a2) 169 62 ((mem 169 62) + 1))) dX12_weighed_69 fp_12_470 (by decide) sh_169 rfl ?_
        refine G_aload_n dX12_weighed_72 rfl ?_
        refine G_getI (z := ((mem 169 62) + 1)) dX12_weighed_73 fl_12_470 (by decide) sh_169 (by simp [up2, upr]) ?_
        exact G_iret dX12_weighed_76 rfl (Nat.zero_le _) (Nat.zero_le _) (Nat.le_refl _) ⟨rfl, k1 c1 c3 c5⟩
      · -- (mem 169 62) = 10
        refine G_iconst (z := (-1)) dX12_weighed_40 rfl ?_
        exact G_iret dX12_weighed_41 rfl (Nat.zero_le _) (Nat.zero_le _) (Nat.le_refl _) ⟨rfl, k2 c1 c3 c5⟩
    · -- ¬ (0 ≤ a2 ∧ a2 ≤ 9999)
      refine G_if_eq (tgt := 40) dX12_weighed_28 (by decide) (by decide) (fun _ => ?_) (fun h => absurd h (by decide))
      refine G_iconst (z := (-1)) dX12_weighed_40 rfl ?_
      exact G_iret dX12_weighed_41 rfl (Nat.zero_le _) (Nat.zero_le _) (Nat.le_refl _) ⟨rfl, k3 c1 c4⟩
  · -- ¬ (0 ≤ a1 ∧ a1 ≤ ((shlI 1 (mem 169 3)) - 1))
    refine G_if_eq (tgt := 40) dX12_weighed_16 (by decide) (by decide) (fun _ => ?_) (fun h => absurd h (by decide))
    refine G_iconst (z := (-1)) dX12_weighed_40 rfl ?_
    exact G_iret dX12_weighed_41 rfl (Nat.zero_le _) (Nat.zero_le _) (Nat.le_refl _) ⟨rfl, k4 c2⟩
