abbrev m_X4_explore (d : Nat) : Mu := (cX4_explore, 7, RX4, none, ⟨d, 0, 0, 40 * d⟩, "explore")
set_option maxRecDepth 20000 in
set_option maxHeartbeats 1000000 in
theorem sg_X4_explore_0 {E : Nat × (Nat → Int32)} {d : Nat} {P : Option Value → Mem → Prop} {mem : Mem} {a1 : Int} {a2 : Int}
    (k1 : GM E (m_X4_explore d) P 3 [.ref 106, vi a1, vi a2, un, un, un, un] [vi a2, vi a1, .ref 106] mem) :
    GM E (m_X4_explore d) P 0 [.ref 106, vi a1, vi a2, un, un, un, un] [] mem := by
  refine G_aload_n dX4_explore_0 rfl ?_
  refine G_iload_n dX4_explore_1 rfl ?_
  refine G_iload_n dX4_explore_2 rfl ?_
  exact k1
set_option maxRecDepth 20000 in
set_option maxHeartbeats 1000000 in
theorem sg_X4_explore_6 {E : Nat × (Nat → Int32)} {d : Nat} {P : Option Value → Mem → Prop} {mem : Mem} {a1 : Int} {a2 : Int} (w1 : -2147483648 ≤ a1 ∧ a1 < 2147483648)
    (k1 : a1 < 6 → GM E (m_X4_explore d) P 36 [.ref 106, vi a1, vi a2, vi (mem 106 6), vi (mem 106 7), vi (mem 106 8), vi 0] [] mem)
    (k2 : ¬ a1 < 6 → P none mem) :
    GM E (m_X4_explore d) P 6 [.ref 106, vi a1, vi a2, un, un, un, un] [] mem := by
  refine G_iload_n dX4_explore_6 rfl ?_
  refine G_aload_n dX4_explore_7 rfl ?_
  refine G_getR (t := 109) dX4_explore_8 fl_4_21 (by decide) sh_106 rr_106_4 ?_
  refine G_alen (z := 6) dX4_explore_11 (by decide) sh_109 (by decide) rfl ?_
  refine G_icmp_lt (tgt := 16) dX4_explore_12 (by decide) (w1) (by decide) (fun c1 => ?_) (fun c1 => ?_)
  · -- a1 < 6
    refine G_aload_n dX4_explore_16 rfl ?_
    refine G_getI (z := (mem 106 6)) dX4_explore_17 fl_4_100 (by decide) sh_106 rfl ?_
    refine G_istore_n dX4_explore_20 rfl (by decide : 3 < 7) rfl ?_
    refine G_aload_n dX4_explore_21 rfl ?_
    refine G_getI (z := (mem 106 7)) dX4_explore_22 fl_4_103 (by decide) sh_106 rfl ?_
    refine G_istore dX4_explore_25 (by decide : 4 < 7) rfl ?_
    refine G_aload_n dX4_explore_27 rfl ?_
    refine G_getI (z := (mem 106 8)) dX4_explore_28 fl_4_106 (by decide) sh_106 rfl ?_
    refine G_istore dX4_explore_31 (by decide : 5 < 7) rfl ?_
    refine G_iconst (z := 0) dX4_explore_33 rfl ?_
    refine G_istore dX4_explore_34 (by decide : 6 < 7) rfl ?_
    exact k1 c1
  · -- ¬ a1 < 6
    exact G_vret dX4_explore_15 rfl (Nat.zero_le _) (Nat.zero_le _) (Nat.le_refl _) ⟨rfl, k2 c1⟩
set_option maxRecDepth 20000 in
set_option maxHeartbeats 1000000 in
theorem sg_X4_explore_36 {E : Nat × (Nat → Int32)} {d : Nat} {P : Option Value → Mem → Prop} {mem : Mem} {a1 : Int} {a2 : Int} {a3 : Int} {a4 : Int} {a5 : Int} {a6 : Int} (w1 : -2147483648 ≤ a6 ∧ a6 < 2147483648) (w2 : -2147483648 ≤ (mem 9 1) ∧ (mem 9 1) < 2147483648)
    (k1 : (mem 9 1) ≤ a6 → P none mem)
    (k2 : ¬ (mem 9 1) ≤ a6 → (bandI (bandI (mem 106 14) (bxorI a2 (-1))) (shlI 1 a6)) = 0 → GM E (m_X4_explore d) P 36 [.ref 106, vi a1, vi a2, vi a3, vi a4, vi a5, vi (a6 + 1)] [] (up2 (up2 (up2 mem 106 6 a3) 106 7 a4) 106 8 a5))
    (k3 : ¬ (mem 9 1) ≤ a6 → ¬ (bandI (bandI (mem 106 14) (bxorI a2 (-1))) (shlI 1 a6)) = 0 → GM E (m_X4_explore d) P 67 [.ref 106, vi a1, vi a2, vi a3, vi a4, vi a5, vi a6] [vi a6, .ref 106] mem) :
    GM E (m_X4_explore d) P 36 [.ref 106, vi a1, vi a2, vi a3, vi a4, vi a5, vi a6] [] mem := by
  refine G_iload dX4_explore_36 rfl ?_
  refine G_aload_n dX4_explore_38 rfl ?_
  refine G_getR (t := 9) dX4_explore_39 fl_4_27 (by decide) sh_106 rr_106_0 ?_
  refine G_getI (z := (mem 9 1)) dX4_explore_42 fl_4_68 (by decide) sh_9 rfl ?_
  refine G_icmp_ge (tgt := 117) dX4_explore_45 (by decide) (w1) (w2) (fun c1 => ?_) (fun c1 => ?_)
  · -- (mem 9 1) ≤ a6
    exact G_vret dX4_explore_117 rfl (Nat.zero_le _) (Nat.zero_le _) (Nat.le_refl _) ⟨rfl, k1 c1⟩
  · -- ¬ (mem 9 1) ≤ a6
    refine G_aload_n dX4_explore_48 rfl ?_
    refine G_getI (z := (mem 106 14)) dX4_explore_49 fl_4_142 (by decide) sh_106 rfl ?_
    refine G_iload_n dX4_explore_52 rfl ?_
    refine G_iconst (z := (-1)) dX4_explore_53 rfl ?_
    refine G_ixor (z := (bxorI a2 (-1))) dX4_explore_54 (iI_inv _) ?_
    refine G_iand (z := (bandI (mem 106 14) (bxorI a2 (-1)))) dX4_explore_55 (iI_inv _) ?_
    refine G_iconst (z := 1) dX4_explore_56 rfl ?_
    refine G_iload dX4_explore_57 rfl ?_
    refine G_ishl (z := (shlI 1 a6)) dX4_explore_59 (iI_inv _) ?_
    refine G_iand (z := (bandI (bandI (mem 106 14) (bxorI a2 (-1))) (shlI 1 a6))) dX4_explore_60 (iI_inv _) ?_
    refine G_if_eq (tgt := 94) dX4_explore_61 (by decide) (iI_rng _) (fun c2 => ?_) (fun c2 => ?_)
    · -- (bandI (bandI (mem 106 14) (bxorI a2 (-1))) (shlI 1 a6)) = 0
      refine G_aload_n dX4_explore_94 rfl ?_
      refine G_iload_n dX4_explore_95 rfl ?_
      refine G_putI (mem2 := (up2 mem 106 6 a3)) dX4_explore_96 fp_4_100 (by decide) sh_106 rfl ?_
      refine G_aload_n dX4_explore_99 rfl ?_
      refine G_iload dX4_explore_100 rfl ?_
      refine G_putI (mem2 := (up2 (up2 mem 106 6 a3) 106 7 a4)) dX4_explore_102 fp_4_103 (by decide) sh_106 rfl ?_
      refine G_aload_n dX4_explore_105 rfl ?_
      refine G_iload dX4_explore_106 rfl ?_
      refine G_putI (mem2 := (up2 (up2 (up2 mem 106 6 a3) 106 7 a4) 106 8 a5)) dX4_explore_108 fp_4_106 (by decide) sh_106 rfl ?_
      refine G_iinc (z := (a6 + 1)) dX4_explore_111 rfl rfl (by decide : 6 < 7) rfl ?_
      refine G_goto (tgt := 36) dX4_explore_114 (by decide) ?_
      exact k2 c1 c2
    · -- ¬ (bandI (bandI (mem 106 14) (bxorI a2 (-1))) (shlI 1 a6)) = 0
      refine G_aload_n dX4_explore_64 rfl ?_
      refine G_iload dX4_explore_65 rfl ?_
      exact k3 c1 c2
set_option maxRecDepth 20000 in
set_option maxHeartbeats 1000000 in
theorem sg_X4_explore_70 {E : Nat × (Nat → Int32)} {d : Nat} {P : Option Value → Mem → Prop} {mem : Mem} {a1 : Int} {a2 : Int} {a3 : Int} {a4 : Int} {a5 : Int} {a6 : Int} {s0 : Int} (w1 : -2147483648 ≤ s0 ∧ s0 < 2147483648) (q2 : ¬ s0 = 0 → 0 ≤ a1 ∧ a1 < 6)
    (k1 : s0 = 0 → GM E (m_X4_explore d) P 36 [.ref 106, vi a1, vi a2, vi a3, vi a4, vi a5, vi (a6 + 1)] [] (up2 (up2 (up2 mem 106 6 a3) 106 7 a4) 106 8 a5))
    (k2 : ¬ s0 = 0 → GM E (m_X4_explore d) P 91 [.ref 106, vi a1, vi a2, vi a3, vi a4, vi a5, vi a6] [vi (borI a2 (shlI 1 a6)), vi (a1 + 1), .ref 106] (up2 mem 109 a1 a6)) :
    GM E (m_X4_explore d) P 70 [.ref 106, vi a1, vi a2, vi a3, vi a4, vi a5, vi a6] [vi s0] mem := by
  refine G_if_eq (tgt := 94) dX4_explore_70 (by decide) (w1) (fun c1 => ?_) (fun c1 => ?_)
  · -- s0 = 0
    refine G_aload_n dX4_explore_94 rfl ?_
    refine G_iload_n dX4_explore_95 rfl ?_
    refine G_putI (mem2 := (up2 mem 106 6 a3)) dX4_explore_96 fp_4_100 (by decide) sh_106 rfl ?_
    refine G_aload_n dX4_explore_99 rfl ?_
    refine G_iload dX4_explore_100 rfl ?_
    refine G_putI (mem2 := (up2 (up2 mem 106 6 a3) 106 7 a4)) dX4_explore_102 fp_4_103 (by decide) sh_106 rfl ?_
    refine G_aload_n dX4_explore_105 rfl ?_
    refine G_iload dX4_explore_106 rfl ?_
    refine G_putI (mem2 := (up2 (up2 (up2 mem 106 6 a3) 106 7 a4) 106 8 a5)) dX4_explore_108 fp_4_106 (by decide) sh_106 rfl ?_
    refine G_iinc (z := (a6 + 1)) dX4_explore_111 rfl rfl (by decide : 6 < 7) rfl ?_
    refine G_goto (tgt := 36) dX4_explore_114 (by decide) ?_
    exact k1 c1
  · -- ¬ s0 = 0
    refine G_aload_n dX4_explore_73 rfl ?_
    refine G_getR (t := 109) dX4_explore_74 fl_4_21 (by decide) sh_106 rr_106_4 ?_
    refine G_iload_n dX4_explore_77 rfl ?_
    refine G_iload dX4_explore_78 rfl ?_
    refine G_iast (mem2 := (up2 mem 109 a1 a6)) dX4_explore_80 (by decide) sh_109 (by decide) (q2 c1).1 (q2 c1).2 rfl ?_
    refine G_aload_n dX4_explore_81 rfl ?_
    refine G_iload_n dX4_explore_82 rfl ?_
    refine G_iconst (z := 1) dX4_explore_83 rfl ?_
    refine G_iadd dX4_explore_84 ?_
    refine G_iload_n dX4_explore_85 rfl ?_
    refine G_iconst (z := 1) dX4_explore_86 rfl ?_
    refine G_iload dX4_explore_87 rfl ?_
    refine G_ishl (z := (shlI 1 a6)) dX4_explore_89 (iI_inv _) ?_
    refine G_ior (z := (borI a2 (shlI 1 a6))) dX4_explore_90 (iI_inv _) ?_
    exact k2 c1
set_option maxRecDepth 20000 in
set_option maxHeartbeats 1000000 in
theorem sg_X4_explore_94 {E : Nat × (Nat → Int32)} {d : Nat} {P : Option Value → Mem → Prop} {mem : Mem} {a1 : Int} {a2 : Int} {a3 : Int} {a4 : Int} {a5 : Int} {a6 : Int}
    (k1 : GM E (m_X4_explore d) P 36 [.ref 106, vi a1, vi a2, vi a3, vi a4, vi a5, vi (a6 + 1)] [] (up2 (up2 (up2 mem 106 6 a3) 106 7 a4) 106 8 a5)) :
    GM E (m_X4_explore d) P 94 [.ref 106, vi a1, vi a2, vi a3, vi a4, vi a5, vi a6] [] mem := by
  refine G_aload_n dX4_explore_94 rfl ?_
  refine G_iload_n dX4_explore_95 rfl ?_
  refine G_putI (mem2 := (up2 mem 106 6 a3)) dX4_explore_96 fp_4_100 (by decide) sh_106 rfl ?_
  refine G_aload_n dX4_explore_99 rfl ?_
  refine G_iload dX4_explore_100 rfl ?_
  refine G_putI (mem2 := (up2 (up2 mem 106 6 a3) 106 7 a4)) dX4_explore_102 fp_4_103 (by decide) sh_106 rfl ?_
  refine G_aload_n dX4_explore_105 rfl ?_
  refine G_iload dX4_explore_106 rfl ?_
  refine G_putI (mem2 := (up2 (up2 (up2 mem 106 6 a3) 106 7 a4) 106 8 a5)) dX4_explore_108 fp_4_106 (by decide) sh_106 rfl ?_
  refine G_iinc (z := (a6 + 1)) dX4_explore_111 rfl rfl (by decide : 6 < 7) rfl ?_
  refine G_goto (tgt := 36) dX4_explore_114 (by decide) ?_
  exact k1
abbrev m_X4_followPath (d : Nat) : Mu := (cX4_followPath, 2, RX4, (some .boolean), ⟨d, 0, 0, 40 * d⟩, "followPath")
set_option maxRecDepth 20000 in
set_option maxHeartbeats 1000000 in
theorem sg_X4_followPath_0 {E : Nat × (Nat → Int32)} {d : Nat} {P : Option Value → Mem → Prop} {mem : Mem}
    (k1 : GM E (m_X4_followPath d) P 2 [.ref 106, vi 0] [] mem) :
    GM E (m_X4_followPath d) P 0 [.ref 106, un] [] mem := by
  refine G_iconst (z := 0) dX4_followPath_0 rfl ?_
  refine G_istore_n dX4_followPath_1 rfl (by decide : 1 < 2) rfl ?_
  exact k1
set_option maxRecDepth 20000 in
set_option maxHeartbeats 1000000 in
theorem sg_X4_followPath_2 {E : Nat × (Nat → Int32)} {d : Nat} {P : Option Value → Mem → Prop} {mem : Mem} {a1 : Int} (w1 : -2147483648 ≤ a1 ∧ a1 < 2147483648) (w2 : -2147483648 ≤ (mem 106 5) ∧ (mem 106 5) < 2147483648) (q3 : ¬ (mem 106 5) ≤ a1 → ¬ 6 ≤ a1 → 0 ≤ a1 ∧ a1 < 6)
    (k1 : (mem 106 5) ≤ a1 → GM E (m_X4_followPath d) P 41 [.ref 106, vi a1] [.ref 106] mem)
    (k2 : ¬ (mem 106 5) ≤ a1 → 6 ≤ a1 → GM E (m_X4_followPath d) P 41 [.ref 106, vi a1] [.ref 106] mem)
    (k3 : ¬ (mem 106 5) ≤ a1 → ¬ 6 ≤ a1 → GM E (m_X4_followPath d) P 26 [.ref 106, vi a1] [vi (mem 109 a1), .ref 106] mem) :
    GM E (m_X4_followPath d) P 2 [.ref 106, vi a1] [] mem := by
  refine G_iload_n dX4_followPath_2 rfl ?_
  refine G_aload_n dX4_followPath_3 rfl ?_
  refine G_getI (z := (mem 106 5)) dX4_followPath_4 fl_4_44 (by decide) sh_106 rfl ?_
  refine G_icmp_ge (tgt := 40) dX4_followPath_7 (by decide) (w1) (w2) (fun c1 => ?_) (fun c1 => ?_)
  · -- (mem 106 5) ≤ a1
    refine G_aload_n dX4_followPath_40 rfl ?_
    exact k1 c1
  · -- ¬ (mem 106 5) ≤ a1
    refine G_iload_n dX4_followPath_10 rfl ?_
    refine G_aload_n dX4_followPath_11 rfl ?_
    refine G_getR (t := 109) dX4_followPath_12 fl_4_21 (by decide) sh_106 rr_106_4 ?_
    refine G_alen (z := 6) dX4_followPath_15 (by decide) sh_109 (by decide) rfl ?_
    refine G_icmp_ge (tgt := 40) dX4_followPath_16 (by decide) (w1) (by decide) (fun c2 => ?_) (fun c2 => ?_)
    · -- 6 ≤ a1
      refine G_aload_n dX4_followPath_40 rfl ?_
      exact k2 c1 c2
    · -- ¬ 6 ≤ a1
      refine G_aload_n dX4_followPath_19 rfl ?_
      refine G_aload_n dX4_followPath_20 rfl ?_
      refine G_getR (t := 109) dX4_followPath_21 fl_4_21 (by decide) sh_106 rr_106_4 ?_
      refine G_iload_n dX4_followPath_24 rfl ?_
      refine G_iald (z := (mem 109 a1)) dX4_followPath_25 (by decide) sh_109 (by decide) (q3 c1 c2).1 (q3 c1 c2).2 rfl ?_
      exact k3 c1 c2
set_option maxRecDepth 20000 in
set_option maxHeartbeats 1000000 in
theorem sg_X4_followPath_29 {E : Nat × (Nat → Int32)} {d : Nat} {P : Option Value → Mem → Prop} {mem : Mem} {a1 : Int} {s0 : Int} (w1 : -2147483648 ≤ s0 ∧ s0 < 2147483648)
    (k1 : s0 ≠ 0 → GM E (m_X4_followPath d) P 2 [.ref 106, vi (a1 + 1)] [] mem)
    (k2 : s0 = 0 → P (some (vi 0)) mem) :
    GM E (m_X4_followPath d) P 29 [.ref 106, vi a1] [vi s0] mem := by
  refine G_if_ne (tgt := 34) dX4_followPath_29 (by decide) (w1) (fun c1 => ?_) (fun c1 => ?_)
  · -- s0 ≠ 0
    refine G_iinc (z := (a1 + 1)) dX4_followPath_34 rfl rfl (by decide : 1 < 2) rfl ?_
    refine G_goto (tgt := 2) dX4_followPath_37 (by decide) ?_
    exact k1 c1
  · -- s0 = 0
    refine G_iconst (z := 0) dX4_followPath_32 rfl ?_
    exact G_zret dX4_followPath_33 rfl (nar_zb (by decide)) (Nat.zero_le _) (Nat.zero_le _) (Nat.le_refl _) ⟨rfl, k2 c1⟩
set_option maxRecDepth 20000 in
set_option maxHeartbeats 1000000 in
theorem sg_X4_followPath_44 {E : Nat × (Nat → Int32)} {d : Nat} {P : Option Value → Mem → Prop} {mem : Mem} {a1 : Int} {s0 : Int} (b1 : s0 = 0 ∨ s0 = 1)
    (k1 : P (some (vi s0)) mem) :
    GM E (m_X4_followPath d) P 44 [.ref 106, vi a1] [vi s0] mem := by
  exact G_zret dX4_followPath_44 rfl (nar_zb (b1)) (Nat.zero_le _) (Nat.zero_le _) (Nat.le_refl _) ⟨rfl, k1⟩
abbrev m_X4_goTip (d : Nat) : Mu := (cX4_goTip, 2, RX4, (some .boolean), ⟨d, 0, 0, 40 * d⟩, "goTip")
set_option maxRecDepth 20000 in
set_option maxHeartbeats 1000000 in
theorem sg_X4_goTip_0 {E : Nat × (Nat → Int32)} {d : Nat} {P : Option Value → Mem → Prop} {mem : Mem}
    (k1 : GM E (m_X4_goTip d) P 13 [.ref 106, un] [vi 5, .ref 3, vi (mem 106 7), vi (mem 106 8)] mem) :
    GM E (m_X4_goTip d) P 0 [.ref 106, un] [] mem := by
  refine G_aload_n dX4_goTip_0 rfl ?_
  refine G_getI (z := (mem 106 8)) dX4_goTip_1 fl_4_106 (by decide) sh_106 rfl ?_
  refine G_aload_n dX4_goTip_4 rfl ?_
  refine G_getI (z := (mem 106 7)) dX4_goTip_5 fl_4_103 (by decide) sh_106 rfl ?_
  refine G_aload_n dX4_goTip_8 rfl ?_
  refine G_getR (t := 3) dX4_goTip_9 fl_4_31 (by decide) sh_106 rr_106_1 ?_
  refine G_iconst (z := 5) dX4_goTip_12 rfl ?_
  exact k1
set_option maxRecDepth 20000 in
set_option maxHeartbeats 1000000 in
theorem sg_X4_goTip_16 {E : Nat × (Nat → Int32)} {d : Nat} {P : Option Value → Mem → Prop} {mem : Mem} {s0 : Int} {s1 : Int} {s2 : Int}
    (k1 : GM E (m_X4_goTip d) P 16 [.ref 106, un] [vi s0, vi s1, vi s2] mem) :
    GM E (m_X4_goTip d) P 16 [.ref 106, un] [vi s0, vi s1, vi s2] mem := by
  exact k1
set_option maxRecDepth 20000 in
set_option maxHeartbeats 1000000 in
theorem sg_X4_goTip_19 {E : Nat × (Nat → Int32)} {d : Nat} {P : Option Value → Mem → Prop} {mem : Mem} {s0 : Int} {s1 : Int}
    (k1 : GM E (m_X4_goTip d) P 31 [.ref 106, vi (s1 + s0)] [vi 6, .ref 3, vi (divI (s1 + s0) 60)] mem) :
    GM E (m_X4_goTip d) P 19 [.ref 106, un] [vi s0, vi s1] mem := by
  refine G_iadd dX4_goTip_19 ?_
  refine G_istore_n dX4_goTip_20 rfl (by decide : 1 < 2) rfl ?_
  refine G_iload_n dX4_goTip_21 rfl ?_
  refine G_bipush (z := 60) dX4_goTip_22 rfl ?_
  refine G_idiv (z := (divI (s1 + s0) 60)) dX4_goTip_24 (iI_ne0 (by decide) (by decide)) (iI_inv _) ?_
  refine G_aload_n dX4_goTip_25 rfl ?_
  refine G_getR (t := 3) dX4_goTip_26 fl_4_31 (by decide) sh_106 rr_106_1 ?_
  refine G_bipush (z := 6) dX4_goTip_29 rfl ?_
  exact k1
set_option maxRecDepth 20000 in
set_option maxHeartbeats 1000000 in
theorem sg_X4_goTip_34 {E : Nat × (Nat → Int32)} {d : Nat} {P : Option Value → Mem → Prop} {mem : Mem} {a1 : Int} {s0 : Int} {s1 : Int} (w1 : -2147483648 ≤ s1 ∧ s1 < 2147483648) (w2 : -2147483648 ≤ s0 ∧ s0 < 2147483648)
    (k1 : s1 ≤ s0 → GM E (m_X4_goTip d) P 54 [.ref 106, vi a1] [vi 5, .ref 3, .ref 106] (up2 mem 106 8 (a1 + 300)))
    (k2 : ¬ s1 ≤ s0 → P (some (vi 0)) mem) :
    GM E (m_X4_goTip d) P 34 [.ref 106, vi a1] [vi s0, vi s1] mem := by
  refine G_icmp_le (tgt := 39) dX4_goTip_34 (by decide) (w1) (w2) (fun c1 => ?_) (fun c1 => ?_)
  · -- s1 ≤ s0
    refine G_aload_n dX4_goTip_39 rfl ?_
    refine G_iload_n dX4_goTip_40 rfl ?_
    refine G_sipush (z := 300) dX4_goTip_41 rfl ?_
    refine G_iadd dX4_goTip_44 ?_
    refine G_putI (mem2 := (up2 mem 106 8 (a1 + 300))) dX4_goTip_45 fp_4_106 (by decide) sh_106 rfl ?_
    refine G_aload_n dX4_goTip_48 rfl ?_
    refine G_aload_n dX4_goTip_49 rfl ?_
    refine G_getR (t := 3) dX4_goTip_50 fl_4_31 (by decide) sh_106 rr_106_1 ?_
    refine G_iconst (z := 5) dX4_goTip_53 rfl ?_
    exact k1 c1
  · -- ¬ s1 ≤ s0
    refine G_iconst (z := 0) dX4_goTip_37 rfl ?_
    exact G_zret dX4_goTip_38 rfl (nar_zb (by decide)) (Nat.zero_le _) (Nat.zero_le _) (Nat.le_refl _) ⟨rfl, k2 c1⟩
set_option maxRecDepth 20000 in
set_option maxHeartbeats 1000000 in
theorem sg_X4_goTip_57 {E : Nat × (Nat → Int32)} {d : Nat} {P : Option Value → Mem → Prop} {mem : Mem} {a1 : Int} {s0 : Int}
    (k1 : P (some (vi 1)) (up2 (up2 (up2 mem 106 7 s0) 106 6 0) 106 9 ((mem 106 9) + 1))) :
    GM E (m_X4_goTip d) P 57 [.ref 106, vi a1] [vi s0, .ref 106] mem := by
  refine G_putI (mem2 := (up2 mem 106 7 s0)) dX4_goTip_57 fp_4_103 (by decide) sh_106 rfl ?_
  refine G_aload_n dX4_goTip_60 rfl ?_
  refine G_iconst (z := 0) dX4_goTip_61 rfl ?_
  refine G_putI (mem2 := (up2 (up2 mem 106 7 s0) 106 6 0)) dX4_goTip_62 fp_4_100 (by decide) sh_106 rfl ?_
  refine G_aload_n dX4_goTip_65 rfl ?_
  refine G_dup dX4_goTip_66 rfl ?_
  refine G_getI (z := (mem 106 9)) dX4_goTip_67 fl_4_109 (by decide) sh_106 (by simp [up2, upr]) ?_
  refine G_iconst (z := 1) dX4_goTip_70 rfl ?_
  refine G_iadd dX4_goTip_71 ?_
  refine G_putI (mem2 := (up2 (up2 (up2 mem 106 7 s0) 106 6 0) 106 9 ((mem 106 9) + 1))) dX4_goTip_72 fp_4_109 (by decide) sh_106 rfl ?_
  refine G_iconst (z := 1) dX4_goTip_75 rfl ?_
  exact G_zret dX4_goTip_76 rfl (nar_zb (by decide)) (Nat.zero_le _) (Nat.zero_le _) (Nat.le_refl _) ⟨rfl, k1⟩
abbrev m_X4_judge (d : Nat) : Mu := (cX4_judge, 6, RX4, none, ⟨d, 0, 0, 40 * d⟩, "judge")
set_option maxRecDepth 20000 in
set_option maxHeartbeats 1000000 in
theorem sg_X4_judge_0 {E : Nat × (Nat → Int32)} {d : Nat} {P : Option Value → Mem → Prop} {mem : Mem} {a1 : Int} {a2 : Int}
    (k1 : GM E (m_X4_judge d) P 13 [.ref 106, vi a1, vi a2, un, un, un] [vi 5, .ref 3, vi (mem 106 7), vi (mem 106 8)] mem) :
    GM E (m_X4_judge d) P 0 [.ref 106, vi a1, vi a2, un, un, un] [] mem := by
  refine G_aload_n dX4_judge_0 rfl ?_
  refine G_getI (z := (mem 106 8)) dX4_judge_1 fl_4_106 (by decide) sh_106 rfl ?_
  refine G_aload_n dX4_judge_4 rfl ?_
  refine G_getI (z := (mem 106 7)) dX4_judge_5 fl_4_103 (by decide) sh_106 rfl ?_
  refine G_aload_n dX4_judge_8 rfl ?_
  refine G_getR (t := 3) dX4_judge_9 fl_4_31 (by decide) sh_106 rr_106_1 ?_
  refine G_iconst (z := 5) dX4_judge_12 rfl ?_
  exact k1
set_option maxRecDepth 20000 in
set_option maxHeartbeats 1000000 in
theorem sg_X4_judge_16 {E : Nat × (Nat → Int32)} {d : Nat} {P : Option Value → Mem → Prop} {mem : Mem} {a1 : Int} {a2 : Int} {s0 : Int} {s1 : Int} {s2 : Int}
    (k1 : GM E (m_X4_judge d) P 16 [.ref 106, vi a1, vi a2, un, un, un] [vi s0, vi s1, vi s2] mem) :
    GM E (m_X4_judge d) P 16 [.ref 106, vi a1, vi a2, un, un, un] [vi s0, vi s1, vi s2] mem := by
  exact k1
set_option maxRecDepth 20000 in
set_option maxHeartbeats 1000000 in
theorem sg_X4_judge_19 {E : Nat × (Nat → Int32)} {d : Nat} {P : Option Value → Mem → Prop} {mem : Mem} {a1 : Int} {a2 : Int} {s0 : Int} {s1 : Int} (w1 : -2147483648 ≤ a2 ∧ a2 < 2147483648)
    (k1 : a2 = 0 → P none mem)
    (k2 : ¬ a2 = 0 → GM E (m_X4_judge d) P 35 [.ref 106, vi a1, vi a2, vi (s1 + s0), un, un] [vi 6, .ref 3, vi (divI (s1 + s0) 60)] mem) :
    GM E (m_X4_judge d) P 19 [.ref 106, vi a1, vi a2, un, un, un] [vi s0, vi s1] mem := by
  refine G_iadd dX4_judge_19 ?_
  refine G_istore_n dX4_judge_20 rfl (by decide : 3 < 6) rfl ?_
  refine G_iload_n dX4_judge_21 rfl ?_
  refine G_if_eq (tgt := 41) dX4_judge_22 (by decide) (w1) (fun c1 => ?_) (fun c1 => ?_)
  · -- a2 = 0
    exact G_vret dX4_judge_41 rfl (Nat.zero_le _) (Nat.zero_le _) (Nat.le_refl _) ⟨rfl, k1 c1⟩
  · -- ¬ a2 = 0
    refine G_iload_n dX4_judge_25 rfl ?_
    refine G_bipush (z := 60) dX4_judge_26 rfl ?_
    refine G_idiv (z := (divI (s1 + s0) 60)) dX4_judge_28 (iI_ne0 (by decide) (by decide)) (iI_inv _) ?_
    refine G_aload_n dX4_judge_29 rfl ?_
    refine G_getR (t := 3) dX4_judge_30 fl_4_31 (by decide) sh_106 rr_106_1 ?_
    refine G_bipush (z := 6) dX4_judge_33 rfl ?_
    exact k2 c1
set_option maxRecDepth 20000 in
set_option maxHeartbeats 1000000 in
theorem sg_X4_judge_38 {E : Nat × (Nat → Int32)} {d : Nat} (hd : 2 ≤ d) {P : Option Value → Mem → Prop} {mem : Mem} {a1 : Int} {a2 : Int} {a3 : Int} {s0 : Int} {s1 : Int} (w1 : -2147483648 ≤ s1 ∧ s1 < 2147483648) (w2 : -2147483648 ≤ s0 ∧ s0 < 2147483648) (w3 : -2147483648 ≤ a2 ∧ a2 < 2147483648) (w4 : s1 ≤ s0 → -2147483648 ≤ (mem 106 14) ∧ (mem 106 14) < 2147483648) (w5 : s1 ≤ s0 → a2 = (mem 106 14) → -2147483648 ≤ (mem 106 12) ∧ (mem 106 12) < 2147483648) (w6 : -2147483648 ≤ a1 ∧ a1 < 2147483648) (q7 : s1 ≤ s0 → a2 = (mem 106 14) → (mem 106 12) < 0 → 0 ≤ (min a1 6) ∧ (min a1 6) ≤ 6 ∧ (min a1 6) ≤ 6) (w8 : s1 ≤ s0 → a2 = (mem 106 14) → ¬ (mem 106 12) < 0 → -2147483648 ≤ (a3 + 300) ∧ (a3 + 300) < 2147483648) (q9 : s1 ≤ s0 → a2 = (mem 106 14) → ¬ (mem 106 12) < 0 → ¬ (mem 106 12) ≤ (a3 + 300) → 0 ≤ (min a1 6) ∧ (min a1 6) ≤ 6 ∧ (min a1 6) ≤ 6)
    (k1 : s1 ≤ s0 → a2 ≠ (mem 106 14) → GM E (m_X4_judge d) P 102 [.ref 106, vi a1, vi a2, vi a3, vi (a3 + 300), un] [vi a2] mem)
    (k2 : s1 ≤ s0 → a2 = (mem 106 14) → (mem 106 12) < 0 → GM E (m_X4_judge d) P 102 [.ref 106, vi a1, vi a2, vi a3, vi (a3 + 300), un] [vi a2] (upr (up2 mem 106 12 (a3 + 300)) 110 (cpyR ((up2 mem 106 12 (a3 + 300)) 109) ((up2 mem 106 12 (a3 + 300)) 110) (min a1 6))))
    (k3 : s1 ≤ s0 → a2 = (mem 106 14) → ¬ (mem 106 12) < 0 → (mem 106 12) ≤ (a3 + 300) → GM E (m_X4_judge d) P 102 [.ref 106, vi a1, vi a2, vi a3, vi (a3 + 300), un] [vi a2] mem)
    (k4 : s1 ≤ s0 → a2 = (mem 106 14) → ¬ (mem 106 12) < 0 → ¬ (mem 106 12) ≤ (a3 + 300) → GM E (m_X4_judge d) P 102 [.ref 106, vi a1, vi a2, vi a3, vi (a3 + 300), un] [vi a2] (upr (up2 mem 106 12 (a3 + 300)) 110 (cpyR ((up2 mem 106 12 (a3 + 300)) 109) ((up2 mem 106 12 (a3 + 300)) 110) (min a1 6))))
    (k5 : ¬ s1 ≤ s0 → P none mem) :
    GM E (m_X4_judge d) P 38 [.ref 106, vi a1, vi a2, vi a3, un, un] [vi s0, vi s1] mem := by
  refine G_icmp_le (tgt := 42) dX4_judge_38 (by decide) (w1) (w2) (fun c1 => ?_) (fun c1 => ?_)
  · -- s1 ≤ s0
    refine G_iload_n dX4_judge_42 rfl ?_
    refine G_sipush (z := 300) dX4_judge_43 rfl ?_
    refine G_iadd dX4_judge_46 ?_
    refine G_istore dX4_judge_47 (by decide : 4 < 6) rfl ?_
    refine G_iload_n dX4_judge_49 rfl ?_
    refine G_aload_n dX4_judge_50 rfl ?_
    refine G_getI (z := (mem 106 14)) dX4_judge_51 fl_4_142 (by decide) sh_106 rfl ?_
    refine G_icmp_ne (tgt := 101) dX4_judge_54 (by decide) (w3) (w4 c1) (fun c2 => ?_) (fun c2 => ?_)
    · -- a2 ≠ (mem 106 14)
      refine G_iload_n dX4_judge_101 rfl ?_
      exact k1 c1 c2
    · -- a2 = (mem 106 14)
      refine G_aload_n dX4_judge_57 rfl ?_
      refine G_getI (z := (mem 106 12)) dX4_judge_58 fl_4_148 (by decide) sh_106 rfl ?_
      refine G_if_lt (tgt := 73) dX4_judge_61 (by decide) (w5 c1 c2) (fun c3 => ?_) (fun c3 => ?_)
      · -- (mem 106 12) < 0
        refine G_aload_n dX4_judge_73 rfl ?_
        refine G_iload dX4_judge_74 rfl ?_
        refine G_putI (mem2 := (up2 mem 106 12 (a3 + 300))) dX4_judge_76 fp_4_148 (by decide) sh_106 rfl ?_
        refine G_aload_n dX4_judge_79 rfl ?_
        refine G_getR (t := 109) dX4_judge_80 fl_4_21 (by decide) sh_106 rr_106_4 ?_
        refine G_iconst (z := 0) dX4_judge_83 rfl ?_
        refine G_aload_n dX4_judge_84 rfl ?_
        refine G_getR (t := 110) dX4_judge_85 fl_4_24 (by decide) sh_106 rr_106_11 ?_
        refine G_iconst (z := 0) dX4_judge_88 rfl ?_
        refine G_iload_n dX4_judge_89 rfl ?_
        refine G_aload_n dX4_judge_90 rfl ?_
        refine G_getR (t := 109) dX4_judge_91 fl_4_21 (by decide) sh_106 rr_106_4 ?_
        refine G_alen (z := 6) dX4_judge_94 (by decide) sh_109 (by decide) rfl ?_
        refine G_min (z := (min a1 6)) dX4_judge_95 ml_4_94 mw_min (w6) (by decide) ⟨by show 1 ≤ d; omega, by show 21 ≤ 40 * d; omega, Nat.zero_le _, Nat.zero_le _⟩ (Nat.le_of_ble_eq_true rfl) rfl ?_
        refine G_copy (mem2 := (upr (up2 mem 106 12 (a3 + 300)) 110 (cpyR ((up2 mem 106 12 (a3 + 300)) 109) ((up2 mem 106 12 (a3 + 300)) 110) (min a1 6)))) dX4_judge_98 ml_4_160 mw_copy (by decide) sh_109 (by decide) sh_110 (by decide) (by decide) (by decide) ((q7 c1 c2 c3).1) (by have := q7 c1 c2 c3; omega) (by have := q7 c1 c2 c3; omega) ⟨by show 1 ≤ d; omega, by show 80 ≤ 40 * d; omega⟩ (Nat.le_of_ble_eq_true rfl) (cpy_00 _ _ _ _) ?_
        refine G_iload_n dX4_judge_101 rfl ?_
        exact k2 c1 c2 c3
      · -- ¬ (mem 106 12) < 0
        refine G_iload dX4_judge_64 rfl ?_
        refine G_aload_n dX4_judge_66 rfl ?_
        refine G_getI (z := (mem 106 12)) dX4_judge_67 fl_4_148 (by decide) sh_106 rfl ?_
        refine G_icmp_ge (tgt := 101) dX4_judge_70 (by decide) (w8 c1 c2 c3) (w5 c1 c2) (fun c4 => ?_) (fun c4 => ?_)
        · -- (mem 106 12) ≤ (a3 + 300)
          refine G_iload_n dX4_judge_101 rfl ?_
          exact k3 c1 c2 c3 c4
        · -- ¬ (mem 106 12) ≤ (a3 + 300)
          refine G_aload_n dX4_judge_73 rfl ?_
          refine G_iload dX4_judge_74 rfl ?_
          refine G_putI (mem2 := (up2 mem 106 12 (a3 + 300))) dX4_judge_76 fp_4_148 (by decide) sh_106 rfl ?_
          refine G_aload_n dX4_judge_79 rfl ?_
          refine G_getR (t := 109) dX4_judge_80 fl_4_21 (by decide) sh_106 rr_106_4 ?_
          refine G_iconst (z := 0) dX4_judge_83 rfl ?_
          refine G_aload_n dX4_judge_84 rfl ?_
          refine G_getR (t := 110) dX4_judge_85 fl_4_24 (by decide) sh_106 rr_106_11 ?_
          refine G_iconst (z := 0) dX4_judge_88 rfl ?_
          refine G_iload_n dX4_judge_89 rfl ?_
          refine G_aload_n dX4_judge_90 rfl ?_
          refine G_getR (t := 109) dX4_judge_91 fl_4_21 (by decide) sh_106 rr_106_4 ?_
          refine G_alen (z := 6) dX4_judge_94 (by decide) sh_109 (by decide) rfl ?_
          refine G_min (z := (min a1 6)) dX4_judge_95 ml_4_94 mw_min (w6) (by decide) ⟨by show 1 ≤ d; omega, by show 21 ≤ 40 * d; omega, Nat.zero_le _, Nat.zero_le _⟩ (Nat.le_of_ble_eq_true rfl) rfl ?_
          refine G_copy (mem2 := (upr (up2 mem 106 12 (a3 + 300)) 110 (cpyR ((up2 mem 106 12 (a3 + 300)) 109) ((up2 mem 106 12 (a3 + 300)) 110) (min a1 6)))) dX4_judge_98 ml_4_160 mw_copy (by decide) sh_109 (by decide) sh_110 (by decide) (by decide) (by decide) ((q9 c1 c2 c3 c4).1) (by have := q9 c1 c2 c3 c4; omega) (by have := q9 c1 c2 c3 c4; omega) ⟨by show 1 ≤ d; omega, by show 80 ≤ 40 * d; omega⟩ (Nat.le_of_ble_eq_true rfl) (cpy_00 _ _ _ _) ?_
          refine G_iload_n dX4_judge_101 rfl ?_
          exact k4 c1 c2 c3 c4
  · -- ¬ s1 ≤ s0
    exact G_vret dX4_judge_41 rfl (Nat.zero_le _) (Nat.zero_le _) (Nat.le_refl _) ⟨rfl, k5 c1⟩
set_option maxRecDepth 20000 in
set_option maxHeartbeats 1000000 in
theorem sg_X4_judge_105 {E : Nat × (Nat → Int32)} {d : Nat} {P : Option Value → Mem → Prop} {mem : Mem} {a1 : Int} {a2 : Int} {a3 : Int} {a4 : Int} {s0 : Int}
    (k1 : GM E (m_X4_judge d) P 109 [.ref 106, vi a1, vi a2, vi a3, vi a4, un] [vi (mem 106 13), vi s0] mem) :
    GM E (m_X4_judge d) P 105 [.ref 106, vi a1, vi a2, vi a3, vi a4, un] [vi s0] mem := by
  refine G_aload_n dX4_judge_105 rfl ?_
  refine G_getI (z := (mem 106 13)) dX4_judge_106 fl_4_151 (by decide) sh_106 rfl ?_
  exact k1
set_option maxRecDepth 20000 in
set_option maxHeartbeats 1000000 in
theorem sg_X4_judge_112 {E : Nat × (Nat → Int32)} {d : Nat} {P : Option Value → Mem → Prop} {mem : Mem} {a1 : Int} {a2 : Int} {a3 : Int} {a4 : Int} {s0 : Int} {s1 : Int} (w1 : -2147483648 ≤ a4 ∧ a4 < 2147483648) (w2 : -2147483648 ≤ (mem 106 15) ∧ (mem 106 15) < 2147483648) (w3 : ¬ (mem 106 15) < a4 → -2147483648 ≤ (s1 - s0) ∧ (s1 - s0) < 2147483648) (w4 : -2147483648 ≤ a2 ∧ a2 < 2147483648) (w5 : ¬ (mem 106 15) < a4 → ¬ 0 < (s1 - s0) → (s1 - s0) = 0 → -2147483648 ≤ (mem 106 13) ∧ (mem 106 13) < 2147483648)
    (k1 : (mem 106 15) < a4 → P none mem)
    (k2 : ¬ (mem 106 15) < a4 → 0 < (s1 - s0) → P none (up2 mem 106 13 a2))
    (k3 : ¬ (mem 106 15) < a4 → ¬ 0 < (s1 - s0) → (s1 - s0) ≠ 0 → P none mem)
    (k4 : ¬ (mem 106 15) < a4 → ¬ 0 < (s1 - s0) → (s1 - s0) = 0 → (mem 106 13) ≤ a2 → P none mem)
    (k5 : ¬ (mem 106 15) < a4 → ¬ 0 < (s1 - s0) → (s1 - s0) = 0 → ¬ (mem 106 13) ≤ a2 → P none (up2 mem 106 13 a2)) :
    GM E (m_X4_judge d) P 112 [.ref 106, vi a1, vi a2, vi a3, vi a4, un] [vi s0, vi s1] mem := by
  refine G_isub dX4_judge_112 ?_
  refine G_istore dX4_judge_113 (by decide : 5 < 6) rfl ?_
  refine G_iload dX4_judge_115 rfl ?_
  refine G_aload_n dX4_judge_117 rfl ?_
  refine G_getI (z := (mem 106 15)) dX4_judge_118 fl_4_145 (by decide) sh_106 rfl ?_
  refine G_icmp_gt (tgt := 147) dX4_judge_121 (by decide) (w1) (w2) (fun c1 => ?_) (fun c1 => ?_)
  · -- (mem 106 15) < a4
    exact G_vret dX4_judge_147 rfl (Nat.zero_le _) (Nat.zero_le _) (Nat.le_refl _) ⟨rfl, k1 c1⟩
  · -- ¬ (mem 106 15) < a4
    refine G_iload dX4_judge_124 rfl ?_
    refine G_if_gt (tgt := 142) dX4_judge_126 (by decide) (w3 c1) (fun c2 => ?_) (fun c2 => ?_)
    · -- 0 < (s1 - s0)
      refine G_aload_n dX4_judge_142 rfl ?_
      refine G_iload_n dX4_judge_143 rfl ?_
      refine G_putI (mem2 := (up2 mem 106 13 a2)) dX4_judge_144 fp_4_151 (by decide) sh_106 rfl ?_
      exact G_vret dX4_judge_147 rfl (Nat.zero_le _) (Nat.zero_le _) (Nat.le_refl _) ⟨rfl, k2 c1 c2⟩
    · -- ¬ 0 < (s1 - s0)
      refine G_iload dX4_judge_129 rfl ?_
      refine G_if_ne (tgt := 147) dX4_judge_131 (by decide) (w3 c1) (fun c3 => ?_) (fun c3 => ?_)
      · -- (s1 - s0) ≠ 0
        exact G_vret dX4_judge_147 rfl (Nat.zero_le _) (Nat.zero_le _) (Nat.le_refl _) ⟨rfl, k3 c1 c2 c3⟩
      · -- (s1 - s0) = 0
        refine G_iload_n dX4_judge_134 rfl ?_
        refine G_aload_n dX4_judge_135 rfl ?_
        refine G_getI (z := (mem 106 13)) dX4_judge_136 fl_4_151 (by decide) sh_106 rfl ?_
        refine G_icmp_ge (tgt := 147) dX4_judge_139 (by decide) (w4) (w5 c1 c2 c3) (fun c4 => ?_) (fun c4 => ?_)
        · -- (mem 106 13) ≤ a2
          exact G_vret dX4_judge_147 rfl (Nat.zero_le _) (Nat.zero_le _) (Nat.le_refl _) ⟨rfl, k4 c1 c2 c3 c4⟩
        · -- ¬ (mem 106 13) ≤ a2
          refine G_aload_n dX4_judge_142 rfl ?_
          refine G_iload_n dX4_judge_143 rfl ?_
          refine G_putI (mem2 := (up2 mem 106 13 a2)) dX4_judge_144 fp_4_151 (by decide) sh_106 rfl ?_
          exact G_vret dX4_judge_147 rfl (Nat.zero_le _) (Nat.zero_le _) (Nat.le_refl _) ⟨rfl, k5 c1 c2 c3 c4⟩
abbrev m_X4_pathToAll (d : Nat) : Mu := (cX4_pathToAll, 2, RX4, none, ⟨d, 0, 0, 40 * d⟩, "pathToAll")
set_option maxRecDepth 20000 in
set_option maxHeartbeats 1000000 in
theorem sg_X4_pathToAll_0 {E : Nat × (Nat → Int32)} {d : Nat} (hd : 1 ≤ d) {P : Option Value → Mem → Prop} {mem : Mem} (w1 : -2147483648 ≤ (mem 9 1) ∧ (mem 9 1) < 2147483648)
    (k1 : GM E (m_X4_pathToAll d) P 21 [.ref 106, vi 0] [] (up2 mem 106 5 (min (mem 9 1) 6))) :
    GM E (m_X4_pathToAll d) P 0 [.ref 106, un] [] mem := by
  refine G_aload_n dX4_pathToAll_0 rfl ?_
  refine G_aload_n dX4_pathToAll_1 rfl ?_
  refine G_getR (t := 9) dX4_pathToAll_2 fl_4_27 (by decide) sh_106 rr_106_0 ?_
  refine G_getI (z := (mem 9 1)) dX4_pathToAll_5 fl_4_68 (by decide) sh_9 rfl ?_
  refine G_aload_n dX4_pathToAll_8 rfl ?_
  refine G_getR (t := 109) dX4_pathToAll_9 fl_4_21 (by decide) sh_106 rr_106_4 ?_
  refine G_alen (z := 6) dX4_pathToAll_12 (by decide) sh_109 (by decide) rfl ?_
  refine G_min (z := (min (mem 9 1) 6)) dX4_pathToAll_13 ml_4_94 mw_min (w1) (by decide) ⟨by show 1 ≤ d; omega, by show 21 ≤ 40 * d; omega, Nat.zero_le _, Nat.zero_le _⟩ (Nat.le_of_ble_eq_true rfl) rfl ?_
  refine G_putI (mem2 := (up2 mem 106 5 (min (mem 9 1) 6))) dX4_pathToAll_16 fp_4_44 (by decide) sh_106 rfl ?_
  refine G_iconst (z := 0) dX4_pathToAll_19 rfl ?_
  refine G_istore_n dX4_pathToAll_20 rfl (by decide : 1 < 2) rfl ?_
  exact k1
set_option maxRecDepth 20000 in
set_option maxHeartbeats 1000000 in
theorem sg_X4_pathToAll_21 {E : Nat × (Nat → Int32)} {d : Nat} {P : Option Value → Mem → Prop} {mem : Mem} {a1 : Int} (w1 : -2147483648 ≤ a1 ∧ a1 < 2147483648) (w2 : -2147483648 ≤ (mem 106 5) ∧ (mem 106 5) < 2147483648) (q3 : ¬ (mem 106 5) ≤ a1 → 0 ≤ a1 ∧ a1 < 6)
    (k1 : (mem 106 5) ≤ a1 → P none mem)
    (k2 : ¬ (mem 106 5) ≤ a1 → GM E (m_X4_pathToAll d) P 21 [.ref 106, vi (a1 + 1)] [] (up2 mem 109 a1 a1)) :
    GM E (m_X4_pathToAll d) P 21 [.ref 106, vi a1] [] mem := by
  refine G_iload_n dX4_pathToAll_21 rfl ?_
  refine G_aload_n dX4_pathToAll_22 rfl ?_
  refine G_getI (z := (mem 106 5)) dX4_pathToAll_23 fl_4_44 (by decide) sh_106 rfl ?_
  refine G_icmp_ge (tgt := 42) dX4_pathToAll_26 (by decide) (w1) (w2) (fun c1 => ?_) (fun c1 => ?_)
  · -- (mem 106 5) ≤ a1
    exact G_vret dX4_pathToAll_42 rfl (Nat.zero_le _) (Nat.zero_le _) (Nat.le_refl _) ⟨rfl, k1 c1⟩
  · -- ¬ (mem 106 5) ≤ a1
    refine G_aload_n dX4_pathToAll_29 rfl ?_
    refine G_getR (t := 109) dX4_pathToAll_30 fl_4_21 (by decide) sh_106 rr_106_4 ?_
    refine G_iload_n dX4_pathToAll_33 rfl ?_
    refine G_iload_n dX4_pathToAll_34 rfl ?_
    refine G_iast (mem2 := (up2 mem 109 a1 a1)) dX4_pathToAll_35 (by decide) sh_109 (by decide) (q3 c1).1 (q3 c1).2 rfl ?_
    refine G_iinc (z := (a1 + 1)) dX4_pathToAll_36 rfl rfl (by decide : 1 < 2) rfl ?_
    refine G_goto (tgt := 21) dX4_pathToAll_39 (by decide) ?_
    exact k2 c1
abbrev m_X4_prepare (d : Nat) : Mu := (cX4_prepare, 5, RX4, none, ⟨d, 0, 0, 40 * d⟩, "prepare")
set_option maxRecDepth 20000 in
set_option maxHeartbeats 1000000 in
theorem sg_X4_prepare_0 {E : Nat × (Nat → Int32)} {d : Nat} {P : Option Value → Mem → Prop} {mem : Mem} {r1 : Nat} {n1 : Nat} (hl1 : r1 < 209) (hs1 : SH[r1]? = some (.inr (0, n1)))
    (k1 : GM E (m_X4_prepare d) P 2 [.ref 106, .ref r1, vi 0, un, un] [] mem) :
    GM E (m_X4_prepare d) P 0 [.ref 106, .ref r1, un, un, un] [] mem := by
  refine G_iconst (z := 0) dX4_prepare_0 rfl ?_
  refine G_istore_n dX4_prepare_1 rfl (by decide : 2 < 5) rfl ?_
  exact k1
set_option maxRecDepth 20000 in
set_option maxHeartbeats 1000000 in
theorem sg_X4_prepare_2 {E : Nat × (Nat → Int32)} {d : Nat} {P : Option Value → Mem → Prop} {mem : Mem} {r1 : Nat} {n1 : Nat} {a2 : Int} (hl1 : r1 < 209) (hs1 : SH[r1]? = some (.inr (0, n1))) (w1 : -2147483648 ≤ a2 ∧ a2 < 2147483648) (w2 : -2147483648 ≤ (mem 9 1) ∧ (mem 9 1) < 2147483648) (w3 : ¬ (mem 9 1) ≤ a2 → ¬ 6 ≤ a2 → -2147483648 ≤ (n1 : Int) ∧ (n1 : Int) < 2147483648)
    (k1 : (mem 9 1) ≤ a2 → P none mem)
    (k2 : ¬ (mem 9 1) ≤ a2 → 6 ≤ a2 → P none mem)
    (k3 : ¬ (mem 9 1) ≤ a2 → ¬ 6 ≤ a2 → (n1 : Int) ≤ a2 → P none mem)
    (k4 : ¬ (mem 9 1) ≤ a2 → ¬ 6 ≤ a2 → ¬ (n1 : Int) ≤ a2 → GM E (m_X4_prepare d) P 33 [.ref 106, .ref r1, vi a2, un, un] [vi a2, .ref 9] mem) :
    GM E (m_X4_prepare d) P 2 [.ref 106, .ref r1, vi a2, un, un] [] mem := by
  refine G_iload_n dX4_prepare_2 rfl ?_
  refine G_aload_n dX4_prepare_3 rfl ?_
  refine G_getR (t := 9) dX4_prepare_4 fl_4_27 (by decide) sh_106 rr_106_0 ?_
  refine G_getI (z := (mem 9 1)) dX4_prepare_7 fl_4_68 (by decide) sh_9 rfl ?_
  refine G_icmp_ge (tgt := 90) dX4_prepare_10 (by decide) (w1) (w2) (fun c1 => ?_) (fun c1 => ?_)
  · -- (mem 9 1) ≤ a2
    exact G_vret dX4_prepare_90 rfl (Nat.zero_le _) (Nat.zero_le _) (Nat.le_refl _) ⟨rfl, k1 c1⟩
  · -- ¬ (mem 9 1) ≤ a2
    refine G_iload_n dX4_prepare_13 rfl ?_
    refine G_aload_n dX4_prepare_14 rfl ?_
    refine G_getR (t := 107) dX4_prepare_15 fl_4_11 (by decide) sh_106 rr_106_2 ?_
    refine G_alen (z := 6) dX4_prepare_18 (by decide) sh_107 (by decide) rfl ?_
    refine G_icmp_ge (tgt := 90) dX4_prepare_19 (by decide) (w1) (by decide) (fun c2 => ?_) (fun c2 => ?_)
    · -- 6 ≤ a2
      exact G_vret dX4_prepare_90 rfl (Nat.zero_le _) (Nat.zero_le _) (Nat.le_refl _) ⟨rfl, k2 c1 c2⟩
    · -- ¬ 6 ≤ a2
      refine G_iload_n dX4_prepare_22 rfl ?_
      refine G_aload_n dX4_prepare_23 rfl ?_
      refine G_alen (z := (n1 : Int)) dX4_prepare_24 hl1 hs1 (by decide) rfl ?_
      refine G_icmp_ge (tgt := 90) dX4_prepare_25 (by decide) (w1) (w3 c1 c2) (fun c3 => ?_) (fun c3 => ?_)
      · -- (n1 : Int) ≤ a2
        exact G_vret dX4_prepare_90 rfl (Nat.zero_le _) (Nat.zero_le _) (Nat.le_refl _) ⟨rfl, k3 c1 c2 c3⟩
      · -- ¬ (n1 : Int) ≤ a2
        refine G_aload_n dX4_prepare_28 rfl ?_
        refine G_getR (t := 9) dX4_prepare_29 fl_4_27 (by decide) sh_106 rr_106_0 ?_
        refine G_iload_n dX4_prepare_32 rfl ?_
        exact k4 c1 c2 c3
set_option maxRecDepth 20000 in
set_option maxHeartbeats 1000000 in
theorem sg_X4_prepare_36n {E : Nat × (Nat → Int32)} {d : Nat} {P : Option Value → Mem → Prop} {mem : Mem} {r1 : Nat} {n1 : Nat} {a2 : Int} (hl1 : r1 < 209) (hs1 : SH[r1]? = some (.inr (0, n1)))
    (k1 : GM E (m_X4_prepare d) P 2 [.ref 106, .ref r1, vi (a2 + 1), .null, un] [] mem) :
    GM E (m_X4_prepare d) P 36 [.ref 106, .ref r1, vi a2, un, un] [.null] mem := by
  refine G_astoreNull_n dX4_prepare_36 rfl (by decide : 3 < 5) rfl ?_
  refine G_aloadNull_n dX4_prepare_37 rfl ?_
  refine G_ifnullZ (tgt := 84) dX4_prepare_38 (by decide) ?_
  refine G_iinc (z := (a2 + 1)) dX4_prepare_84 rfl rfl (by decide : 2 < 5) rfl ?_
  refine G_goto (tgt := 2) dX4_prepare_87 (by decide) ?_
  exact k1
set_option maxRecDepth 20000 in
set_option maxHeartbeats 1000000 in
theorem sg_X4_prepare_36r {E : Nat × (Nat → Int32)} {d : Nat} {P : Option Value → Mem → Prop} {mem : Mem} {r1 : Nat} {n1 : Nat} {a2 : Int} {os0 : Nat} (hl1 : r1 < 209) (hs1 : SH[r1]? = some (.inr (0, n1))) (hos0 : os0 ∈ streetL) (q1 : 0 ≤ a2 ∧ a2 < 6)
    (k1 : GM E (m_X4_prepare d) P 56 [.ref 106, .ref r1, vi a2, .ref os0, .ref (111 + 6 * (a2).toNat)] [vi 1, .ref 3, .ref (111 + 6 * (a2).toNat)] mem) :
    GM E (m_X4_prepare d) P 36 [.ref 106, .ref r1, vi a2, un, un] [.ref os0] mem := by
  refine G_astore_n dX4_prepare_36 rfl (by decide : 3 < 5) rfl ?_
  refine G_aload_n dX4_prepare_37 rfl ?_
  refine G_ifnull dX4_prepare_38 ?_
  refine G_aload_n dX4_prepare_41 rfl ?_
  refine G_getR (t := 107) dX4_prepare_42 fl_4_11 (by decide) sh_106 rr_106_2 ?_
  refine G_iload_n dX4_prepare_45 rfl ?_
  refine G_aald5S (t := (111 + 6 * (a2).toNat)) dX4_prepare_46 (by decide) sh_107 (by decide) (q1).1 (q1).2 (rr_jobs (q1).1 (q1).2) ?_
  refine G_astore dX4_prepare_47 (by decide : 4 < 5) rfl ?_
  refine G_aload dX4_prepare_49 rfl ?_
  refine G_aload_n dX4_prepare_51 rfl ?_
  refine G_getR (t := 3) dX4_prepare_52 fl_4_31 (by decide) sh_106 rr_106_1 ?_
  refine G_iconst (z := 1) dX4_prepare_55 rfl ?_
  exact k1
set_option maxRecDepth 20000 in
set_option maxHeartbeats 1000000 in
theorem sg_X4_prepare_59 {E : Nat × (Nat → Int32)} {d : Nat} {P : Option Value → Mem → Prop} {mem : Mem} {r1 : Nat} {n1 : Nat} {a2 : Int} {o3 : Nat} {o4 : Nat} {s0 : Int} (hl1 : r1 < 209) (hs1 : SH[r1]? = some (.inr (0, n1))) (ho3 : o3 ∈ streetL) (ho4 : o4 ∈ jobL)
    (k1 : GM E (m_X4_prepare d) P 63 [.ref 106, .ref r1, vi a2, .ref o3, .ref o4] [vi (mem o3 4), vi s0, .ref o4] mem) :
    GM E (m_X4_prepare d) P 59 [.ref 106, .ref r1, vi a2, .ref o3, .ref o4] [vi s0, .ref o4] mem := by
  refine G_aload_n dX4_prepare_59 rfl ?_
  refine G_getI (z := (mem o3 4)) dX4_prepare_60 fl_4_77 (ltStreet0 ho3) (shStreet0 ho3) rfl ?_
  exact k1
set_option maxRecDepth 20000 in
set_option maxHeartbeats 1000000 in
theorem sg_X4_prepare_66 {E : Nat × (Nat → Int32)} {d : Nat} {P : Option Value → Mem → Prop} {mem : Mem} {r1 : Nat} {n1 : Nat} {a2 : Int} {o3 : Nat} {o4 : Nat} (hl1 : r1 < 209) (hs1 : SH[r1]? = some (.inr (0, n1))) (ho3 : o3 ∈ streetL) (ho4 : o4 ∈ jobL) (q1 : 0 ≤ a2 ∧ a2 < (n1 : Int)) (n2 : n1 < 2147483648)
    (k1 : GM E (m_X4_prepare d) P 75 [.ref 106, .ref r1, vi a2, .ref o3, .ref o4] [vi (mem r1 a2), .ref o3, .ref o4, .ref o3, .ref o4] mem) :
    GM E (m_X4_prepare d) P 66 [.ref 106, .ref r1, vi a2, .ref o3, .ref o4] [] mem := by
  refine G_aload dX4_prepare_66 rfl ?_
  refine G_aload_n dX4_prepare_68 rfl ?_
  refine G_aload dX4_prepare_69 rfl ?_
  refine G_aload_n dX4_prepare_71 rfl ?_
  refine G_aload_n dX4_prepare_72 rfl ?_
  refine G_iload_n dX4_prepare_73 rfl ?_
  refine G_iald (z := (mem r1 a2)) dX4_prepare_74 hl1 hs1 (n2) (q1).1 (q1).2 rfl ?_
  exact k1
set_option maxRecDepth 20000 in
set_option maxHeartbeats 1000000 in
theorem sg_X4_prepare_78 {E : Nat × (Nat → Int32)} {d : Nat} {P : Option Value → Mem → Prop} {mem : Mem} {r1 : Nat} {n1 : Nat} {a2 : Int} {o3 : Nat} {o4 : Nat} {s0 : Int} (hl1 : r1 < 209) (hs1 : SH[r1]? = some (.inr (0, n1))) (ho3 : o3 ∈ streetL) (ho4 : o4 ∈ jobL) (q1 : 0 ≤ a2 ∧ a2 < (n1 : Int)) (n2 : n1 < 2147483648)
    (k1 : GM E (m_X4_prepare d) P 81 [.ref 106, .ref r1, vi a2, .ref o3, .ref o4] [vi (mem r1 a2), vi s0, .ref o3, .ref o4] mem) :
    GM E (m_X4_prepare d) P 78 [.ref 106, .ref r1, vi a2, .ref o3, .ref o4] [vi s0, .ref o3, .ref o4] mem := by
  refine G_aload_n dX4_prepare_78 rfl ?_
  refine G_iload_n dX4_prepare_79 rfl ?_
  refine G_iald (z := (mem r1 a2)) dX4_prepare_80 hl1 hs1 (n2) (q1).1 (q1).2 rfl ?_
  exact k1
set_option maxRecDepth 20000 in
set_option maxHeartbeats 1000000 in
theorem sg_X4_prepare_84 {E : Nat × (Nat → Int32)} {d : Nat} {P : Option Value → Mem → Prop} {mem : Mem} {r1 : Nat} {n1 : Nat} {a2 : Int} {o3 : Nat} {o4 : Nat} (hl1 : r1 < 209) (hs1 : SH[r1]? = some (.inr (0, n1))) (ho3 : o3 ∈ streetL) (ho4 : o4 ∈ jobL)
    (k1 : GM E (m_X4_prepare d) P 2 [.ref 106, .ref r1, vi (a2 + 1), .ref o3, .ref o4] [] mem) :
    GM E (m_X4_prepare d) P 84 [.ref 106, .ref r1, vi a2, .ref o3, .ref o4] [] mem := by
  refine G_iinc (z := (a2 + 1)) dX4_prepare_84 rfl rfl (by decide : 2 < 5) rfl ?_
  refine G_goto (tgt := 2) dX4_prepare_87 (by decide) ?_
  exact k1
abbrev m_X4_readPath (d : Nat) : Mu := (cX4_readPath, 5, RX4, (some .int), ⟨d, 0, 0, 40 * d⟩, "readPath")
set_option maxRecDepth 20000 in
set_option maxHeartbeats 1000000 in
theorem sg_X4_readPath_0 {E : Nat × (Nat → Int32)} {d : Nat} {P : Option Value → Mem → Prop} {mem : Mem}
    (k1 : GM E (m_X4_readPath d) P 3 [.ref 106, .ref 1, un, un, un] [vi 80, .ref 1] mem) :
    GM E (m_X4_readPath d) P 0 [.ref 106, .ref 1, un, un, un] [] mem := by
  refine G_aload_n dX4_readPath_0 rfl ?_
  refine G_bipush (z := 80) dX4_readPath_1 rfl ?_
  exact k1
set_option maxRecDepth 20000 in
set_option maxHeartbeats 1000000 in
theorem sg_X4_readPath_6 {E : Nat × (Nat → Int32)} {d : Nat} {P : Option Value → Mem → Prop} {mem : Mem}
    (k1 : GM E (m_X4_readPath d) P 15 [.ref 106, .ref 1, vi 0, vi 0, un] [] (up2 mem 106 5 0)) :
    GM E (m_X4_readPath d) P 6 [.ref 106, .ref 1, un, un, un] [] mem := by
  refine G_aload_n dX4_readPath_6 rfl ?_
  refine G_iconst (z := 0) dX4_readPath_7 rfl ?_
  refine G_putI (mem2 := (up2 mem 106 5 0)) dX4_readPath_8 fp_4_44 (by decide) sh_106 rfl ?_
  refine G_iconst (z := 0) dX4_readPath_11 rfl ?_
  refine G_istore_n dX4_readPath_12 rfl (by decide : 2 < 5) rfl ?_
  refine G_iconst (z := 0) dX4_readPath_13 rfl ?_
  refine G_istore_n dX4_readPath_14 rfl (by decide : 3 < 5) rfl ?_
  exact k1
set_option maxRecDepth 20000 in
set_option maxHeartbeats 1000000 in
theorem sg_X4_readPath_15 {E : Nat × (Nat → Int32)} {d : Nat} {P : Option Value → Mem → Prop} {mem : Mem} {a2 : Int} {a3 : Int} (w1 : -2147483648 ≤ a3 ∧ a3 < 2147483648)
    (k1 : 6 ≤ a3 → GM E (m_X4_readPath d) P 101 [.ref 106, .ref 1, vi a2, vi a3, un] [.ref 1] mem)
    (k2 : ¬ 6 ≤ a3 → GM E (m_X4_readPath d) P 25 [.ref 106, .ref 1, vi a2, vi a3, un] [.ref 1] mem) :
    GM E (m_X4_readPath d) P 15 [.ref 106, .ref 1, vi a2, vi a3, un] [] mem := by
  refine G_iload_n dX4_readPath_15 rfl ?_
  refine G_aload_n dX4_readPath_16 rfl ?_
  refine G_getR (t := 109) dX4_readPath_17 fl_4_21 (by decide) sh_106 rr_106_4 ?_
  refine G_alen (z := 6) dX4_readPath_20 (by decide) sh_109 (by decide) rfl ?_
  refine G_icmp_ge (tgt := 100) dX4_readPath_21 (by decide) (w1) (by decide) (fun c1 => ?_) (fun c1 => ?_)
  · -- 6 ≤ a3
    refine G_aload_n dX4_readPath_100 rfl ?_
    exact k1 c1
  · -- ¬ 6 ≤ a3
    refine G_aload_n dX4_readPath_24 rfl ?_
    exact k2 c1
set_option maxRecDepth 20000 in
set_option maxHeartbeats 1000000 in
theorem sg_X4_readPath_28 {E : Nat × (Nat → Int32)} {d : Nat} {P : Option Value → Mem → Prop} {mem : Mem} {a2 : Int} {a3 : Int} {s0 : Int}
    (k1 : GM E (m_X4_readPath d) P 39 [.ref 106, .ref 1, vi a2, vi a3, vi (s0 - 48)] [vi (s0 - 48), .ref 9] mem) :
    GM E (m_X4_readPath d) P 28 [.ref 106, .ref 1, vi a2, vi a3, un] [vi s0] mem := by
  refine G_bipush (z := 48) dX4_readPath_28 rfl ?_
  refine G_isub dX4_readPath_30 ?_
  refine G_istore dX4_readPath_31 (by decide : 4 < 5) rfl ?_
  refine G_aload_n dX4_readPath_33 rfl ?_
  refine G_getR (t := 9) dX4_readPath_34 fl_4_27 (by decide) sh_106 rr_106_0 ?_
  refine G_iload dX4_readPath_37 rfl ?_
  exact k1
set_option maxRecDepth 20000 in
set_option maxHeartbeats 1000000 in
theorem sg_X4_readPath_42n {E : Nat × (Nat → Int32)} {d : Nat} {P : Option Value → Mem → Prop} {mem : Mem} {a2 : Int} {a3 : Int} {a4 : Int}
    (k1 : GM E (m_X4_readPath d) P 55 [.ref 106, .ref 1, vi a2, vi a3, vi a4] [.ref 1] mem) :
    GM E (m_X4_readPath d) P 42 [.ref 106, .ref 1, vi a2, vi a3, vi a4] [.null] mem := by
  refine G_ifnullZ (tgt := 54) dX4_readPath_42 (by decide) ?_
  refine G_aload_n dX4_readPath_54 rfl ?_
  exact k1
set_option maxRecDepth 20000 in
set_option maxHeartbeats 1000000 in
theorem sg_X4_readPath_42r {E : Nat × (Nat → Int32)} {d : Nat} {P : Option Value → Mem → Prop} {mem : Mem} {a2 : Int} {a3 : Int} {a4 : Int} {os0 : Nat} (hos0 : os0 ∈ streetL)
    (k1 : (bandI (shrI a2 a4) 1) = 0 → GM E (m_X4_readPath d) P 60 [.ref 106, .ref 1, vi a2, vi a3, vi a4] [.ref 1] mem)
    (k2 : ¬ (bandI (shrI a2 a4) 1) = 0 → GM E (m_X4_readPath d) P 55 [.ref 106, .ref 1, vi a2, vi a3, vi a4] [.ref 1] mem) :
    GM E (m_X4_readPath d) P 42 [.ref 106, .ref 1, vi a2, vi a3, vi a4] [.ref os0] mem := by
  refine G_ifnull dX4_readPath_42 ?_
  refine G_iload_n dX4_readPath_45 rfl ?_
  refine G_iload dX4_readPath_46 rfl ?_
  refine G_ishr (z := (shrI a2 a4)) dX4_readPath_48 (iI_inv _) ?_
  refine G_iconst (z := 1) dX4_readPath_49 rfl ?_
  refine G_iand (z := (bandI (shrI a2 a4) 1)) dX4_readPath_50 (iI_inv _) ?_
  refine G_if_eq (tgt := 59) dX4_readPath_51 (by decide) (iI_rng _) (fun c1 => ?_) (fun c1 => ?_)
  · -- (bandI (shrI a2 a4) 1) = 0
    refine G_aload_n dX4_readPath_59 rfl ?_
    exact k1 c1
  · -- ¬ (bandI (shrI a2 a4) 1) = 0
    refine G_aload_n dX4_readPath_54 rfl ?_
    exact k2 c1
set_option maxRecDepth 20000 in
set_option maxHeartbeats 1000000 in
theorem sg_X4_readPath_58 {E : Nat × (Nat → Int32)} {d : Nat} {P : Option Value → Mem → Prop} {mem : Mem} {a2 : Int} {a3 : Int} {a4 : Int} {s0 : Int}
    (k1 : P (some (vi s0)) mem) :
    GM E (m_X4_readPath d) P 58 [.ref 106, .ref 1, vi a2, vi a3, vi a4] [vi s0] mem := by
  exact G_iret dX4_readPath_58 rfl (Nat.zero_le _) (Nat.zero_le _) (Nat.le_refl _) ⟨rfl, k1⟩
set_option maxRecDepth 20000 in
set_option maxHeartbeats 1000000 in
theorem sg_X4_readPath_63 {E : Nat × (Nat → Int32)} {d : Nat} {P : Option Value → Mem → Prop} {mem : Mem} {a2 : Int} {a3 : Int} {a4 : Int} (q1 : 0 ≤ a3 ∧ a3 < 6)
    (k1 : GM E (m_X4_readPath d) P 86 [.ref 106, .ref 1, vi (borI a2 (shlI 1 a4)), vi a3, vi a4] [.ref 1] (up2 (up2 mem 109 a3 a4) 106 5 (a3 + 1))) :
    GM E (m_X4_readPath d) P 63 [.ref 106, .ref 1, vi a2, vi a3, vi a4] [] mem := by
  refine G_iload_n dX4_readPath_63 rfl ?_
  refine G_iconst (z := 1) dX4_readPath_64 rfl ?_
  refine G_iload dX4_readPath_65 rfl ?_
  refine G_ishl (z := (shlI 1 a4)) dX4_readPath_67 (iI_inv _) ?_
  refine G_ior (z := (borI a2 (shlI 1 a4))) dX4_readPath_68 (iI_inv _) ?_
  refine G_istore_n dX4_readPath_69 rfl (by decide : 2 < 5) rfl ?_
  refine G_aload_n dX4_readPath_70 rfl ?_
  refine G_getR (t := 109) dX4_readPath_71 fl_4_21 (by decide) sh_106 rr_106_4 ?_
  refine G_iload_n dX4_readPath_74 rfl ?_
  refine G_iload dX4_readPath_75 rfl ?_
  refine G_iast (mem2 := (up2 mem 109 a3 a4)) dX4_readPath_77 (by decide) sh_109 (by decide) (q1).1 (q1).2 rfl ?_
  refine G_aload_n dX4_readPath_78 rfl ?_
  refine G_iload_n dX4_readPath_79 rfl ?_
  refine G_iconst (z := 1) dX4_readPath_80 rfl ?_
  refine G_iadd dX4_readPath_81 ?_
  refine G_putI (mem2 := (up2 (up2 mem 109 a3 a4) 106 5 (a3 + 1))) dX4_readPath_82 fp_4_44 (by decide) sh_106 rfl ?_
  refine G_aload_n dX4_readPath_85 rfl ?_
  exact k1
set_option maxRecDepth 20000 in
set_option maxHeartbeats 1000000 in
theorem sg_X4_readPath_89 {E : Nat × (Nat → Int32)} {d : Nat} {P : Option Value → Mem → Prop} {mem : Mem} {a2 : Int} {a3 : Int} {a4 : Int} {s0 : Int} (w1 : -2147483648 ≤ s0 ∧ s0 < 2147483648)
    (k1 : s0 = 0 → GM E (m_X4_readPath d) P 15 [.ref 106, .ref 1, vi a2, vi (a3 + 1), vi a4] [] mem)
    (k2 : ¬ s0 = 0 → P (some (vi 0)) mem) :
    GM E (m_X4_readPath d) P 89 [.ref 106, .ref 1, vi a2, vi a3, vi a4] [vi s0] mem := by
  refine G_if_eq (tgt := 94) dX4_readPath_89 (by decide) (w1) (fun c1 => ?_) (fun c1 => ?_)
  · -- s0 = 0
    refine G_iinc (z := (a3 + 1)) dX4_readPath_94 rfl rfl (by decide : 3 < 5) rfl ?_
    refine G_goto (tgt := 15) dX4_readPath_97 (by decide) ?_
    exact k1 c1
  · -- ¬ s0 = 0
    refine G_iconst (z := 0) dX4_readPath_92 rfl ?_
    exact G_iret dX4_readPath_93 rfl (Nat.zero_le _) (Nat.zero_le _) (Nat.le_refl _) ⟨rfl, k2 c1⟩
set_option maxRecDepth 20000 in
set_option maxHeartbeats 1000000 in
theorem sg_X4_readPath_104 {E : Nat × (Nat → Int32)} {d : Nat} {P : Option Value → Mem → Prop} {mem : Mem} {a2 : Int} {a3 : Int} {s0 : Int}
    (k1 : P (some (vi s0)) mem) :
    GM E (m_X4_readPath d) P 104 [.ref 106, .ref 1, vi a2, vi a3, un] [vi s0] mem := by
  exact G_iret dX4_readPath_104 rfl (Nat.zero_le _) (Nat.zero_le _) (Nat.le_refl _) ⟨rfl, k1⟩
abbrev m_X4_search (d : Nat) : Mu := (cX4_search, 3, RX4, none, ⟨d, 0, 0, 40 * d⟩, "search")
set_option maxRecDepth 20000 in
set_option maxHeartbeats 1000000 in
theorem sg_X4_search_0 {E : Nat × (Nat → Int32)} {d : Nat} {P : Option Value → Mem → Prop} {mem : Mem} {a1 : Int} {a2 : Int}
    (k1 : GM E (m_X4_search d) P 23 [.ref 106, vi a1, vi a2] [vi 0, vi 0, .ref 106] (up2 (up2 (up2 (up2 mem 106 14 a1) 106 15 a2) 106 12 (-1)) 106 13 0)) :
    GM E (m_X4_search d) P 0 [.ref 106, vi a1, vi a2] [] mem := by
  refine G_aload_n dX4_search_0 rfl ?_
  refine G_iload_n dX4_search_1 rfl ?_
  refine G_putI (mem2 := (up2 mem 106 14 a1)) dX4_search_2 fp_4_142 (by decide) sh_106 rfl ?_
  refine G_aload_n dX4_search_5 rfl ?_
  refine G_iload_n dX4_search_6 rfl ?_
  refine G_putI (mem2 := (up2 (up2 mem 106 14 a1) 106 15 a2)) dX4_search_7 fp_4_145 (by decide) sh_106 rfl ?_
  refine G_aload_n dX4_search_10 rfl ?_
  refine G_iconst (z := (-1)) dX4_search_11 rfl ?_
  refine G_putI (mem2 := (up2 (up2 (up2 mem 106 14 a1) 106 15 a2) 106 12 (-1))) dX4_search_12 fp_4_148 (by decide) sh_106 rfl ?_
  refine G_aload_n dX4_search_15 rfl ?_
  refine G_iconst (z := 0) dX4_search_16 rfl ?_
  refine G_putI (mem2 := (up2 (up2 (up2 (up2 mem 106 14 a1) 106 15 a2) 106 12 (-1)) 106 13 0)) dX4_search_17 fp_4_151 (by decide) sh_106 rfl ?_
  refine G_aload_n dX4_search_20 rfl ?_
  refine G_iconst (z := 0) dX4_search_21 rfl ?_
  refine G_iconst (z := 0) dX4_search_22 rfl ?_
  exact k1
set_option maxRecDepth 20000 in
set_option maxHeartbeats 1000000 in
theorem sg_X4_search_26 {E : Nat × (Nat → Int32)} {d : Nat} {P : Option Value → Mem → Prop} {mem : Mem} {a1 : Int} {a2 : Int}
    (k1 : P none mem) :
    GM E (m_X4_search d) P 26 [.ref 106, vi a1, vi a2] [] mem := by
  exact G_vret dX4_search_26 rfl (Nat.zero_le _) (Nat.zero_le _) (Nat.le_refl _) ⟨rfl, k1⟩
abbrev m_X4_soonestAt (d : Nat) : Mu := (cX4_soonestAt, 2, RX4, (some .int), ⟨d, 0, 0, 40 * d⟩, "soonestAt")
set_option maxRecDepth 20000 in
set_option maxHeartbeats 1000000 in
theorem sg_X4_soonestAt_0 {E : Nat × (Nat → Int32)} {d : Nat} {P : Option Value → Mem → Prop} {mem : Mem} {a1 : Int} (w1 : -2147483648 ≤ a1 ∧ a1 < 2147483648)
    (k1 : a1 < 0 → P (some (vi (-1))) mem)
    (k2 : ¬ a1 < 0 → 6 ≤ a1 → P (some (vi (-1))) mem)
    (k3 : ¬ a1 < 0 → ¬ 6 ≤ a1 → P (some (vi (mem 110 a1))) mem) :
    GM E (m_X4_soonestAt d) P 0 [.ref 106, vi a1] [] mem := by
  refine G_iload_n dX4_soonestAt_0 rfl ?_
  refine G_if_lt (tgt := 22) dX4_soonestAt_1 (by decide) (w1) (fun c1 => ?_) (fun c1 => ?_)
  · -- a1 < 0
    refine G_iconst (z := (-1)) dX4_soonestAt_22 rfl ?_
    exact G_iret dX4_soonestAt_23 rfl (Nat.zero_le _) (Nat.zero_le _) (Nat.le_refl _) ⟨rfl, k1 c1⟩
  · -- ¬ a1 < 0
    refine G_iload_n dX4_soonestAt_4 rfl ?_
    refine G_aload_n dX4_soonestAt_5 rfl ?_
    refine G_getR (t := 110) dX4_soonestAt_6 fl_4_24 (by decide) sh_106 rr_106_11 ?_
    refine G_alen (z := 6) dX4_soonestAt_9 (by decide) sh_110 (by decide) rfl ?_
    refine G_icmp_ge (tgt := 22) dX4_soonestAt_10 (by decide) (w1) (by decide) (fun c2 => ?_) (fun c2 => ?_)
    · -- 6 ≤ a1
      refine G_iconst (z := (-1)) dX4_soonestAt_22 rfl ?_
      exact G_iret dX4_soonestAt_23 rfl (Nat.zero_le _) (Nat.zero_le _) (Nat.le_refl _) ⟨rfl, k2 c1 c2⟩
    · -- ¬ 6 ≤ a1
      refine G_aload_n dX4_soonestAt_13 rfl ?_
      refine G_getR (t := 110) dX4_soonestAt_14 fl_4_24 (by decide) sh_106 rr_106_11 ?_
      refine G_iload_n dX4_soonestAt_17 rfl ?_
      refine G_iald (z := (mem 110 a1)) dX4_soonestAt_18 (by decide) sh_110 (by decide) (by omega) (by omega) rfl ?_
      refine G_goto (tgt := 23) dX4_soonestAt_19 (by decide) ?_
      exact G_iret dX4_soonestAt_23 rfl (Nat.zero_le _) (Nat.zero_le _) (Nat.le_refl _) ⟨rfl, k3 c1 c2⟩
abbrev m_X4_start (d : Nat) : Mu := (cX4_start, 4, RX4, none, ⟨d, 0, 0, 40 * d⟩, "start")
set_option maxRecDepth 20000 in
set_option maxHeartbeats 1000000 in
theorem sg_X4_start_0 {E : Nat × (Nat → Int32)} {d : Nat} {P : Option Value → Mem → Prop} {mem : Mem} {a1 : Int} {a2 : Int} {a3 : Int}
    (k1 : P none (up2 (up2 (up2 (up2 (up2 mem 106 6 a1) 106 7 a2) 106 8 a3) 106 9 0) 106 10 0)) :
    GM E (m_X4_start d) P 0 [.ref 106, vi a1, vi a2, vi a3] [] mem := by
  refine G_aload_n dX4_start_0 rfl ?_
  refine G_iload_n dX4_start_1 rfl ?_
  refine G_putI (mem2 := (up2 mem 106 6 a1)) dX4_start_2 fp_4_100 (by decide) sh_106 rfl ?_
  refine G_aload_n dX4_start_5 rfl ?_
  refine G_iload_n dX4_start_6 rfl ?_
  refine G_putI (mem2 := (up2 (up2 mem 106 6 a1) 106 7 a2)) dX4_start_7 fp_4_103 (by decide) sh_106 rfl ?_
  refine G_aload_n dX4_start_10 rfl ?_
  refine G_iload_n dX4_start_11 rfl ?_
  refine G_putI (mem2 := (up2 (up2 (up2 mem 106 6 a1) 106 7 a2) 106 8 a3)) dX4_start_12 fp_4_106 (by decide) sh_106 rfl ?_
  refine G_aload_n dX4_start_15 rfl ?_
  refine G_iconst (z := 0) dX4_start_16 rfl ?_
  refine G_putI (mem2 := (up2 (up2 (up2 (up2 mem 106 6 a1) 106 7 a2) 106 8 a3) 106 9 0)) dX4_start_17 fp_4_109 (by decide) sh_106 rfl ?_
  refine G_aload_n dX4_start_20 rfl ?_
  refine G_iconst (z := 0) dX4_start_21 rfl ?_
  refine G_putI (mem2 := (up2 (up2 (up2 (up2 (up2 mem 106 6 a1) 106 7 a2) 106 8 a3) 106 9 0) 106 10 0)) dX4_start_22 fp_4_112 (by decide) sh_106 rfl ?_
  exact G_vret dX4_start_25 rfl (Nat.zero_le _) (Nat.zero_le _) (Nat.le_refl _) ⟨rfl, k1⟩
abbrev m_X4_visit (d : Nat) : Mu := (cX4_visit, 4, RX4, (some .boolean), ⟨d, 0, 0, 40 * d⟩, "visit")
set_option maxRecDepth 20000 in
set_option maxHeartbeats 1000000 in
theorem sg_X4_visit_0 {E : Nat × (Nat → Int32)} {d : Nat} {P : Option Value → Mem → Prop} {mem : Mem} {a1 : Int}
    (k1 : GM E (m_X4_visit d) P 5 [.ref 106, vi a1, un, un] [vi a1, .ref 9] mem) :
    GM E (m_X4_visit d) P 0 [.ref 106, vi a1, un, un] [] mem := by
  refine G_aload_n dX4_visit_0 rfl ?_
  refine G_getR (t := 9) dX4_visit_1 fl_4_27 (by decide) sh_106 rr_106_0 ?_
  refine G_iload_n dX4_visit_4 rfl ?_
  exact k1
set_option maxRecDepth 20000 in
set_option maxHeartbeats 1000000 in
theorem sg_X4_visit_8n {E : Nat × (Nat → Int32)} {d : Nat} {P : Option Value → Mem → Prop} {mem : Mem} {a1 : Int}
    (k1 : P (some (vi 0)) mem) :
    GM E (m_X4_visit d) P 8 [.ref 106, vi a1, un, un] [.null] mem := by
  refine G_astoreNull_n dX4_visit_8 rfl (by decide : 2 < 4) rfl ?_
  refine G_aloadNull_n dX4_visit_9 rfl ?_
  refine G_ifnullZ (tgt := 22) dX4_visit_10 (by decide) ?_
  refine G_iconst (z := 0) dX4_visit_22 rfl ?_
  exact G_zret dX4_visit_23 rfl (nar_zb (by decide)) (Nat.zero_le _) (Nat.zero_le _) (Nat.le_refl _) ⟨rfl, k1⟩
set_option maxRecDepth 20000 in
set_option maxHeartbeats 1000000 in
theorem sg_X4_visit_8r {E : Nat × (Nat → Int32)} {d : Nat} {P : Option Value → Mem → Prop} {mem : Mem} {a1 : Int} {os0 : Nat} (hos0 : os0 ∈ streetL) (w1 : -2147483648 ≤ a1 ∧ a1 < 2147483648) (q2 : a1 < 6 → 0 ≤ a1 ∧ a1 < 6) (w3 : a1 < 6 → -2147483648 ≤ (mem 106 6) ∧ (mem 106 6) < 2147483648)
    (k1 : a1 < 6 → (mem 106 6) = 0 → GM E (m_X4_visit d) P 81 [.ref 106, vi a1, .ref os0, .ref (111 + 6 * (a1).toNat)] [vi (mem os0 2), vi (mem 106 7), vi (mem 106 8), .ref os0, .ref 106] mem)
    (k2 : a1 < 6 → ¬ (mem 106 6) = 0 → GM E (m_X4_visit d) P 52 [.ref 106, vi a1, .ref os0, .ref (111 + 6 * (a1).toNat)] [vi 0, .ref 3, vi ((mem 106 6) + (mem (111 + 6 * (a1).toNat) 12))] mem)
    (k3 : ¬ a1 < 6 → P (some (vi 0)) mem) :
    GM E (m_X4_visit d) P 8 [.ref 106, vi a1, un, un] [.ref os0] mem := by
  refine G_astore_n dX4_visit_8 rfl (by decide : 2 < 4) rfl ?_
  refine G_aload_n dX4_visit_9 rfl ?_
  refine G_ifnull dX4_visit_10 ?_
  refine G_iload_n dX4_visit_13 rfl ?_
  refine G_aload_n dX4_visit_14 rfl ?_
  refine G_getR (t := 107) dX4_visit_15 fl_4_11 (by decide) sh_106 rr_106_2 ?_
  refine G_alen (z := 6) dX4_visit_18 (by decide) sh_107 (by decide) rfl ?_
  refine G_icmp_lt (tgt := 24) dX4_visit_19 (by decide) (w1) (by decide) (fun c1 => ?_) (fun c1 => ?_)
  · -- a1 < 6
    refine G_aload_n dX4_visit_24 rfl ?_
    refine G_getR (t := 107) dX4_visit_25 fl_4_11 (by decide) sh_106 rr_106_2 ?_
    refine G_iload_n dX4_visit_28 rfl ?_
    refine G_aald5S (t := (111 + 6 * (a1).toNat)) dX4_visit_29 (by decide) sh_107 (by decide) (q2 c1).1 (q2 c1).2 (rr_jobs (q2 c1).1 (q2 c1).2) ?_
    refine G_astore_n dX4_visit_30 rfl (by decide : 3 < 4) rfl ?_
    refine G_aload_n dX4_visit_31 rfl ?_
    refine G_getI (z := (mem 106 6)) dX4_visit_32 fl_4_100 (by decide) sh_106 rfl ?_
    refine G_if_eq (tgt := 67) dX4_visit_35 (by decide) (w3 c1) (fun c2 => ?_) (fun c2 => ?_)
    · -- (mem 106 6) = 0
      refine G_aload_n dX4_visit_67 rfl ?_
      refine G_aload_n dX4_visit_68 rfl ?_
      refine G_aload_n dX4_visit_69 rfl ?_
      refine G_getI (z := (mem 106 8)) dX4_visit_70 fl_4_106 (by decide) sh_106 rfl ?_
      refine G_aload_n dX4_visit_73 rfl ?_
      refine G_getI (z := (mem 106 7)) dX4_visit_74 fl_4_103 (by decide) sh_106 rfl ?_
      refine G_aload_n dX4_visit_77 rfl ?_
      refine G_getI (z := (mem os0 2)) dX4_visit_78 fl_4_125 (ltStreet0 hos0) (shStreet0 hos0) rfl ?_
      exact k1 c1 c2
    · -- ¬ (mem 106 6) = 0
      refine G_aload_n dX4_visit_38 rfl ?_
      refine G_getI (z := (mem 106 6)) dX4_visit_39 fl_4_100 (by decide) sh_106 rfl ?_
      refine G_aload_n dX4_visit_42 rfl ?_
      refine G_getI (z := (mem (111 + 6 * (a1).toNat) 12)) dX4_visit_43 fl_4_122 (ltJob0 (jobL_of (q2 c1).1 (q2 c1).2)) (shJob0 (jobL_of (q2 c1).1 (q2 c1).2)) rfl ?_
      refine G_iadd dX4_visit_46 ?_
      refine G_aload_n dX4_visit_47 rfl ?_
      refine G_getR (t := 3) dX4_visit_48 fl_4_31 (by decide) sh_106 rr_106_1 ?_
      refine G_iconst (z := 0) dX4_visit_51 rfl ?_
      exact k2 c1 c2
  · -- ¬ a1 < 6
    refine G_iconst (z := 0) dX4_visit_22 rfl ?_
    exact G_zret dX4_visit_23 rfl (nar_zb (by decide)) (Nat.zero_le _) (Nat.zero_le _) (Nat.le_refl _) ⟨rfl, k3 c1⟩
set_option maxRecDepth 20000 in
set_option maxHeartbeats 1000000 in
theorem sg_X4_visit_55 {E : Nat × (Nat → Int32)} {d : Nat} {P : Option Value → Mem → Prop} {mem : Mem} {a1 : Int} {o2 : Nat} {o3 : Nat} {s0 : Int} {s1 : Int} (ho2 : o2 ∈ streetL) (ho3 : o3 ∈ jobL) (w1 : -2147483648 ≤ s1 ∧ s1 < 2147483648) (w2 : -2147483648 ≤ s0 ∧ s0 < 2147483648)
    (k1 : s1 ≤ s0 → GM E (m_X4_visit d) P 81 [.ref 106, vi a1, .ref o2, .ref o3] [vi (mem o2 2), vi (mem 106 7), vi (mem 106 8), .ref o2, .ref 106] mem)
    (k2 : ¬ s1 ≤ s0 → GM E (m_X4_visit d) P 59 [.ref 106, vi a1, .ref o2, .ref o3] [.ref 106] mem) :
    GM E (m_X4_visit d) P 55 [.ref 106, vi a1, .ref o2, .ref o3] [vi s0, vi s1] mem := by
  refine G_icmp_le (tgt := 67) dX4_visit_55 (by decide) (w1) (w2) (fun c1 => ?_) (fun c1 => ?_)
  · -- s1 ≤ s0
    refine G_aload_n dX4_visit_67 rfl ?_
    refine G_aload_n dX4_visit_68 rfl ?_
    refine G_aload_n dX4_visit_69 rfl ?_
    refine G_getI (z := (mem 106 8)) dX4_visit_70 fl_4_106 (by decide) sh_106 rfl ?_
    refine G_aload_n dX4_visit_73 rfl ?_
    refine G_getI (z := (mem 106 7)) dX4_visit_74 fl_4_103 (by decide) sh_106 rfl ?_
    refine G_aload_n dX4_visit_77 rfl ?_
    refine G_getI (z := (mem o2 2)) dX4_visit_78 fl_4_125 (ltStreet0 ho2) (shStreet0 ho2) rfl ?_
    exact k1 c1
  · -- ¬ s1 ≤ s0
    refine G_aload_n dX4_visit_58 rfl ?_
    exact k2 c1
set_option maxRecDepth 20000 in
set_option maxHeartbeats 1000000 in
theorem sg_X4_visit_62 {E : Nat × (Nat → Int32)} {d : Nat} {P : Option Value → Mem → Prop} {mem : Mem} {a1 : Int} {o2 : Nat} {o3 : Nat} {s0 : Int} (ho2 : o2 ∈ streetL) (ho3 : o3 ∈ jobL) (w1 : -2147483648 ≤ s0 ∧ s0 < 2147483648)
    (k1 : s0 ≠ 0 → GM E (m_X4_visit d) P 81 [.ref 106, vi a1, .ref o2, .ref o3] [vi (mem o2 2), vi (mem 106 7), vi (mem 106 8), .ref o2, .ref 106] mem)
    (k2 : s0 = 0 → P (some (vi 0)) mem) :
    GM E (m_X4_visit d) P 62 [.ref 106, vi a1, .ref o2, .ref o3] [vi s0] mem := by
  refine G_if_ne (tgt := 67) dX4_visit_62 (by decide) (w1) (fun c1 => ?_) (fun c1 => ?_)
  · -- s0 ≠ 0
    refine G_aload_n dX4_visit_67 rfl ?_
    refine G_aload_n dX4_visit_68 rfl ?_
    refine G_aload_n dX4_visit_69 rfl ?_
    refine G_getI (z := (mem 106 8)) dX4_visit_70 fl_4_106 (by decide) sh_106 rfl ?_
    refine G_aload_n dX4_visit_73 rfl ?_
    refine G_getI (z := (mem 106 7)) dX4_visit_74 fl_4_103 (by decide) sh_106 rfl ?_
    refine G_aload_n dX4_visit_77 rfl ?_
    refine G_getI (z := (mem o2 2)) dX4_visit_78 fl_4_125 (ltStreet0 ho2) (shStreet0 ho2) rfl ?_
    exact k1 c1
  · -- s0 = 0
    refine G_iconst (z := 0) dX4_visit_65 rfl ?_
    exact G_zret dX4_visit_66 rfl (nar_zb (by decide)) (Nat.zero_le _) (Nat.zero_le _) (Nat.le_refl _) ⟨rfl, k2 c1⟩
set_option maxRecDepth 20000 in
set_option maxHeartbeats 1000000 in
theorem sg_X4_visit_84 {E : Nat × (Nat → Int32)} {d : Nat} {P : Option Value → Mem → Prop} {mem : Mem} {a1 : Int} {o2 : Nat} {o3 : Nat} {s0 : Int} {s1 : Int} (ho2 : o2 ∈ streetL) (ho3 : o3 ∈ jobL)
    (k1 : GM E (m_X4_visit d) P 85 [.ref 106, vi a1, .ref o2, .ref o3] [vi (s1 + s0), .ref o2, .ref 106] mem) :
    GM E (m_X4_visit d) P 84 [.ref 106, vi a1, .ref o2, .ref o3] [vi s0, vi s1, .ref o2, .ref 106] mem := by
  refine G_iadd dX4_visit_84 ?_
  exact k1
set_option maxRecDepth 20000 in
set_option maxHeartbeats 1000000 in
theorem sg_X4_visit_88 {E : Nat × (Nat → Int32)} {d : Nat} {P : Option Value → Mem → Prop} {mem : Mem} {a1 : Int} {o2 : Nat} {o3 : Nat} {s0 : Int} (ho2 : o2 ∈ streetL) (ho3 : o3 ∈ jobL)
    (k1 : GM E (m_X4_visit d) P 109 [.ref 106, vi a1, .ref o2, .ref o3] [vi 0, .ref 3, vi (mem 106 6), .ref o3] (up2 (up2 mem 106 8 s0) 106 7 ((up2 mem 106 8 s0) o2 2))) :
    GM E (m_X4_visit d) P 88 [.ref 106, vi a1, .ref o2, .ref o3] [vi s0, .ref 106] mem := by
  refine G_putI (mem2 := (up2 mem 106 8 s0)) dX4_visit_88 fp_4_106 (by decide) sh_106 rfl ?_
  refine G_aload_n dX4_visit_91 rfl ?_
  refine G_aload_n dX4_visit_92 rfl ?_
  refine G_getI (z := ((up2 mem 106 8 s0) o2 2)) dX4_visit_93 fl_4_125 (ltStreet0 ho2) (shStreet0 ho2) (by simp [up2, upr]) ?_
  refine G_putI (mem2 := (up2 (up2 mem 106 8 s0) 106 7 ((up2 mem 106 8 s0) o2 2))) dX4_visit_96 fp_4_103 (by decide) sh_106 rfl ?_
  refine G_aload_n dX4_visit_99 rfl ?_
  refine G_aload_n dX4_visit_100 rfl ?_
  refine G_getI (z := (mem 106 6)) dX4_visit_101 fl_4_100 (by decide) sh_106 (by simp [up2, upr]) ?_
  refine G_aload_n dX4_visit_104 rfl ?_
  refine G_getR (t := 3) dX4_visit_105 fl_4_31 (by decide) sh_106 rr_106_1 ?_
  refine G_iconst (z := 0) dX4_visit_108 rfl ?_
  exact k1
set_option maxRecDepth 20000 in
set_option maxHeartbeats 1000000 in
theorem sg_X4_visit_112 {E : Nat × (Nat → Int32)} {d : Nat} {P : Option Value → Mem → Prop} {mem : Mem} {a1 : Int} {o2 : Nat} {o3 : Nat} {s0 : Int} {s1 : Int} (ho2 : o2 ∈ streetL) (ho3 : o3 ∈ jobL)
    (k1 : GM E (m_X4_visit d) P 112 [.ref 106, vi a1, .ref o2, .ref o3] [vi s0, vi s1, .ref o3] mem) :
    GM E (m_X4_visit d) P 112 [.ref 106, vi a1, .ref o2, .ref o3] [vi s0, vi s1, .ref o3] mem := by
  exact k1
set_option maxRecDepth 20000 in
set_option maxHeartbeats 1000000 in
theorem sg_X4_visit_115 {E : Nat × (Nat → Int32)} {d : Nat} {P : Option Value → Mem → Prop} {mem : Mem} {a1 : Int} {o2 : Nat} {o3 : Nat} (ho2 : o2 ∈ streetL) (ho3 : o3 ∈ jobL)
    (k1 : GM E (m_X4_visit d) P 134 [.ref 106, vi a1, .ref o2, .ref o3] [.ref o3, vi (mem 106 8), .ref 106] (up2 mem 106 6 ((mem 106 6) + (mem o3 16)))) :
    GM E (m_X4_visit d) P 115 [.ref 106, vi a1, .ref o2, .ref o3] [] mem := by
  refine G_aload_n dX4_visit_115 rfl ?_
  refine G_dup dX4_visit_116 rfl ?_
  refine G_getI (z := (mem 106 6)) dX4_visit_117 fl_4_100 (by decide) sh_106 rfl ?_
  refine G_aload_n dX4_visit_120 rfl ?_
  refine G_getI (z := (mem o3 16)) dX4_visit_121 fl_4_135 (ltJob0 ho3) (shJob0 ho3) rfl ?_
  refine G_iadd dX4_visit_124 ?_
  refine G_putI (mem2 := (up2 mem 106 6 ((mem 106 6) + (mem o3 16)))) dX4_visit_125 fp_4_100 (by decide) sh_106 rfl ?_
  refine G_aload_n dX4_visit_128 rfl ?_
  refine G_dup dX4_visit_129 rfl ?_
  refine G_getI (z := (mem 106 8)) dX4_visit_130 fl_4_106 (by decide) sh_106 (by simp [up2, upr]) ?_
  refine G_aload_n dX4_visit_133 rfl ?_
  exact k1
set_option maxRecDepth 20000 in
set_option maxHeartbeats 1000000 in
theorem sg_X4_visit_137 {E : Nat × (Nat → Int32)} {d : Nat} {P : Option Value → Mem → Prop} {mem : Mem} {a1 : Int} {o2 : Nat} {o3 : Nat} {s0 : Int} {s1 : Int} (ho2 : o2 ∈ streetL) (ho3 : o3 ∈ jobL)
    (k1 : P (some (vi 1)) (up2 (up2 mem 106 8 (s1 + s0)) 106 10 ((mem 106 10) + ((up2 mem 106 8 (s1 + s0)) o3 17)))) :
    GM E (m_X4_visit d) P 137 [.ref 106, vi a1, .ref o2, .ref o3] [vi s0, vi s1, .ref 106] mem := by
  refine G_iadd dX4_visit_137 ?_
  refine G_putI (mem2 := (up2 mem 106 8 (s1 + s0))) dX4_visit_138 fp_4_106 (by decide) sh_106 rfl ?_
  refine G_aload_n dX4_visit_141 rfl ?_
  refine G_dup dX4_visit_142 rfl ?_
  refine G_getI (z := (mem 106 10)) dX4_visit_143 fl_4_112 (by decide) sh_106 (by simp [up2, upr]) ?_
  refine G_aload_n dX4_visit_146 rfl ?_
  refine G_getI (z := ((up2 mem 106 8 (s1 + s0)) o3 17)) dX4_visit_147 fl_4_141 (ltJob0 ho3) (shJob0 ho3) (by simp [up2, upr]) ?_
  refine G_iadd dX4_visit_150 ?_
  refine G_putI (mem2 := (up2 (up2 mem 106 8 (s1 + s0)) 106 10 ((mem 106 10) + ((up2 mem 106 8 (s1 + s0)) o3 17)))) dX4_visit_151 fp_4_112 (by decide) sh_106 rfl ?_
  refine G_iconst (z := 1) dX4_visit_154 rfl ?_
  exact G_zret dX4_visit_155 rfl (nar_zb (by decide)) (Nat.zero_le _) (Nat.zero_le _) (Nat.le_refl _) ⟨rfl, k1⟩
