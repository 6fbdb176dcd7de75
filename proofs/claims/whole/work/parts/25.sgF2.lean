abbrev m_X12_line (d : Nat) : Mu := (cX12_line, 7, RX12, (some .int), ⟨d, 0, 0, 40 * d⟩, "line")
set_option maxRecDepth 20000 in
set_option maxHeartbeats 1000000 in
theorem sg_X12_line_0 {E : Nat × (Nat → Int32)} {d : Nat} {P : Option Value → Mem → Prop} {mem : Mem} {a1 : Int}
    (k1 : GM E (m_X12_line d) P 7 [.ref 169, vi a1, un, un, un, un, un] [vi a1, .ref 169] (up2 mem 169 0 0)) :
    GM E (m_X12_line d) P 0 [.ref 169, vi a1, un, un, un, un, un] [] mem := by
  refine G_aload_n dX12_line_0 rfl ?_
  refine G_iconst (z := 0) dX12_line_1 rfl ?_
  refine G_putI (mem2 := (up2 mem 169 0 0)) dX12_line_2 fp_12_126 (by decide) sh_169 rfl ?_
  refine G_aload_n dX12_line_5 rfl ?_
  refine G_iload_n dX12_line_6 rfl ?_
  exact k1
set_option maxRecDepth 20000 in
set_option maxHeartbeats 1000000 in
theorem sg_X12_line_10 {E : Nat × (Nat → Int32)} {d : Nat} {P : Option Value → Mem → Prop} {mem : Mem} {a1 : Int} {s0 : Int} (w1 : -2147483648 ≤ s0 ∧ s0 < 2147483648)
    (k1 : s0 ≠ 0 → GM E (m_X12_line d) P 17 [.ref 169, vi a1, un, un, un, un, un] [vi a1, .ref 169] mem)
    (k2 : s0 = 0 → P (some (vi (-1))) mem) :
    GM E (m_X12_line d) P 10 [.ref 169, vi a1, un, un, un, un, un] [vi s0] mem := by
  refine G_if_ne (tgt := 15) dX12_line_10 (by decide) (w1) (fun c1 => ?_) (fun c1 => ?_)
  · -- s0 ≠ 0
    refine G_aload_n dX12_line_15 rfl ?_
    refine G_iload_n dX12_line_16 rfl ?_
    exact k1 c1
  · -- s0 = 0
    refine G_iconst (z := (-1)) dX12_line_13 rfl ?_
    exact G_iret dX12_line_14 rfl (Nat.zero_le _) (Nat.zero_le _) (Nat.le_refl _) ⟨rfl, k2 c1⟩
set_option maxRecDepth 20000 in
set_option maxHeartbeats 1000000 in
theorem sg_X12_line_20 {E : Nat × (Nat → Int32)} {d : Nat} {P : Option Value → Mem → Prop} {mem : Mem} {a1 : Int}
    (k1 : GM E (m_X12_line d) P 27 [.ref 169, vi a1, vi 0, un, un, un, un] [] (up2 mem 169 49 0)) :
    GM E (m_X12_line d) P 20 [.ref 169, vi a1, un, un, un, un, un] [] mem := by
  refine G_aload_n dX12_line_20 rfl ?_
  refine G_iconst (z := 0) dX12_line_21 rfl ?_
  refine G_putI (mem2 := (up2 mem 169 49 0)) dX12_line_22 fp_12_406 (by decide) sh_169 rfl ?_
  refine G_iconst (z := 0) dX12_line_25 rfl ?_
  refine G_istore_n dX12_line_26 rfl (by decide : 2 < 7) rfl ?_
  exact k1
set_option maxRecDepth 20000 in
set_option maxHeartbeats 1000000 in
theorem sg_X12_line_27 {E : Nat × (Nat → Int32)} {d : Nat} {P : Option Value → Mem → Prop} {mem : Mem} {a1 : Int} {a2 : Int} (q1 : 0 ≤ a1 ∧ a1 < 6) (w2 : -2147483648 ≤ a2 ∧ a2 < 2147483648) (w3 : -2147483648 ≤ (mem 172 a1) ∧ (mem 172 a1) < 2147483648)
    (k1 : (mem 172 a1) ≤ a2 → GM E (m_X12_line d) P 109 [.ref 169, vi a1, vi (-1), vi (-1), vi (-1), vi 1, vi 0] [] mem)
    (k2 : ¬ (mem 172 a1) ≤ a2 → GM E (m_X12_line d) P 39 [.ref 169, vi a1, vi a2, vi 0, un, un, un] [] mem) :
    GM E (m_X12_line d) P 27 [.ref 169, vi a1, vi a2, un, un, un, un] [] mem := by
  refine G_iload_n dX12_line_27 rfl ?_
  refine G_aload_n dX12_line_28 rfl ?_
  refine G_getR (t := 172) dX12_line_29 fl_12_17 (by decide) sh_169 rr_169_6 ?_
  refine G_iload_n dX12_line_32 rfl ?_
  refine G_iald (z := (mem 172 a1)) dX12_line_33 (by decide) sh_172 (by decide) (q1).1 (q1).2 rfl ?_
  refine G_icmp_ge (tgt := 96) dX12_line_34 (by decide) (w2) (w3) (fun c1 => ?_) (fun c1 => ?_)
  · -- (mem 172 a1) ≤ a2
    refine G_iconst (z := (-1)) dX12_line_96 rfl ?_
    refine G_istore_n dX12_line_97 rfl (by decide : 2 < 7) rfl ?_
    refine G_iconst (z := (-1)) dX12_line_98 rfl ?_
    refine G_istore_n dX12_line_99 rfl (by decide : 3 < 7) rfl ?_
    refine G_iconst (z := (-1)) dX12_line_100 rfl ?_
    refine G_istore dX12_line_101 (by decide : 4 < 7) rfl ?_
    refine G_iconst (z := 1) dX12_line_103 rfl ?_
    refine G_istore dX12_line_104 (by decide : 5 < 7) rfl ?_
    refine G_iconst (z := 0) dX12_line_106 rfl ?_
    refine G_istore dX12_line_107 (by decide : 6 < 7) rfl ?_
    exact k1 c1
  · -- ¬ (mem 172 a1) ≤ a2
    refine G_iconst (z := 0) dX12_line_37 rfl ?_
    refine G_istore_n dX12_line_38 rfl (by decide : 3 < 7) rfl ?_
    exact k2 c1
set_option maxRecDepth 20000 in
set_option maxHeartbeats 1000000 in
theorem sg_X12_line_39 {E : Nat × (Nat → Int32)} {d : Nat} {P : Option Value → Mem → Prop} {mem : Mem} {a1 : Int} {a2 : Int} {a3 : Int} (w1 : -2147483648 ≤ a3 ∧ a3 < 2147483648)
    (k1 : 2 ≤ a3 → GM E (m_X12_line d) P 27 [.ref 169, vi a1, vi (a2 + 1), vi a3, un, un, un] [] mem)
    (k2 : ¬ 2 ≤ a3 → GM E (m_X12_line d) P 51 [.ref 169, vi a1, vi a2, vi a3, un, un, un] [vi a2, vi a3, vi a1, .ref 180] mem) :
    GM E (m_X12_line d) P 39 [.ref 169, vi a1, vi a2, vi a3, un, un, un] [] mem := by
  refine G_iload_n dX12_line_39 rfl ?_
  refine G_iconst (z := 2) dX12_line_40 rfl ?_
  refine G_icmp_ge (tgt := 90) dX12_line_41 (by decide) (w1) (by decide) (fun c1 => ?_) (fun c1 => ?_)
  · -- 2 ≤ a3
    refine G_iinc (z := (a2 + 1)) dX12_line_90 rfl rfl (by decide : 2 < 7) rfl ?_
    refine G_goto (tgt := 27) dX12_line_93 (by decide) ?_
    exact k1 c1
  · -- ¬ 2 ≤ a3
    refine G_aload_n dX12_line_44 rfl ?_
    refine G_getR (t := 180) dX12_line_45 fl_12_42 (by decide) sh_169 rr_169_14 ?_
    refine G_iload_n dX12_line_48 rfl ?_
    refine G_iload_n dX12_line_49 rfl ?_
    refine G_iload_n dX12_line_50 rfl ?_
    exact k2 c1
set_option maxRecDepth 20000 in
set_option maxHeartbeats 1000000 in
theorem sg_X12_line_54 {E : Nat × (Nat → Int32)} {d : Nat} {P : Option Value → Mem → Prop} {mem : Mem} {a1 : Int} {a2 : Int} {a3 : Int} {s0 : Int} (q1 : 0 ≤ s0 ∧ s0 < 99) (w2 : -2147483648 ≤ (mem 180 s0) ∧ (mem 180 s0) < 2147483648)
    (k1 : (mem 180 s0) ≠ 1 → GM E (m_X12_line d) P 39 [.ref 169, vi a1, vi a2, vi (a3 + 1), un, un, un] [] mem)
    (k2 : (mem 180 s0) = 1 → GM E (m_X12_line d) P 70 [.ref 169, vi a1, vi a2, vi a3, un, un, un] [vi a2, vi a3, vi a1, vi (mem 169 49), .ref 194] mem) :
    GM E (m_X12_line d) P 54 [.ref 169, vi a1, vi a2, vi a3, un, un, un] [vi s0, .ref 180] mem := by
  refine G_iald (z := (mem 180 s0)) dX12_line_54 (by decide) sh_180 (by decide) (q1).1 (q1).2 rfl ?_
  refine G_iconst (z := 1) dX12_line_55 rfl ?_
  refine G_icmp_ne (tgt := 84) dX12_line_56 (by decide) (w2) (by decide) (fun c1 => ?_) (fun c1 => ?_)
  · -- (mem 180 s0) ≠ 1
    refine G_iinc (z := (a3 + 1)) dX12_line_84 rfl rfl (by decide : 3 < 7) rfl ?_
    refine G_goto (tgt := 39) dX12_line_87 (by decide) ?_
    exact k1 c1
  · -- (mem 180 s0) = 1
    refine G_aload_n dX12_line_59 rfl ?_
    refine G_getR (t := 194) dX12_line_60 fl_12_84 (by decide) sh_169 rr_169_48 ?_
    refine G_aload_n dX12_line_63 rfl ?_
    refine G_getI (z := (mem 169 49)) dX12_line_64 fl_12_406 (by decide) sh_169 rfl ?_
    refine G_iload_n dX12_line_67 rfl ?_
    refine G_iload_n dX12_line_68 rfl ?_
    refine G_iload_n dX12_line_69 rfl ?_
    exact k2 c1
set_option maxRecDepth 20000 in
set_option maxHeartbeats 1000000 in
theorem sg_X12_line_73 {E : Nat × (Nat → Int32)} {d : Nat} {P : Option Value → Mem → Prop} {mem : Mem} {a1 : Int} {a2 : Int} {a3 : Int} {s0 : Int} {s1 : Int} (q1 : 0 ≤ s1 ∧ s1 < 16)
    (k1 : GM E (m_X12_line d) P 39 [.ref 169, vi a1, vi a2, vi (a3 + 1), un, un, un] [] (up2 (up2 mem 194 s1 s0) 169 49 ((mem 169 49) + 1))) :
    GM E (m_X12_line d) P 73 [.ref 169, vi a1, vi a2, vi a3, un, un, un] [vi s0, vi s1, .ref 194] mem := by
  refine G_iast (mem2 := (up2 mem 194 s1 s0)) dX12_line_73 (by decide) sh_194 (by decide) (q1).1 (q1).2 rfl ?_
  refine G_aload_n dX12_line_74 rfl ?_
  refine G_dup dX12_line_75 rfl ?_
  refine G_getI (z := (mem 169 49)) dX12_line_76 fl_12_406 (by decide) sh_169 (by simp [up2, upr]) ?_
  refine G_iconst (z := 1) dX12_line_79 rfl ?_
  refine G_iadd dX12_line_80 ?_
  refine G_putI (mem2 := (up2 (up2 mem 194 s1 s0) 169 49 ((mem 169 49) + 1))) dX12_line_81 fp_12_406 (by decide) sh_169 rfl ?_
  refine G_iinc (z := (a3 + 1)) dX12_line_84 rfl rfl (by decide : 3 < 7) rfl ?_
  refine G_goto (tgt := 39) dX12_line_87 (by decide) ?_
  exact k1
set_option maxRecDepth 20000 in
set_option maxHeartbeats 1000000 in
theorem sg_X12_line_109 {E : Nat × (Nat → Int32)} {d : Nat} {P : Option Value → Mem → Prop} {mem : Mem} {a1 : Int} {a2 : Int} {a3 : Int} {a4 : Int} {a5 : Int} {a6 : Int} (w1 : -2147483648 ≤ a6 ∧ a6 < 2147483648) (w2 : -2147483648 ≤ (mem 169 49) ∧ (mem 169 49) < 2147483648) (w3 : -2147483648 ≤ a5 ∧ a5 < 2147483648) (w4 : -2147483648 ≤ a3 ∧ a3 < 2147483648)
    (k1 : (mem 169 49) < a6 → a5 = 0 → GM E (m_X12_line d) P 216 [.ref 169, vi a1, vi a2, vi a3, vi a4, vi a5, vi a6] [vl a3, .ref 169] (up2 mem 169 1 0))
    (k2 : (mem 169 49) < a6 → ¬ a5 = 0 → GM E (m_X12_line d) P 216 [.ref 169, vi a1, vi a2, vi a3, vi a4, vi a5, vi a6] [vl (-1), .ref 169] (up2 mem 169 1 0))
    (k3 : ¬ (mem 169 49) < a6 → a5 = 0 → a5 = 0 → GM E (m_X12_line d) P 216 [.ref 169, vi a1, vi a2, vi a3, vi a4, vi a5, vi a6] [vl a3, .ref 169] (up2 mem 169 1 0))
    (k4 : ¬ (mem 169 49) < a6 → a5 = 0 → ¬ a5 = 0 → GM E (m_X12_line d) P 216 [.ref 169, vi a1, vi a2, vi a3, vi a4, vi a5, vi a6] [vl (-1), .ref 169] (up2 mem 169 1 0))
    (k5 : ¬ (mem 169 49) < a6 → ¬ a5 = 0 → GM E (m_X12_line d) P 127 [.ref 169, vi a1, vi a2, vi a3, vi a4, vi a5, vi a6] [vi a6, vi a1, .ref 169] mem) :
    GM E (m_X12_line d) P 109 [.ref 169, vi a1, vi a2, vi a3, vi a4, vi a5, vi a6] [] mem := by
  refine G_iload dX12_line_109 rfl ?_
  refine G_aload_n dX12_line_111 rfl ?_
  refine G_getI (z := (mem 169 49)) dX12_line_112 fl_12_406 (by decide) sh_169 rfl ?_
  refine G_icmp_gt (tgt := 197) dX12_line_115 (by decide) (w1) (w2) (fun c1 => ?_) (fun c1 => ?_)
  · -- (mem 169 49) < a6
    refine G_aload_n dX12_line_197 rfl ?_
    refine G_iconst (z := 0) dX12_line_198 rfl ?_
    refine G_putI (mem2 := (up2 mem 169 1 0)) dX12_line_199 fp_12_134 (by decide) sh_169 rfl ?_
    refine G_aload_n dX12_line_202 rfl ?_
    refine G_iload dX12_line_203 rfl ?_
    refine G_if_eq (tgt := 214) dX12_line_205 (by decide) (w3) (fun c2 => ?_) (fun c2 => ?_)
    · -- a5 = 0
      refine G_iload_n dX12_line_214 rfl ?_
      refine G_i2l dX12_line_215 (w4) ?_
      exact k1 c1 c2
    · -- ¬ a5 = 0
      refine G_ldc2 (z := (-1)) dX12_line_208 kc_12_412 ?_
      refine G_goto (tgt := 216) dX12_line_211 (by decide) ?_
      exact k2 c1 c2
  · -- ¬ (mem 169 49) < a6
    refine G_iload dX12_line_118 rfl ?_
    refine G_if_eq (tgt := 197) dX12_line_120 (by decide) (w3) (fun c3 => ?_) (fun c3 => ?_)
    · -- a5 = 0
      refine G_aload_n dX12_line_197 rfl ?_
      refine G_iconst (z := 0) dX12_line_198 rfl ?_
      refine G_putI (mem2 := (up2 mem 169 1 0)) dX12_line_199 fp_12_134 (by decide) sh_169 rfl ?_
      refine G_aload_n dX12_line_202 rfl ?_
      refine G_iload dX12_line_203 rfl ?_
      refine G_if_eq (tgt := 214) dX12_line_205 (by decide) (w3) (fun c4 => ?_) (fun c4 => ?_)
      · -- a5 = 0
        refine G_iload_n dX12_line_214 rfl ?_
        refine G_i2l dX12_line_215 (w4) ?_
        exact k3 c1 c3 c4
      · -- ¬ a5 = 0
        refine G_ldc2 (z := (-1)) dX12_line_208 kc_12_412 ?_
        refine G_goto (tgt := 216) dX12_line_211 (by decide) ?_
        exact k4 c1 c3 c4
    · -- ¬ a5 = 0
      refine G_aload_n dX12_line_123 rfl ?_
      refine G_iload_n dX12_line_124 rfl ?_
      refine G_iload dX12_line_125 rfl ?_
      exact k5 c1 c3
set_option maxRecDepth 20000 in
set_option maxHeartbeats 1000000 in
theorem sg_X12_line_130 {E : Nat × (Nat → Int32)} {d : Nat} {P : Option Value → Mem → Prop} {mem : Mem} {a1 : Int} {a2 : Int} {a3 : Int} {a4 : Int} {a5 : Int} {a6 : Int}
    (k1 : GM E (m_X12_line d) P 137 [.ref 169, vi a1, vi a2, vi a3, vi a4, vi a5, vi a6] [vi 2, vi a1, .ref 181, .ref 169] mem) :
    GM E (m_X12_line d) P 130 [.ref 169, vi a1, vi a2, vi a3, vi a4, vi a5, vi a6] [] mem := by
  refine G_aload_n dX12_line_130 rfl ?_
  refine G_aload_n dX12_line_131 rfl ?_
  refine G_getR (t := 181) dX12_line_132 fl_12_45 (by decide) sh_169 rr_169_15 ?_
  refine G_iload_n dX12_line_135 rfl ?_
  refine G_iconst (z := 2) dX12_line_136 rfl ?_
  exact k1
set_option maxRecDepth 20000 in
set_option maxHeartbeats 1000000 in
theorem sg_X12_line_140 {E : Nat × (Nat → Int32)} {d : Nat} {P : Option Value → Mem → Prop} {mem : Mem} {a1 : Int} {a2 : Int} {a3 : Int} {a4 : Int} {a5 : Int} {a6 : Int} {s0 : Int}
    (k1 : GM E (m_X12_line d) P 148 [.ref 169, vi a1, vi s0, vi a3, vi a4, vi a5, vi a6] [vi 0, vi a1, .ref 181, .ref 169] mem) :
    GM E (m_X12_line d) P 140 [.ref 169, vi a1, vi a2, vi a3, vi a4, vi a5, vi a6] [vi s0] mem := by
  refine G_istore_n dX12_line_140 rfl (by decide : 2 < 7) rfl ?_
  refine G_aload_n dX12_line_141 rfl ?_
  refine G_aload_n dX12_line_142 rfl ?_
  refine G_getR (t := 181) dX12_line_143 fl_12_45 (by decide) sh_169 rr_169_15 ?_
  refine G_iload_n dX12_line_146 rfl ?_
  refine G_iconst (z := 0) dX12_line_147 rfl ?_
  exact k1
set_option maxRecDepth 20000 in
set_option maxHeartbeats 1000000 in
theorem sg_X12_line_151 {E : Nat × (Nat → Int32)} {d : Nat} {P : Option Value → Mem → Prop} {mem : Mem} {a1 : Int} {a2 : Int} {a3 : Int} {a4 : Int} {a5 : Int} {a6 : Int} {s0 : Int}
    (k1 : GM E (m_X12_line d) P 158 [.ref 169, vi a1, vi a2, vi a3, vi a4, vi a5, vi a6] [vi 1, vi a1, .ref 181, .ref 169, vi s0] mem) :
    GM E (m_X12_line d) P 151 [.ref 169, vi a1, vi a2, vi a3, vi a4, vi a5, vi a6] [vi s0] mem := by
  refine G_aload_n dX12_line_151 rfl ?_
  refine G_aload_n dX12_line_152 rfl ?_
  refine G_getR (t := 181) dX12_line_153 fl_12_45 (by decide) sh_169 rr_169_15 ?_
  refine G_iload_n dX12_line_156 rfl ?_
  refine G_iconst (z := 1) dX12_line_157 rfl ?_
  exact k1
set_option maxRecDepth 20000 in
set_option maxHeartbeats 1000000 in
theorem sg_X12_line_161 {E : Nat × (Nat → Int32)} {d : Nat} (hd : 1 ≤ d) {P : Option Value → Mem → Prop} {mem : Mem} {a1 : Int} {a2 : Int} {a3 : Int} {a4 : Int} {a5 : Int} {a6 : Int} {s0 : Int} {s1 : Int} (w1 : -2147483648 ≤ s1 ∧ s1 < 2147483648) (w2 : -2147483648 ≤ s0 ∧ s0 < 2147483648) (w3 : -2147483648 ≤ a2 ∧ a2 < 2147483648) (w4 : -2147483648 ≤ (min s1 s0) ∧ (min s1 s0) < 2147483648)
    (k1 : (min s1 s0) < a2 → GM E (m_X12_line d) P 109 [.ref 169, vi a1, vi a2, vi (min s1 s0), vi a4, vi 0, vi (a6 + 1)] [] mem)
    (k2 : ¬ (min s1 s0) < a2 → GM E (m_X12_line d) P 109 [.ref 169, vi a1, vi a2, vi (min s1 s0), vi a6, vi 1, vi (a6 + 1)] [] mem) :
    GM E (m_X12_line d) P 161 [.ref 169, vi a1, vi a2, vi a3, vi a4, vi a5, vi a6] [vi s0, vi s1] mem := by
  refine G_min (z := (min s1 s0)) dX12_line_161 ml_12_157 mw_min (w1) (w2) ⟨by show 1 ≤ d; omega, by show 21 ≤ 40 * d; omega, Nat.zero_le _, Nat.zero_le _⟩ (Nat.le_of_ble_eq_true rfl) rfl ?_
  refine G_istore_n dX12_line_164 rfl (by decide : 3 < 7) rfl ?_
  refine G_iload_n dX12_line_165 rfl ?_
  refine G_iload_n dX12_line_166 rfl ?_
  refine G_icmp_gt (tgt := 174) dX12_line_167 (by decide) (w3) (w4) (fun c1 => ?_) (fun c1 => ?_)
  · -- (min s1 s0) < a2
    refine G_iconst (z := 0) dX12_line_174 rfl ?_
    refine G_istore dX12_line_175 (by decide : 5 < 7) rfl ?_
    refine G_iload dX12_line_177 rfl ?_
    refine G_if_eq (tgt := 187) dX12_line_179 (by decide) (by decide) (fun _ => ?_) (fun h => absurd h (by decide))
    refine G_iload dX12_line_187 rfl ?_
    refine G_istore dX12_line_189 (by decide : 4 < 7) rfl ?_
    refine G_iinc (z := (a6 + 1)) dX12_line_191 rfl rfl (by decide : 6 < 7) rfl ?_
    refine G_goto (tgt := 109) dX12_line_194 (by decide) ?_
    exact k1 c1
  · -- ¬ (min s1 s0) < a2
    refine G_iconst (z := 1) dX12_line_170 rfl ?_
    refine G_goto (tgt := 175) dX12_line_171 (by decide) ?_
    refine G_istore dX12_line_175 (by decide : 5 < 7) rfl ?_
    refine G_iload dX12_line_177 rfl ?_
    refine G_if_eq (tgt := 187) dX12_line_179 (by decide) (by decide) (fun h => absurd h (by decide)) (fun _ => ?_)
    refine G_iload dX12_line_182 rfl ?_
    refine G_goto (tgt := 189) dX12_line_184 (by decide) ?_
    refine G_istore dX12_line_189 (by decide : 4 < 7) rfl ?_
    refine G_iinc (z := (a6 + 1)) dX12_line_191 rfl rfl (by decide : 6 < 7) rfl ?_
    refine G_goto (tgt := 109) dX12_line_194 (by decide) ?_
    exact k2 c1
set_option maxRecDepth 20000 in
set_option maxHeartbeats 1000000 in
theorem sg_X12_line_219 {E : Nat × (Nat → Int32)} {d : Nat} {P : Option Value → Mem → Prop} {mem : Mem} {a1 : Int} {a2 : Int} {a3 : Int} {a4 : Int} {a5 : Int} {a6 : Int} (w1 : -2147483648 ≤ a5 ∧ a5 < 2147483648) (w2 : -2147483648 ≤ a2 ∧ a2 < 2147483648)
    (k1 : a5 = 0 → GM E (m_X12_line d) P 233 [.ref 169, vi a1, vi a2, vi a3, vi a4, vi a5, vi a6] [vl a2, .ref 169] mem)
    (k2 : ¬ a5 = 0 → GM E (m_X12_line d) P 233 [.ref 169, vi a1, vi a2, vi a3, vi a4, vi a5, vi a6] [vl (-1), .ref 169] mem) :
    GM E (m_X12_line d) P 219 [.ref 169, vi a1, vi a2, vi a3, vi a4, vi a5, vi a6] [] mem := by
  refine G_aload_n dX12_line_219 rfl ?_
  refine G_iload dX12_line_220 rfl ?_
  refine G_if_eq (tgt := 231) dX12_line_222 (by decide) (w1) (fun c1 => ?_) (fun c1 => ?_)
  · -- a5 = 0
    refine G_iload_n dX12_line_231 rfl ?_
    refine G_i2l dX12_line_232 (w2) ?_
    exact k1 c1
  · -- ¬ a5 = 0
    refine G_ldc2 (z := (-1)) dX12_line_225 kc_12_412 ?_
    refine G_goto (tgt := 233) dX12_line_228 (by decide) ?_
    exact k2 c1
set_option maxRecDepth 20000 in
set_option maxHeartbeats 1000000 in
theorem sg_X12_line_236 {E : Nat × (Nat → Int32)} {d : Nat} {P : Option Value → Mem → Prop} {mem : Mem} {a1 : Int} {a2 : Int} {a3 : Int} {a4 : Int} {a5 : Int} {a6 : Int}
    (k1 : P (some (vi a4)) mem) :
    GM E (m_X12_line d) P 236 [.ref 169, vi a1, vi a2, vi a3, vi a4, vi a5, vi a6] [] mem := by
  refine G_iload dX12_line_236 rfl ?_
  exact G_iret dX12_line_238 rfl (Nat.zero_le _) (Nat.zero_le _) (Nat.le_refl _) ⟨rfl, k1⟩
abbrev m_X12_most (d : Nat) : Mu := (cX12_most, 6, RX12, (some .int), ⟨d, 0, 0, 40 * d⟩, "most")
set_option maxRecDepth 20000 in
set_option maxHeartbeats 1000000 in
theorem sg_X12_most_0 {E : Nat × (Nat → Int32)} {d : Nat} {P : Option Value → Mem → Prop} {mem : Mem} {a1 : Int} {a2 : Int} (w1 : -2147483648 ≤ a1 ∧ a1 < 2147483648)
    (k1 : GM E (m_X12_most d) P 9 [.ref 169, vi a1, vi a2, un, un, un] [.ref 169, vl 0, vl a1] (up2 mem 169 0 0)) :
    GM E (m_X12_most d) P 0 [.ref 169, vi a1, vi a2, un, un, un] [] mem := by
  refine G_aload_n dX12_most_0 rfl ?_
  refine G_iconst (z := 0) dX12_most_1 rfl ?_
  refine G_putI (mem2 := (up2 mem 169 0 0)) dX12_most_2 fp_12_126 (by decide) sh_169 rfl ?_
  refine G_iload_n dX12_most_5 rfl ?_
  refine G_i2l dX12_most_6 (w1) ?_
  refine G_lconst (z := 0) dX12_most_7 rfl ?_
  refine G_aload_n dX12_most_8 rfl ?_
  exact k1
set_option maxRecDepth 20000 in
set_option maxHeartbeats 1000000 in
theorem sg_X12_most_12 {E : Nat × (Nat → Int32)} {d : Nat} {P : Option Value → Mem → Prop} {mem : Mem} {a1 : Int} {a2 : Int} {s0 : Int} {s1 : Int} {s2 : Int} (w1 : -2147483648 ≤ s0 ∧ s0 < 2147483648)
    (k1 : GM E (m_X12_most d) P 13 [.ref 169, vi a1, vi a2, un, un, un] [vl s0, vl s1, vl s2] mem) :
    GM E (m_X12_most d) P 12 [.ref 169, vi a1, vi a2, un, un, un] [vi s0, vl s1, vl s2] mem := by
  refine G_i2l dX12_most_12 (w1) ?_
  exact k1
set_option maxRecDepth 20000 in
set_option maxHeartbeats 1000000 in
theorem sg_X12_most_16 {E : Nat × (Nat → Int32)} {d : Nat} {P : Option Value → Mem → Prop} {mem : Mem} {a1 : Int} {a2 : Int} {s0 : Int} (w1 : -2147483648 ≤ s0 ∧ s0 < 2147483648) (w2 : -2147483648 ≤ a2 ∧ a2 < 2147483648)
    (k1 : s0 = 0 → P (some (vi (-1))) mem)
    (k2 : ¬ s0 = 0 → GM E (m_X12_most d) P 25 [.ref 169, vi a1, vi a2, un, un, un] [vl 99999, vl 0, vl a2] mem) :
    GM E (m_X12_most d) P 16 [.ref 169, vi a1, vi a2, un, un, un] [vi s0] mem := by
  refine G_if_eq (tgt := 31) dX12_most_16 (by decide) (w1) (fun c1 => ?_) (fun c1 => ?_)
  · -- s0 = 0
    refine G_iconst (z := (-1)) dX12_most_31 rfl ?_
    exact G_iret dX12_most_32 rfl (Nat.zero_le _) (Nat.zero_le _) (Nat.le_refl _) ⟨rfl, k1 c1⟩
  · -- ¬ s0 = 0
    refine G_iload_n dX12_most_19 rfl ?_
    refine G_i2l dX12_most_20 (w2) ?_
    refine G_lconst (z := 0) dX12_most_21 rfl ?_
    refine G_ldc2 (z := 99999) dX12_most_22 kc_12_449 ?_
    exact k2 c1
set_option maxRecDepth 20000 in
set_option maxHeartbeats 1000000 in
theorem sg_X12_most_28 {E : Nat × (Nat → Int32)} {d : Nat} {P : Option Value → Mem → Prop} {mem : Mem} {a1 : Int} {a2 : Int} {s0 : Int} (w1 : -2147483648 ≤ s0 ∧ s0 < 2147483648)
    (k1 : s0 ≠ 0 → GM E (m_X12_most d) P 38 [.ref 169, vi a1, vi a2, vi 0, vi 1, un] [] mem)
    (k2 : s0 = 0 → P (some (vi (-1))) mem) :
    GM E (m_X12_most d) P 28 [.ref 169, vi a1, vi a2, un, un, un] [vi s0] mem := by
  refine G_if_ne (tgt := 33) dX12_most_28 (by decide) (w1) (fun c1 => ?_) (fun c1 => ?_)
  · -- s0 ≠ 0
    refine G_iconst (z := 0) dX12_most_33 rfl ?_
    refine G_istore_n dX12_most_34 rfl (by decide : 3 < 6) rfl ?_
    refine G_iconst (z := 1) dX12_most_35 rfl ?_
    refine G_istore dX12_most_36 (by decide : 4 < 6) rfl ?_
    exact k1 c1
  · -- s0 = 0
    refine G_iconst (z := (-1)) dX12_most_31 rfl ?_
    exact G_iret dX12_most_32 rfl (Nat.zero_le _) (Nat.zero_le _) (Nat.le_refl _) ⟨rfl, k2 c1⟩
set_option maxRecDepth 20000 in
set_option maxHeartbeats 1000000 in
theorem sg_X12_most_38 {E : Nat × (Nat → Int32)} {d : Nat} {P : Option Value → Mem → Prop} {mem : Mem} {a1 : Int} {a2 : Int} {a3 : Int} {a4 : Int} (w1 : -2147483648 ≤ a4 ∧ a4 < 2147483648) (w2 : -2147483648 ≤ a1 ∧ a1 < 2147483648) (w3 : -2147483648 ≤ a3 ∧ a3 < 2147483648)
    (k1 : a1 < a4 → GM E (m_X12_most d) P 113 [.ref 169, vi a1, vi a2, vi a3, vi a4, un] [vl a3, .ref 169] (up2 mem 169 1 0))
    (k2 : ¬ a1 < a4 → (bandI a4 (bxorI a1 (-1))) ≠ 0 → GM E (m_X12_most d) P 38 [.ref 169, vi a1, vi a2, vi a3, vi (a4 + 1), un] [] mem)
    (k3 : ¬ a1 < a4 → (bandI a4 (bxorI a1 (-1))) = 0 → GM E (m_X12_most d) P 55 [.ref 169, vi a1, vi a2, vi a3, vi a4, un] [vi a4] mem) :
    GM E (m_X12_most d) P 38 [.ref 169, vi a1, vi a2, vi a3, vi a4, un] [] mem := by
  refine G_iload dX12_most_38 rfl ?_
  refine G_iload_n dX12_most_40 rfl ?_
  refine G_icmp_gt (tgt := 105) dX12_most_41 (by decide) (w1) (w2) (fun c1 => ?_) (fun c1 => ?_)
  · -- a1 < a4
    refine G_aload_n dX12_most_105 rfl ?_
    refine G_iconst (z := 0) dX12_most_106 rfl ?_
    refine G_putI (mem2 := (up2 mem 169 1 0)) dX12_most_107 fp_12_134 (by decide) sh_169 rfl ?_
    refine G_aload_n dX12_most_110 rfl ?_
    refine G_iload_n dX12_most_111 rfl ?_
    refine G_i2l dX12_most_112 (w3) ?_
    exact k1 c1
  · -- ¬ a1 < a4
    refine G_iload dX12_most_44 rfl ?_
    refine G_iload_n dX12_most_46 rfl ?_
    refine G_iconst (z := (-1)) dX12_most_47 rfl ?_
    refine G_ixor (z := (bxorI a1 (-1))) dX12_most_48 (iI_inv _) ?_
    refine G_iand (z := (bandI a4 (bxorI a1 (-1)))) dX12_most_49 (iI_inv _) ?_
    refine G_if_ne (tgt := 99) dX12_most_50 (by decide) (iI_rng _) (fun c2 => ?_) (fun c2 => ?_)
    · -- (bandI a4 (bxorI a1 (-1))) ≠ 0
      refine G_iinc (z := (a4 + 1)) dX12_most_99 rfl rfl (by decide : 4 < 6) rfl ?_
      refine G_goto (tgt := 38) dX12_most_102 (by decide) ?_
      exact k2 c1 c2
    · -- (bandI a4 (bxorI a1 (-1))) = 0
      refine G_iload dX12_most_53 rfl ?_
      exact k3 c1 c2
set_option maxRecDepth 20000 in
set_option maxHeartbeats 1000000 in
theorem sg_X12_most_58 {E : Nat × (Nat → Int32)} {d : Nat} {P : Option Value → Mem → Prop} {mem : Mem} {a1 : Int} {a2 : Int} {a3 : Int} {a4 : Int} {s0 : Int}
    (k1 : GM E (m_X12_most d) P 59 [.ref 169, vi a1, vi a2, vi a3, vi a4, un] [vi a3, vi s0] mem) :
    GM E (m_X12_most d) P 58 [.ref 169, vi a1, vi a2, vi a3, vi a4, un] [vi s0] mem := by
  refine G_iload_n dX12_most_58 rfl ?_
  exact k1
set_option maxRecDepth 20000 in
set_option maxHeartbeats 1000000 in
theorem sg_X12_most_62 {E : Nat × (Nat → Int32)} {d : Nat} {P : Option Value → Mem → Prop} {mem : Mem} {a1 : Int} {a2 : Int} {a3 : Int} {a4 : Int} {s0 : Int} {s1 : Int} (w1 : -2147483648 ≤ s1 ∧ s1 < 2147483648) (w2 : -2147483648 ≤ s0 ∧ s0 < 2147483648)
    (k1 : s1 ≤ s0 → GM E (m_X12_most d) P 38 [.ref 169, vi a1, vi a2, vi a3, vi (a4 + 1), un] [] mem)
    (k2 : ¬ s1 ≤ s0 → GM E (m_X12_most d) P 68 [.ref 169, vi a1, vi a2, vi a3, vi a4, un] [vi a4, .ref 169] mem) :
    GM E (m_X12_most d) P 62 [.ref 169, vi a1, vi a2, vi a3, vi a4, un] [vi s0, vi s1] mem := by
  refine G_icmp_le (tgt := 99) dX12_most_62 (by decide) (w1) (w2) (fun c1 => ?_) (fun c1 => ?_)
  · -- s1 ≤ s0
    refine G_iinc (z := (a4 + 1)) dX12_most_99 rfl rfl (by decide : 4 < 6) rfl ?_
    refine G_goto (tgt := 38) dX12_most_102 (by decide) ?_
    exact k1 c1
  · -- ¬ s1 ≤ s0
    refine G_aload_n dX12_most_65 rfl ?_
    refine G_iload dX12_most_66 rfl ?_
    exact k2 c1
set_option maxRecDepth 20000 in
set_option maxHeartbeats 1000000 in
theorem sg_X12_most_71 {E : Nat × (Nat → Int32)} {d : Nat} {P : Option Value → Mem → Prop} {mem : Mem} {a1 : Int} {a2 : Int} {a3 : Int} {a4 : Int} {s0 : Int} (w1 : -2147483648 ≤ s0 ∧ s0 < 2147483648) (w2 : ¬ s0 < 0 → -2147483648 ≤ ((mem 180 98) + s0) ∧ ((mem 180 98) + s0) < 2147483648) (w3 : -2147483648 ≤ a2 ∧ a2 < 2147483648)
    (k1 : s0 < 0 → GM E (m_X12_most d) P 38 [.ref 169, vi a1, vi a2, vi a3, vi (a4 + 1), vi s0] [] mem)
    (k2 : ¬ s0 < 0 → a2 < ((mem 180 98) + s0) → GM E (m_X12_most d) P 38 [.ref 169, vi a1, vi a2, vi a3, vi (a4 + 1), vi s0] [] mem)
    (k3 : ¬ s0 < 0 → ¬ a2 < ((mem 180 98) + s0) → GM E (m_X12_most d) P 38 [.ref 169, vi a1, vi a2, vi a4, vi (a4 + 1), vi s0] [] mem) :
    GM E (m_X12_most d) P 71 [.ref 169, vi a1, vi a2, vi a3, vi a4, un] [vi s0] mem := by
  refine G_istore dX12_most_71 (by decide : 5 < 6) rfl ?_
  refine G_iload dX12_most_73 rfl ?_
  refine G_if_lt (tgt := 97) dX12_most_75 (by decide) (w1) (fun c1 => ?_) (fun c1 => ?_)
  · -- s0 < 0
    refine G_iload_n dX12_most_97 rfl ?_
    refine G_istore_n dX12_most_98 rfl (by decide : 3 < 6) rfl ?_
    refine G_iinc (z := (a4 + 1)) dX12_most_99 rfl rfl (by decide : 4 < 6) rfl ?_
    refine G_goto (tgt := 38) dX12_most_102 (by decide) ?_
    exact k1 c1
  · -- ¬ s0 < 0
    refine G_aload_n dX12_most_78 rfl ?_
    refine G_getR (t := 180) dX12_most_79 fl_12_42 (by decide) sh_169 rr_169_14 ?_
    refine G_bipush (z := 98) dX12_most_82 rfl ?_
    refine G_iald (z := (mem 180 98)) dX12_most_84 (by decide) sh_180 (by decide) (by decide) (by decide) rfl ?_
    refine G_iload dX12_most_85 rfl ?_
    refine G_iadd dX12_most_87 ?_
    refine G_iload_n dX12_most_88 rfl ?_
    refine G_icmp_gt (tgt := 97) dX12_most_89 (by decide) (w2 c1) (w3) (fun c2 => ?_) (fun c2 => ?_)
    · -- a2 < ((mem 180 98) + s0)
      refine G_iload_n dX12_most_97 rfl ?_
      refine G_istore_n dX12_most_98 rfl (by decide : 3 < 6) rfl ?_
      refine G_iinc (z := (a4 + 1)) dX12_most_99 rfl rfl (by decide : 4 < 6) rfl ?_
      refine G_goto (tgt := 38) dX12_most_102 (by decide) ?_
      exact k2 c1 c2
    · -- ¬ a2 < ((mem 180 98) + s0)
      refine G_iload dX12_most_92 rfl ?_
      refine G_goto (tgt := 98) dX12_most_94 (by decide) ?_
      refine G_istore_n dX12_most_98 rfl (by decide : 3 < 6) rfl ?_
      refine G_iinc (z := (a4 + 1)) dX12_most_99 rfl rfl (by decide : 4 < 6) rfl ?_
      refine G_goto (tgt := 38) dX12_most_102 (by decide) ?_
      exact k3 c1 c2
set_option maxRecDepth 20000 in
set_option maxHeartbeats 1000000 in
theorem sg_X12_most_116 {E : Nat × (Nat → Int32)} {d : Nat} {P : Option Value → Mem → Prop} {mem : Mem} {a1 : Int} {a2 : Int} {a3 : Int} {a4 : Int}
    (k1 : GM E (m_X12_most d) P 117 [.ref 169, vi a1, vi a2, vi a3, vi a4, un] [vi a3] mem) :
    GM E (m_X12_most d) P 116 [.ref 169, vi a1, vi a2, vi a3, vi a4, un] [] mem := by
  refine G_iload_n dX12_most_116 rfl ?_
  exact k1
set_option maxRecDepth 20000 in
set_option maxHeartbeats 1000000 in
theorem sg_X12_most_120 {E : Nat × (Nat → Int32)} {d : Nat} {P : Option Value → Mem → Prop} {mem : Mem} {a1 : Int} {a2 : Int} {a3 : Int} {a4 : Int} {s0 : Int}
    (k1 : P (some (vi s0)) mem) :
    GM E (m_X12_most d) P 120 [.ref 169, vi a1, vi a2, vi a3, vi a4, un] [vi s0] mem := by
  exact G_iret dX12_most_120 rfl (Nat.zero_le _) (Nat.zero_le _) (Nat.le_refl _) ⟨rfl, k1⟩
abbrev m_X12_movesFrom (d : Nat) : Mu := (cX12_movesFrom, 7, RX12, none, ⟨d, 0, 0, 40 * d⟩, "movesFrom")
set_option maxRecDepth 20000 in
set_option maxHeartbeats 1000000 in
theorem sg_X12_movesFrom_0 {E : Nat × (Nat → Int32)} {d : Nat} {P : Option Value → Mem → Prop} {mem : Mem} {a1 : Int} {a2 : Int} {a3 : Int} {a4 : Int} {a5 : Int} (w1 : -2147483648 ≤ a4 ∧ a4 < 2147483648) (w2 : -2147483648 ≤ (mem 169 60) ∧ (mem 169 60) < 2147483648) (w3 : -2147483648 ≤ a1 ∧ a1 < 2147483648) (w4 : ¬ (mem 169 60) < a4 → a4 ≠ (mem 169 60) → -2147483648 ≤ (mem 169 59) ∧ (mem 169 59) < 2147483648) (w5 : ¬ (mem 169 60) < a4 → a4 = (mem 169 60) → -2147483648 ≤ (mem 169 59) ∧ (mem 169 59) < 2147483648) (w6 : -2147483648 ≤ a5 ∧ a5 < 2147483648) (w7 : ¬ (mem 169 60) < a4 → a4 = (mem 169 60) → a1 = (mem 169 59) → -2147483648 ≤ (mem 169 61) ∧ (mem 169 61) < 2147483648)
    (k1 : (mem 169 60) < a4 → P none mem)
    (k2 : ¬ (mem 169 60) < a4 → a4 ≠ (mem 169 60) → a1 ≠ (mem 169 59) → GM E (m_X12_movesFrom d) P 91 [.ref 169, vi a1, vi a2, vi a3, vi a4, vi a5, vi (a2 + 1)] [] mem)
    (k3 : ¬ (mem 169 60) < a4 → a4 ≠ (mem 169 60) → a1 = (mem 169 59) → GM E (m_X12_movesFrom d) P 59 [.ref 169, vi a1, vi a2, vi a3, vi a4, vi a5, vi 0] [] (up2 (up2 mem 169 60 a4) 169 61 a5))
    (k4 : ¬ (mem 169 60) < a4 → a4 = (mem 169 60) → a1 ≠ (mem 169 59) → a1 ≠ (mem 169 59) → GM E (m_X12_movesFrom d) P 91 [.ref 169, vi a1, vi a2, vi a3, vi a4, vi a5, vi (a2 + 1)] [] mem)
    (k5 : ¬ (mem 169 60) < a4 → a4 = (mem 169 60) → a1 ≠ (mem 169 59) → a1 = (mem 169 59) → GM E (m_X12_movesFrom d) P 59 [.ref 169, vi a1, vi a2, vi a3, vi a4, vi a5, vi 0] [] (up2 (up2 mem 169 60 a4) 169 61 a5))
    (k6 : ¬ (mem 169 60) < a4 → a4 = (mem 169 60) → a1 = (mem 169 59) → a5 < (mem 169 61) → a1 ≠ (mem 169 59) → GM E (m_X12_movesFrom d) P 91 [.ref 169, vi a1, vi a2, vi a3, vi a4, vi a5, vi (a2 + 1)] [] mem)
    (k7 : ¬ (mem 169 60) < a4 → a4 = (mem 169 60) → a1 = (mem 169 59) → a5 < (mem 169 61) → a1 = (mem 169 59) → GM E (m_X12_movesFrom d) P 59 [.ref 169, vi a1, vi a2, vi a3, vi a4, vi a5, vi 0] [] (up2 (up2 mem 169 60 a4) 169 61 a5))
    (k8 : ¬ (mem 169 60) < a4 → a4 = (mem 169 60) → a1 = (mem 169 59) → ¬ a5 < (mem 169 61) → P none mem) :
    GM E (m_X12_movesFrom d) P 0 [.ref 169, vi a1, vi a2, vi a3, vi a4, vi a5, un] [] mem := by
  refine G_iload dX12_movesFrom_0 rfl ?_
  refine G_aload_n dX12_movesFrom_2 rfl ?_
  refine G_getI (z := (mem 169 60)) dX12_movesFrom_3 fl_12_454 (by decide) sh_169 rfl ?_
  refine G_icmp_gt (tgt := 35) dX12_movesFrom_6 (by decide) (w1) (w2) (fun c1 => ?_) (fun c1 => ?_)
  · -- (mem 169 60) < a4
    exact G_vret dX12_movesFrom_35 rfl (Nat.zero_le _) (Nat.zero_le _) (Nat.le_refl _) ⟨rfl, k1 c1⟩
  · -- ¬ (mem 169 60) < a4
    refine G_iload dX12_movesFrom_9 rfl ?_
    refine G_aload_n dX12_movesFrom_11 rfl ?_
    refine G_getI (z := (mem 169 60)) dX12_movesFrom_12 fl_12_454 (by decide) sh_169 rfl ?_
    refine G_icmp_ne (tgt := 36) dX12_movesFrom_15 (by decide) (w1) (w2) (fun c2 => ?_) (fun c2 => ?_)
    · -- a4 ≠ (mem 169 60)
      refine G_iload_n dX12_movesFrom_36 rfl ?_
      refine G_aload_n dX12_movesFrom_37 rfl ?_
      refine G_getI (z := (mem 169 59)) dX12_movesFrom_38 fl_12_457 (by decide) sh_169 rfl ?_
      refine G_icmp_ne (tgt := 86) dX12_movesFrom_41 (by decide) (w3) (w4 c1 c2) (fun c3 => ?_) (fun c3 => ?_)
      · -- a1 ≠ (mem 169 59)
        refine G_iload_n dX12_movesFrom_86 rfl ?_
        refine G_iconst (z := 1) dX12_movesFrom_87 rfl ?_
        refine G_iadd dX12_movesFrom_88 ?_
        refine G_istore dX12_movesFrom_89 (by decide : 6 < 7) rfl ?_
        exact k2 c1 c2 c3
      · -- a1 = (mem 169 59)
        refine G_aload_n dX12_movesFrom_44 rfl ?_
        refine G_iload dX12_movesFrom_45 rfl ?_
        refine G_putI (mem2 := (up2 mem 169 60 a4)) dX12_movesFrom_47 fp_12_454 (by decide) sh_169 rfl ?_
        refine G_aload_n dX12_movesFrom_50 rfl ?_
        refine G_iload dX12_movesFrom_51 rfl ?_
        refine G_putI (mem2 := (up2 (up2 mem 169 60 a4) 169 61 a5)) dX12_movesFrom_53 fp_12_460 (by decide) sh_169 rfl ?_
        refine G_iconst (z := 0) dX12_movesFrom_56 rfl ?_
        refine G_istore dX12_movesFrom_57 (by decide : 6 < 7) rfl ?_
        exact k3 c1 c2 c3
    · -- a4 = (mem 169 60)
      refine G_iload_n dX12_movesFrom_18 rfl ?_
      refine G_aload_n dX12_movesFrom_19 rfl ?_
      refine G_getI (z := (mem 169 59)) dX12_movesFrom_20 fl_12_457 (by decide) sh_169 rfl ?_
      refine G_icmp_ne (tgt := 36) dX12_movesFrom_23 (by decide) (w3) (w5 c1 c2) (fun c4 => ?_) (fun c4 => ?_)
      · -- a1 ≠ (mem 169 59)
        refine G_iload_n dX12_movesFrom_36 rfl ?_
        refine G_aload_n dX12_movesFrom_37 rfl ?_
        refine G_getI (z := (mem 169 59)) dX12_movesFrom_38 fl_12_457 (by decide) sh_169 rfl ?_
        refine G_icmp_ne (tgt := 86) dX12_movesFrom_41 (by decide) (w3) (w5 c1 c2) (fun c5 => ?_) (fun c5 => ?_)
        · -- a1 ≠ (mem 169 59)
          refine G_iload_n dX12_movesFrom_86 rfl ?_
          refine G_iconst (z := 1) dX12_movesFrom_87 rfl ?_
          refine G_iadd dX12_movesFrom_88 ?_
          refine G_istore dX12_movesFrom_89 (by decide : 6 < 7) rfl ?_
          exact k4 c1 c2 c4 c5
        · -- a1 = (mem 169 59)
          refine G_aload_n dX12_movesFrom_44 rfl ?_
          refine G_iload dX12_movesFrom_45 rfl ?_
          refine G_putI (mem2 := (up2 mem 169 60 a4)) dX12_movesFrom_47 fp_12_454 (by decide) sh_169 rfl ?_
          refine G_aload_n dX12_movesFrom_50 rfl ?_
          refine G_iload dX12_movesFrom_51 rfl ?_
          refine G_putI (mem2 := (up2 (up2 mem 169 60 a4) 169 61 a5)) dX12_movesFrom_53 fp_12_460 (by decide) sh_169 rfl ?_
          refine G_iconst (z := 0) dX12_movesFrom_56 rfl ?_
          refine G_istore dX12_movesFrom_57 (by decide : 6 < 7) rfl ?_
          exact k5 c1 c2 c4 c5
      · -- a1 = (mem 169 59)
        refine G_iload dX12_movesFrom_26 rfl ?_
        refine G_aload_n dX12_movesFrom_28 rfl ?_
        refine G_getI (z := (mem 169 61)) dX12_movesFrom_29 fl_12_460 (by decide) sh_169 rfl ?_
        refine G_icmp_lt (tgt := 36) dX12_movesFrom_32 (by decide) (w6) (w7 c1 c2 c4) (fun c6 => ?_) (fun c6 => ?_)
        · -- a5 < (mem 169 61)
          refine G_iload_n dX12_movesFrom_36 rfl ?_
          refine G_aload_n dX12_movesFrom_37 rfl ?_
          refine G_getI (z := (mem 169 59)) dX12_movesFrom_38 fl_12_457 (by decide) sh_169 rfl ?_
          refine G_icmp_ne (tgt := 86) dX12_movesFrom_41 (by decide) (w3) (w5 c1 c2) (fun c7 => ?_) (fun c7 => ?_)
          · -- a1 ≠ (mem 169 59)
            refine G_iload_n dX12_movesFrom_86 rfl ?_
            refine G_iconst (z := 1) dX12_movesFrom_87 rfl ?_
            refine G_iadd dX12_movesFrom_88 ?_
            refine G_istore dX12_movesFrom_89 (by decide : 6 < 7) rfl ?_
            exact k6 c1 c2 c4 c6 c7
          · -- a1 = (mem 169 59)
            refine G_aload_n dX12_movesFrom_44 rfl ?_
            refine G_iload dX12_movesFrom_45 rfl ?_
            refine G_putI (mem2 := (up2 mem 169 60 a4)) dX12_movesFrom_47 fp_12_454 (by decide) sh_169 rfl ?_
            refine G_aload_n dX12_movesFrom_50 rfl ?_
            refine G_iload dX12_movesFrom_51 rfl ?_
            refine G_putI (mem2 := (up2 (up2 mem 169 60 a4) 169 61 a5)) dX12_movesFrom_53 fp_12_460 (by decide) sh_169 rfl ?_
            refine G_iconst (z := 0) dX12_movesFrom_56 rfl ?_
            refine G_istore dX12_movesFrom_57 (by decide : 6 < 7) rfl ?_
            exact k7 c1 c2 c4 c6 c7
        · -- ¬ a5 < (mem 169 61)
          exact G_vret dX12_movesFrom_35 rfl (Nat.zero_le _) (Nat.zero_le _) (Nat.le_refl _) ⟨rfl, k8 c1 c2 c4 c6⟩
set_option maxRecDepth 20000 in
set_option maxHeartbeats 1000000 in
theorem sg_X12_movesFrom_59 {E : Nat × (Nat → Int32)} {d : Nat} {P : Option Value → Mem → Prop} {mem : Mem} {a1 : Int} {a2 : Int} {a3 : Int} {a4 : Int} {a5 : Int} {a6 : Int} (w1 : -2147483648 ≤ a6 ∧ a6 < 2147483648) (w2 : -2147483648 ≤ a1 ∧ a1 < 2147483648) (q3 : ¬ a1 ≤ a6 → 0 ≤ a6 ∧ a6 < 6)
    (k1 : a1 ≤ a6 → P none mem)
    (k2 : ¬ a1 ≤ a6 → GM E (m_X12_movesFrom d) P 59 [.ref 169, vi a1, vi a2, vi a3, vi a4, vi a5, vi (a6 + 1)] [] (up2 mem 199 a6 (mem 198 a6))) :
    GM E (m_X12_movesFrom d) P 59 [.ref 169, vi a1, vi a2, vi a3, vi a4, vi a5, vi a6] [] mem := by
  refine G_iload dX12_movesFrom_59 rfl ?_
  refine G_iload_n dX12_movesFrom_61 rfl ?_
  refine G_icmp_ge (tgt := 85) dX12_movesFrom_62 (by decide) (w1) (w2) (fun c1 => ?_) (fun c1 => ?_)
  · -- a1 ≤ a6
    exact G_vret dX12_movesFrom_85 rfl (Nat.zero_le _) (Nat.zero_le _) (Nat.le_refl _) ⟨rfl, k1 c1⟩
  · -- ¬ a1 ≤ a6
    refine G_aload_n dX12_movesFrom_65 rfl ?_
    refine G_getR (t := 199) dX12_movesFrom_66 fl_12_99 (by decide) sh_169 rr_169_57 ?_
    refine G_iload dX12_movesFrom_69 rfl ?_
    refine G_aload_n dX12_movesFrom_71 rfl ?_
    refine G_getR (t := 198) dX12_movesFrom_72 fl_12_96 (by decide) sh_169 rr_169_56 ?_
    refine G_iload dX12_movesFrom_75 rfl ?_
    refine G_iald (z := (mem 198 a6)) dX12_movesFrom_77 (by decide) sh_198 (by decide) (q3 c1).1 (q3 c1).2 rfl ?_
    refine G_iast (mem2 := (up2 mem 199 a6 (mem 198 a6))) dX12_movesFrom_78 (by decide) sh_199 (by decide) (q3 c1).1 (q3 c1).2 rfl ?_
    refine G_iinc (z := (a6 + 1)) dX12_movesFrom_79 rfl rfl (by decide : 6 < 7) rfl ?_
    refine G_goto (tgt := 59) dX12_movesFrom_82 (by decide) ?_
    exact k2 c1
set_option maxRecDepth 20000 in
set_option maxHeartbeats 1000000 in
theorem sg_X12_movesFrom_91 {E : Nat × (Nat → Int32)} {d : Nat} (hd : 1 ≤ d) {P : Option Value → Mem → Prop} {mem : Mem} {a1 : Int} {a2 : Int} {a3 : Int} {a4 : Int} {a5 : Int} {a6 : Int} (w1 : -2147483648 ≤ a6 ∧ a6 < 2147483648) (q2 : ¬ 6 < a6 → 0 ≤ a6 ∧ a6 < 7) (q3 : ¬ 6 < a6 → 0 ≤ a1 ∧ a1 < 6) (w4 : ¬ 6 < a6 → -2147483648 ≤ ((mem 197 a6) + (mem 200 a1)) ∧ ((mem 197 a6) + (mem 200 a1)) < 2147483648) (w5 : -2147483648 ≤ a3 ∧ a3 < 2147483648) (w6 : -2147483648 ≤ a4 ∧ a4 < 2147483648)
    (k1 : 6 < a6 → P none mem)
    (k2 : ¬ 6 < a6 → a3 < ((mem 197 a6) + (mem 200 a1)) → GM E (m_X12_movesFrom d) P 91 [.ref 169, vi a1, vi a2, vi a3, vi a4, vi a5, vi (a6 + 1)] [] mem)
    (k3 : ¬ 6 < a6 → ¬ a3 < ((mem 197 a6) + (mem 200 a1)) → GM E (m_X12_movesFrom d) P 158 [.ref 169, vi a1, vi a2, vi a3, vi a4, vi a5, vi a6] [vi (a5 + a6), vi (max a4 a6), vi a3, vi a2, vi (a1 + 1), .ref 169] (up2 (up2 mem 197 a6 ((mem 197 a6) + (mem 200 a1))) 198 a1 a6)) :
    GM E (m_X12_movesFrom d) P 91 [.ref 169, vi a1, vi a2, vi a3, vi a4, vi a5, vi a6] [] mem := by
  refine G_iload dX12_movesFrom_91 rfl ?_
  refine G_bipush (z := 6) dX12_movesFrom_93 rfl ?_
  refine G_icmp_gt (tgt := 183) dX12_movesFrom_95 (by decide) (w1) (by decide) (fun c1 => ?_) (fun c1 => ?_)
  · -- 6 < a6
    exact G_vret dX12_movesFrom_183 rfl (Nat.zero_le _) (Nat.zero_le _) (Nat.le_refl _) ⟨rfl, k1 c1⟩
  · -- ¬ 6 < a6
    refine G_aload_n dX12_movesFrom_98 rfl ?_
    refine G_getR (t := 197) dX12_movesFrom_99 fl_12_93 (by decide) sh_169 rr_169_55 ?_
    refine G_iload dX12_movesFrom_102 rfl ?_
    refine G_iald (z := (mem 197 a6)) dX12_movesFrom_104 (by decide) sh_197 (by decide) (q2 c1).1 (q2 c1).2 rfl ?_
    refine G_aload_n dX12_movesFrom_105 rfl ?_
    refine G_getR (t := 200) dX12_movesFrom_106 fl_12_102 (by decide) sh_169 rr_169_58 ?_
    refine G_iload_n dX12_movesFrom_109 rfl ?_
    refine G_iald (z := (mem 200 a1)) dX12_movesFrom_110 (by decide) sh_200 (by decide) (q3 c1).1 (q3 c1).2 rfl ?_
    refine G_iadd dX12_movesFrom_111 ?_
    refine G_iload_n dX12_movesFrom_112 rfl ?_
    refine G_icmp_gt (tgt := 177) dX12_movesFrom_113 (by decide) (w4 c1) (w5) (fun c2 => ?_) (fun c2 => ?_)
    · -- a3 < ((mem 197 a6) + (mem 200 a1))
      refine G_iinc (z := (a6 + 1)) dX12_movesFrom_177 rfl rfl (by decide : 6 < 7) rfl ?_
      refine G_goto (tgt := 91) dX12_movesFrom_180 (by decide) ?_
      exact k2 c1 c2
    · -- ¬ a3 < ((mem 197 a6) + (mem 200 a1))
      refine G_aload_n dX12_movesFrom_116 rfl ?_
      refine G_getR (t := 197) dX12_movesFrom_117 fl_12_93 (by decide) sh_169 rr_169_55 ?_
      refine G_iload dX12_movesFrom_120 rfl ?_
      refine G_dup2 dX12_movesFrom_122 rfl rfl ?_
      refine G_iald (z := (mem 197 a6)) dX12_movesFrom_123 (by decide) sh_197 (by decide) (q2 c1).1 (q2 c1).2 rfl ?_
      refine G_aload_n dX12_movesFrom_124 rfl ?_
      refine G_getR (t := 200) dX12_movesFrom_125 fl_12_102 (by decide) sh_169 rr_169_58 ?_
      refine G_iload_n dX12_movesFrom_128 rfl ?_
      refine G_iald (z := (mem 200 a1)) dX12_movesFrom_129 (by decide) sh_200 (by decide) (q3 c1).1 (q3 c1).2 rfl ?_
      refine G_iadd dX12_movesFrom_130 ?_
      refine G_iast (mem2 := (up2 mem 197 a6 ((mem 197 a6) + (mem 200 a1)))) dX12_movesFrom_131 (by decide) sh_197 (by decide) (q2 c1).1 (q2 c1).2 rfl ?_
      refine G_aload_n dX12_movesFrom_132 rfl ?_
      refine G_getR (t := 198) dX12_movesFrom_133 fl_12_96 (by decide) sh_169 rr_169_56 ?_
      refine G_iload_n dX12_movesFrom_136 rfl ?_
      refine G_iload dX12_movesFrom_137 rfl ?_
      refine G_iast (mem2 := (up2 (up2 mem 197 a6 ((mem 197 a6) + (mem 200 a1))) 198 a1 a6)) dX12_movesFrom_139 (by decide) sh_198 (by decide) (q3 c1).1 (q3 c1).2 rfl ?_
      refine G_aload_n dX12_movesFrom_140 rfl ?_
      refine G_iload_n dX12_movesFrom_141 rfl ?_
      refine G_iconst (z := 1) dX12_movesFrom_142 rfl ?_
      refine G_iadd dX12_movesFrom_143 ?_
      refine G_iload_n dX12_movesFrom_144 rfl ?_
      refine G_iload_n dX12_movesFrom_145 rfl ?_
      refine G_iload dX12_movesFrom_146 rfl ?_
      refine G_iload dX12_movesFrom_148 rfl ?_
      refine G_max (z := (max a4 a6)) dX12_movesFrom_150 ml_12_257 mw_max (w6) (w1) ⟨by show 1 ≤ d; omega, by show 21 ≤ 40 * d; omega, Nat.zero_le _, Nat.zero_le _⟩ (Nat.le_of_ble_eq_true rfl) rfl ?_
      refine G_iload dX12_movesFrom_153 rfl ?_
      refine G_iload dX12_movesFrom_155 rfl ?_
      refine G_iadd dX12_movesFrom_157 ?_
      exact k3 c1 c2
set_option maxRecDepth 20000 in
set_option maxHeartbeats 1000000 in
theorem sg_X12_movesFrom_161 {E : Nat × (Nat → Int32)} {d : Nat} {P : Option Value → Mem → Prop} {mem : Mem} {a1 : Int} {a2 : Int} {a3 : Int} {a4 : Int} {a5 : Int} {a6 : Int} (q1 : 0 ≤ a6 ∧ a6 < 7) (q2 : 0 ≤ a1 ∧ a1 < 6)
    (k1 : GM E (m_X12_movesFrom d) P 91 [.ref 169, vi a1, vi a2, vi a3, vi a4, vi a5, vi (a6 + 1)] [] (up2 mem 197 a6 ((mem 197 a6) - (mem 200 a1)))) :
    GM E (m_X12_movesFrom d) P 161 [.ref 169, vi a1, vi a2, vi a3, vi a4, vi a5, vi a6] [] mem := by
  refine G_aload_n dX12_movesFrom_161 rfl ?_
  refine G_getR (t := 197) dX12_movesFrom_162 fl_12_93 (by decide) sh_169 rr_169_55 ?_
  refine G_iload dX12_movesFrom_165 rfl ?_
  refine G_dup2 dX12_movesFrom_167 rfl rfl ?_
  refine G_iald (z := (mem 197 a6)) dX12_movesFrom_168 (by decide) sh_197 (by decide) (q1).1 (q1).2 rfl ?_
  refine G_aload_n dX12_movesFrom_169 rfl ?_
  refine G_getR (t := 200) dX12_movesFrom_170 fl_12_102 (by decide) sh_169 rr_169_58 ?_
  refine G_iload_n dX12_movesFrom_173 rfl ?_
  refine G_iald (z := (mem 200 a1)) dX12_movesFrom_174 (by decide) sh_200 (by decide) (q2).1 (q2).2 rfl ?_
  refine G_isub dX12_movesFrom_175 ?_
  refine G_iast (mem2 := (up2 mem 197 a6 ((mem 197 a6) - (mem 200 a1)))) dX12_movesFrom_176 (by decide) sh_197 (by decide) (q1).1 (q1).2 rfl ?_
  refine G_iinc (z := (a6 + 1)) dX12_movesFrom_177 rfl rfl (by decide : 6 < 7) rfl ?_
  refine G_goto (tgt := 91) dX12_movesFrom_180 (by decide) ?_
  exact k1
abbrev m_X12_next (d : Nat) : Mu := (cX12_next, 7, RX12, (some .int), ⟨d, 0, 0, 40 * d⟩, "next")
set_option maxRecDepth 20000 in
set_option maxHeartbeats 1000000 in
theorem sg_X12_next_0 {E : Nat × (Nat → Int32)} {d : Nat} {P : Option Value → Mem → Prop} {mem : Mem}
    (k1 : GM E (m_X12_next d) P 6 [.ref 169, un, un, un, un, un, un] [.ref 169] (up2 mem 169 0 0)) :
    GM E (m_X12_next d) P 0 [.ref 169, un, un, un, un, un, un] [] mem := by
  refine G_aload_n dX12_next_0 rfl ?_
  refine G_iconst (z := 0) dX12_next_1 rfl ?_
  refine G_putI (mem2 := (up2 mem 169 0 0)) dX12_next_2 fp_12_126 (by decide) sh_169 rfl ?_
  refine G_aload_n dX12_next_5 rfl ?_
  exact k1
set_option maxRecDepth 20000 in
set_option maxHeartbeats 1000000 in
theorem sg_X12_next_9 {E : Nat × (Nat → Int32)} {d : Nat} {P : Option Value → Mem → Prop} {mem : Mem}
    (k1 : GM E (m_X12_next d) P 13 [.ref 169, vi 0, vi 0, un, un, un, un] [] mem) :
    GM E (m_X12_next d) P 9 [.ref 169, un, un, un, un, un, un] [] mem := by
  refine G_iconst (z := 0) dX12_next_9 rfl ?_
  refine G_istore_n dX12_next_10 rfl (by decide : 1 < 7) rfl ?_
  refine G_iconst (z := 0) dX12_next_11 rfl ?_
  refine G_istore_n dX12_next_12 rfl (by decide : 2 < 7) rfl ?_
  exact k1
set_option maxRecDepth 20000 in
set_option maxHeartbeats 1000000 in
theorem sg_X12_next_13 {E : Nat × (Nat → Int32)} {d : Nat} {P : Option Value → Mem → Prop} {mem : Mem} {a1 : Int} {a2 : Int} (w1 : -2147483648 ≤ a2 ∧ a2 < 2147483648) (w2 : -2147483648 ≤ (mem 169 3) ∧ (mem 169 3) < 2147483648) (w3 : -2147483648 ≤ a1 ∧ a1 < 2147483648) (q4 : ¬ (mem 169 3) ≤ a2 → 0 ≤ a2 ∧ a2 < 6)
    (k1 : (mem 169 3) ≤ a2 → a1 ≠ 0 → GM E (m_X12_next d) P 59 [.ref 169, vi a1, vi 0, vi a1, vi 1, un, un] [] mem)
    (k2 : (mem 169 3) ≤ a2 → a1 = 0 → P (some (vi (-2))) mem)
    (k3 : ¬ (mem 169 3) ≤ a2 → GM E (m_X12_next d) P 13 [.ref 169, vi (a1 + ((2 * (mem 172 a2)) * (mem 203 a2))), vi (a2 + 1), un, un, un, un] [] mem) :
    GM E (m_X12_next d) P 13 [.ref 169, vi a1, vi a2, un, un, un, un] [] mem := by
  refine G_iload_n dX12_next_13 rfl ?_
  refine G_aload_n dX12_next_14 rfl ?_
  refine G_getI (z := (mem 169 3)) dX12_next_15 fl_12_137 (by decide) sh_169 rfl ?_
  refine G_icmp_ge (tgt := 45) dX12_next_18 (by decide) (w1) (w2) (fun c1 => ?_) (fun c1 => ?_)
  · -- (mem 169 3) ≤ a2
    refine G_iload_n dX12_next_45 rfl ?_
    refine G_if_ne (tgt := 52) dX12_next_46 (by decide) (w3) (fun c2 => ?_) (fun c2 => ?_)
    · -- a1 ≠ 0
      refine G_iconst (z := 0) dX12_next_52 rfl ?_
      refine G_istore_n dX12_next_53 rfl (by decide : 2 < 7) rfl ?_
      refine G_iload_n dX12_next_54 rfl ?_
      refine G_istore_n dX12_next_55 rfl (by decide : 3 < 7) rfl ?_
      refine G_iconst (z := 1) dX12_next_56 rfl ?_
      refine G_istore dX12_next_57 (by decide : 4 < 7) rfl ?_
      exact k1 c1 c2
    · -- a1 = 0
      refine G_bipush (z := (-2)) dX12_next_49 rfl ?_
      exact G_iret dX12_next_51 rfl (Nat.zero_le _) (Nat.zero_le _) (Nat.le_refl _) ⟨rfl, k2 c1 c2⟩
  · -- ¬ (mem 169 3) ≤ a2
    refine G_iload_n dX12_next_21 rfl ?_
    refine G_iconst (z := 2) dX12_next_22 rfl ?_
    refine G_aload_n dX12_next_23 rfl ?_
    refine G_getR (t := 172) dX12_next_24 fl_12_17 (by decide) sh_169 rr_169_6 ?_
    refine G_iload_n dX12_next_27 rfl ?_
    refine G_iald (z := (mem 172 a2)) dX12_next_28 (by decide) sh_172 (by decide) (q4 c1).1 (q4 c1).2 rfl ?_
    refine G_imul dX12_next_29 ?_
    refine G_aload_n dX12_next_30 rfl ?_
    refine G_getR (t := 203) dX12_next_31 fl_12_111 (by decide) sh_169 rr_169_65 ?_
    refine G_iload_n dX12_next_34 rfl ?_
    refine G_iald (z := (mem 203 a2)) dX12_next_35 (by decide) sh_203 (by decide) (q4 c1).1 (q4 c1).2 rfl ?_
    refine G_imul dX12_next_36 ?_
    refine G_iadd dX12_next_37 ?_
    refine G_istore_n dX12_next_38 rfl (by decide : 1 < 7) rfl ?_
    refine G_iinc (z := (a2 + 1)) dX12_next_39 rfl rfl (by decide : 2 < 7) rfl ?_
    refine G_goto (tgt := 13) dX12_next_42 (by decide) ?_
    exact k3 c1
set_option maxRecDepth 20000 in
set_option maxHeartbeats 1000000 in
theorem sg_X12_next_59 {E : Nat × (Nat → Int32)} {d : Nat} {P : Option Value → Mem → Prop} {mem : Mem} {a1 : Int} {a2 : Int} {a3 : Int} {a4 : Int}
    (k1 : GM E (m_X12_next d) P 62 [.ref 169, vi a1, vi a2, vi a3, vi a4, un, un] [.ref 169, vi a4] mem) :
    GM E (m_X12_next d) P 59 [.ref 169, vi a1, vi a2, vi a3, vi a4, un, un] [] mem := by
  refine G_iload dX12_next_59 rfl ?_
  refine G_aload_n dX12_next_61 rfl ?_
  exact k1
set_option maxRecDepth 20000 in
set_option maxHeartbeats 1000000 in
theorem sg_X12_next_65 {E : Nat × (Nat → Int32)} {d : Nat} {P : Option Value → Mem → Prop} {mem : Mem} {a1 : Int} {a2 : Int} {a3 : Int} {a4 : Int} {s0 : Int} {s1 : Int} (w1 : -2147483648 ≤ s1 ∧ s1 < 2147483648) (w2 : -2147483648 ≤ s0 ∧ s0 < 2147483648) (w3 : -2147483648 ≤ a3 ∧ a3 < 2147483648)
    (k1 : s0 < s1 → GM E (m_X12_next d) P 170 [.ref 169, vi a1, vi a2, vi a3, vi a4, un, un] [vl a3, .ref 169] (up2 mem 169 1 0))
    (k2 : ¬ s0 < s1 → GM E (m_X12_next d) P 74 [.ref 169, vi a1, vi a2, vi a3, vi a4, vi 0, vi 0] [] mem) :
    GM E (m_X12_next d) P 65 [.ref 169, vi a1, vi a2, vi a3, vi a4, un, un] [vi s0, vi s1] mem := by
  refine G_icmp_gt (tgt := 162) dX12_next_65 (by decide) (w1) (w2) (fun c1 => ?_) (fun c1 => ?_)
  · -- s0 < s1
    refine G_aload_n dX12_next_162 rfl ?_
    refine G_iconst (z := 0) dX12_next_163 rfl ?_
    refine G_putI (mem2 := (up2 mem 169 1 0)) dX12_next_164 fp_12_134 (by decide) sh_169 rfl ?_
    refine G_aload_n dX12_next_167 rfl ?_
    refine G_iload_n dX12_next_168 rfl ?_
    refine G_i2l dX12_next_169 (w3) ?_
    exact k1 c1
  · -- ¬ s0 < s1
    refine G_iconst (z := 0) dX12_next_68 rfl ?_
    refine G_istore dX12_next_69 (by decide : 5 < 7) rfl ?_
    refine G_iconst (z := 0) dX12_next_71 rfl ?_
    refine G_istore dX12_next_72 (by decide : 6 < 7) rfl ?_
    exact k2 c1
set_option maxRecDepth 20000 in
set_option maxHeartbeats 1000000 in
theorem sg_X12_next_74 {E : Nat × (Nat → Int32)} {d : Nat} (hd : 1 ≤ d) {P : Option Value → Mem → Prop} {mem : Mem} {a1 : Int} {a2 : Int} {a3 : Int} {a4 : Int} {a5 : Int} {a6 : Int} (w1 : -2147483648 ≤ a6 ∧ a6 < 2147483648) (w2 : -2147483648 ≤ (mem 169 3) ∧ (mem 169 3) < 2147483648) (w3 : -2147483648 ≤ a5 ∧ a5 < 2147483648) (w4 : (mem 169 3) ≤ a6 → -2147483648 ≤ (a1 - a5) ∧ (a1 - a5) < 2147483648) (w5 : (mem 169 3) ≤ a6 → -2147483648 ≤ (max a5 (a1 - a5)) ∧ (max a5 (a1 - a5)) < 2147483648) (w6 : -2147483648 ≤ a3 ∧ a3 < 2147483648)
    (k1 : (mem 169 3) ≤ a6 → a3 ≤ (max a5 (a1 - a5)) → GM E (m_X12_next d) P 59 [.ref 169, vi a1, vi a2, vi (min a3 (max a5 (a1 - a5))), vi (a4 + 1), vi a5, vi (max a5 (a1 - a5))] [] mem)
    (k2 : (mem 169 3) ≤ a6 → ¬ a3 ≤ (max a5 (a1 - a5)) → GM E (m_X12_next d) P 59 [.ref 169, vi a1, vi a4, vi (min a3 (max a5 (a1 - a5))), vi (a4 + 1), vi a5, vi (max a5 (a1 - a5))] [] mem)
    (k3 : ¬ (mem 169 3) ≤ a6 → GM E (m_X12_next d) P 89 [.ref 169, vi a1, vi a2, vi a3, vi a4, vi a5, vi a6] [vi a6, vi a4, vi a5] mem) :
    GM E (m_X12_next d) P 74 [.ref 169, vi a1, vi a2, vi a3, vi a4, vi a5, vi a6] [] mem := by
  refine G_iload dX12_next_74 rfl ?_
  refine G_aload_n dX12_next_76 rfl ?_
  refine G_getI (z := (mem 169 3)) dX12_next_77 fl_12_137 (by decide) sh_169 rfl ?_
  refine G_icmp_ge (tgt := 125) dX12_next_80 (by decide) (w1) (w2) (fun c1 => ?_) (fun c1 => ?_)
  · -- (mem 169 3) ≤ a6
    refine G_iload dX12_next_125 rfl ?_
    refine G_iload_n dX12_next_127 rfl ?_
    refine G_iload dX12_next_128 rfl ?_
    refine G_isub dX12_next_130 ?_
    refine G_max (z := (max a5 (a1 - a5))) dX12_next_131 ml_12_257 mw_max (w3) (w4 c1) ⟨by show 1 ≤ d; omega, by show 21 ≤ 40 * d; omega, Nat.zero_le _, Nat.zero_le _⟩ (Nat.le_of_ble_eq_true rfl) rfl ?_
    refine G_istore dX12_next_134 (by decide : 6 < 7) rfl ?_
    refine G_iload dX12_next_136 rfl ?_
    refine G_iload_n dX12_next_138 rfl ?_
    refine G_icmp_ge (tgt := 147) dX12_next_139 (by decide) (w5 c1) (w6) (fun c2 => ?_) (fun c2 => ?_)
    · -- a3 ≤ (max a5 (a1 - a5))
      refine G_iload_n dX12_next_147 rfl ?_
      refine G_istore_n dX12_next_148 rfl (by decide : 2 < 7) rfl ?_
      refine G_iload_n dX12_next_149 rfl ?_
      refine G_iload dX12_next_150 rfl ?_
      refine G_min (z := (min a3 (max a5 (a1 - a5)))) dX12_next_152 ml_12_157 mw_min (w6) (w5 c1) ⟨by show 1 ≤ d; omega, by show 21 ≤ 40 * d; omega, Nat.zero_le _, Nat.zero_le _⟩ (Nat.le_of_ble_eq_true rfl) rfl ?_
      refine G_istore_n dX12_next_155 rfl (by decide : 3 < 7) rfl ?_
      refine G_iinc (z := (a4 + 1)) dX12_next_156 rfl rfl (by decide : 4 < 7) rfl ?_
      refine G_goto (tgt := 59) dX12_next_159 (by decide) ?_
      exact k1 c1 c2
    · -- ¬ a3 ≤ (max a5 (a1 - a5))
      refine G_iload dX12_next_142 rfl ?_
      refine G_goto (tgt := 148) dX12_next_144 (by decide) ?_
      refine G_istore_n dX12_next_148 rfl (by decide : 2 < 7) rfl ?_
      refine G_iload_n dX12_next_149 rfl ?_
      refine G_iload dX12_next_150 rfl ?_
      refine G_min (z := (min a3 (max a5 (a1 - a5)))) dX12_next_152 ml_12_157 mw_min (w6) (w5 c1) ⟨by show 1 ≤ d; omega, by show 21 ≤ 40 * d; omega, Nat.zero_le _, Nat.zero_le _⟩ (Nat.le_of_ble_eq_true rfl) rfl ?_
      refine G_istore_n dX12_next_155 rfl (by decide : 3 < 7) rfl ?_
      refine G_iinc (z := (a4 + 1)) dX12_next_156 rfl rfl (by decide : 4 < 7) rfl ?_
      refine G_goto (tgt := 59) dX12_next_159 (by decide) ?_
      exact k2 c1 c2
  · -- ¬ (mem 169 3) ≤ a6
    refine G_iload dX12_next_83 rfl ?_
    refine G_iload dX12_next_85 rfl ?_
    refine G_iload dX12_next_87 rfl ?_
    exact k3 c1
set_option maxRecDepth 20000 in
set_option maxHeartbeats 1000000 in
theorem sg_X12_next_92 {E : Nat × (Nat → Int32)} {d : Nat} {P : Option Value → Mem → Prop} {mem : Mem} {a1 : Int} {a2 : Int} {a3 : Int} {a4 : Int} {a5 : Int} {a6 : Int} {s0 : Int} {s1 : Int} (w1 : -2147483648 ≤ s0 ∧ s0 < 2147483648) (q2 : ¬ s0 = 0 → 0 ≤ a6 ∧ a6 < 6)
    (k1 : s0 = 0 → GM E (m_X12_next d) P 74 [.ref 169, vi a1, vi a2, vi a3, vi a4, vi (s1 + 0), vi (a6 + 1)] [] mem)
    (k2 : ¬ s0 = 0 → GM E (m_X12_next d) P 74 [.ref 169, vi a1, vi a2, vi a3, vi a4, vi (s1 + ((2 * (mem 172 a6)) * (mem 203 a6))), vi (a6 + 1)] [] mem) :
    GM E (m_X12_next d) P 92 [.ref 169, vi a1, vi a2, vi a3, vi a4, vi a5, vi a6] [vi s0, vi s1] mem := by
  refine G_if_eq (tgt := 115) dX12_next_92 (by decide) (w1) (fun c1 => ?_) (fun c1 => ?_)
  · -- s0 = 0
    refine G_iconst (z := 0) dX12_next_115 rfl ?_
    refine G_iadd dX12_next_116 ?_
    refine G_istore dX12_next_117 (by decide : 5 < 7) rfl ?_
    refine G_iinc (z := (a6 + 1)) dX12_next_119 rfl rfl (by decide : 6 < 7) rfl ?_
    refine G_goto (tgt := 74) dX12_next_122 (by decide) ?_
    exact k1 c1
  · -- ¬ s0 = 0
    refine G_iconst (z := 2) dX12_next_95 rfl ?_
    refine G_aload_n dX12_next_96 rfl ?_
    refine G_getR (t := 172) dX12_next_97 fl_12_17 (by decide) sh_169 rr_169_6 ?_
    refine G_iload dX12_next_100 rfl ?_
    refine G_iald (z := (mem 172 a6)) dX12_next_102 (by decide) sh_172 (by decide) (q2 c1).1 (q2 c1).2 rfl ?_
    refine G_imul dX12_next_103 ?_
    refine G_aload_n dX12_next_104 rfl ?_
    refine G_getR (t := 203) dX12_next_105 fl_12_111 (by decide) sh_169 rr_169_65 ?_
    refine G_iload dX12_next_108 rfl ?_
    refine G_iald (z := (mem 203 a6)) dX12_next_110 (by decide) sh_203 (by decide) (q2 c1).1 (q2 c1).2 rfl ?_
    refine G_imul dX12_next_111 ?_
    refine G_goto (tgt := 116) dX12_next_112 (by decide) ?_
    refine G_iadd dX12_next_116 ?_
    refine G_istore dX12_next_117 (by decide : 5 < 7) rfl ?_
    refine G_iinc (z := (a6 + 1)) dX12_next_119 rfl rfl (by decide : 6 < 7) rfl ?_
    refine G_goto (tgt := 74) dX12_next_122 (by decide) ?_
    exact k2 c1
set_option maxRecDepth 20000 in
set_option maxHeartbeats 1000000 in
theorem sg_X12_next_173 {E : Nat × (Nat → Int32)} {d : Nat} {P : Option Value → Mem → Prop} {mem : Mem} {a1 : Int} {a2 : Int} {a3 : Int} {a4 : Int}
    (k1 : P (some (vi a2)) mem) :
    GM E (m_X12_next d) P 173 [.ref 169, vi a1, vi a2, vi a3, vi a4, un, un] [] mem := by
  refine G_iload_n dX12_next_173 rfl ?_
  exact G_iret dX12_next_174 rfl (Nat.zero_le _) (Nat.zero_le _) (Nat.le_refl _) ⟨rfl, k1⟩
abbrev m_X12_number (d : Nat) : Mu := (cX12_number, 4, RX12, (some .int), ⟨d, 0, 0, 40 * d⟩, "number")
set_option maxRecDepth 20000 in
set_option maxHeartbeats 1000000 in
theorem sg_X12_number_0 {E : Nat × (Nat → Int32)} {d : Nat} {P : Option Value → Mem → Prop} {mem : Mem} {a1 : Int}
    (k1 : GM E (m_X12_number d) P 1 [.ref 169, vi a1, un, un] [.ref 169] mem) :
    GM E (m_X12_number d) P 0 [.ref 169, vi a1, un, un] [] mem := by
  refine G_aload_n dX12_number_0 rfl ?_
  exact k1
set_option maxRecDepth 20000 in
set_option maxHeartbeats 1000000 in
theorem sg_X12_number_4 {E : Nat × (Nat → Int32)} {d : Nat} {P : Option Value → Mem → Prop} {mem : Mem} {a1 : Int} {s0 : Int} (w1 : -2147483648 ≤ s0 ∧ s0 < 2147483648)
    (k1 : s0 ≠ 0 → GM E (m_X12_number d) P 13 [.ref 169, vi a1, vi 0, vi 0] [] mem)
    (k2 : s0 = 0 → P (some (vi (-1))) mem) :
    GM E (m_X12_number d) P 4 [.ref 169, vi a1, un, un] [vi s0] mem := by
  refine G_if_ne (tgt := 9) dX12_number_4 (by decide) (w1) (fun c1 => ?_) (fun c1 => ?_)
  · -- s0 ≠ 0
    refine G_iconst (z := 0) dX12_number_9 rfl ?_
    refine G_istore_n dX12_number_10 rfl (by decide : 2 < 4) rfl ?_
    refine G_iconst (z := 0) dX12_number_11 rfl ?_
    refine G_istore_n dX12_number_12 rfl (by decide : 3 < 4) rfl ?_
    exact k1 c1
  · -- s0 = 0
    refine G_iconst (z := (-1)) dX12_number_7 rfl ?_
    exact G_iret dX12_number_8 rfl (Nat.zero_le _) (Nat.zero_le _) (Nat.le_refl _) ⟨rfl, k2 c1⟩
set_option maxRecDepth 20000 in
set_option maxHeartbeats 1000000 in
theorem sg_X12_number_13 {E : Nat × (Nat → Int32)} {d : Nat} {P : Option Value → Mem → Prop} {mem : Mem} {a1 : Int} {a2 : Int} {a3 : Int} (w1 : -2147483648 ≤ a3 ∧ a3 < 2147483648) (w2 : -2147483648 ≤ a1 ∧ a1 < 2147483648)
    (k1 : a1 ≤ a3 → P (some (vi a2)) mem)
    (k2 : ¬ a1 ≤ a3 → GM E (m_X12_number d) P 19 [.ref 169, vi a1, vi a2, vi a3] [.ref 169] mem) :
    GM E (m_X12_number d) P 13 [.ref 169, vi a1, vi a2, vi a3] [] mem := by
  refine G_iload_n dX12_number_13 rfl ?_
  refine G_iload_n dX12_number_14 rfl ?_
  refine G_icmp_ge (tgt := 59) dX12_number_15 (by decide) (w1) (w2) (fun c1 => ?_) (fun c1 => ?_)
  · -- a1 ≤ a3
    refine G_iload_n dX12_number_59 rfl ?_
    exact G_iret dX12_number_60 rfl (Nat.zero_le _) (Nat.zero_le _) (Nat.le_refl _) ⟨rfl, k1 c1⟩
  · -- ¬ a1 ≤ a3
    refine G_aload_n dX12_number_18 rfl ?_
    exact k2 c1
set_option maxRecDepth 20000 in
set_option maxHeartbeats 1000000 in
theorem sg_X12_number_22 {E : Nat × (Nat → Int32)} {d : Nat} {P : Option Value → Mem → Prop} {mem : Mem} {a1 : Int} {a2 : Int} {a3 : Int} {s0 : Int} (w1 : -2147483648 ≤ s0 ∧ s0 < 2147483648) (q2 : ¬ s0 = 0 → 0 ≤ (mem 169 18) ∧ (mem 169 18) < 80)
    (k1 : s0 = 0 → P (some (vi a2)) mem)
    (k2 : ¬ s0 = 0 → GM E (m_X12_number d) P 13 [.ref 169, vi a1, vi (((10 * a2) + (mem 182 (mem 169 18))) - 48), vi (a3 + 1)] [] (up2 mem 169 18 ((mem 169 18) + 1))) :
    GM E (m_X12_number d) P 22 [.ref 169, vi a1, vi a2, vi a3] [vi s0] mem := by
  refine G_if_eq (tgt := 59) dX12_number_22 (by decide) (w1) (fun c1 => ?_) (fun c1 => ?_)
  · -- s0 = 0
    refine G_iload_n dX12_number_59 rfl ?_
    exact G_iret dX12_number_60 rfl (Nat.zero_le _) (Nat.zero_le _) (Nat.le_refl _) ⟨rfl, k1 c1⟩
  · -- ¬ s0 = 0
    refine G_bipush (z := 10) dX12_number_25 rfl ?_
    refine G_iload_n dX12_number_27 rfl ?_
    refine G_imul dX12_number_28 ?_
    refine G_aload_n dX12_number_29 rfl ?_
    refine G_getR (t := 182) dX12_number_30 fl_12_48 (by decide) sh_169 rr_169_16 ?_
    refine G_aload_n dX12_number_33 rfl ?_
    refine G_getI (z := (mem 169 18)) dX12_number_34 fl_12_151 (by decide) sh_169 rfl ?_
    refine G_iald (z := (mem 182 (mem 169 18))) dX12_number_37 (by decide) sh_182 (by decide) (q2 c1).1 (q2 c1).2 rfl ?_
    refine G_iadd dX12_number_38 ?_
    refine G_bipush (z := 48) dX12_number_39 rfl ?_
    refine G_isub dX12_number_41 ?_
    refine G_istore_n dX12_number_42 rfl (by decide : 2 < 4) rfl ?_
    refine G_aload_n dX12_number_43 rfl ?_
    refine G_dup dX12_number_44 rfl ?_
    refine G_getI (z := (mem 169 18)) dX12_number_45 fl_12_151 (by decide) sh_169 rfl ?_
    refine G_iconst (z := 1) dX12_number_48 rfl ?_
    refine G_iadd dX12_number_49 ?_
    refine G_putI (mem2 := (up2 mem 169 18 ((mem 169 18) + 1))) dX12_number_50 fp_12_151 (by decide) sh_169 rfl ?_
    refine G_iinc (z := (a3 + 1)) dX12_number_53 rfl rfl (by decide : 3 < 4) rfl ?_
    refine G_goto (tgt := 13) dX12_number_56 (by decide) ?_
    exact k2 c1
abbrev m_X12_order (d : Nat) : Mu := (cX12_order, 6, RX12, (some .int), ⟨d, 0, 0, 40 * d⟩, "order")
set_option maxRecDepth 20000 in
set_option maxHeartbeats 1000000 in
theorem sg_X12_order_0 {E : Nat × (Nat → Int32)} {d : Nat} {P : Option Value → Mem → Prop} {mem : Mem}
    (k1 : GM E (m_X12_order d) P 8 [.ref 169, un, un, un, un, un] [vi 80, .ref 169] (up2 mem 169 0 0)) :
    GM E (m_X12_order d) P 0 [.ref 169, un, un, un, un, un] [] mem := by
  refine G_aload_n dX12_order_0 rfl ?_
  refine G_iconst (z := 0) dX12_order_1 rfl ?_
  refine G_putI (mem2 := (up2 mem 169 0 0)) dX12_order_2 fp_12_126 (by decide) sh_169 rfl ?_
  refine G_aload_n dX12_order_5 rfl ?_
  refine G_bipush (z := 80) dX12_order_6 rfl ?_
  exact k1
set_option maxRecDepth 20000 in
set_option maxHeartbeats 1000000 in
theorem sg_X12_order_11 {E : Nat × (Nat → Int32)} {d : Nat} {P : Option Value → Mem → Prop} {mem : Mem} {s0 : Int}
    (k1 : GM E (m_X12_order d) P 21 [.ref 169, vi 0, vi 1, un, un, un] [] (up2 mem 169 52 0)) :
    GM E (m_X12_order d) P 11 [.ref 169, un, un, un, un, un] [vi s0] mem := by
  refine G_pop dX12_order_11 rfl ?_
  refine G_aload_n dX12_order_12 rfl ?_
  refine G_iconst (z := 0) dX12_order_13 rfl ?_
  refine G_putI (mem2 := (up2 mem 169 52 0)) dX12_order_14 fp_12_419 (by decide) sh_169 rfl ?_
  refine G_iconst (z := 0) dX12_order_17 rfl ?_
  refine G_istore_n dX12_order_18 rfl (by decide : 1 < 6) rfl ?_
  refine G_iconst (z := 1) dX12_order_19 rfl ?_
  refine G_istore_n dX12_order_20 rfl (by decide : 2 < 6) rfl ?_
  exact k1
set_option maxRecDepth 20000 in
set_option maxHeartbeats 1000000 in
theorem sg_X12_order_21 {E : Nat × (Nat → Int32)} {d : Nat} {P : Option Value → Mem → Prop} {mem : Mem} {a1 : Int} {a2 : Int} (w1 : -2147483648 ≤ a2 ∧ a2 < 2147483648) (w2 : a2 = 0 → -2147483648 ≤ (mem 169 52) ∧ (mem 169 52) < 2147483648) (w3 : a2 = 0 → ¬ (mem 169 52) = 0 → -2147483648 ≤ (mem 169 18) ∧ (mem 169 18) < 2147483648) (w4 : a2 = 0 → ¬ (mem 169 52) = 0 → -2147483648 ≤ (mem 169 19) ∧ (mem 169 19) < 2147483648)
    (k1 : a2 = 0 → (mem 169 52) = 0 → P (some (vi ((-1) - (mem 169 18)))) mem)
    (k2 : a2 = 0 → ¬ (mem 169 52) = 0 → (mem 169 19) ≤ (mem 169 18) → GM E (m_X12_order d) P 156 [.ref 169, vi a1, vi a2, un, un, un] [.ref 181, .ref 180] mem)
    (k3 : a2 = 0 → ¬ (mem 169 52) = 0 → ¬ (mem 169 19) ≤ (mem 169 18) → P (some (vi ((-1) - (mem 169 18)))) mem)
    (k4 : ¬ a2 = 0 → GM E (m_X12_order d) P 26 [.ref 169, vi a1, vi a2, un, un, un] [.ref 169] mem) :
    GM E (m_X12_order d) P 21 [.ref 169, vi a1, vi a2, un, un, un] [] mem := by
  refine G_iload_n dX12_order_21 rfl ?_
  refine G_if_eq (tgt := 123) dX12_order_22 (by decide) (w1) (fun c1 => ?_) (fun c1 => ?_)
  · -- a2 = 0
    refine G_aload_n dX12_order_123 rfl ?_
    refine G_getI (z := (mem 169 52)) dX12_order_124 fl_12_419 (by decide) sh_169 rfl ?_
    refine G_if_eq (tgt := 141) dX12_order_127 (by decide) (w2 c1) (fun c2 => ?_) (fun c2 => ?_)
    · -- (mem 169 52) = 0
      refine G_iconst (z := (-1)) dX12_order_141 rfl ?_
      refine G_aload_n dX12_order_142 rfl ?_
      refine G_getI (z := (mem 169 18)) dX12_order_143 fl_12_151 (by decide) sh_169 rfl ?_
      refine G_isub dX12_order_146 ?_
      exact G_iret dX12_order_147 rfl (Nat.zero_le _) (Nat.zero_le _) (Nat.le_refl _) ⟨rfl, k1 c1 c2⟩
    · -- ¬ (mem 169 52) = 0
      refine G_aload_n dX12_order_130 rfl ?_
      refine G_getI (z := (mem 169 18)) dX12_order_131 fl_12_151 (by decide) sh_169 rfl ?_
      refine G_aload_n dX12_order_134 rfl ?_
      refine G_getI (z := (mem 169 19)) dX12_order_135 fl_12_163 (by decide) sh_169 rfl ?_
      refine G_icmp_ge (tgt := 148) dX12_order_138 (by decide) (w3 c1 c2) (w4 c1 c2) (fun c3 => ?_) (fun c3 => ?_)
      · -- (mem 169 19) ≤ (mem 169 18)
        refine G_aload_n dX12_order_148 rfl ?_
        refine G_getR (t := 180) dX12_order_149 fl_12_42 (by decide) sh_169 rr_169_14 ?_
        refine G_aload_n dX12_order_152 rfl ?_
        refine G_getR (t := 181) dX12_order_153 fl_12_45 (by decide) sh_169 rr_169_15 ?_
        exact k2 c1 c2 c3
      · -- ¬ (mem 169 19) ≤ (mem 169 18)
        refine G_iconst (z := (-1)) dX12_order_141 rfl ?_
        refine G_aload_n dX12_order_142 rfl ?_
        refine G_getI (z := (mem 169 18)) dX12_order_143 fl_12_151 (by decide) sh_169 rfl ?_
        refine G_isub dX12_order_146 ?_
        exact G_iret dX12_order_147 rfl (Nat.zero_le _) (Nat.zero_le _) (Nat.le_refl _) ⟨rfl, k3 c1 c2 c3⟩
  · -- ¬ a2 = 0
    refine G_aload_n dX12_order_25 rfl ?_
    exact k4 c1
set_option maxRecDepth 20000 in
set_option maxHeartbeats 1000000 in
theorem sg_X12_order_29 {E : Nat × (Nat → Int32)} {d : Nat} {P : Option Value → Mem → Prop} {mem : Mem} {a1 : Int} {a2 : Int} {s0 : Int} (w1 : -2147483648 ≤ s0 ∧ s0 < 2147483648) (w2 : s0 = 0 → -2147483648 ≤ (mem 169 52) ∧ (mem 169 52) < 2147483648) (q3 : ¬ s0 = 0 → 0 ≤ (mem 169 18) ∧ (mem 169 18) < 80) (w4 : ¬ s0 = 0 → -2147483648 ≤ (mem 169 52) ∧ (mem 169 52) < 2147483648)
    (k1 : s0 = 0 → 6 ≤ (mem 169 52) → GM E (m_X12_order d) P 21 [.ref 169, vi a1, vi 0, vi (-1), un, un] [] mem)
    (k2 : s0 = 0 → ¬ 6 ≤ (mem 169 52) → GM E (m_X12_order d) P 60 [.ref 169, vi a1, vi a2, vi (-1), un, un] [vi (-1), .ref 169] mem)
    (k3 : ¬ s0 = 0 → 6 ≤ (mem 169 52) → GM E (m_X12_order d) P 21 [.ref 169, vi a1, vi 0, vi ((mem 182 (mem 169 18)) - 48), un, un] [] mem)
    (k4 : ¬ s0 = 0 → ¬ 6 ≤ (mem 169 52) → GM E (m_X12_order d) P 60 [.ref 169, vi a1, vi a2, vi ((mem 182 (mem 169 18)) - 48), un, un] [vi ((mem 182 (mem 169 18)) - 48), .ref 169] mem) :
    GM E (m_X12_order d) P 29 [.ref 169, vi a1, vi a2, un, un, un] [vi s0] mem := by
  refine G_if_eq (tgt := 47) dX12_order_29 (by decide) (w1) (fun c1 => ?_) (fun c1 => ?_)
  · -- s0 = 0
    refine G_iconst (z := (-1)) dX12_order_47 rfl ?_
    refine G_istore_n dX12_order_48 rfl (by decide : 3 < 6) rfl ?_
    refine G_aload_n dX12_order_49 rfl ?_
    refine G_getI (z := (mem 169 52)) dX12_order_50 fl_12_419 (by decide) sh_169 rfl ?_
    refine G_bipush (z := 6) dX12_order_53 rfl ?_
    refine G_icmp_ge (tgt := 78) dX12_order_55 (by decide) (w2 c1) (by decide) (fun c2 => ?_) (fun c2 => ?_)
    · -- 6 ≤ (mem 169 52)
      refine G_iconst (z := 0) dX12_order_78 rfl ?_
      refine G_istore_n dX12_order_79 rfl (by decide : 2 < 6) rfl ?_
      refine G_iload_n dX12_order_80 rfl ?_
      refine G_if_eq (tgt := 120) dX12_order_81 (by decide) (by decide) (fun _ => ?_) (fun h => absurd h (by decide))
      refine G_goto (tgt := 21) dX12_order_120 (by decide) ?_
      exact k1 c1 c2
    · -- ¬ 6 ≤ (mem 169 52)
      refine G_aload_n dX12_order_58 rfl ?_
      refine G_iload_n dX12_order_59 rfl ?_
      exact k2 c1 c2
  · -- ¬ s0 = 0
    refine G_aload_n dX12_order_32 rfl ?_
    refine G_getR (t := 182) dX12_order_33 fl_12_48 (by decide) sh_169 rr_169_16 ?_
    refine G_aload_n dX12_order_36 rfl ?_
    refine G_getI (z := (mem 169 18)) dX12_order_37 fl_12_151 (by decide) sh_169 rfl ?_
    refine G_iald (z := (mem 182 (mem 169 18))) dX12_order_40 (by decide) sh_182 (by decide) (q3 c1).1 (q3 c1).2 rfl ?_
    refine G_bipush (z := 48) dX12_order_41 rfl ?_
    refine G_isub dX12_order_43 ?_
    refine G_goto (tgt := 48) dX12_order_44 (by decide) ?_
    refine G_istore_n dX12_order_48 rfl (by decide : 3 < 6) rfl ?_
    refine G_aload_n dX12_order_49 rfl ?_
    refine G_getI (z := (mem 169 52)) dX12_order_50 fl_12_419 (by decide) sh_169 rfl ?_
    refine G_bipush (z := 6) dX12_order_53 rfl ?_
    refine G_icmp_ge (tgt := 78) dX12_order_55 (by decide) (w4 c1) (by decide) (fun c3 => ?_) (fun c3 => ?_)
    · -- 6 ≤ (mem 169 52)
      refine G_iconst (z := 0) dX12_order_78 rfl ?_
      refine G_istore_n dX12_order_79 rfl (by decide : 2 < 6) rfl ?_
      refine G_iload_n dX12_order_80 rfl ?_
      refine G_if_eq (tgt := 120) dX12_order_81 (by decide) (by decide) (fun _ => ?_) (fun h => absurd h (by decide))
      refine G_goto (tgt := 21) dX12_order_120 (by decide) ?_
      exact k3 c1 c3
    · -- ¬ 6 ≤ (mem 169 52)
      refine G_aload_n dX12_order_58 rfl ?_
      refine G_iload_n dX12_order_59 rfl ?_
      exact k4 c1 c3
set_option maxRecDepth 20000 in
set_option maxHeartbeats 1000000 in
theorem sg_X12_order_63 {E : Nat × (Nat → Int32)} {d : Nat} {P : Option Value → Mem → Prop} {mem : Mem} {a1 : Int} {a2 : Int} {a3 : Int} {s0 : Int} (w1 : -2147483648 ≤ s0 ∧ s0 < 2147483648)
    (k1 : s0 = 0 → GM E (m_X12_order d) P 21 [.ref 169, vi a1, vi 0, vi a3, un, un] [] mem)
    (k2 : ¬ s0 = 0 → GM E (m_X12_order d) P 68 [.ref 169, vi a1, vi a2, vi a3, un, un] [vi a3, vi a1] mem) :
    GM E (m_X12_order d) P 63 [.ref 169, vi a1, vi a2, vi a3, un, un] [vi s0] mem := by
  refine G_if_eq (tgt := 78) dX12_order_63 (by decide) (w1) (fun c1 => ?_) (fun c1 => ?_)
  · -- s0 = 0
    refine G_iconst (z := 0) dX12_order_78 rfl ?_
    refine G_istore_n dX12_order_79 rfl (by decide : 2 < 6) rfl ?_
    refine G_iload_n dX12_order_80 rfl ?_
    refine G_if_eq (tgt := 120) dX12_order_81 (by decide) (by decide) (fun _ => ?_) (fun h => absurd h (by decide))
    refine G_goto (tgt := 21) dX12_order_120 (by decide) ?_
    exact k1 c1
  · -- ¬ s0 = 0
    refine G_iload_n dX12_order_66 rfl ?_
    refine G_iload_n dX12_order_67 rfl ?_
    exact k2 c1
set_option maxRecDepth 20000 in
set_option maxHeartbeats 1000000 in
theorem sg_X12_order_71 {E : Nat × (Nat → Int32)} {d : Nat} {P : Option Value → Mem → Prop} {mem : Mem} {a1 : Int} {a2 : Int} {a3 : Int} {s0 : Int} (w1 : -2147483648 ≤ s0 ∧ s0 < 2147483648) (q2 : s0 = 0 → 0 ≤ (mem 169 52) ∧ (mem 169 52) < 6)
    (k1 : s0 ≠ 0 → GM E (m_X12_order d) P 21 [.ref 169, vi a1, vi 0, vi a3, un, un] [] mem)
    (k2 : s0 = 0 → GM E (m_X12_order d) P 21 [.ref 169, vi (borI a1 (shlI 1 a3)), vi 1, vi a3, un, un] [] (up2 (up2 (up2 mem 195 (mem 169 52) a3) 169 52 ((mem 169 52) + 1)) 169 18 ((mem 169 18) + 1))) :
    GM E (m_X12_order d) P 71 [.ref 169, vi a1, vi a2, vi a3, un, un] [vi s0] mem := by
  refine G_if_ne (tgt := 78) dX12_order_71 (by decide) (w1) (fun c1 => ?_) (fun c1 => ?_)
  · -- s0 ≠ 0
    refine G_iconst (z := 0) dX12_order_78 rfl ?_
    refine G_istore_n dX12_order_79 rfl (by decide : 2 < 6) rfl ?_
    refine G_iload_n dX12_order_80 rfl ?_
    refine G_if_eq (tgt := 120) dX12_order_81 (by decide) (by decide) (fun _ => ?_) (fun h => absurd h (by decide))
    refine G_goto (tgt := 21) dX12_order_120 (by decide) ?_
    exact k1 c1
  · -- s0 = 0
    refine G_iconst (z := 1) dX12_order_74 rfl ?_
    refine G_goto (tgt := 79) dX12_order_75 (by decide) ?_
    refine G_istore_n dX12_order_79 rfl (by decide : 2 < 6) rfl ?_
    refine G_iload_n dX12_order_80 rfl ?_
    refine G_if_eq (tgt := 120) dX12_order_81 (by decide) (by decide) (fun h => absurd h (by decide)) (fun _ => ?_)
    refine G_iload_n dX12_order_84 rfl ?_
    refine G_iconst (z := 1) dX12_order_85 rfl ?_
    refine G_iload_n dX12_order_86 rfl ?_
    refine G_ishl (z := (shlI 1 a3)) dX12_order_87 (iI_inv _) ?_
    refine G_ior (z := (borI a1 (shlI 1 a3))) dX12_order_88 (iI_inv _) ?_
    refine G_istore_n dX12_order_89 rfl (by decide : 1 < 6) rfl ?_
    refine G_aload_n dX12_order_90 rfl ?_
    refine G_getR (t := 195) dX12_order_91 fl_12_87 (by decide) sh_169 rr_169_51 ?_
    refine G_aload_n dX12_order_94 rfl ?_
    refine G_getI (z := (mem 169 52)) dX12_order_95 fl_12_419 (by decide) sh_169 rfl ?_
    refine G_iload_n dX12_order_98 rfl ?_
    refine G_iast (mem2 := (up2 mem 195 (mem 169 52) a3)) dX12_order_99 (by decide) sh_195 (by decide) (q2 c1).1 (q2 c1).2 rfl ?_
    refine G_aload_n dX12_order_100 rfl ?_
    refine G_dup dX12_order_101 rfl ?_
    refine G_getI (z := (mem 169 52)) dX12_order_102 fl_12_419 (by decide) sh_169 (by simp [up2, upr]) ?_
    refine G_iconst (z := 1) dX12_order_105 rfl ?_
    refine G_iadd dX12_order_106 ?_
    refine G_putI (mem2 := (up2 (up2 mem 195 (mem 169 52) a3) 169 52 ((mem 169 52) + 1))) dX12_order_107 fp_12_419 (by decide) sh_169 rfl ?_
    refine G_aload_n dX12_order_110 rfl ?_
    refine G_dup dX12_order_111 rfl ?_
    refine G_getI (z := (mem 169 18)) dX12_order_112 fl_12_151 (by decide) sh_169 (by simp [up2, upr]) ?_
    refine G_iconst (z := 1) dX12_order_115 rfl ?_
    refine G_iadd dX12_order_116 ?_
    refine G_putI (mem2 := (up2 (up2 (up2 mem 195 (mem 169 52) a3) 169 52 ((mem 169 52) + 1)) 169 18 ((mem 169 18) + 1))) dX12_order_117 fp_12_151 (by decide) sh_169 rfl ?_
    refine G_goto (tgt := 21) dX12_order_120 (by decide) ?_
    exact k2 c1
set_option maxRecDepth 20000 in
set_option maxHeartbeats 1000000 in
theorem sg_X12_order_159 {E : Nat × (Nat → Int32)} {d : Nat} {P : Option Value → Mem → Prop} {mem : Mem} {a1 : Int} {a2 : Int}
    (k1 : GM E (m_X12_order d) P 160 [.ref 169, vi a1, vi a2, un, un, un] [.ref 169] mem) :
    GM E (m_X12_order d) P 159 [.ref 169, vi a1, vi a2, un, un, un] [] mem := by
  refine G_aload_n dX12_order_159 rfl ?_
  exact k1
set_option maxRecDepth 20000 in
set_option maxHeartbeats 1000000 in
theorem sg_X12_order_163 {E : Nat × (Nat → Int32)} {d : Nat} {P : Option Value → Mem → Prop} {mem : Mem} {a1 : Int} {a2 : Int} {s0 : Int} (w1 : -2147483648 ≤ s0 ∧ s0 < 2147483648)
    (k1 : 0 ≤ s0 → GM E (m_X12_order d) P 176 [.ref 169, vi a1, vi a2, vi s0, vi 0, vi 0] [] mem)
    (k2 : ¬ 0 ≤ s0 → P (some (vi s0)) mem) :
    GM E (m_X12_order d) P 163 [.ref 169, vi a1, vi a2, un, un, un] [vi s0] mem := by
  refine G_istore_n dX12_order_163 rfl (by decide : 3 < 6) rfl ?_
  refine G_iload_n dX12_order_164 rfl ?_
  refine G_if_ge (tgt := 170) dX12_order_165 (by decide) (w1) (fun c1 => ?_) (fun c1 => ?_)
  · -- 0 ≤ s0
    refine G_iconst (z := 0) dX12_order_170 rfl ?_
    refine G_istore dX12_order_171 (by decide : 4 < 6) rfl ?_
    refine G_iconst (z := 0) dX12_order_173 rfl ?_
    refine G_istore dX12_order_174 (by decide : 5 < 6) rfl ?_
    exact k1 c1
  · -- ¬ 0 ≤ s0
    refine G_iload_n dX12_order_168 rfl ?_
    exact G_iret dX12_order_169 rfl (Nat.zero_le _) (Nat.zero_le _) (Nat.le_refl _) ⟨rfl, k2 c1⟩
set_option maxRecDepth 20000 in
set_option maxHeartbeats 1000000 in
theorem sg_X12_order_176 {E : Nat × (Nat → Int32)} {d : Nat} {P : Option Value → Mem → Prop} {mem : Mem} {a1 : Int} {a2 : Int} {a3 : Int} {a4 : Int} {a5 : Int} (w1 : -2147483648 ≤ a5 ∧ a5 < 2147483648) (w2 : -2147483648 ≤ (mem 169 52) ∧ (mem 169 52) < 2147483648) (w3 : (mem 169 52) ≤ a5 → -2147483648 ≤ (mem 169 50) ∧ (mem 169 50) < 2147483648) (q4 : ¬ (mem 169 52) ≤ a5 → 0 ≤ a5 ∧ a5 < 6)
    (k1 : (mem 169 52) ≤ a5 → GM E (m_X12_order d) P 222 [.ref 169, vi a1, vi a2, vi a3, vi a4, vi a5] [vl (mem 169 50), .ref 169] (up2 mem 169 1 0))
    (k2 : ¬ (mem 169 52) ≤ a5 → GM E (m_X12_order d) P 199 [.ref 169, vi a1, vi a2, vi a3, vi a4, vi a5] [vi (mem 195 a5), .ref 181, .ref 169, vi a4] mem) :
    GM E (m_X12_order d) P 176 [.ref 169, vi a1, vi a2, vi a3, vi a4, vi a5] [] mem := by
  refine G_iload dX12_order_176 rfl ?_
  refine G_aload_n dX12_order_178 rfl ?_
  refine G_getI (z := (mem 169 52)) dX12_order_179 fl_12_419 (by decide) sh_169 rfl ?_
  refine G_icmp_ge (tgt := 211) dX12_order_182 (by decide) (w1) (w2) (fun c1 => ?_) (fun c1 => ?_)
  · -- (mem 169 52) ≤ a5
    refine G_aload_n dX12_order_211 rfl ?_
    refine G_iconst (z := 0) dX12_order_212 rfl ?_
    refine G_putI (mem2 := (up2 mem 169 1 0)) dX12_order_213 fp_12_134 (by decide) sh_169 rfl ?_
    refine G_aload_n dX12_order_216 rfl ?_
    refine G_aload_n dX12_order_217 rfl ?_
    refine G_getI (z := (mem 169 50)) dX12_order_218 fl_12_416 (by decide) sh_169 (by simp [up2, upr]) ?_
    refine G_i2l dX12_order_221 (w3 c1) ?_
    exact k1 c1
  · -- ¬ (mem 169 52) ≤ a5
    refine G_iload dX12_order_185 rfl ?_
    refine G_aload_n dX12_order_187 rfl ?_
    refine G_aload_n dX12_order_188 rfl ?_
    refine G_getR (t := 181) dX12_order_189 fl_12_45 (by decide) sh_169 rr_169_15 ?_
    refine G_aload_n dX12_order_192 rfl ?_
    refine G_getR (t := 195) dX12_order_193 fl_12_87 (by decide) sh_169 rr_169_51 ?_
    refine G_iload dX12_order_196 rfl ?_
    refine G_iald (z := (mem 195 a5)) dX12_order_198 (by decide) sh_195 (by decide) (q4 c1).1 (q4 c1).2 rfl ?_
    exact k2 c1
set_option maxRecDepth 20000 in
set_option maxHeartbeats 1000000 in
theorem sg_X12_order_202 {E : Nat × (Nat → Int32)} {d : Nat} {P : Option Value → Mem → Prop} {mem : Mem} {a1 : Int} {a2 : Int} {a3 : Int} {a4 : Int} {a5 : Int} {s0 : Int} {s1 : Int}
    (k1 : GM E (m_X12_order d) P 176 [.ref 169, vi a1, vi a2, vi a3, vi (s1 + s0), vi (a5 + 1)] [] mem) :
    GM E (m_X12_order d) P 202 [.ref 169, vi a1, vi a2, vi a3, vi a4, vi a5] [vi s0, vi s1] mem := by
  refine G_iadd dX12_order_202 ?_
  refine G_istore dX12_order_203 (by decide : 4 < 6) rfl ?_
  refine G_iinc (z := (a5 + 1)) dX12_order_205 rfl rfl (by decide : 5 < 6) rfl ?_
  refine G_goto (tgt := 176) dX12_order_208 (by decide) ?_
  exact k1
set_option maxRecDepth 20000 in
set_option maxHeartbeats 1000000 in
theorem sg_X12_order_225 {E : Nat × (Nat → Int32)} {d : Nat} {P : Option Value → Mem → Prop} {mem : Mem} {a1 : Int} {a2 : Int} {a3 : Int} {a4 : Int} {a5 : Int} (w1 : -2147483648 ≤ a4 ∧ a4 < 2147483648)
    (k1 : GM E (m_X12_order d) P 229 [.ref 169, vi a1, vi a2, vi a3, vi a4, vi a5] [vl a4, .ref 169] mem) :
    GM E (m_X12_order d) P 225 [.ref 169, vi a1, vi a2, vi a3, vi a4, vi a5] [] mem := by
  refine G_aload_n dX12_order_225 rfl ?_
  refine G_iload dX12_order_226 rfl ?_
  refine G_i2l dX12_order_228 (w1) ?_
  exact k1
set_option maxRecDepth 20000 in
set_option maxHeartbeats 1000000 in
theorem sg_X12_order_232 {E : Nat × (Nat → Int32)} {d : Nat} {P : Option Value → Mem → Prop} {mem : Mem} {a1 : Int} {a2 : Int} {a3 : Int} {a4 : Int} {a5 : Int}
    (k1 : P (some (vi a3)) mem) :
    GM E (m_X12_order d) P 232 [.ref 169, vi a1, vi a2, vi a3, vi a4, vi a5] [] mem := by
  refine G_iload_n dX12_order_232 rfl ?_
  exact G_iret dX12_order_233 rfl (Nat.zero_le _) (Nat.zero_le _) (Nat.le_refl _) ⟨rfl, k1⟩
abbrev m_X12_outOf (d : Nat) : Mu := (cX12_outOf, 5, RX12, (some .int), ⟨d, 0, 0, 40 * d⟩, "outOf")
set_option maxRecDepth 20000 in
set_option maxHeartbeats 1000000 in
theorem sg_X12_outOf_0 {E : Nat × (Nat → Int32)} {d : Nat} {P : Option Value → Mem → Prop} {mem : Mem} {r1 : Nat} {n1 : Nat} {a2 : Int} (hl1 : r1 < 209) (hs1 : SH[r1]? = some (.inr (0, n1)))
    (k1 : GM E (m_X12_outOf d) P 8 [.ref 169, .ref r1, vi a2, vi 0, vi (16 * a2)] [] mem) :
    GM E (m_X12_outOf d) P 0 [.ref 169, .ref r1, vi a2, un, un] [] mem := by
  refine G_iconst (z := 0) dX12_outOf_0 rfl ?_
  refine G_istore_n dX12_outOf_1 rfl (by decide : 3 < 5) rfl ?_
  refine G_bipush (z := 16) dX12_outOf_2 rfl ?_
  refine G_iload_n dX12_outOf_4 rfl ?_
  refine G_imul dX12_outOf_5 ?_
  refine G_istore dX12_outOf_6 (by decide : 4 < 5) rfl ?_
  exact k1
set_option maxRecDepth 20000 in
set_option maxHeartbeats 1000000 in
theorem sg_X12_outOf_8 {E : Nat × (Nat → Int32)} {d : Nat} {P : Option Value → Mem → Prop} {mem : Mem} {r1 : Nat} {n1 : Nat} {a2 : Int} {a3 : Int} {a4 : Int} (hl1 : r1 < 209) (hs1 : SH[r1]? = some (.inr (0, n1))) (w1 : -2147483648 ≤ a4 ∧ a4 < 2147483648) (w2 : -2147483648 ≤ (16 * (a2 + 1)) ∧ (16 * (a2 + 1)) < 2147483648) (q3 : ¬ (16 * (a2 + 1)) ≤ a4 → 0 ≤ a4 ∧ a4 < (n1 : Int)) (n4 : n1 < 2147483648) (w5 : ¬ (16 * (a2 + 1)) ≤ a4 → -2147483648 ≤ (mem r1 a4) ∧ (mem r1 a4) < 2147483648)
    (k1 : (16 * (a2 + 1)) ≤ a4 → P (some (vi a3)) mem)
    (k2 : ¬ (16 * (a2 + 1)) ≤ a4 → (mem r1 a4) ≠ 1 → GM E (m_X12_outOf d) P 33 [.ref 169, .ref r1, vi a2, vi a3, vi a4] [vi 0, vi a3] mem)
    (k3 : ¬ (16 * (a2 + 1)) ≤ a4 → (mem r1 a4) = 1 → GM E (m_X12_outOf d) P 33 [.ref 169, .ref r1, vi a2, vi a3, vi a4] [vi 1, vi a3] mem) :
    GM E (m_X12_outOf d) P 8 [.ref 169, .ref r1, vi a2, vi a3, vi a4] [] mem := by
  refine G_iload dX12_outOf_8 rfl ?_
  refine G_bipush (z := 16) dX12_outOf_10 rfl ?_
  refine G_iload_n dX12_outOf_12 rfl ?_
  refine G_iconst (z := 1) dX12_outOf_13 rfl ?_
  refine G_iadd dX12_outOf_14 ?_
  refine G_imul dX12_outOf_15 ?_
  refine G_icmp_ge (tgt := 44) dX12_outOf_16 (by decide) (w1) (w2) (fun c1 => ?_) (fun c1 => ?_)
  · -- (16 * (a2 + 1)) ≤ a4
    refine G_iload_n dX12_outOf_44 rfl ?_
    exact G_iret dX12_outOf_45 rfl (Nat.zero_le _) (Nat.zero_le _) (Nat.le_refl _) ⟨rfl, k1 c1⟩
  · -- ¬ (16 * (a2 + 1)) ≤ a4
    refine G_iload_n dX12_outOf_19 rfl ?_
    refine G_aload_n dX12_outOf_20 rfl ?_
    refine G_iload dX12_outOf_21 rfl ?_
    refine G_iald (z := (mem r1 a4)) dX12_outOf_23 hl1 hs1 (n4) (q3 c1).1 (q3 c1).2 rfl ?_
    refine G_iconst (z := 1) dX12_outOf_24 rfl ?_
    refine G_icmp_ne (tgt := 32) dX12_outOf_25 (by decide) (w5 c1) (by decide) (fun c2 => ?_) (fun c2 => ?_)
    · -- (mem r1 a4) ≠ 1
      refine G_iconst (z := 0) dX12_outOf_32 rfl ?_
      exact k2 c1 c2
    · -- (mem r1 a4) = 1
      refine G_iconst (z := 1) dX12_outOf_28 rfl ?_
      refine G_goto (tgt := 33) dX12_outOf_29 (by decide) ?_
      exact k3 c1 c2
set_option maxRecDepth 20000 in
set_option maxHeartbeats 1000000 in
theorem sg_X12_outOf_36 {E : Nat × (Nat → Int32)} {d : Nat} {P : Option Value → Mem → Prop} {mem : Mem} {r1 : Nat} {n1 : Nat} {a2 : Int} {a3 : Int} {a4 : Int} {s0 : Int} {s1 : Int} (hl1 : r1 < 209) (hs1 : SH[r1]? = some (.inr (0, n1)))
    (k1 : GM E (m_X12_outOf d) P 8 [.ref 169, .ref r1, vi a2, vi (s1 + s0), vi (a4 + 1)] [] mem) :
    GM E (m_X12_outOf d) P 36 [.ref 169, .ref r1, vi a2, vi a3, vi a4] [vi s0, vi s1] mem := by
  refine G_iadd dX12_outOf_36 ?_
  refine G_istore_n dX12_outOf_37 rfl (by decide : 3 < 5) rfl ?_
  refine G_iinc (z := (a4 + 1)) dX12_outOf_38 rfl rfl (by decide : 4 < 5) rfl ?_
  refine G_goto (tgt := 8) dX12_outOf_41 (by decide) ?_
  exact k1
abbrev m_X12_pause (d : Nat) : Mu := (cX12_pause, 2, RX12, (some .int), ⟨d, 0, 0, 40 * d⟩, "pause")
set_option maxRecDepth 20000 in
set_option maxHeartbeats 1000000 in
theorem sg_X12_pause_0 {E : Nat × (Nat → Int32)} {d : Nat} {P : Option Value → Mem → Prop} {mem : Mem} {a1 : Int} (w1 : -2147483648 ≤ a1 ∧ a1 < 2147483648)
    (k1 : GM E (m_X12_pause d) P 11 [.ref 169, vi a1] [vl 9999, vl 0, vl a1] (up2 mem 169 0 0)) :
    GM E (m_X12_pause d) P 0 [.ref 169, vi a1] [] mem := by
  refine G_aload_n dX12_pause_0 rfl ?_
  refine G_iconst (z := 0) dX12_pause_1 rfl ?_
  refine G_putI (mem2 := (up2 mem 169 0 0)) dX12_pause_2 fp_12_126 (by decide) sh_169 rfl ?_
  refine G_iload_n dX12_pause_5 rfl ?_
  refine G_i2l dX12_pause_6 (w1) ?_
  refine G_lconst (z := 0) dX12_pause_7 rfl ?_
  refine G_ldc2 (z := 9999) dX12_pause_8 kc_12_382 ?_
  exact k1
set_option maxRecDepth 20000 in
set_option maxHeartbeats 1000000 in
theorem sg_X12_pause_14 {E : Nat × (Nat → Int32)} {d : Nat} {P : Option Value → Mem → Prop} {mem : Mem} {a1 : Int} {s0 : Int} (w1 : -2147483648 ≤ s0 ∧ s0 < 2147483648)
    (k1 : s0 ≠ 0 → GM E (m_X12_pause d) P 20 [.ref 169, vi a1] [.ref 169] mem)
    (k2 : s0 = 0 → P (some (vi (-1))) mem) :
    GM E (m_X12_pause d) P 14 [.ref 169, vi a1] [vi s0] mem := by
  refine G_if_ne (tgt := 19) dX12_pause_14 (by decide) (w1) (fun c1 => ?_) (fun c1 => ?_)
  · -- s0 ≠ 0
    refine G_aload_n dX12_pause_19 rfl ?_
    exact k1 c1
  · -- s0 = 0
    refine G_iconst (z := (-1)) dX12_pause_17 rfl ?_
    exact G_iret dX12_pause_18 rfl (Nat.zero_le _) (Nat.zero_le _) (Nat.le_refl _) ⟨rfl, k2 c1⟩
set_option maxRecDepth 20000 in
set_option maxHeartbeats 1000000 in
theorem sg_X12_pause_23 {E : Nat × (Nat → Int32)} {d : Nat} {P : Option Value → Mem → Prop} {mem : Mem} {a1 : Int}
    (k1 : GM E (m_X12_pause d) P 42 [.ref 169, vi a1] [vi ((mem 180 98) + a1), .ref 169] (up2 mem 180 98 ((mem 180 98) + a1))) :
    GM E (m_X12_pause d) P 23 [.ref 169, vi a1] [] mem := by
  refine G_aload_n dX12_pause_23 rfl ?_
  refine G_getR (t := 180) dX12_pause_24 fl_12_42 (by decide) sh_169 rr_169_14 ?_
  refine G_bipush (z := 98) dX12_pause_27 rfl ?_
  refine G_dup2 dX12_pause_29 rfl rfl ?_
  refine G_iald (z := (mem 180 98)) dX12_pause_30 (by decide) sh_180 (by decide) (by decide) (by decide) rfl ?_
  refine G_iload_n dX12_pause_31 rfl ?_
  refine G_iadd dX12_pause_32 ?_
  refine G_iast (mem2 := (up2 mem 180 98 ((mem 180 98) + a1))) dX12_pause_33 (by decide) sh_180 (by decide) (by decide) (by decide) rfl ?_
  refine G_aload_n dX12_pause_34 rfl ?_
  refine G_aload_n dX12_pause_35 rfl ?_
  refine G_getR (t := 180) dX12_pause_36 fl_12_42 (by decide) sh_169 rr_169_14 ?_
  refine G_bipush (z := 98) dX12_pause_39 rfl ?_
  refine G_iald (z := ((mem 180 98) + a1)) dX12_pause_41 (by decide) sh_180 (by decide) (by decide) (by decide) (by simp [up2, upr]) ?_
  exact k1
set_option maxRecDepth 20000 in
set_option maxHeartbeats 1000000 in
theorem sg_X12_pause_45 {E : Nat × (Nat → Int32)} {d : Nat} {P : Option Value → Mem → Prop} {mem : Mem} {a1 : Int} {s0 : Int}
    (k1 : P (some (vi s0)) mem) :
    GM E (m_X12_pause d) P 45 [.ref 169, vi a1] [vi s0] mem := by
  exact G_iret dX12_pause_45 rfl (Nat.zero_le _) (Nat.zero_le _) (Nat.le_refl _) ⟨rfl, k1⟩
abbrev m_X12_puts (d : Nat) : Mu := (cX12_puts, 3, RX12, none, ⟨d, 0, 0, 40 * d⟩, "puts")
set_option maxRecDepth 20000 in
set_option maxHeartbeats 1000000 in
theorem sg_X12_puts_0 {E : Nat × (Nat → Int32)} {d : Nat} {P : Option Value → Mem → Prop} {mem : Mem} {r0 : Nat} {n0 : Nat} {r1 : Nat} {n1 : Nat} (hl0 : r0 < 209) (hs0 : SH[r0]? = some (.inr (0, n0))) (hl1 : r1 < 209) (hs1 : SH[r1]? = some (.inr (0, n1)))
    (k1 : GM E (m_X12_puts d) P 2 [.ref r0, .ref r1, vi 0] [] mem) :
    GM E (m_X12_puts d) P 0 [.ref r0, .ref r1, un] [] mem := by
  refine G_iconst (z := 0) dX12_puts_0 rfl ?_
  refine G_istore_n dX12_puts_1 rfl (by decide : 2 < 3) rfl ?_
  exact k1
set_option maxRecDepth 20000 in
set_option maxHeartbeats 1000000 in
theorem sg_X12_puts_2 {E : Nat × (Nat → Int32)} {d : Nat} {P : Option Value → Mem → Prop} {mem : Mem} {r0 : Nat} {n0 : Nat} {r1 : Nat} {n1 : Nat} {a2 : Int} (hl0 : r0 < 209) (hs0 : SH[r0]? = some (.inr (0, n0))) (hl1 : r1 < 209) (hs1 : SH[r1]? = some (.inr (0, n1))) (w1 : -2147483648 ≤ a2 ∧ a2 < 2147483648) (q2 : ¬ 99 ≤ a2 → 0 ≤ a2 ∧ a2 < (n0 : Int)) (n3 : n0 < 2147483648) (q4 : ¬ 99 ≤ a2 → 0 ≤ a2 ∧ a2 < (n1 : Int)) (n5 : n1 < 2147483648)
    (k1 : 99 ≤ a2 → P none mem)
    (k2 : ¬ 99 ≤ a2 → GM E (m_X12_puts d) P 2 [.ref r0, .ref r1, vi (a2 + 1)] [] (up2 mem r1 a2 (mem r0 a2))) :
    GM E (m_X12_puts d) P 2 [.ref r0, .ref r1, vi a2] [] mem := by
  refine G_iload_n dX12_puts_2 rfl ?_
  refine G_bipush (z := 99) dX12_puts_3 rfl ?_
  refine G_icmp_ge (tgt := 20) dX12_puts_5 (by decide) (w1) (by decide) (fun c1 => ?_) (fun c1 => ?_)
  · -- 99 ≤ a2
    exact G_vret dX12_puts_20 rfl (Nat.zero_le _) (Nat.zero_le _) (Nat.le_refl _) ⟨rfl, k1 c1⟩
  · -- ¬ 99 ≤ a2
    refine G_aload_n dX12_puts_8 rfl ?_
    refine G_iload_n dX12_puts_9 rfl ?_
    refine G_aload_n dX12_puts_10 rfl ?_
    refine G_iload_n dX12_puts_11 rfl ?_
    refine G_iald (z := (mem r0 a2)) dX12_puts_12 hl0 hs0 (n3) (q2 c1).1 (q2 c1).2 rfl ?_
    refine G_iast (mem2 := (up2 mem r1 a2 (mem r0 a2))) dX12_puts_13 hl1 hs1 (n5) (q4 c1).1 (q4 c1).2 rfl ?_
    refine G_iinc (z := (a2 + 1)) dX12_puts_14 rfl rfl (by decide : 2 < 3) rfl ?_
    refine G_goto (tgt := 2) dX12_puts_17 (by decide) ?_
    exact k2 c1
abbrev m_X12_putsBy (d : Nat) : Mu := (cX12_putsBy, 2, RX12, none, ⟨d, 0, 0, 40 * d⟩, "putsBy")
set_option maxRecDepth 20000 in
set_option maxHeartbeats 1000000 in
theorem sg_X12_putsBy_0 {E : Nat × (Nat → Int32)} {d : Nat} {P : Option Value → Mem → Prop} {mem : Mem}
    (k1 : GM E (m_X12_putsBy d) P 2 [.ref 169, vi 0] [] mem) :
    GM E (m_X12_putsBy d) P 0 [.ref 169, un] [] mem := by
  refine G_iconst (z := 0) dX12_putsBy_0 rfl ?_
  refine G_istore_n dX12_putsBy_1 rfl (by decide : 1 < 2) rfl ?_
  exact k1
set_option maxRecDepth 20000 in
set_option maxHeartbeats 1000000 in
theorem sg_X12_putsBy_2 {E : Nat × (Nat → Int32)} {d : Nat} {P : Option Value → Mem → Prop} {mem : Mem} {a1 : Int} (w1 : -2147483648 ≤ a1 ∧ a1 < 2147483648) (q2 : ¬ 99 ≤ a1 → 0 ≤ a1 ∧ a1 < 99) (q3 : ¬ 99 ≤ a1 → 0 ≤ ((99 * (mem 169 40)) + a1) ∧ ((99 * (mem 169 40)) + a1) < 1584)
    (k1 : 99 ≤ a1 → P none mem)
    (k2 : ¬ 99 ≤ a1 → GM E (m_X12_putsBy d) P 2 [.ref 169, vi (a1 + 1)] [] (up2 mem 190 ((99 * (mem 169 40)) + a1) (mem 180 a1))) :
    GM E (m_X12_putsBy d) P 2 [.ref 169, vi a1] [] mem := by
  refine G_iload_n dX12_putsBy_2 rfl ?_
  refine G_bipush (z := 99) dX12_putsBy_3 rfl ?_
  refine G_icmp_ge (tgt := 34) dX12_putsBy_5 (by decide) (w1) (by decide) (fun c1 => ?_) (fun c1 => ?_)
  · -- 99 ≤ a1
    exact G_vret dX12_putsBy_34 rfl (Nat.zero_le _) (Nat.zero_le _) (Nat.le_refl _) ⟨rfl, k1 c1⟩
  · -- ¬ 99 ≤ a1
    refine G_aload_n dX12_putsBy_8 rfl ?_
    refine G_getR (t := 190) dX12_putsBy_9 fl_12_72 (by decide) sh_169 rr_169_41 ?_
    refine G_bipush (z := 99) dX12_putsBy_12 rfl ?_
    refine G_aload_n dX12_putsBy_14 rfl ?_
    refine G_getI (z := (mem 169 40)) dX12_putsBy_15 fl_12_224 (by decide) sh_169 rfl ?_
    refine G_imul dX12_putsBy_18 ?_
    refine G_iload_n dX12_putsBy_19 rfl ?_
    refine G_iadd dX12_putsBy_20 ?_
    refine G_aload_n dX12_putsBy_21 rfl ?_
    refine G_getR (t := 180) dX12_putsBy_22 fl_12_42 (by decide) sh_169 rr_169_14 ?_
    refine G_iload_n dX12_putsBy_25 rfl ?_
    refine G_iald (z := (mem 180 a1)) dX12_putsBy_26 (by decide) sh_180 (by decide) (q2 c1).1 (q2 c1).2 rfl ?_
    refine G_iast (mem2 := (up2 mem 190 ((99 * (mem 169 40)) + a1) (mem 180 a1))) dX12_putsBy_27 (by decide) sh_190 (by decide) (q3 c1).1 (q3 c1).2 rfl ?_
    refine G_iinc (z := (a1 + 1)) dX12_putsBy_28 rfl rfl (by decide : 1 < 2) rfl ?_
    refine G_goto (tgt := 2) dX12_putsBy_31 (by decide) ?_
    exact k2 c1
abbrev m_X12_quickestOf (d : Nat) : Mu := (cX12_quickestOf, 2, RX12, (some .int), ⟨d, 0, 0, 40 * d⟩, "quickestOf")
set_option maxRecDepth 20000 in
set_option maxHeartbeats 1000000 in
theorem sg_X12_quickestOf_0 {E : Nat × (Nat → Int32)} {d : Nat} {P : Option Value → Mem → Prop} {mem : Mem} {a1 : Int}
    (k1 : GM E (m_X12_quickestOf d) P 9 [.ref 169, vi a1] [vi 0, vi a1, .ref 169] (up2 mem 169 54 (-2))) :
    GM E (m_X12_quickestOf d) P 0 [.ref 169, vi a1] [] mem := by
  refine G_aload_n dX12_quickestOf_0 rfl ?_
  refine G_bipush (z := (-2)) dX12_quickestOf_1 rfl ?_
  refine G_putI (mem2 := (up2 mem 169 54 (-2))) dX12_quickestOf_3 fp_12_432 (by decide) sh_169 rfl ?_
  refine G_aload_n dX12_quickestOf_6 rfl ?_
  refine G_iload_n dX12_quickestOf_7 rfl ?_
  refine G_iconst (z := 0) dX12_quickestOf_8 rfl ?_
  exact k1
set_option maxRecDepth 20000 in
set_option maxHeartbeats 1000000 in
theorem sg_X12_quickestOf_12 {E : Nat × (Nat → Int32)} {d : Nat} {P : Option Value → Mem → Prop} {mem : Mem} {a1 : Int}
    (k1 : P (some (vi (mem 169 54))) mem) :
    GM E (m_X12_quickestOf d) P 12 [.ref 169, vi a1] [] mem := by
  refine G_aload_n dX12_quickestOf_12 rfl ?_
  refine G_getI (z := (mem 169 54)) dX12_quickestOf_13 fl_12_432 (by decide) sh_169 rfl ?_
  exact G_iret dX12_quickestOf_16 rfl (Nat.zero_le _) (Nat.zero_le _) (Nat.le_refl _) ⟨rfl, k1⟩
abbrev m_X12_readsAct (d : Nat) : Mu := (cX12_readsAct, 2, RX12, (some .boolean), ⟨d, 0, 0, 40 * d⟩, "readsAct")
set_option maxRecDepth 20000 in
set_option maxHeartbeats 1000000 in
theorem sg_X12_readsAct_0 {E : Nat × (Nat → Int32)} {d : Nat} {P : Option Value → Mem → Prop} {mem : Mem}
    (k1 : GM E (m_X12_readsAct d) P 14 [.ref 169, vi (mem 169 46)] [.ref 1109, .ref 169, vi (mem 169 46), .ref 191] mem) :
    GM E (m_X12_readsAct d) P 0 [.ref 169, un] [] mem := by
  refine G_aload_n dX12_readsAct_0 rfl ?_
  refine G_getI (z := (mem 169 46)) dX12_readsAct_1 fl_12_387 (by decide) sh_169 rfl ?_
  refine G_istore_n dX12_readsAct_4 rfl (by decide : 1 < 2) rfl ?_
  refine G_aload_n dX12_readsAct_5 rfl ?_
  refine G_getR (t := 191) dX12_readsAct_6 fl_12_75 (by decide) sh_169 rr_169_43 ?_
  refine G_iload_n dX12_readsAct_9 rfl ?_
  refine G_aload_n dX12_readsAct_10 rfl ?_
  refine G_ldcwS (i := 9) (tx := "getp") dX12_readsAct_11 (by decide +kernel : (RX12, 390, "getp", 9) ∈ strTab) (by decide) ?_
  exact k1
set_option maxRecDepth 20000 in
set_option maxHeartbeats 1000000 in
theorem sg_X12_readsAct_17 {E : Nat × (Nat → Int32)} {d : Nat} {P : Option Value → Mem → Prop} {mem : Mem} {a1 : Int} {s0 : Int} {s1 : Int} (q1 : 0 ≤ s1 ∧ s1 < 60) (q2 : 0 ≤ a1 ∧ a1 < 60) (w3 : -2147483648 ≤ ((up2 mem 191 s1 s0) 191 a1) ∧ ((up2 mem 191 s1 s0) 191 a1) < 2147483648)
    (k1 : ((up2 mem 191 s1 s0) 191 a1) < 0 → ((up2 mem 191 s1 s0) 191 a1) ≠ 2 → P (some (vi 0)) (up2 (up2 mem 191 s1 s0) 169 46 ((mem 169 46) + 1)))
    (k2 : ((up2 mem 191 s1 s0) 191 a1) < 0 → ((up2 mem 191 s1 s0) 191 a1) = 2 → P (some (vi 1)) (up2 (up2 mem 191 s1 s0) 169 46 ((mem 169 46) + 1)))
    (k3 : ¬ ((up2 mem 191 s1 s0) 191 a1) < 0 → ((up2 mem 191 s1 s0) 191 a1) ≠ 2 → ((up2 mem 191 s1 s0) 191 a1) ≠ 3 → GM E (m_X12_readsAct d) P 84 [.ref 169, vi a1] [vi 1, .ref 169, vi a1, .ref 192] (up2 (up2 mem 191 s1 s0) 169 46 ((mem 169 46) + 1)))
    (k4 : ¬ ((up2 mem 191 s1 s0) 191 a1) < 0 → ((up2 mem 191 s1 s0) 191 a1) ≠ 2 → ((up2 mem 191 s1 s0) 191 a1) = 3 → GM E (m_X12_readsAct d) P 84 [.ref 169, vi a1] [vi 4, .ref 169, vi a1, .ref 192] (up2 (up2 mem 191 s1 s0) 169 46 ((mem 169 46) + 1)))
    (k5 : ¬ ((up2 mem 191 s1 s0) 191 a1) < 0 → ((up2 mem 191 s1 s0) 191 a1) = 2 → ((up2 mem 191 s1 s0) 191 a1) ≠ 2 → P (some (vi 0)) (up2 (up2 mem 191 s1 s0) 169 46 ((mem 169 46) + 1)))
    (k6 : ¬ ((up2 mem 191 s1 s0) 191 a1) < 0 → ((up2 mem 191 s1 s0) 191 a1) = 2 → ((up2 mem 191 s1 s0) 191 a1) = 2 → P (some (vi 1)) (up2 (up2 mem 191 s1 s0) 169 46 ((mem 169 46) + 1))) :
    GM E (m_X12_readsAct d) P 17 [.ref 169, vi a1] [vi s0, vi s1, .ref 191] mem := by
  refine G_iast (mem2 := (up2 mem 191 s1 s0)) dX12_readsAct_17 (by decide) sh_191 (by decide) (q1).1 (q1).2 rfl ?_
  refine G_aload_n dX12_readsAct_18 rfl ?_
  refine G_dup dX12_readsAct_19 rfl ?_
  refine G_getI (z := (mem 169 46)) dX12_readsAct_20 fl_12_387 (by decide) sh_169 (by simp [up2, upr]) ?_
  refine G_iconst (z := 1) dX12_readsAct_23 rfl ?_
  refine G_iadd dX12_readsAct_24 ?_
  refine G_putI (mem2 := (up2 (up2 mem 191 s1 s0) 169 46 ((mem 169 46) + 1))) dX12_readsAct_25 fp_12_387 (by decide) sh_169 rfl ?_
  refine G_aload_n dX12_readsAct_28 rfl ?_
  refine G_getR (t := 191) dX12_readsAct_29 fl_12_75 (by decide) sh_169 rr_169_43 ?_
  refine G_iload_n dX12_readsAct_32 rfl ?_
  refine G_iald (z := ((up2 mem 191 s1 s0) 191 a1)) dX12_readsAct_33 (by decide) sh_191 (by decide) (q2).1 (q2).2 (by simp [up2, upr]) ?_
  refine G_if_lt (tgt := 47) dX12_readsAct_34 (by decide) (w3) (fun c1 => ?_) (fun c1 => ?_)
  · -- ((up2 mem 191 s1 s0) 191 a1) < 0
    refine G_aload_n dX12_readsAct_47 rfl ?_
    refine G_getR (t := 191) dX12_readsAct_48 fl_12_75 (by decide) sh_169 rr_169_43 ?_
    refine G_iload_n dX12_readsAct_51 rfl ?_
    refine G_iald (z := ((up2 mem 191 s1 s0) 191 a1)) dX12_readsAct_52 (by decide) sh_191 (by decide) (q2).1 (q2).2 (by simp [up2, upr]) ?_
    refine G_iconst (z := 2) dX12_readsAct_53 rfl ?_
    refine G_icmp_ne (tgt := 61) dX12_readsAct_54 (by decide) (w3) (by decide) (fun c2 => ?_) (fun c2 => ?_)
    · -- ((up2 mem 191 s1 s0) 191 a1) ≠ 2
      refine G_iconst (z := 0) dX12_readsAct_61 rfl ?_
      exact G_zret dX12_readsAct_62 rfl (nar_zb (by decide)) (Nat.zero_le _) (Nat.zero_le _) (Nat.le_refl _) ⟨rfl, k1 c1 c2⟩
    · -- ((up2 mem 191 s1 s0) 191 a1) = 2
      refine G_iconst (z := 1) dX12_readsAct_57 rfl ?_
      refine G_goto (tgt := 62) dX12_readsAct_58 (by decide) ?_
      exact G_zret dX12_readsAct_62 rfl (nar_zb (by decide)) (Nat.zero_le _) (Nat.zero_le _) (Nat.le_refl _) ⟨rfl, k2 c1 c2⟩
  · -- ¬ ((up2 mem 191 s1 s0) 191 a1) < 0
    refine G_aload_n dX12_readsAct_37 rfl ?_
    refine G_getR (t := 191) dX12_readsAct_38 fl_12_75 (by decide) sh_169 rr_169_43 ?_
    refine G_iload_n dX12_readsAct_41 rfl ?_
    refine G_iald (z := ((up2 mem 191 s1 s0) 191 a1)) dX12_readsAct_42 (by decide) sh_191 (by decide) (q2).1 (q2).2 (by simp [up2, upr]) ?_
    refine G_iconst (z := 2) dX12_readsAct_43 rfl ?_
    refine G_icmp_ne (tgt := 63) dX12_readsAct_44 (by decide) (w3) (by decide) (fun c3 => ?_) (fun c3 => ?_)
    · -- ((up2 mem 191 s1 s0) 191 a1) ≠ 2
      refine G_aload_n dX12_readsAct_63 rfl ?_
      refine G_getR (t := 192) dX12_readsAct_64 fl_12_78 (by decide) sh_169 rr_169_44 ?_
      refine G_iload_n dX12_readsAct_67 rfl ?_
      refine G_aload_n dX12_readsAct_68 rfl ?_
      refine G_aload_n dX12_readsAct_69 rfl ?_
      refine G_getR (t := 191) dX12_readsAct_70 fl_12_75 (by decide) sh_169 rr_169_43 ?_
      refine G_iload_n dX12_readsAct_73 rfl ?_
      refine G_iald (z := ((up2 mem 191 s1 s0) 191 a1)) dX12_readsAct_74 (by decide) sh_191 (by decide) (q2).1 (q2).2 (by simp [up2, upr]) ?_
      refine G_iconst (z := 3) dX12_readsAct_75 rfl ?_
      refine G_icmp_ne (tgt := 83) dX12_readsAct_76 (by decide) (w3) (by decide) (fun c4 => ?_) (fun c4 => ?_)
      · -- ((up2 mem 191 s1 s0) 191 a1) ≠ 3
        refine G_iconst (z := 1) dX12_readsAct_83 rfl ?_
        exact k3 c1 c3 c4
      · -- ((up2 mem 191 s1 s0) 191 a1) = 3
        refine G_iconst (z := 4) dX12_readsAct_79 rfl ?_
        refine G_goto (tgt := 84) dX12_readsAct_80 (by decide) ?_
        exact k4 c1 c3 c4
    · -- ((up2 mem 191 s1 s0) 191 a1) = 2
      refine G_aload_n dX12_readsAct_47 rfl ?_
      refine G_getR (t := 191) dX12_readsAct_48 fl_12_75 (by decide) sh_169 rr_169_43 ?_
      refine G_iload_n dX12_readsAct_51 rfl ?_
      refine G_iald (z := ((up2 mem 191 s1 s0) 191 a1)) dX12_readsAct_52 (by decide) sh_191 (by decide) (q2).1 (q2).2 (by simp [up2, upr]) ?_
      refine G_iconst (z := 2) dX12_readsAct_53 rfl ?_
      refine G_icmp_ne (tgt := 61) dX12_readsAct_54 (by decide) (w3) (by decide) (fun c5 => ?_) (fun c5 => ?_)
      · -- ((up2 mem 191 s1 s0) 191 a1) ≠ 2
        refine G_iconst (z := 0) dX12_readsAct_61 rfl ?_
        exact G_zret dX12_readsAct_62 rfl (nar_zb (by decide)) (Nat.zero_le _) (Nat.zero_le _) (Nat.le_refl _) ⟨rfl, k5 c1 c3 c5⟩
      · -- ((up2 mem 191 s1 s0) 191 a1) = 2
        refine G_iconst (z := 1) dX12_readsAct_57 rfl ?_
        refine G_goto (tgt := 62) dX12_readsAct_58 (by decide) ?_
        exact G_zret dX12_readsAct_62 rfl (nar_zb (by decide)) (Nat.zero_le _) (Nat.zero_le _) (Nat.le_refl _) ⟨rfl, k6 c1 c3 c5⟩
set_option maxRecDepth 20000 in
set_option maxHeartbeats 1000000 in
theorem sg_X12_readsAct_87 {E : Nat × (Nat → Int32)} {d : Nat} {P : Option Value → Mem → Prop} {mem : Mem} {a1 : Int} {s0 : Int} {s1 : Int} (q1 : 0 ≤ s1 ∧ s1 < 60) (q2 : 0 ≤ a1 ∧ a1 < 60) (w3 : -2147483648 ≤ ((up2 mem 192 s1 s0) 192 a1) ∧ ((up2 mem 192 s1 s0) 192 a1) < 2147483648) (w4 : ¬ ((up2 mem 192 s1 s0) 192 a1) < 0 → -2147483648 ≤ (mem 191 a1) ∧ (mem 191 a1) < 2147483648)
    (k1 : ((up2 mem 192 s1 s0) 192 a1) < 0 → ((up2 mem 192 s1 s0) 192 a1) < 0 → P (some (vi 0)) (up2 mem 192 s1 s0))
    (k2 : ((up2 mem 192 s1 s0) 192 a1) < 0 → ¬ ((up2 mem 192 s1 s0) 192 a1) < 0 → P (some (vi 1)) (up2 mem 192 s1 s0))
    (k3 : ¬ ((up2 mem 192 s1 s0) 192 a1) < 0 → (mem 191 a1) = 1 → GM E (m_X12_readsAct d) P 131 [.ref 169, vi a1] [.ref 1110, .ref 169, vi a1, .ref 193] (up2 mem 192 s1 s0))
    (k4 : ¬ ((up2 mem 192 s1 s0) 192 a1) < 0 → ¬ (mem 191 a1) = 1 → ((up2 mem 192 s1 s0) 192 a1) < 0 → P (some (vi 0)) (up2 mem 192 s1 s0))
    (k5 : ¬ ((up2 mem 192 s1 s0) 192 a1) < 0 → ¬ (mem 191 a1) = 1 → ¬ ((up2 mem 192 s1 s0) 192 a1) < 0 → P (some (vi 1)) (up2 mem 192 s1 s0)) :
    GM E (m_X12_readsAct d) P 87 [.ref 169, vi a1] [vi s0, vi s1, .ref 192] mem := by
  refine G_iast (mem2 := (up2 mem 192 s1 s0)) dX12_readsAct_87 (by decide) sh_192 (by decide) (q1).1 (q1).2 rfl ?_
  refine G_aload_n dX12_readsAct_88 rfl ?_
  refine G_getR (t := 192) dX12_readsAct_89 fl_12_78 (by decide) sh_169 rr_169_44 ?_
  refine G_iload_n dX12_readsAct_92 rfl ?_
  refine G_iald (z := ((up2 mem 192 s1 s0) 192 a1)) dX12_readsAct_93 (by decide) sh_192 (by decide) (q2).1 (q2).2 (by simp [up2, upr]) ?_
  refine G_if_lt (tgt := 107) dX12_readsAct_94 (by decide) (w3) (fun c1 => ?_) (fun c1 => ?_)
  · -- ((up2 mem 192 s1 s0) 192 a1) < 0
    refine G_aload_n dX12_readsAct_107 rfl ?_
    refine G_getR (t := 192) dX12_readsAct_108 fl_12_78 (by decide) sh_169 rr_169_44 ?_
    refine G_iload_n dX12_readsAct_111 rfl ?_
    refine G_iald (z := ((up2 mem 192 s1 s0) 192 a1)) dX12_readsAct_112 (by decide) sh_192 (by decide) (q2).1 (q2).2 (by simp [up2, upr]) ?_
    refine G_if_lt (tgt := 120) dX12_readsAct_113 (by decide) (w3) (fun c2 => ?_) (fun c2 => ?_)
    · -- ((up2 mem 192 s1 s0) 192 a1) < 0
      refine G_iconst (z := 0) dX12_readsAct_120 rfl ?_
      exact G_zret dX12_readsAct_121 rfl (nar_zb (by decide)) (Nat.zero_le _) (Nat.zero_le _) (Nat.le_refl _) ⟨rfl, k1 c1 c2⟩
    · -- ¬ ((up2 mem 192 s1 s0) 192 a1) < 0
      refine G_iconst (z := 1) dX12_readsAct_116 rfl ?_
      refine G_goto (tgt := 121) dX12_readsAct_117 (by decide) ?_
      exact G_zret dX12_readsAct_121 rfl (nar_zb (by decide)) (Nat.zero_le _) (Nat.zero_le _) (Nat.le_refl _) ⟨rfl, k2 c1 c2⟩
  · -- ¬ ((up2 mem 192 s1 s0) 192 a1) < 0
    refine G_aload_n dX12_readsAct_97 rfl ?_
    refine G_getR (t := 191) dX12_readsAct_98 fl_12_75 (by decide) sh_169 rr_169_43 ?_
    refine G_iload_n dX12_readsAct_101 rfl ?_
    refine G_iald (z := (mem 191 a1)) dX12_readsAct_102 (by decide) sh_191 (by decide) (q2).1 (q2).2 (by simp [up2, upr]) ?_
    refine G_iconst (z := 1) dX12_readsAct_103 rfl ?_
    refine G_icmp_eq (tgt := 122) dX12_readsAct_104 (by decide) (w4 c1) (by decide) (fun c3 => ?_) (fun c3 => ?_)
    · -- (mem 191 a1) = 1
      refine G_aload_n dX12_readsAct_122 rfl ?_
      refine G_getR (t := 193) dX12_readsAct_123 fl_12_81 (by decide) sh_169 rr_169_45 ?_
      refine G_iload_n dX12_readsAct_126 rfl ?_
      refine G_aload_n dX12_readsAct_127 rfl ?_
      refine G_ldcwS (i := 10) (tx := "012") dX12_readsAct_128 (by decide +kernel : (RX12, 392, "012", 10) ∈ strTab) (by decide) ?_
      exact k3 c1 c3
    · -- ¬ (mem 191 a1) = 1
      refine G_aload_n dX12_readsAct_107 rfl ?_
      refine G_getR (t := 192) dX12_readsAct_108 fl_12_78 (by decide) sh_169 rr_169_44 ?_
      refine G_iload_n dX12_readsAct_111 rfl ?_
      refine G_iald (z := ((up2 mem 192 s1 s0) 192 a1)) dX12_readsAct_112 (by decide) sh_192 (by decide) (q2).1 (q2).2 (by simp [up2, upr]) ?_
      refine G_if_lt (tgt := 120) dX12_readsAct_113 (by decide) (w3) (fun c4 => ?_) (fun c4 => ?_)
      · -- ((up2 mem 192 s1 s0) 192 a1) < 0
        refine G_iconst (z := 0) dX12_readsAct_120 rfl ?_
        exact G_zret dX12_readsAct_121 rfl (nar_zb (by decide)) (Nat.zero_le _) (Nat.zero_le _) (Nat.le_refl _) ⟨rfl, k4 c1 c3 c4⟩
      · -- ¬ ((up2 mem 192 s1 s0) 192 a1) < 0
        refine G_iconst (z := 1) dX12_readsAct_116 rfl ?_
        refine G_goto (tgt := 121) dX12_readsAct_117 (by decide) ?_
        exact G_zret dX12_readsAct_121 rfl (nar_zb (by decide)) (Nat.zero_le _) (Nat.zero_le _) (Nat.le_refl _) ⟨rfl, k5 c1 c3 c4⟩
set_option maxRecDepth 20000 in
set_option maxHeartbeats 1000000 in
theorem sg_X12_readsAct_134 {E : Nat × (Nat → Int32)} {d : Nat} {P : Option Value → Mem → Prop} {mem : Mem} {a1 : Int} {s0 : Int} {s1 : Int} (q1 : 0 ≤ s1 ∧ s1 < 60) (q2 : 0 ≤ a1 ∧ a1 < 60) (w3 : -2147483648 ≤ ((up2 mem 193 s1 s0) 193 a1) ∧ ((up2 mem 193 s1 s0) 193 a1) < 2147483648)
    (k1 : ((up2 mem 193 s1 s0) 193 a1) < 0 → P (some (vi 0)) (up2 mem 193 s1 s0))
    (k2 : ¬ ((up2 mem 193 s1 s0) 193 a1) < 0 → P (some (vi 1)) (up2 mem 193 s1 s0)) :
    GM E (m_X12_readsAct d) P 134 [.ref 169, vi a1] [vi s0, vi s1, .ref 193] mem := by
  refine G_iast (mem2 := (up2 mem 193 s1 s0)) dX12_readsAct_134 (by decide) sh_193 (by decide) (q1).1 (q1).2 rfl ?_
  refine G_aload_n dX12_readsAct_135 rfl ?_
  refine G_getR (t := 193) dX12_readsAct_136 fl_12_81 (by decide) sh_169 rr_169_45 ?_
  refine G_iload_n dX12_readsAct_139 rfl ?_
  refine G_iald (z := ((up2 mem 193 s1 s0) 193 a1)) dX12_readsAct_140 (by decide) sh_193 (by decide) (q2).1 (q2).2 (by simp [up2, upr]) ?_
  refine G_if_lt (tgt := 148) dX12_readsAct_141 (by decide) (w3) (fun c1 => ?_) (fun c1 => ?_)
  · -- ((up2 mem 193 s1 s0) 193 a1) < 0
    refine G_iconst (z := 0) dX12_readsAct_148 rfl ?_
    exact G_zret dX12_readsAct_149 rfl (nar_zb (by decide)) (Nat.zero_le _) (Nat.zero_le _) (Nat.le_refl _) ⟨rfl, k1 c1⟩
  · -- ¬ ((up2 mem 193 s1 s0) 193 a1) < 0
    refine G_iconst (z := 1) dX12_readsAct_144 rfl ?_
    refine G_goto (tgt := 149) dX12_readsAct_145 (by decide) ?_
    exact G_zret dX12_readsAct_149 rfl (nar_zb (by decide)) (Nat.zero_le _) (Nat.zero_le _) (Nat.le_refl _) ⟨rfl, k2 c1⟩
abbrev m_X12_readsRank (d : Nat) : Mu := (cX12_readsRank, 4, RX12, (some .boolean), ⟨d, 0, 0, 40 * d⟩, "readsRank")
set_option maxRecDepth 20000 in
set_option maxHeartbeats 1000000 in
theorem sg_X12_readsRank_0 {E : Nat × (Nat → Int32)} {d : Nat} {P : Option Value → Mem → Prop} {mem : Mem} {a1 : Int} (w1 : -2147483648 ≤ a1 ∧ a1 < 2147483648)
    (k1 : a1 ≠ 3 → GM E (m_X12_readsRank d) P 14 [.ref 169, vi a1, un, un] [vi (a1 + 1), .ref 169] mem)
    (k2 : a1 = 3 → GM E (m_X12_readsRank d) P 6 [.ref 169, vi a1, un, un] [.ref 169] mem) :
    GM E (m_X12_readsRank d) P 0 [.ref 169, vi a1, un, un] [] mem := by
  refine G_iload_n dX12_readsRank_0 rfl ?_
  refine G_iconst (z := 3) dX12_readsRank_1 rfl ?_
  refine G_icmp_ne (tgt := 10) dX12_readsRank_2 (by decide) (w1) (by decide) (fun c1 => ?_) (fun c1 => ?_)
  · -- a1 ≠ 3
    refine G_aload_n dX12_readsRank_10 rfl ?_
    refine G_iload_n dX12_readsRank_11 rfl ?_
    refine G_iconst (z := 1) dX12_readsRank_12 rfl ?_
    refine G_iadd dX12_readsRank_13 ?_
    exact k1 c1
  · -- a1 = 3
    refine G_aload_n dX12_readsRank_5 rfl ?_
    exact k2 c1
set_option maxRecDepth 20000 in
set_option maxHeartbeats 1000000 in
theorem sg_X12_readsRank_9 {E : Nat × (Nat → Int32)} {d : Nat} {P : Option Value → Mem → Prop} {mem : Mem} {a1 : Int} {s0 : Int} (b1 : s0 = 0 ∨ s0 = 1)
    (k1 : P (some (vi s0)) mem) :
    GM E (m_X12_readsRank d) P 9 [.ref 169, vi a1, un, un] [vi s0] mem := by
  exact G_zret dX12_readsRank_9 rfl (nar_zb (b1)) (Nat.zero_le _) (Nat.zero_le _) (Nat.le_refl _) ⟨rfl, k1⟩
set_option maxRecDepth 20000 in
set_option maxHeartbeats 1000000 in
theorem sg_X12_readsRank_17 {E : Nat × (Nat → Int32)} {d : Nat} {P : Option Value → Mem → Prop} {mem : Mem} {a1 : Int} {s0 : Int} (w1 : -2147483648 ≤ s0 ∧ s0 < 2147483648)
    (k1 : s0 ≠ 0 → GM E (m_X12_readsRank d) P 24 [.ref 169, vi a1, vi 1, un] [] mem)
    (k2 : s0 = 0 → P (some (vi 0)) mem) :
    GM E (m_X12_readsRank d) P 17 [.ref 169, vi a1, un, un] [vi s0] mem := by
  refine G_if_ne (tgt := 22) dX12_readsRank_17 (by decide) (w1) (fun c1 => ?_) (fun c1 => ?_)
  · -- s0 ≠ 0
    refine G_iconst (z := 1) dX12_readsRank_22 rfl ?_
    refine G_istore_n dX12_readsRank_23 rfl (by decide : 2 < 4) rfl ?_
    exact k1 c1
  · -- s0 = 0
    refine G_iconst (z := 0) dX12_readsRank_20 rfl ?_
    exact G_zret dX12_readsRank_21 rfl (nar_zb (by decide)) (Nat.zero_le _) (Nat.zero_le _) (Nat.le_refl _) ⟨rfl, k2 c1⟩
set_option maxRecDepth 20000 in
set_option maxHeartbeats 1000000 in
theorem sg_X12_readsRank_24 {E : Nat × (Nat → Int32)} {d : Nat} {P : Option Value → Mem → Prop} {mem : Mem} {a1 : Int} {a2 : Int} (w1 : -2147483648 ≤ a2 ∧ a2 < 2147483648) (w2 : -2147483648 ≤ a1 ∧ a1 < 2147483648)
    (k1 : a2 = 0 → P (some (vi 1)) mem)
    (k2 : ¬ a2 = 0 → a1 ≠ 0 → a1 ≠ 1 → GM E (m_X12_readsRank d) P 50 [.ref 169, vi a1, vi a2, un] [.ref 1108, .ref 169] mem)
    (k3 : ¬ a2 = 0 → a1 ≠ 0 → a1 = 1 → GM E (m_X12_readsRank d) P 50 [.ref 169, vi a1, vi a2, un] [.ref 1107, .ref 169] mem)
    (k4 : ¬ a2 = 0 → a1 = 0 → GM E (m_X12_readsRank d) P 50 [.ref 169, vi a1, vi a2, un] [.ref 1106, .ref 169] mem) :
    GM E (m_X12_readsRank d) P 24 [.ref 169, vi a1, vi a2, un] [] mem := by
  refine G_iload_n dX12_readsRank_24 rfl ?_
  refine G_if_eq (tgt := 113) dX12_readsRank_25 (by decide) (w1) (fun c1 => ?_) (fun c1 => ?_)
  · -- a2 = 0
    refine G_iconst (z := 1) dX12_readsRank_113 rfl ?_
    exact G_zret dX12_readsRank_114 rfl (nar_zb (by decide)) (Nat.zero_le _) (Nat.zero_le _) (Nat.le_refl _) ⟨rfl, k1 c1⟩
  · -- ¬ a2 = 0
    refine G_aload_n dX12_readsRank_28 rfl ?_
    refine G_iload_n dX12_readsRank_29 rfl ?_
    refine G_if_ne (tgt := 38) dX12_readsRank_30 (by decide) (w2) (fun c2 => ?_) (fun c2 => ?_)
    · -- a1 ≠ 0
      refine G_iload_n dX12_readsRank_38 rfl ?_
      refine G_iconst (z := 1) dX12_readsRank_39 rfl ?_
      refine G_icmp_ne (tgt := 48) dX12_readsRank_40 (by decide) (w2) (by decide) (fun c3 => ?_) (fun c3 => ?_)
      · -- a1 ≠ 1
        refine G_ldcS (i := 8) (tx := "*/") dX12_readsRank_48 (by decide +kernel : (RX12, 249, "*/", 8) ∈ strTab) (by decide) ?_
        exact k2 c1 c2 c3
      · -- a1 = 1
        refine G_ldcS (i := 7) (tx := "+-") dX12_readsRank_43 (by decide +kernel : (RX12, 247, "+-", 7) ∈ strTab) (by decide) ?_
        refine G_goto (tgt := 50) dX12_readsRank_45 (by decide) ?_
        exact k3 c1 c2 c3
    · -- a1 = 0
      refine G_ldcS (i := 6) (tx := "<>=") dX12_readsRank_33 (by decide +kernel : (RX12, 245, "<>=", 6) ∈ strTab) (by decide) ?_
      refine G_goto (tgt := 50) dX12_readsRank_35 (by decide) ?_
      exact k4 c1 c2
set_option maxRecDepth 20000 in
set_option maxHeartbeats 1000000 in
theorem sg_X12_readsRank_53 {E : Nat × (Nat → Int32)} {d : Nat} {P : Option Value → Mem → Prop} {mem : Mem} {a1 : Int} {a2 : Int} {s0 : Int} (w1 : -2147483648 ≤ s0 ∧ s0 < 2147483648)
    (k1 : 0 ≤ s0 → GM E (m_X12_readsRank d) P 64 [.ref 169, vi a1, vi a2, vi s0] [vi (a1 + 1), .ref 169] mem)
    (k2 : ¬ 0 ≤ s0 → P (some (vi 1)) mem) :
    GM E (m_X12_readsRank d) P 53 [.ref 169, vi a1, vi a2, un] [vi s0] mem := by
  refine G_istore_n dX12_readsRank_53 rfl (by decide : 3 < 4) rfl ?_
  refine G_iload_n dX12_readsRank_54 rfl ?_
  refine G_if_ge (tgt := 60) dX12_readsRank_55 (by decide) (w1) (fun c1 => ?_) (fun c1 => ?_)
  · -- 0 ≤ s0
    refine G_aload_n dX12_readsRank_60 rfl ?_
    refine G_iload_n dX12_readsRank_61 rfl ?_
    refine G_iconst (z := 1) dX12_readsRank_62 rfl ?_
    refine G_iadd dX12_readsRank_63 ?_
    exact k1 c1
  · -- ¬ 0 ≤ s0
    refine G_iconst (z := 1) dX12_readsRank_58 rfl ?_
    exact G_zret dX12_readsRank_59 rfl (nar_zb (by decide)) (Nat.zero_le _) (Nat.zero_le _) (Nat.le_refl _) ⟨rfl, k2 c1⟩
set_option maxRecDepth 20000 in
set_option maxHeartbeats 1000000 in
theorem sg_X12_readsRank_67 {E : Nat × (Nat → Int32)} {d : Nat} {P : Option Value → Mem → Prop} {mem : Mem} {a1 : Int} {a2 : Int} {a3 : Int} {s0 : Int} (w1 : -2147483648 ≤ s0 ∧ s0 < 2147483648) (w2 : -2147483648 ≤ a1 ∧ a1 < 2147483648)
    (k1 : s0 ≠ 0 → a1 ≠ 0 → a1 ≠ 1 → GM E (m_X12_readsRank d) P 97 [.ref 169, vi a1, vi a2, vi a3] [vi ((2000 + a3) + 5), .ref 169] mem)
    (k2 : s0 ≠ 0 → a1 ≠ 0 → a1 = 1 → GM E (m_X12_readsRank d) P 97 [.ref 169, vi a1, vi a2, vi a3] [vi ((2000 + a3) + 3), .ref 169] mem)
    (k3 : s0 ≠ 0 → a1 = 0 → GM E (m_X12_readsRank d) P 97 [.ref 169, vi a1, vi a2, vi a3] [vi ((2000 + a3) + 0), .ref 169] mem)
    (k4 : s0 = 0 → P (some (vi 0)) mem) :
    GM E (m_X12_readsRank d) P 67 [.ref 169, vi a1, vi a2, vi a3] [vi s0] mem := by
  refine G_if_ne (tgt := 72) dX12_readsRank_67 (by decide) (w1) (fun c1 => ?_) (fun c1 => ?_)
  · -- s0 ≠ 0
    refine G_aload_n dX12_readsRank_72 rfl ?_
    refine G_sipush (z := 2000) dX12_readsRank_73 rfl ?_
    refine G_iload_n dX12_readsRank_76 rfl ?_
    refine G_iadd dX12_readsRank_77 ?_
    refine G_iload_n dX12_readsRank_78 rfl ?_
    refine G_if_ne (tgt := 86) dX12_readsRank_79 (by decide) (w2) (fun c2 => ?_) (fun c2 => ?_)
    · -- a1 ≠ 0
      refine G_iload_n dX12_readsRank_86 rfl ?_
      refine G_iconst (z := 1) dX12_readsRank_87 rfl ?_
      refine G_icmp_ne (tgt := 95) dX12_readsRank_88 (by decide) (w2) (by decide) (fun c3 => ?_) (fun c3 => ?_)
      · -- a1 ≠ 1
        refine G_iconst (z := 5) dX12_readsRank_95 rfl ?_
        refine G_iadd dX12_readsRank_96 ?_
        exact k1 c1 c2 c3
      · -- a1 = 1
        refine G_iconst (z := 3) dX12_readsRank_91 rfl ?_
        refine G_goto (tgt := 96) dX12_readsRank_92 (by decide) ?_
        refine G_iadd dX12_readsRank_96 ?_
        exact k2 c1 c2 c3
    · -- a1 = 0
      refine G_iconst (z := 0) dX12_readsRank_82 rfl ?_
      refine G_goto (tgt := 96) dX12_readsRank_83 (by decide) ?_
      refine G_iadd dX12_readsRank_96 ?_
      exact k3 c1 c2
  · -- s0 = 0
    refine G_iconst (z := 0) dX12_readsRank_70 rfl ?_
    exact G_zret dX12_readsRank_71 rfl (nar_zb (by decide)) (Nat.zero_le _) (Nat.zero_le _) (Nat.le_refl _) ⟨rfl, k4 c1⟩
set_option maxRecDepth 20000 in
set_option maxHeartbeats 1000000 in
theorem sg_X12_readsRank_100 {E : Nat × (Nat → Int32)} {d : Nat} {P : Option Value → Mem → Prop} {mem : Mem} {a1 : Int} {a2 : Int} {a3 : Int} (w1 : -2147483648 ≤ a1 ∧ a1 < 2147483648)
    (k1 : a1 ≤ 0 → GM E (m_X12_readsRank d) P 24 [.ref 169, vi a1, vi 0, vi a3] [] mem)
    (k2 : ¬ a1 ≤ 0 → GM E (m_X12_readsRank d) P 24 [.ref 169, vi a1, vi 1, vi a3] [] mem) :
    GM E (m_X12_readsRank d) P 100 [.ref 169, vi a1, vi a2, vi a3] [] mem := by
  refine G_iload_n dX12_readsRank_100 rfl ?_
  refine G_if_le (tgt := 108) dX12_readsRank_101 (by decide) (w1) (fun c1 => ?_) (fun c1 => ?_)
  · -- a1 ≤ 0
    refine G_iconst (z := 0) dX12_readsRank_108 rfl ?_
    refine G_istore_n dX12_readsRank_109 rfl (by decide : 2 < 4) rfl ?_
    refine G_goto (tgt := 24) dX12_readsRank_110 (by decide) ?_
    exact k1 c1
  · -- ¬ a1 ≤ 0
    refine G_iconst (z := 1) dX12_readsRank_104 rfl ?_
    refine G_goto (tgt := 109) dX12_readsRank_105 (by decide) ?_
    refine G_istore_n dX12_readsRank_109 rfl (by decide : 2 < 4) rfl ?_
    refine G_goto (tgt := 24) dX12_readsRank_110 (by decide) ?_
    exact k2 c1
abbrev m_X12_readsStreet (d : Nat) : Mu := (cX12_readsStreet, 4, RX12, (some .boolean), ⟨d, 0, 0, 40 * d⟩, "readsStreet")
set_option maxRecDepth 20000 in
set_option maxHeartbeats 1000000 in
theorem sg_X12_readsStreet_0 {E : Nat × (Nat → Int32)} {d : Nat} {P : Option Value → Mem → Prop} {mem : Mem} (w1 : -2147483648 ≤ ((mem 169 3) + (mem 169 23)) ∧ ((mem 169 3) + (mem 169 23)) < 2147483648)
    (k1 : ((mem 169 3) + (mem 169 23)) = 6 → P (some (vi 0)) mem)
    (k2 : ¬ ((mem 169 3) + (mem 169 23)) = 6 → GM E (m_X12_readsStreet d) P 17 [.ref 169, un, un, un] [vi 115, .ref 169] mem) :
    GM E (m_X12_readsStreet d) P 0 [.ref 169, un, un, un] [] mem := by
  refine G_aload_n dX12_readsStreet_0 rfl ?_
  refine G_getI (z := (mem 169 3)) dX12_readsStreet_1 fl_12_137 (by decide) sh_169 rfl ?_
  refine G_aload_n dX12_readsStreet_4 rfl ?_
  refine G_getI (z := (mem 169 23)) dX12_readsStreet_5 fl_12_192 (by decide) sh_169 rfl ?_
  refine G_iadd dX12_readsStreet_8 ?_
  refine G_bipush (z := 6) dX12_readsStreet_9 rfl ?_
  refine G_icmp_eq (tgt := 23) dX12_readsStreet_11 (by decide) (w1) (by decide) (fun c1 => ?_) (fun c1 => ?_)
  · -- ((mem 169 3) + (mem 169 23)) = 6
    refine G_iconst (z := 0) dX12_readsStreet_23 rfl ?_
    exact G_zret dX12_readsStreet_24 rfl (nar_zb (by decide)) (Nat.zero_le _) (Nat.zero_le _) (Nat.le_refl _) ⟨rfl, k1 c1⟩
  · -- ¬ ((mem 169 3) + (mem 169 23)) = 6
    refine G_aload_n dX12_readsStreet_14 rfl ?_
    refine G_bipush (z := 115) dX12_readsStreet_15 rfl ?_
    exact k2 c1
set_option maxRecDepth 20000 in
set_option maxHeartbeats 1000000 in
theorem sg_X12_readsStreet_20 {E : Nat × (Nat → Int32)} {d : Nat} {P : Option Value → Mem → Prop} {mem : Mem} {s0 : Int} (w1 : -2147483648 ≤ s0 ∧ s0 < 2147483648)
    (k1 : s0 ≠ 0 → GM E (m_X12_readsStreet d) P 40 [.ref 169, vi (6 * (mem 169 23)), un, un] [vi 2, .ref 169, vi (6 * (mem 169 23)), .ref 183] mem)
    (k2 : s0 = 0 → P (some (vi 0)) mem) :
    GM E (m_X12_readsStreet d) P 20 [.ref 169, un, un, un] [vi s0] mem := by
  refine G_if_ne (tgt := 25) dX12_readsStreet_20 (by decide) (w1) (fun c1 => ?_) (fun c1 => ?_)
  · -- s0 ≠ 0
    refine G_bipush (z := 6) dX12_readsStreet_25 rfl ?_
    refine G_aload_n dX12_readsStreet_27 rfl ?_
    refine G_getI (z := (mem 169 23)) dX12_readsStreet_28 fl_12_192 (by decide) sh_169 rfl ?_
    refine G_imul dX12_readsStreet_31 ?_
    refine G_istore_n dX12_readsStreet_32 rfl (by decide : 1 < 4) rfl ?_
    refine G_aload_n dX12_readsStreet_33 rfl ?_
    refine G_getR (t := 183) dX12_readsStreet_34 fl_12_51 (by decide) sh_169 rr_169_21 ?_
    refine G_iload_n dX12_readsStreet_37 rfl ?_
    refine G_aload_n dX12_readsStreet_38 rfl ?_
    refine G_iconst (z := 2) dX12_readsStreet_39 rfl ?_
    exact k1 c1
  · -- s0 = 0
    refine G_iconst (z := 0) dX12_readsStreet_23 rfl ?_
    exact G_zret dX12_readsStreet_24 rfl (nar_zb (by decide)) (Nat.zero_le _) (Nat.zero_le _) (Nat.le_refl _) ⟨rfl, k2 c1⟩
set_option maxRecDepth 20000 in
set_option maxHeartbeats 1000000 in
theorem sg_X12_readsStreet_43 {E : Nat × (Nat → Int32)} {d : Nat} {P : Option Value → Mem → Prop} {mem : Mem} {a1 : Int} {s0 : Int} {s1 : Int} (q1 : 0 ≤ s1 ∧ s1 < 36) (q2 : 0 ≤ a1 ∧ a1 < 36) (w3 : -2147483648 ≤ ((up2 mem 183 s1 s0) 183 a1) ∧ ((up2 mem 183 s1 s0) 183 a1) < 2147483648)
    (k1 : ((up2 mem 183 s1 s0) 183 a1) < 0 → P (some (vi 0)) (up2 mem 183 s1 s0))
    (k2 : ¬ ((up2 mem 183 s1 s0) 183 a1) < 0 → GM E (m_X12_readsStreet d) P 56 [.ref 169, vi a1, un, un] [vi 58, .ref 169] (up2 mem 183 s1 s0)) :
    GM E (m_X12_readsStreet d) P 43 [.ref 169, vi a1, un, un] [vi s0, vi s1, .ref 183] mem := by
  refine G_iast (mem2 := (up2 mem 183 s1 s0)) dX12_readsStreet_43 (by decide) sh_183 (by decide) (q1).1 (q1).2 rfl ?_
  refine G_aload_n dX12_readsStreet_44 rfl ?_
  refine G_getR (t := 183) dX12_readsStreet_45 fl_12_51 (by decide) sh_169 rr_169_21 ?_
  refine G_iload_n dX12_readsStreet_48 rfl ?_
  refine G_iald (z := ((up2 mem 183 s1 s0) 183 a1)) dX12_readsStreet_49 (by decide) sh_183 (by decide) (q2).1 (q2).2 (by simp [up2, upr]) ?_
  refine G_if_lt (tgt := 62) dX12_readsStreet_50 (by decide) (w3) (fun c1 => ?_) (fun c1 => ?_)
  · -- ((up2 mem 183 s1 s0) 183 a1) < 0
    refine G_iconst (z := 0) dX12_readsStreet_62 rfl ?_
    exact G_zret dX12_readsStreet_63 rfl (nar_zb (by decide)) (Nat.zero_le _) (Nat.zero_le _) (Nat.le_refl _) ⟨rfl, k1 c1⟩
  · -- ¬ ((up2 mem 183 s1 s0) 183 a1) < 0
    refine G_aload_n dX12_readsStreet_53 rfl ?_
    refine G_bipush (z := 58) dX12_readsStreet_54 rfl ?_
    exact k2 c1
set_option maxRecDepth 20000 in
set_option maxHeartbeats 1000000 in
theorem sg_X12_readsStreet_59 {E : Nat × (Nat → Int32)} {d : Nat} {P : Option Value → Mem → Prop} {mem : Mem} {a1 : Int} {s0 : Int} (w1 : -2147483648 ≤ s0 ∧ s0 < 2147483648)
    (k1 : s0 ≠ 0 → GM E (m_X12_readsStreet d) P 66 [.ref 169, vi a1, vi 0, un] [] mem)
    (k2 : s0 = 0 → P (some (vi 0)) mem) :
    GM E (m_X12_readsStreet d) P 59 [.ref 169, vi a1, un, un] [vi s0] mem := by
  refine G_if_ne (tgt := 64) dX12_readsStreet_59 (by decide) (w1) (fun c1 => ?_) (fun c1 => ?_)
  · -- s0 ≠ 0
    refine G_iconst (z := 0) dX12_readsStreet_64 rfl ?_
    refine G_istore_n dX12_readsStreet_65 rfl (by decide : 2 < 4) rfl ?_
    exact k1 c1
  · -- s0 = 0
    refine G_iconst (z := 0) dX12_readsStreet_62 rfl ?_
    exact G_zret dX12_readsStreet_63 rfl (nar_zb (by decide)) (Nat.zero_le _) (Nat.zero_le _) (Nat.le_refl _) ⟨rfl, k2 c1⟩
set_option maxRecDepth 20000 in
set_option maxHeartbeats 1000000 in
theorem sg_X12_readsStreet_66 {E : Nat × (Nat → Int32)} {d : Nat} {P : Option Value → Mem → Prop} {mem : Mem} {a1 : Int} {a2 : Int} (w1 : -2147483648 ≤ a2 ∧ a2 < 2147483648)
    (k1 : 8 ≤ a2 → a2 = 0 → P (some (vi 0)) mem)
    (k2 : 8 ≤ a2 → ¬ a2 = 0 → GM E (m_X12_readsStreet d) P 111 [.ref 169, vi a1, vi a2, un] [vi 47, .ref 169] mem)
    (k3 : ¬ 8 ≤ a2 → GM E (m_X12_readsStreet d) P 73 [.ref 169, vi a1, vi a2, un] [.ref 169] mem) :
    GM E (m_X12_readsStreet d) P 66 [.ref 169, vi a1, vi a2, un] [] mem := by
  refine G_iload_n dX12_readsStreet_66 rfl ?_
  refine G_bipush (z := 8) dX12_readsStreet_67 rfl ?_
  refine G_icmp_ge (tgt := 104) dX12_readsStreet_69 (by decide) (w1) (by decide) (fun c1 => ?_) (fun c1 => ?_)
  · -- 8 ≤ a2
    refine G_iload_n dX12_readsStreet_104 rfl ?_
    refine G_if_eq (tgt := 117) dX12_readsStreet_105 (by decide) (w1) (fun c2 => ?_) (fun c2 => ?_)
    · -- a2 = 0
      refine G_iconst (z := 0) dX12_readsStreet_117 rfl ?_
      exact G_zret dX12_readsStreet_118 rfl (nar_zb (by decide)) (Nat.zero_le _) (Nat.zero_le _) (Nat.le_refl _) ⟨rfl, k1 c1 c2⟩
    · -- ¬ a2 = 0
      refine G_aload_n dX12_readsStreet_108 rfl ?_
      refine G_bipush (z := 47) dX12_readsStreet_109 rfl ?_
      exact k2 c1 c2
  · -- ¬ 8 ≤ a2
    refine G_aload_n dX12_readsStreet_72 rfl ?_
    exact k3 c1
set_option maxRecDepth 20000 in
set_option maxHeartbeats 1000000 in
theorem sg_X12_readsStreet_76 {E : Nat × (Nat → Int32)} {d : Nat} {P : Option Value → Mem → Prop} {mem : Mem} {a1 : Int} {a2 : Int} {s0 : Int} (w1 : -2147483648 ≤ s0 ∧ s0 < 2147483648) (w2 : -2147483648 ≤ a2 ∧ a2 < 2147483648)
    (k1 : s0 = 0 → a2 = 0 → P (some (vi 0)) mem)
    (k2 : s0 = 0 → ¬ a2 = 0 → GM E (m_X12_readsStreet d) P 111 [.ref 169, vi a1, vi a2, un] [vi 47, .ref 169] mem)
    (k3 : ¬ s0 = 0 → GM E (m_X12_readsStreet d) P 89 [.ref 169, vi a1, vi a2, un] [vi a2, vi 0, vi (mem 169 23), .ref 184] mem) :
    GM E (m_X12_readsStreet d) P 76 [.ref 169, vi a1, vi a2, un] [vi s0] mem := by
  refine G_if_eq (tgt := 104) dX12_readsStreet_76 (by decide) (w1) (fun c1 => ?_) (fun c1 => ?_)
  · -- s0 = 0
    refine G_iload_n dX12_readsStreet_104 rfl ?_
    refine G_if_eq (tgt := 117) dX12_readsStreet_105 (by decide) (w2) (fun c2 => ?_) (fun c2 => ?_)
    · -- a2 = 0
      refine G_iconst (z := 0) dX12_readsStreet_117 rfl ?_
      exact G_zret dX12_readsStreet_118 rfl (nar_zb (by decide)) (Nat.zero_le _) (Nat.zero_le _) (Nat.le_refl _) ⟨rfl, k1 c1 c2⟩
    · -- ¬ a2 = 0
      refine G_aload_n dX12_readsStreet_108 rfl ?_
      refine G_bipush (z := 47) dX12_readsStreet_109 rfl ?_
      exact k2 c1 c2
  · -- ¬ s0 = 0
    refine G_aload_n dX12_readsStreet_79 rfl ?_
    refine G_getR (t := 184) dX12_readsStreet_80 fl_12_54 (by decide) sh_169 rr_169_22 ?_
    refine G_aload_n dX12_readsStreet_83 rfl ?_
    refine G_getI (z := (mem 169 23)) dX12_readsStreet_84 fl_12_192 (by decide) sh_169 rfl ?_
    refine G_iconst (z := 0) dX12_readsStreet_87 rfl ?_
    refine G_iload_n dX12_readsStreet_88 rfl ?_
    exact k3 c1
set_option maxRecDepth 20000 in
set_option maxHeartbeats 1000000 in
theorem sg_X12_readsStreet_92 {E : Nat × (Nat → Int32)} {d : Nat} {P : Option Value → Mem → Prop} {mem : Mem} {a1 : Int} {a2 : Int} {s0 : Int}
    (k1 : GM E (m_X12_readsStreet d) P 94 [.ref 169, vi a1, vi a2, un] [vi 1, .ref 169, vi s0, .ref 184] mem) :
    GM E (m_X12_readsStreet d) P 92 [.ref 169, vi a1, vi a2, un] [vi s0, .ref 184] mem := by
  refine G_aload_n dX12_readsStreet_92 rfl ?_
  refine G_iconst (z := 1) dX12_readsStreet_93 rfl ?_
  exact k1
set_option maxRecDepth 20000 in
set_option maxHeartbeats 1000000 in
theorem sg_X12_readsStreet_97 {E : Nat × (Nat → Int32)} {d : Nat} {P : Option Value → Mem → Prop} {mem : Mem} {a1 : Int} {a2 : Int} {s0 : Int} {s1 : Int} (q1 : 0 ≤ s1 ∧ s1 < 96)
    (k1 : GM E (m_X12_readsStreet d) P 66 [.ref 169, vi a1, vi (a2 + 1), un] [] (up2 mem 184 s1 s0)) :
    GM E (m_X12_readsStreet d) P 97 [.ref 169, vi a1, vi a2, un] [vi s0, vi s1, .ref 184] mem := by
  refine G_iast (mem2 := (up2 mem 184 s1 s0)) dX12_readsStreet_97 (by decide) sh_184 (by decide) (q1).1 (q1).2 rfl ?_
  refine G_iinc (z := (a2 + 1)) dX12_readsStreet_98 rfl rfl (by decide : 2 < 4) rfl ?_
  refine G_goto (tgt := 66) dX12_readsStreet_101 (by decide) ?_
  exact k1
set_option maxRecDepth 20000 in
set_option maxHeartbeats 1000000 in
theorem sg_X12_readsStreet_114 {E : Nat × (Nat → Int32)} {d : Nat} {P : Option Value → Mem → Prop} {mem : Mem} {a1 : Int} {a2 : Int} {s0 : Int} (w1 : -2147483648 ≤ s0 ∧ s0 < 2147483648) (q2 : s0 ≠ 0 → 0 ≤ (a1 + 1) ∧ (a1 + 1) < 36)
    (k1 : s0 ≠ 0 → GM E (m_X12_readsStreet d) P 130 [.ref 169, vi a1, vi a2, vi 0] [] (up2 mem 183 (a1 + 1) a2))
    (k2 : s0 = 0 → P (some (vi 0)) mem) :
    GM E (m_X12_readsStreet d) P 114 [.ref 169, vi a1, vi a2, un] [vi s0] mem := by
  refine G_if_ne (tgt := 119) dX12_readsStreet_114 (by decide) (w1) (fun c1 => ?_) (fun c1 => ?_)
  · -- s0 ≠ 0
    refine G_aload_n dX12_readsStreet_119 rfl ?_
    refine G_getR (t := 183) dX12_readsStreet_120 fl_12_51 (by decide) sh_169 rr_169_21 ?_
    refine G_iload_n dX12_readsStreet_123 rfl ?_
    refine G_iconst (z := 1) dX12_readsStreet_124 rfl ?_
    refine G_iadd dX12_readsStreet_125 ?_
    refine G_iload_n dX12_readsStreet_126 rfl ?_
    refine G_iast (mem2 := (up2 mem 183 (a1 + 1) a2)) dX12_readsStreet_127 (by decide) sh_183 (by decide) (q2 c1).1 (q2 c1).2 rfl ?_
    refine G_iconst (z := 0) dX12_readsStreet_128 rfl ?_
    refine G_istore_n dX12_readsStreet_129 rfl (by decide : 3 < 4) rfl ?_
    exact k1 c1
  · -- s0 = 0
    refine G_iconst (z := 0) dX12_readsStreet_117 rfl ?_
    exact G_zret dX12_readsStreet_118 rfl (nar_zb (by decide)) (Nat.zero_le _) (Nat.zero_le _) (Nat.le_refl _) ⟨rfl, k2 c1⟩
set_option maxRecDepth 20000 in
set_option maxHeartbeats 1000000 in
theorem sg_X12_readsStreet_130 {E : Nat × (Nat → Int32)} {d : Nat} {P : Option Value → Mem → Prop} {mem : Mem} {a1 : Int} {a2 : Int} {a3 : Int} (w1 : -2147483648 ≤ a3 ∧ a3 < 2147483648) (w2 : -2147483648 ≤ a2 ∧ a2 < 2147483648)
    (k1 : a2 ≤ a3 → GM E (m_X12_readsStreet d) P 189 [.ref 169, vi a1, vi a2, vi a3] [vi 33, .ref 169, vi (a1 + 3), .ref 183] mem)
    (k2 : ¬ a2 ≤ a3 → GM E (m_X12_readsStreet d) P 145 [.ref 169, vi a1, vi a2, vi a3] [vi a3, vi 1, vi (mem 169 23), .ref 184] mem) :
    GM E (m_X12_readsStreet d) P 130 [.ref 169, vi a1, vi a2, vi a3] [] mem := by
  refine G_iload_n dX12_readsStreet_130 rfl ?_
  refine G_iload_n dX12_readsStreet_131 rfl ?_
  refine G_icmp_ge (tgt := 179) dX12_readsStreet_132 (by decide) (w1) (w2) (fun c1 => ?_) (fun c1 => ?_)
  · -- a2 ≤ a3
    refine G_aload_n dX12_readsStreet_179 rfl ?_
    refine G_getR (t := 183) dX12_readsStreet_180 fl_12_51 (by decide) sh_169 rr_169_21 ?_
    refine G_iload_n dX12_readsStreet_183 rfl ?_
    refine G_iconst (z := 3) dX12_readsStreet_184 rfl ?_
    refine G_iadd dX12_readsStreet_185 ?_
    refine G_aload_n dX12_readsStreet_186 rfl ?_
    refine G_bipush (z := 33) dX12_readsStreet_187 rfl ?_
    exact k1 c1
  · -- ¬ a2 ≤ a3
    refine G_aload_n dX12_readsStreet_135 rfl ?_
    refine G_getR (t := 184) dX12_readsStreet_136 fl_12_54 (by decide) sh_169 rr_169_22 ?_
    refine G_aload_n dX12_readsStreet_139 rfl ?_
    refine G_getI (z := (mem 169 23)) dX12_readsStreet_140 fl_12_192 (by decide) sh_169 rfl ?_
    refine G_iconst (z := 1) dX12_readsStreet_143 rfl ?_
    refine G_iload_n dX12_readsStreet_144 rfl ?_
    exact k2 c1
set_option maxRecDepth 20000 in
set_option maxHeartbeats 1000000 in
theorem sg_X12_readsStreet_148 {E : Nat × (Nat → Int32)} {d : Nat} {P : Option Value → Mem → Prop} {mem : Mem} {a1 : Int} {a2 : Int} {a3 : Int} {s0 : Int}
    (k1 : GM E (m_X12_readsStreet d) P 150 [.ref 169, vi a1, vi a2, vi a3] [vi 1, .ref 169, vi s0, .ref 184] mem) :
    GM E (m_X12_readsStreet d) P 148 [.ref 169, vi a1, vi a2, vi a3] [vi s0, .ref 184] mem := by
  refine G_aload_n dX12_readsStreet_148 rfl ?_
  refine G_iconst (z := 1) dX12_readsStreet_149 rfl ?_
  exact k1
set_option maxRecDepth 20000 in
set_option maxHeartbeats 1000000 in
theorem sg_X12_readsStreet_153 {E : Nat × (Nat → Int32)} {d : Nat} {P : Option Value → Mem → Prop} {mem : Mem} {a1 : Int} {a2 : Int} {a3 : Int} {s0 : Int} {s1 : Int} (q1 : 0 ≤ s1 ∧ s1 < 96)
    (k1 : GM E (m_X12_readsStreet d) P 164 [.ref 169, vi a1, vi a2, vi a3] [vi a3, vi 1, vi (mem 169 23), .ref 184] (up2 mem 184 s1 s0)) :
    GM E (m_X12_readsStreet d) P 153 [.ref 169, vi a1, vi a2, vi a3] [vi s0, vi s1, .ref 184] mem := by
  refine G_iast (mem2 := (up2 mem 184 s1 s0)) dX12_readsStreet_153 (by decide) sh_184 (by decide) (q1).1 (q1).2 rfl ?_
  refine G_aload_n dX12_readsStreet_154 rfl ?_
  refine G_getR (t := 184) dX12_readsStreet_155 fl_12_54 (by decide) sh_169 rr_169_22 ?_
  refine G_aload_n dX12_readsStreet_158 rfl ?_
  refine G_getI (z := (mem 169 23)) dX12_readsStreet_159 fl_12_192 (by decide) sh_169 (by simp [up2, upr]) ?_
  refine G_iconst (z := 1) dX12_readsStreet_162 rfl ?_
  refine G_iload_n dX12_readsStreet_163 rfl ?_
  exact k1
set_option maxRecDepth 20000 in
set_option maxHeartbeats 1000000 in
theorem sg_X12_readsStreet_167 {E : Nat × (Nat → Int32)} {d : Nat} {P : Option Value → Mem → Prop} {mem : Mem} {a1 : Int} {a2 : Int} {a3 : Int} {s0 : Int} (q1 : 0 ≤ s0 ∧ s0 < 96) (w2 : -2147483648 ≤ (mem 184 s0) ∧ (mem 184 s0) < 2147483648)
    (k1 : 0 ≤ (mem 184 s0) → GM E (m_X12_readsStreet d) P 130 [.ref 169, vi a1, vi a2, vi (a3 + 1)] [] mem)
    (k2 : ¬ 0 ≤ (mem 184 s0) → P (some (vi 0)) mem) :
    GM E (m_X12_readsStreet d) P 167 [.ref 169, vi a1, vi a2, vi a3] [vi s0, .ref 184] mem := by
  refine G_iald (z := (mem 184 s0)) dX12_readsStreet_167 (by decide) sh_184 (by decide) (q1).1 (q1).2 rfl ?_
  refine G_if_ge (tgt := 173) dX12_readsStreet_168 (by decide) (w2) (fun c1 => ?_) (fun c1 => ?_)
  · -- 0 ≤ (mem 184 s0)
    refine G_iinc (z := (a3 + 1)) dX12_readsStreet_173 rfl rfl (by decide : 3 < 4) rfl ?_
    refine G_goto (tgt := 130) dX12_readsStreet_176 (by decide) ?_
    exact k1 c1
  · -- ¬ 0 ≤ (mem 184 s0)
    refine G_iconst (z := 0) dX12_readsStreet_171 rfl ?_
    exact G_zret dX12_readsStreet_172 rfl (nar_zb (by decide)) (Nat.zero_le _) (Nat.zero_le _) (Nat.le_refl _) ⟨rfl, k2 c1⟩
set_option maxRecDepth 20000 in
set_option maxHeartbeats 1000000 in
theorem sg_X12_readsStreet_192 {E : Nat × (Nat → Int32)} {d : Nat} {P : Option Value → Mem → Prop} {mem : Mem} {a1 : Int} {a2 : Int} {a3 : Int} {s0 : Int} {s1 : Int}
    (k1 : GM E (m_X12_readsStreet d) P 192 [.ref 169, vi a1, vi a2, vi a3] [vi s0, vi s1, .ref 183] mem) :
    GM E (m_X12_readsStreet d) P 192 [.ref 169, vi a1, vi a2, vi a3] [vi s0, vi s1, .ref 183] mem := by
  exact k1
set_option maxRecDepth 20000 in
set_option maxHeartbeats 1000000 in
theorem sg_X12_readsStreet_195 {E : Nat × (Nat → Int32)} {d : Nat} {P : Option Value → Mem → Prop} {mem : Mem} {a1 : Int} {a2 : Int} {a3 : Int} {s0 : Int} {s1 : Int} (q1 : 0 ≤ s1 ∧ s1 < 36)
    (k1 : GM E (m_X12_readsStreet d) P 199 [.ref 169, vi a1, vi a2, vi a3] [.ref 1105, .ref 169] (up2 mem 183 s1 s0)) :
    GM E (m_X12_readsStreet d) P 195 [.ref 169, vi a1, vi a2, vi a3] [vi s0, vi s1, .ref 183] mem := by
  refine G_iast (mem2 := (up2 mem 183 s1 s0)) dX12_readsStreet_195 (by decide) sh_183 (by decide) (q1).1 (q1).2 rfl ?_
  refine G_aload_n dX12_readsStreet_196 rfl ?_
  refine G_ldcS (i := 5) (tx := "du") dX12_readsStreet_197 (by decide +kernel : (RX12, 205, "du", 5) ∈ strTab) (by decide) ?_
  exact k1
set_option maxRecDepth 20000 in
set_option maxHeartbeats 1000000 in
theorem sg_X12_readsStreet_202 {E : Nat × (Nat → Int32)} {d : Nat} {P : Option Value → Mem → Prop} {mem : Mem} {a1 : Int} {a2 : Int} {a3 : Int} {s0 : Int} (w1 : -2147483648 ≤ s0 ∧ s0 < 2147483648) (q2 : 0 ≤ s0 → 0 ≤ (a1 + 2) ∧ (a1 + 2) < 36) (q3 : 0 ≤ s0 → 0 ≤ (a1 + 4) ∧ (a1 + 4) < 36) (q4 : 0 ≤ s0 → 0 ≤ (a1 + 5) ∧ (a1 + 5) < 36) (q5 : ¬ 0 ≤ s0 → 0 ≤ (a1 + 2) ∧ (a1 + 2) < 36) (q6 : ¬ 0 ≤ s0 → 0 ≤ (a1 + 4) ∧ (a1 + 4) < 36) (q7 : ¬ 0 ≤ s0 → 0 ≤ (a1 + 5) ∧ (a1 + 5) < 36)
    (k1 : 0 ≤ s0 → GM E (m_X12_readsStreet d) P 255 [.ref 169, vi a1, vi a2, vi s0] [vi 120, .ref 169] (up2 (up2 (up2 (up2 mem 183 (a1 + 2) ((2 * s0) - 1)) 183 (a1 + 4) (-1)) 183 (a1 + 5) (-1)) 169 23 ((mem 169 23) + 1)))
    (k2 : ¬ 0 ≤ s0 → GM E (m_X12_readsStreet d) P 255 [.ref 169, vi a1, vi a2, vi s0] [vi 120, .ref 169] (up2 (up2 (up2 (up2 mem 183 (a1 + 2) 0) 183 (a1 + 4) (-1)) 183 (a1 + 5) (-1)) 169 23 ((mem 169 23) + 1))) :
    GM E (m_X12_readsStreet d) P 202 [.ref 169, vi a1, vi a2, vi a3] [vi s0] mem := by
  refine G_istore_n dX12_readsStreet_202 rfl (by decide : 3 < 4) rfl ?_
  refine G_aload_n dX12_readsStreet_203 rfl ?_
  refine G_getR (t := 183) dX12_readsStreet_204 fl_12_51 (by decide) sh_169 rr_169_21 ?_
  refine G_iload_n dX12_readsStreet_207 rfl ?_
  refine G_iconst (z := 2) dX12_readsStreet_208 rfl ?_
  refine G_iadd dX12_readsStreet_209 ?_
  refine G_iload_n dX12_readsStreet_210 rfl ?_
  refine G_if_ge (tgt := 218) dX12_readsStreet_211 (by decide) (w1) (fun c1 => ?_) (fun c1 => ?_)
  · -- 0 ≤ s0
    refine G_iconst (z := 2) dX12_readsStreet_218 rfl ?_
    refine G_iload_n dX12_readsStreet_219 rfl ?_
    refine G_imul dX12_readsStreet_220 ?_
    refine G_iconst (z := 1) dX12_readsStreet_221 rfl ?_
    refine G_isub dX12_readsStreet_222 ?_
    refine G_iast (mem2 := (up2 mem 183 (a1 + 2) ((2 * s0) - 1))) dX12_readsStreet_223 (by decide) sh_183 (by decide) (q2 c1).1 (q2 c1).2 rfl ?_
    refine G_aload_n dX12_readsStreet_224 rfl ?_
    refine G_getR (t := 183) dX12_readsStreet_225 fl_12_51 (by decide) sh_169 rr_169_21 ?_
    refine G_iload_n dX12_readsStreet_228 rfl ?_
    refine G_iconst (z := 4) dX12_readsStreet_229 rfl ?_
    refine G_iadd dX12_readsStreet_230 ?_
    refine G_iconst (z := (-1)) dX12_readsStreet_231 rfl ?_
    refine G_iast (mem2 := (up2 (up2 mem 183 (a1 + 2) ((2 * s0) - 1)) 183 (a1 + 4) (-1))) dX12_readsStreet_232 (by decide) sh_183 (by decide) (q3 c1).1 (q3 c1).2 rfl ?_
    refine G_aload_n dX12_readsStreet_233 rfl ?_
    refine G_getR (t := 183) dX12_readsStreet_234 fl_12_51 (by decide) sh_169 rr_169_21 ?_
    refine G_iload_n dX12_readsStreet_237 rfl ?_
    refine G_iconst (z := 5) dX12_readsStreet_238 rfl ?_
    refine G_iadd dX12_readsStreet_239 ?_
    refine G_iconst (z := (-1)) dX12_readsStreet_240 rfl ?_
    refine G_iast (mem2 := (up2 (up2 (up2 mem 183 (a1 + 2) ((2 * s0) - 1)) 183 (a1 + 4) (-1)) 183 (a1 + 5) (-1))) dX12_readsStreet_241 (by decide) sh_183 (by decide) (q4 c1).1 (q4 c1).2 rfl ?_
    refine G_aload_n dX12_readsStreet_242 rfl ?_
    refine G_dup dX12_readsStreet_243 rfl ?_
    refine G_getI (z := (mem 169 23)) dX12_readsStreet_244 fl_12_192 (by decide) sh_169 (by simp [up2, upr]) ?_
    refine G_iconst (z := 1) dX12_readsStreet_247 rfl ?_
    refine G_iadd dX12_readsStreet_248 ?_
    refine G_putI (mem2 := (up2 (up2 (up2 (up2 mem 183 (a1 + 2) ((2 * s0) - 1)) 183 (a1 + 4) (-1)) 183 (a1 + 5) (-1)) 169 23 ((mem 169 23) + 1))) dX12_readsStreet_249 fp_12_192 (by decide) sh_169 rfl ?_
    refine G_aload_n dX12_readsStreet_252 rfl ?_
    refine G_bipush (z := 120) dX12_readsStreet_253 rfl ?_
    exact k1 c1
  · -- ¬ 0 ≤ s0
    refine G_iconst (z := 0) dX12_readsStreet_214 rfl ?_
    refine G_goto (tgt := 223) dX12_readsStreet_215 (by decide) ?_
    refine G_iast (mem2 := (up2 mem 183 (a1 + 2) 0)) dX12_readsStreet_223 (by decide) sh_183 (by decide) (q5 c1).1 (q5 c1).2 rfl ?_
    refine G_aload_n dX12_readsStreet_224 rfl ?_
    refine G_getR (t := 183) dX12_readsStreet_225 fl_12_51 (by decide) sh_169 rr_169_21 ?_
    refine G_iload_n dX12_readsStreet_228 rfl ?_
    refine G_iconst (z := 4) dX12_readsStreet_229 rfl ?_
    refine G_iadd dX12_readsStreet_230 ?_
    refine G_iconst (z := (-1)) dX12_readsStreet_231 rfl ?_
    refine G_iast (mem2 := (up2 (up2 mem 183 (a1 + 2) 0) 183 (a1 + 4) (-1))) dX12_readsStreet_232 (by decide) sh_183 (by decide) (q6 c1).1 (q6 c1).2 rfl ?_
    refine G_aload_n dX12_readsStreet_233 rfl ?_
    refine G_getR (t := 183) dX12_readsStreet_234 fl_12_51 (by decide) sh_169 rr_169_21 ?_
    refine G_iload_n dX12_readsStreet_237 rfl ?_
    refine G_iconst (z := 5) dX12_readsStreet_238 rfl ?_
    refine G_iadd dX12_readsStreet_239 ?_
    refine G_iconst (z := (-1)) dX12_readsStreet_240 rfl ?_
    refine G_iast (mem2 := (up2 (up2 (up2 mem 183 (a1 + 2) 0) 183 (a1 + 4) (-1)) 183 (a1 + 5) (-1))) dX12_readsStreet_241 (by decide) sh_183 (by decide) (q7 c1).1 (q7 c1).2 rfl ?_
    refine G_aload_n dX12_readsStreet_242 rfl ?_
    refine G_dup dX12_readsStreet_243 rfl ?_
    refine G_getI (z := (mem 169 23)) dX12_readsStreet_244 fl_12_192 (by decide) sh_169 (by simp [up2, upr]) ?_
    refine G_iconst (z := 1) dX12_readsStreet_247 rfl ?_
    refine G_iadd dX12_readsStreet_248 ?_
    refine G_putI (mem2 := (up2 (up2 (up2 (up2 mem 183 (a1 + 2) 0) 183 (a1 + 4) (-1)) 183 (a1 + 5) (-1)) 169 23 ((mem 169 23) + 1))) dX12_readsStreet_249 fp_12_192 (by decide) sh_169 rfl ?_
    refine G_aload_n dX12_readsStreet_252 rfl ?_
    refine G_bipush (z := 120) dX12_readsStreet_253 rfl ?_
    exact k2 c1
set_option maxRecDepth 20000 in
set_option maxHeartbeats 1000000 in
theorem sg_X12_readsStreet_258 {E : Nat × (Nat → Int32)} {d : Nat} {P : Option Value → Mem → Prop} {mem : Mem} {a1 : Int} {a2 : Int} {a3 : Int} {s0 : Int} (w1 : -2147483648 ≤ s0 ∧ s0 < 2147483648)
    (k1 : s0 ≠ 0 → GM E (m_X12_readsStreet d) P 272 [.ref 169, vi a1, vi a2, vi a3] [vi 3, .ref 169, vi (a1 + 4), .ref 183] mem)
    (k2 : s0 = 0 → P (some (vi 1)) mem) :
    GM E (m_X12_readsStreet d) P 258 [.ref 169, vi a1, vi a2, vi a3] [vi s0] mem := by
  refine G_if_ne (tgt := 263) dX12_readsStreet_258 (by decide) (w1) (fun c1 => ?_) (fun c1 => ?_)
  · -- s0 ≠ 0
    refine G_aload_n dX12_readsStreet_263 rfl ?_
    refine G_getR (t := 183) dX12_readsStreet_264 fl_12_51 (by decide) sh_169 rr_169_21 ?_
    refine G_iload_n dX12_readsStreet_267 rfl ?_
    refine G_iconst (z := 4) dX12_readsStreet_268 rfl ?_
    refine G_iadd dX12_readsStreet_269 ?_
    refine G_aload_n dX12_readsStreet_270 rfl ?_
    refine G_iconst (z := 3) dX12_readsStreet_271 rfl ?_
    exact k1 c1
  · -- s0 = 0
    refine G_iconst (z := 1) dX12_readsStreet_261 rfl ?_
    exact G_zret dX12_readsStreet_262 rfl (nar_zb (by decide)) (Nat.zero_le _) (Nat.zero_le _) (Nat.le_refl _) ⟨rfl, k2 c1⟩
set_option maxRecDepth 20000 in
set_option maxHeartbeats 1000000 in
theorem sg_X12_readsStreet_275 {E : Nat × (Nat → Int32)} {d : Nat} {P : Option Value → Mem → Prop} {mem : Mem} {a1 : Int} {a2 : Int} {a3 : Int} {s0 : Int} {s1 : Int} (q1 : 0 ≤ s1 ∧ s1 < 36) (q2 : 0 ≤ (a1 + 4) ∧ (a1 + 4) < 36) (w3 : -2147483648 ≤ ((up2 mem 183 s1 s0) 183 (a1 + 4)) ∧ ((up2 mem 183 s1 s0) 183 (a1 + 4)) < 2147483648)
    (k1 : ((up2 mem 183 s1 s0) 183 (a1 + 4)) < 0 → P (some (vi 0)) (up2 mem 183 s1 s0))
    (k2 : ¬ ((up2 mem 183 s1 s0) 183 (a1 + 4)) < 0 → GM E (m_X12_readsStreet d) P 290 [.ref 169, vi a1, vi a2, vi a3] [vi 45, .ref 169] (up2 mem 183 s1 s0)) :
    GM E (m_X12_readsStreet d) P 275 [.ref 169, vi a1, vi a2, vi a3] [vi s0, vi s1, .ref 183] mem := by
  refine G_iast (mem2 := (up2 mem 183 s1 s0)) dX12_readsStreet_275 (by decide) sh_183 (by decide) (q1).1 (q1).2 rfl ?_
  refine G_aload_n dX12_readsStreet_276 rfl ?_
  refine G_getR (t := 183) dX12_readsStreet_277 fl_12_51 (by decide) sh_169 rr_169_21 ?_
  refine G_iload_n dX12_readsStreet_280 rfl ?_
  refine G_iconst (z := 4) dX12_readsStreet_281 rfl ?_
  refine G_iadd dX12_readsStreet_282 ?_
  refine G_iald (z := ((up2 mem 183 s1 s0) 183 (a1 + 4))) dX12_readsStreet_283 (by decide) sh_183 (by decide) (q2).1 (q2).2 (by simp [up2, upr]) ?_
  refine G_if_lt (tgt := 296) dX12_readsStreet_284 (by decide) (w3) (fun c1 => ?_) (fun c1 => ?_)
  · -- ((up2 mem 183 s1 s0) 183 (a1 + 4)) < 0
    refine G_iconst (z := 0) dX12_readsStreet_296 rfl ?_
    exact G_zret dX12_readsStreet_297 rfl (nar_zb (by decide)) (Nat.zero_le _) (Nat.zero_le _) (Nat.le_refl _) ⟨rfl, k1 c1⟩
  · -- ¬ ((up2 mem 183 s1 s0) 183 (a1 + 4)) < 0
    refine G_aload_n dX12_readsStreet_287 rfl ?_
    refine G_bipush (z := 45) dX12_readsStreet_288 rfl ?_
    exact k2 c1
set_option maxRecDepth 20000 in
set_option maxHeartbeats 1000000 in
theorem sg_X12_readsStreet_293 {E : Nat × (Nat → Int32)} {d : Nat} {P : Option Value → Mem → Prop} {mem : Mem} {a1 : Int} {a2 : Int} {a3 : Int} {s0 : Int} (w1 : -2147483648 ≤ s0 ∧ s0 < 2147483648)
    (k1 : s0 ≠ 0 → GM E (m_X12_readsStreet d) P 307 [.ref 169, vi a1, vi a2, vi a3] [vi 3, .ref 169, vi (a1 + 5), .ref 183] mem)
    (k2 : s0 = 0 → P (some (vi 0)) mem) :
    GM E (m_X12_readsStreet d) P 293 [.ref 169, vi a1, vi a2, vi a3] [vi s0] mem := by
  refine G_if_ne (tgt := 298) dX12_readsStreet_293 (by decide) (w1) (fun c1 => ?_) (fun c1 => ?_)
  · -- s0 ≠ 0
    refine G_aload_n dX12_readsStreet_298 rfl ?_
    refine G_getR (t := 183) dX12_readsStreet_299 fl_12_51 (by decide) sh_169 rr_169_21 ?_
    refine G_iload_n dX12_readsStreet_302 rfl ?_
    refine G_iconst (z := 5) dX12_readsStreet_303 rfl ?_
    refine G_iadd dX12_readsStreet_304 ?_
    refine G_aload_n dX12_readsStreet_305 rfl ?_
    refine G_iconst (z := 3) dX12_readsStreet_306 rfl ?_
    exact k1 c1
  · -- s0 = 0
    refine G_iconst (z := 0) dX12_readsStreet_296 rfl ?_
    exact G_zret dX12_readsStreet_297 rfl (nar_zb (by decide)) (Nat.zero_le _) (Nat.zero_le _) (Nat.le_refl _) ⟨rfl, k2 c1⟩
set_option maxRecDepth 20000 in
set_option maxHeartbeats 1000000 in
theorem sg_X12_readsStreet_310 {E : Nat × (Nat → Int32)} {d : Nat} {P : Option Value → Mem → Prop} {mem : Mem} {a1 : Int} {a2 : Int} {a3 : Int} {s0 : Int} {s1 : Int} (q1 : 0 ≤ s1 ∧ s1 < 36) (q2 : 0 ≤ (a1 + 5) ∧ (a1 + 5) < 36) (q3 : 0 ≤ (a1 + 4) ∧ (a1 + 4) < 36) (w4 : -2147483648 ≤ ((up2 mem 183 s1 s0) 183 (a1 + 5)) ∧ ((up2 mem 183 s1 s0) 183 (a1 + 5)) < 2147483648) (w5 : -2147483648 ≤ ((up2 mem 183 s1 s0) 183 (a1 + 4)) ∧ ((up2 mem 183 s1 s0) 183 (a1 + 4)) < 2147483648)
    (k1 : ((up2 mem 183 s1 s0) 183 (a1 + 5)) < ((up2 mem 183 s1 s0) 183 (a1 + 4)) → ((up2 mem 183 s1 s0) 183 (a1 + 5)) < 0 → GM E (m_X12_readsStreet d) P 353 [.ref 169, vi a1, vi a2, vi a3] [vi 0, vi (mem 169 18), .ref 169] (up2 mem 183 s1 s0))
    (k2 : ((up2 mem 183 s1 s0) 183 (a1 + 5)) < ((up2 mem 183 s1 s0) 183 (a1 + 4)) → ¬ ((up2 mem 183 s1 s0) 183 (a1 + 5)) < 0 → GM E (m_X12_readsStreet d) P 353 [.ref 169, vi a1, vi a2, vi a3] [vi 1, vi (mem 169 18), .ref 169] (up2 mem 183 s1 s0))
    (k3 : ¬ ((up2 mem 183 s1 s0) 183 (a1 + 5)) < ((up2 mem 183 s1 s0) 183 (a1 + 4)) → P (some (vi 1)) (up2 mem 183 s1 s0)) :
    GM E (m_X12_readsStreet d) P 310 [.ref 169, vi a1, vi a2, vi a3] [vi s0, vi s1, .ref 183] mem := by
  refine G_iast (mem2 := (up2 mem 183 s1 s0)) dX12_readsStreet_310 (by decide) sh_183 (by decide) (q1).1 (q1).2 rfl ?_
  refine G_aload_n dX12_readsStreet_311 rfl ?_
  refine G_getR (t := 183) dX12_readsStreet_312 fl_12_51 (by decide) sh_169 rr_169_21 ?_
  refine G_iload_n dX12_readsStreet_315 rfl ?_
  refine G_iconst (z := 5) dX12_readsStreet_316 rfl ?_
  refine G_iadd dX12_readsStreet_317 ?_
  refine G_iald (z := ((up2 mem 183 s1 s0) 183 (a1 + 5))) dX12_readsStreet_318 (by decide) sh_183 (by decide) (q2).1 (q2).2 (by simp [up2, upr]) ?_
  refine G_aload_n dX12_readsStreet_319 rfl ?_
  refine G_getR (t := 183) dX12_readsStreet_320 fl_12_51 (by decide) sh_169 rr_169_21 ?_
  refine G_iload_n dX12_readsStreet_323 rfl ?_
  refine G_iconst (z := 4) dX12_readsStreet_324 rfl ?_
  refine G_iadd dX12_readsStreet_325 ?_
  refine G_iald (z := ((up2 mem 183 s1 s0) 183 (a1 + 4))) dX12_readsStreet_326 (by decide) sh_183 (by decide) (q3).1 (q3).2 (by simp [up2, upr]) ?_
  refine G_icmp_lt (tgt := 332) dX12_readsStreet_327 (by decide) (w4) (w5) (fun c1 => ?_) (fun c1 => ?_)
  · -- ((up2 mem 183 s1 s0) 183 (a1 + 5)) < ((up2 mem 183 s1 s0) 183 (a1 + 4))
    refine G_aload_n dX12_readsStreet_332 rfl ?_
    refine G_dup dX12_readsStreet_333 rfl ?_
    refine G_getI (z := (mem 169 18)) dX12_readsStreet_334 fl_12_151 (by decide) sh_169 (by simp [up2, upr]) ?_
    refine G_aload_n dX12_readsStreet_337 rfl ?_
    refine G_getR (t := 183) dX12_readsStreet_338 fl_12_51 (by decide) sh_169 rr_169_21 ?_
    refine G_iload_n dX12_readsStreet_341 rfl ?_
    refine G_iconst (z := 5) dX12_readsStreet_342 rfl ?_
    refine G_iadd dX12_readsStreet_343 ?_
    refine G_iald (z := ((up2 mem 183 s1 s0) 183 (a1 + 5))) dX12_readsStreet_344 (by decide) sh_183 (by decide) (q2).1 (q2).2 (by simp [up2, upr]) ?_
    refine G_if_lt (tgt := 352) dX12_readsStreet_345 (by decide) (w4) (fun c2 => ?_) (fun c2 => ?_)
    · -- ((up2 mem 183 s1 s0) 183 (a1 + 5)) < 0
      refine G_iconst (z := 0) dX12_readsStreet_352 rfl ?_
      exact k1 c1 c2
    · -- ¬ ((up2 mem 183 s1 s0) 183 (a1 + 5)) < 0
      refine G_iconst (z := 1) dX12_readsStreet_348 rfl ?_
      refine G_goto (tgt := 353) dX12_readsStreet_349 (by decide) ?_
      exact k2 c1 c2
  · -- ¬ ((up2 mem 183 s1 s0) 183 (a1 + 5)) < ((up2 mem 183 s1 s0) 183 (a1 + 4))
    refine G_iconst (z := 1) dX12_readsStreet_330 rfl ?_
    exact G_zret dX12_readsStreet_331 rfl (nar_zb (by decide)) (Nat.zero_le _) (Nat.zero_le _) (Nat.le_refl _) ⟨rfl, k3 c1⟩
set_option maxRecDepth 20000 in
set_option maxHeartbeats 1000000 in
theorem sg_X12_readsStreet_356 {E : Nat × (Nat → Int32)} {d : Nat} {P : Option Value → Mem → Prop} {mem : Mem} {a1 : Int} {a2 : Int} {a3 : Int} {s0 : Int} {s1 : Int}
    (k1 : P (some (vi 0)) (up2 mem 169 18 (s1 - s0))) :
    GM E (m_X12_readsStreet d) P 356 [.ref 169, vi a1, vi a2, vi a3] [vi s0, vi s1, .ref 169] mem := by
  refine G_isub dX12_readsStreet_356 ?_
  refine G_putI (mem2 := (up2 mem 169 18 (s1 - s0))) dX12_readsStreet_357 fp_12_151 (by decide) sh_169 rfl ?_
  refine G_iconst (z := 0) dX12_readsStreet_360 rfl ?_
  exact G_zret dX12_readsStreet_361 rfl (nar_zb (by decide)) (Nat.zero_le _) (Nat.zero_le _) (Nat.le_refl _) ⟨rfl, k1⟩
abbrev m_X12_readsThing (d : Nat) : Mu := (cX12_readsThing, 2, RX12, (some .boolean), ⟨d, 0, 0, 40 * d⟩, "readsThing")
set_option maxRecDepth 20000 in
set_option maxHeartbeats 1000000 in
theorem sg_X12_readsThing_0 {E : Nat × (Nat → Int32)} {d : Nat} {P : Option Value → Mem → Prop} {mem : Mem}
    (k1 : GM E (m_X12_readsThing d) P 3 [.ref 169, un] [vi 45, .ref 169] mem) :
    GM E (m_X12_readsThing d) P 0 [.ref 169, un] [] mem := by
  refine G_aload_n dX12_readsThing_0 rfl ?_
  refine G_bipush (z := 45) dX12_readsThing_1 rfl ?_
  exact k1
set_option maxRecDepth 20000 in
set_option maxHeartbeats 1000000 in
theorem sg_X12_readsThing_6 {E : Nat × (Nat → Int32)} {d : Nat} {P : Option Value → Mem → Prop} {mem : Mem} {s0 : Int} (w1 : -2147483648 ≤ s0 ∧ s0 < 2147483648)
    (k1 : s0 = 0 → GM E (m_X12_readsThing d) P 24 [.ref 169, un] [.ref 169] mem)
    (k2 : ¬ s0 = 0 → GM E (m_X12_readsThing d) P 10 [.ref 169, un] [.ref 169] mem) :
    GM E (m_X12_readsThing d) P 6 [.ref 169, un] [vi s0] mem := by
  refine G_if_eq (tgt := 23) dX12_readsThing_6 (by decide) (w1) (fun c1 => ?_) (fun c1 => ?_)
  · -- s0 = 0
    refine G_aload_n dX12_readsThing_23 rfl ?_
    exact k1 c1
  · -- ¬ s0 = 0
    refine G_aload_n dX12_readsThing_9 rfl ?_
    exact k2 c1
set_option maxRecDepth 20000 in
set_option maxHeartbeats 1000000 in
theorem sg_X12_readsThing_13 {E : Nat × (Nat → Int32)} {d : Nat} {P : Option Value → Mem → Prop} {mem : Mem} {s0 : Int}
    (k1 : GM E (m_X12_readsThing d) P 18 [.ref 169, vi s0] [vi 3000, .ref 169] mem) :
    GM E (m_X12_readsThing d) P 13 [.ref 169, un] [vi s0] mem := by
  refine G_istore_n dX12_readsThing_13 rfl (by decide : 1 < 2) rfl ?_
  refine G_aload_n dX12_readsThing_14 rfl ?_
  refine G_sipush (z := 3000) dX12_readsThing_15 rfl ?_
  exact k1
set_option maxRecDepth 20000 in
set_option maxHeartbeats 1000000 in
theorem sg_X12_readsThing_21 {E : Nat × (Nat → Int32)} {d : Nat} {P : Option Value → Mem → Prop} {mem : Mem} {a1 : Int} (b1 : a1 = 0 ∨ a1 = 1)
    (k1 : P (some (vi a1)) mem) :
    GM E (m_X12_readsThing d) P 21 [.ref 169, vi a1] [] mem := by
  refine G_iload_n dX12_readsThing_21 rfl ?_
  exact G_zret dX12_readsThing_22 rfl (nar_zb (b1)) (Nat.zero_le _) (Nat.zero_le _) (Nat.le_refl _) ⟨rfl, k1⟩
set_option maxRecDepth 20000 in
set_option maxHeartbeats 1000000 in
theorem sg_X12_readsThing_27 {E : Nat × (Nat → Int32)} {d : Nat} {P : Option Value → Mem → Prop} {mem : Mem} {s0 : Int} (w1 : -2147483648 ≤ s0 ∧ s0 < 2147483648)
    (k1 : s0 = 0 → GM E (m_X12_readsThing d) P 44 [.ref 169, un] [.ref 1100, .ref 169] mem)
    (k2 : ¬ s0 = 0 → GM E (m_X12_readsThing d) P 33 [.ref 169, un] [vi 3, .ref 169, .ref 169] mem) :
    GM E (m_X12_readsThing d) P 27 [.ref 169, un] [vi s0] mem := by
  refine G_if_eq (tgt := 41) dX12_readsThing_27 (by decide) (w1) (fun c1 => ?_) (fun c1 => ?_)
  · -- s0 = 0
    refine G_aload_n dX12_readsThing_41 rfl ?_
    refine G_ldcS (i := 0) (tx := "wbsumrct") dX12_readsThing_42 (by decide +kernel : (RX12, 240, "wbsumrct", 0) ∈ strTab) (by decide) ?_
    exact k1 c1
  · -- ¬ s0 = 0
    refine G_aload_n dX12_readsThing_30 rfl ?_
    refine G_aload_n dX12_readsThing_31 rfl ?_
    refine G_iconst (z := 3) dX12_readsThing_32 rfl ?_
    exact k2 c1
set_option maxRecDepth 20000 in
set_option maxHeartbeats 1000000 in
theorem sg_X12_readsThing_36 {E : Nat × (Nat → Int32)} {d : Nat} {P : Option Value → Mem → Prop} {mem : Mem} {s0 : Int}
    (k1 : GM E (m_X12_readsThing d) P 36 [.ref 169, un] [vi s0, .ref 169] mem) :
    GM E (m_X12_readsThing d) P 36 [.ref 169, un] [vi s0, .ref 169] mem := by
  exact k1
set_option maxRecDepth 20000 in
set_option maxHeartbeats 1000000 in
theorem sg_X12_readsThing_39 {E : Nat × (Nat → Int32)} {d : Nat} {P : Option Value → Mem → Prop} {mem : Mem}
    (k1 : P (some (vi 1)) mem) :
    GM E (m_X12_readsThing d) P 39 [.ref 169, un] [] mem := by
  refine G_iconst (z := 1) dX12_readsThing_39 rfl ?_
  exact G_zret dX12_readsThing_40 rfl (nar_zb (by decide)) (Nat.zero_le _) (Nat.zero_le _) (Nat.le_refl _) ⟨rfl, k1⟩
set_option maxRecDepth 20000 in
set_option maxHeartbeats 1000000 in
theorem sg_X12_readsThing_47 {E : Nat × (Nat → Int32)} {d : Nat} {P : Option Value → Mem → Prop} {mem : Mem} {s0 : Int} (w1 : -2147483648 ≤ s0 ∧ s0 < 2147483648) (w2 : s0 < 0 → -2147483648 ≤ (mem 169 20) ∧ (mem 169 20) < 2147483648)
    (k1 : s0 < 0 → (mem 169 20) = 4 → P (some (vi 0)) mem)
    (k2 : s0 < 0 → ¬ (mem 169 20) = 4 → GM E (m_X12_readsThing d) P 74 [.ref 169, vi s0] [vi 40, .ref 169] mem)
    (k3 : ¬ s0 < 0 → GM E (m_X12_readsThing d) P 58 [.ref 169, vi s0] [vi (1000 + s0), .ref 169] mem) :
    GM E (m_X12_readsThing d) P 47 [.ref 169, un] [vi s0] mem := by
  refine G_istore_n dX12_readsThing_47 rfl (by decide : 1 < 2) rfl ?_
  refine G_iload_n dX12_readsThing_48 rfl ?_
  refine G_if_lt (tgt := 63) dX12_readsThing_49 (by decide) (w1) (fun c1 => ?_) (fun c1 => ?_)
  · -- s0 < 0
    refine G_aload_n dX12_readsThing_63 rfl ?_
    refine G_getI (z := (mem 169 20)) dX12_readsThing_64 fl_12_154 (by decide) sh_169 rfl ?_
    refine G_iconst (z := 4) dX12_readsThing_67 rfl ?_
    refine G_icmp_eq (tgt := 80) dX12_readsThing_68 (by decide) (w2 c1) (by decide) (fun c2 => ?_) (fun c2 => ?_)
    · -- (mem 169 20) = 4
      refine G_iconst (z := 0) dX12_readsThing_80 rfl ?_
      exact G_zret dX12_readsThing_81 rfl (nar_zb (by decide)) (Nat.zero_le _) (Nat.zero_le _) (Nat.le_refl _) ⟨rfl, k1 c1 c2⟩
    · -- ¬ (mem 169 20) = 4
      refine G_aload_n dX12_readsThing_71 rfl ?_
      refine G_bipush (z := 40) dX12_readsThing_72 rfl ?_
      exact k2 c1 c2
  · -- ¬ s0 < 0
    refine G_aload_n dX12_readsThing_52 rfl ?_
    refine G_sipush (z := 1000) dX12_readsThing_53 rfl ?_
    refine G_iload_n dX12_readsThing_56 rfl ?_
    refine G_iadd dX12_readsThing_57 ?_
    exact k3 c1
set_option maxRecDepth 20000 in
set_option maxHeartbeats 1000000 in
theorem sg_X12_readsThing_61 {E : Nat × (Nat → Int32)} {d : Nat} {P : Option Value → Mem → Prop} {mem : Mem} {a1 : Int}
    (k1 : P (some (vi 1)) mem) :
    GM E (m_X12_readsThing d) P 61 [.ref 169, vi a1] [] mem := by
  refine G_iconst (z := 1) dX12_readsThing_61 rfl ?_
  exact G_zret dX12_readsThing_62 rfl (nar_zb (by decide)) (Nat.zero_le _) (Nat.zero_le _) (Nat.le_refl _) ⟨rfl, k1⟩
set_option maxRecDepth 20000 in
set_option maxHeartbeats 1000000 in
theorem sg_X12_readsThing_77 {E : Nat × (Nat → Int32)} {d : Nat} {P : Option Value → Mem → Prop} {mem : Mem} {a1 : Int} {s0 : Int} (w1 : -2147483648 ≤ s0 ∧ s0 < 2147483648)
    (k1 : s0 ≠ 0 → GM E (m_X12_readsThing d) P 94 [.ref 169, vi a1] [vi 0, .ref 169] (up2 mem 169 20 ((mem 169 20) + 1)))
    (k2 : s0 = 0 → P (some (vi 0)) mem) :
    GM E (m_X12_readsThing d) P 77 [.ref 169, vi a1] [vi s0] mem := by
  refine G_if_ne (tgt := 82) dX12_readsThing_77 (by decide) (w1) (fun c1 => ?_) (fun c1 => ?_)
  · -- s0 ≠ 0
    refine G_aload_n dX12_readsThing_82 rfl ?_
    refine G_dup dX12_readsThing_83 rfl ?_
    refine G_getI (z := (mem 169 20)) dX12_readsThing_84 fl_12_154 (by decide) sh_169 rfl ?_
    refine G_iconst (z := 1) dX12_readsThing_87 rfl ?_
    refine G_iadd dX12_readsThing_88 ?_
    refine G_putI (mem2 := (up2 mem 169 20 ((mem 169 20) + 1))) dX12_readsThing_89 fp_12_154 (by decide) sh_169 rfl ?_
    refine G_aload_n dX12_readsThing_92 rfl ?_
    refine G_iconst (z := 0) dX12_readsThing_93 rfl ?_
    exact k1 c1
  · -- s0 = 0
    refine G_iconst (z := 0) dX12_readsThing_80 rfl ?_
    exact G_zret dX12_readsThing_81 rfl (nar_zb (by decide)) (Nat.zero_le _) (Nat.zero_le _) (Nat.le_refl _) ⟨rfl, k2 c1⟩
set_option maxRecDepth 20000 in
set_option maxHeartbeats 1000000 in
theorem sg_X12_readsThing_97 {E : Nat × (Nat → Int32)} {d : Nat} {P : Option Value → Mem → Prop} {mem : Mem} {a1 : Int} {s0 : Int} (w1 : -2147483648 ≤ s0 ∧ s0 < 2147483648)
    (k1 : s0 = 0 → P (some (vi 0)) mem)
    (k2 : ¬ s0 = 0 → GM E (m_X12_readsThing d) P 103 [.ref 169, vi a1] [vi 41, .ref 169] mem) :
    GM E (m_X12_readsThing d) P 97 [.ref 169, vi a1] [vi s0] mem := by
  refine G_if_eq (tgt := 109) dX12_readsThing_97 (by decide) (w1) (fun c1 => ?_) (fun c1 => ?_)
  · -- s0 = 0
    refine G_iconst (z := 0) dX12_readsThing_109 rfl ?_
    exact G_zret dX12_readsThing_110 rfl (nar_zb (by decide)) (Nat.zero_le _) (Nat.zero_le _) (Nat.le_refl _) ⟨rfl, k1 c1⟩
  · -- ¬ s0 = 0
    refine G_aload_n dX12_readsThing_100 rfl ?_
    refine G_bipush (z := 41) dX12_readsThing_101 rfl ?_
    exact k2 c1
set_option maxRecDepth 20000 in
set_option maxHeartbeats 1000000 in
theorem sg_X12_readsThing_106 {E : Nat × (Nat → Int32)} {d : Nat} {P : Option Value → Mem → Prop} {mem : Mem} {a1 : Int} {s0 : Int} (w1 : -2147483648 ≤ s0 ∧ s0 < 2147483648)
    (k1 : s0 ≠ 0 → P (some (vi 1)) (up2 mem 169 20 ((mem 169 20) - 1)))
    (k2 : s0 = 0 → P (some (vi 0)) mem) :
    GM E (m_X12_readsThing d) P 106 [.ref 169, vi a1] [vi s0] mem := by
  refine G_if_ne (tgt := 111) dX12_readsThing_106 (by decide) (w1) (fun c1 => ?_) (fun c1 => ?_)
  · -- s0 ≠ 0
    refine G_aload_n dX12_readsThing_111 rfl ?_
    refine G_dup dX12_readsThing_112 rfl ?_
    refine G_getI (z := (mem 169 20)) dX12_readsThing_113 fl_12_154 (by decide) sh_169 rfl ?_
    refine G_iconst (z := 1) dX12_readsThing_116 rfl ?_
    refine G_isub dX12_readsThing_117 ?_
    refine G_putI (mem2 := (up2 mem 169 20 ((mem 169 20) - 1))) dX12_readsThing_118 fp_12_154 (by decide) sh_169 rfl ?_
    refine G_iconst (z := 1) dX12_readsThing_121 rfl ?_
    exact G_zret dX12_readsThing_122 rfl (nar_zb (by decide)) (Nat.zero_le _) (Nat.zero_le _) (Nat.le_refl _) ⟨rfl, k1 c1⟩
  · -- s0 = 0
    refine G_iconst (z := 0) dX12_readsThing_109 rfl ?_
    exact G_zret dX12_readsThing_110 rfl (nar_zb (by decide)) (Nat.zero_le _) (Nat.zero_le _) (Nat.le_refl _) ⟨rfl, k2 c1⟩
abbrev m_X12_refuse (d : Nat) : Mu := (cX12_refuse, 1, RX12, (some .int), ⟨d, 0, 0, 40 * d⟩, "refuse")
set_option maxRecDepth 20000 in
set_option maxHeartbeats 1000000 in
theorem sg_X12_refuse_0 {E : Nat × (Nat → Int32)} {d : Nat} {P : Option Value → Mem → Prop} {mem : Mem}
    (k1 : P (some (vi 0)) (up2 mem 169 0 1)) :
    GM E (m_X12_refuse d) P 0 [.ref 169] [] mem := by
  refine G_aload_n dX12_refuse_0 rfl ?_
  refine G_iconst (z := 1) dX12_refuse_1 rfl ?_
  refine G_putI (mem2 := (up2 mem 169 0 1)) dX12_refuse_2 fp_12_126 (by decide) sh_169 rfl ?_
  refine G_iconst (z := 0) dX12_refuse_5 rfl ?_
  exact G_iret dX12_refuse_6 rfl (Nat.zero_le _) (Nat.zero_le _) (Nat.le_refl _) ⟨rfl, k1⟩
abbrev m_X12_right (d : Nat) : Mu := (cX12_right, 5, RX12, (some .int), ⟨d, 0, 0, 40 * d⟩, "right")
set_option maxRecDepth 20000 in
set_option maxHeartbeats 1000000 in
theorem sg_X12_right_0 {E : Nat × (Nat → Int32)} {d : Nat} {P : Option Value → Mem → Prop} {mem : Mem} {a1 : Int} {a2 : Int}
    (k1 : GM E (m_X12_right d) P 7 [.ref 169, vi a1, vi a2, un, un] [vi a1, .ref 169] (up2 mem 169 0 0)) :
    GM E (m_X12_right d) P 0 [.ref 169, vi a1, vi a2, un, un] [] mem := by
  refine G_aload_n dX12_right_0 rfl ?_
  refine G_iconst (z := 0) dX12_right_1 rfl ?_
  refine G_putI (mem2 := (up2 mem 169 0 0)) dX12_right_2 fp_12_126 (by decide) sh_169 rfl ?_
  refine G_aload_n dX12_right_5 rfl ?_
  refine G_iload_n dX12_right_6 rfl ?_
  exact k1
set_option maxRecDepth 20000 in
set_option maxHeartbeats 1000000 in
theorem sg_X12_right_10 {E : Nat × (Nat → Int32)} {d : Nat} {P : Option Value → Mem → Prop} {mem : Mem} {a1 : Int} {a2 : Int} {s0 : Int} (w1 : -2147483648 ≤ s0 ∧ s0 < 2147483648) (w2 : -2147483648 ≤ a2 ∧ a2 < 2147483648)
    (k1 : s0 = 0 → P (some (vi (-1))) mem)
    (k2 : ¬ s0 = 0 → GM E (m_X12_right d) P 19 [.ref 169, vi a1, vi a2, un, un] [vl 10, vl 0, vl a2] mem) :
    GM E (m_X12_right d) P 10 [.ref 169, vi a1, vi a2, un, un] [vi s0] mem := by
  refine G_if_eq (tgt := 25) dX12_right_10 (by decide) (w1) (fun c1 => ?_) (fun c1 => ?_)
  · -- s0 = 0
    refine G_iconst (z := (-1)) dX12_right_25 rfl ?_
    exact G_iret dX12_right_26 rfl (Nat.zero_le _) (Nat.zero_le _) (Nat.le_refl _) ⟨rfl, k1 c1⟩
  · -- ¬ s0 = 0
    refine G_iload_n dX12_right_13 rfl ?_
    refine G_i2l dX12_right_14 (w2) ?_
    refine G_lconst (z := 0) dX12_right_15 rfl ?_
    refine G_ldc2 (z := 10) dX12_right_16 kc_12_489 ?_
    exact k2 c1
set_option maxRecDepth 20000 in
set_option maxHeartbeats 1000000 in
theorem sg_X12_right_22 {E : Nat × (Nat → Int32)} {d : Nat} {P : Option Value → Mem → Prop} {mem : Mem} {a1 : Int} {a2 : Int} {s0 : Int} (w1 : -2147483648 ≤ s0 ∧ s0 < 2147483648)
    (k1 : s0 ≠ 0 → GM E (m_X12_right d) P 30 [.ref 169, vi a1, vi a2, un, un] [vi a2, vi a1, .ref 169] mem)
    (k2 : s0 = 0 → P (some (vi (-1))) mem) :
    GM E (m_X12_right d) P 22 [.ref 169, vi a1, vi a2, un, un] [vi s0] mem := by
  refine G_if_ne (tgt := 27) dX12_right_22 (by decide) (w1) (fun c1 => ?_) (fun c1 => ?_)
  · -- s0 ≠ 0
    refine G_aload_n dX12_right_27 rfl ?_
    refine G_iload_n dX12_right_28 rfl ?_
    refine G_iload_n dX12_right_29 rfl ?_
    exact k1 c1
  · -- s0 = 0
    refine G_iconst (z := (-1)) dX12_right_25 rfl ?_
    exact G_iret dX12_right_26 rfl (Nat.zero_le _) (Nat.zero_le _) (Nat.le_refl _) ⟨rfl, k2 c1⟩
set_option maxRecDepth 20000 in
set_option maxHeartbeats 1000000 in
theorem sg_X12_right_33 {E : Nat × (Nat → Int32)} {d : Nat} {P : Option Value → Mem → Prop} {mem : Mem} {a1 : Int} {a2 : Int}
    (k1 : GM E (m_X12_right d) P 41 [.ref 169, vi a1, vi a2, un, un] [vl (mem 169 68), vl (mem 169 67)] mem) :
    GM E (m_X12_right d) P 33 [.ref 169, vi a1, vi a2, un, un] [] mem := by
  refine G_aload_n dX12_right_33 rfl ?_
  refine G_getL (z := (mem 169 67)) dX12_right_34 fl_12_482 (by decide) sh_169 rfl ?_
  refine G_aload_n dX12_right_37 rfl ?_
  refine G_getL (z := (mem 169 68)) dX12_right_38 fl_12_486 (by decide) sh_169 rfl ?_
  exact k1
set_option maxRecDepth 20000 in
set_option maxHeartbeats 1000000 in
theorem sg_X12_right_44 {E : Nat × (Nat → Int32)} {d : Nat} {P : Option Value → Mem → Prop} {mem : Mem} {a1 : Int} {a2 : Int} {s0 : Int} (w1 : -9223372036854775808 ≤ s0 ∧ s0 < 9223372036854775808) (z2 : s0 ≠ 0)
    (k1 : GM E (m_X12_right d) P 57 [.ref 169, vi a1, vi a2, vl s0, un] [vl (divL (mem 169 67) s0), .ref 169] (up2 mem 169 1 0)) :
    GM E (m_X12_right d) P 44 [.ref 169, vi a1, vi a2, un, un] [vl s0] mem := by
  refine G_lstore_n dX12_right_44 rfl (by decide : 3 + 1 < 5) rfl ?_
  refine G_aload_n dX12_right_45 rfl ?_
  refine G_iconst (z := 0) dX12_right_46 rfl ?_
  refine G_putI (mem2 := (up2 mem 169 1 0)) dX12_right_47 fp_12_134 (by decide) sh_169 rfl ?_
  refine G_aload_n dX12_right_50 rfl ?_
  refine G_aload_n dX12_right_51 rfl ?_
  refine G_getL (z := (mem 169 67)) dX12_right_52 fl_12_482 (by decide) sh_169 (by simp [up2, upr]) ?_
  refine G_lload_n dX12_right_55 rfl ?_
  refine G_ldiv (z := (divL (mem 169 67) s0)) dX12_right_56 (iL_ne0 (w1) (z2)) (iL_inv _) ?_
  exact k1
set_option maxRecDepth 20000 in
set_option maxHeartbeats 1000000 in
theorem sg_X12_right_60 {E : Nat × (Nat → Int32)} {d : Nat} {P : Option Value → Mem → Prop} {mem : Mem} {a1 : Int} {a2 : Int} {a3 : Int} (w1 : -9223372036854775808 ≤ a3 ∧ a3 < 9223372036854775808) (z2 : a3 ≠ 0)
    (k1 : GM E (m_X12_right d) P 67 [.ref 169, vi a1, vi a2, vl a3, un] [vl (divL (mem 169 68) a3), .ref 169] mem) :
    GM E (m_X12_right d) P 60 [.ref 169, vi a1, vi a2, vl a3, un] [] mem := by
  refine G_aload_n dX12_right_60 rfl ?_
  refine G_aload_n dX12_right_61 rfl ?_
  refine G_getL (z := (mem 169 68)) dX12_right_62 fl_12_486 (by decide) sh_169 rfl ?_
  refine G_lload_n dX12_right_65 rfl ?_
  refine G_ldiv (z := (divL (mem 169 68) a3)) dX12_right_66 (iL_ne0 (w1) (z2)) (iL_inv _) ?_
  exact k1
set_option maxRecDepth 20000 in
set_option maxHeartbeats 1000000 in
theorem sg_X12_right_70 {E : Nat × (Nat → Int32)} {d : Nat} {P : Option Value → Mem → Prop} {mem : Mem} {a1 : Int} {a2 : Int} {a3 : Int}
    (k1 : P (some (vi 0)) mem) :
    GM E (m_X12_right d) P 70 [.ref 169, vi a1, vi a2, vl a3, un] [] mem := by
  refine G_iconst (z := 0) dX12_right_70 rfl ?_
  exact G_iret dX12_right_71 rfl (Nat.zero_le _) (Nat.zero_le _) (Nat.le_refl _) ⟨rfl, k1⟩
abbrev m_X12_round (d : Nat) : Mu := (cX12_round, 7, RX12, (some .int), ⟨d, 0, 0, 40 * d⟩, "round")
set_option maxRecDepth 20000 in
set_option maxHeartbeats 1000000 in
theorem sg_X12_round_0 {E : Nat × (Nat → Int32)} {d : Nat} {P : Option Value → Mem → Prop} {mem : Mem}
    (k1 : GM E (m_X12_round d) P 8 [.ref 169, un, un, un, un, un, un] [vi 60, .ref 169] (up2 mem 169 0 0)) :
    GM E (m_X12_round d) P 0 [.ref 169, un, un, un, un, un, un] [] mem := by
  refine G_aload_n dX12_round_0 rfl ?_
  refine G_iconst (z := 0) dX12_round_1 rfl ?_
  refine G_putI (mem2 := (up2 mem 169 0 0)) dX12_round_2 fp_12_126 (by decide) sh_169 rfl ?_
  refine G_aload_n dX12_round_5 rfl ?_
  refine G_bipush (z := 60) dX12_round_6 rfl ?_
  exact k1
set_option maxRecDepth 20000 in
set_option maxHeartbeats 1000000 in
theorem sg_X12_round_11 {E : Nat × (Nat → Int32)} {d : Nat} {P : Option Value → Mem → Prop} {mem : Mem} {s0 : Int} (w1 : -2147483648 ≤ s0 ∧ s0 < 2147483648)
    (k1 : s0 ≤ 0 → GM E (m_X12_round d) P 29 [.ref 169, vi s0, vi 1, vi 0, un, un, un] [] (up2 mem 169 46 0))
    (k2 : ¬ s0 ≤ 0 → GM E (m_X12_round d) P 29 [.ref 169, vi s0, vi 1, vi 1, un, un, un] [] (up2 mem 169 46 0)) :
    GM E (m_X12_round d) P 11 [.ref 169, un, un, un, un, un, un] [vi s0] mem := by
  refine G_istore_n dX12_round_11 rfl (by decide : 1 < 7) rfl ?_
  refine G_aload_n dX12_round_12 rfl ?_
  refine G_iconst (z := 0) dX12_round_13 rfl ?_
  refine G_putI (mem2 := (up2 mem 169 46 0)) dX12_round_14 fp_12_387 (by decide) sh_169 rfl ?_
  refine G_iconst (z := 1) dX12_round_17 rfl ?_
  refine G_istore_n dX12_round_18 rfl (by decide : 2 < 7) rfl ?_
  refine G_iload_n dX12_round_19 rfl ?_
  refine G_if_le (tgt := 27) dX12_round_20 (by decide) (w1) (fun c1 => ?_) (fun c1 => ?_)
  · -- s0 ≤ 0
    refine G_iconst (z := 0) dX12_round_27 rfl ?_
    refine G_istore_n dX12_round_28 rfl (by decide : 3 < 7) rfl ?_
    exact k1 c1
  · -- ¬ s0 ≤ 0
    refine G_iconst (z := 1) dX12_round_23 rfl ?_
    refine G_goto (tgt := 28) dX12_round_24 (by decide) ?_
    refine G_istore_n dX12_round_28 rfl (by decide : 3 < 7) rfl ?_
    exact k2 c1
set_option maxRecDepth 20000 in
set_option maxHeartbeats 1000000 in
theorem sg_X12_round_29 {E : Nat × (Nat → Int32)} {d : Nat} {P : Option Value → Mem → Prop} {mem : Mem} {a1 : Int} {a2 : Int} {a3 : Int} (w1 : -2147483648 ≤ a3 ∧ a3 < 2147483648)
    (k1 : a3 = 0 → GM E (m_X12_round d) P 65 [.ref 169, vi a1, vi a2, vi a3, un, un, un] [vi a2, vi 60, vi a1, .ref 169] mem)
    (k2 : ¬ a3 = 0 → GM E (m_X12_round d) P 34 [.ref 169, vi a1, vi a2, vi a3, un, un, un] [.ref 169] mem) :
    GM E (m_X12_round d) P 29 [.ref 169, vi a1, vi a2, vi a3, un, un, un] [] mem := by
  refine G_iload_n dX12_round_29 rfl ?_
  refine G_if_eq (tgt := 60) dX12_round_30 (by decide) (w1) (fun c1 => ?_) (fun c1 => ?_)
  · -- a3 = 0
    refine G_aload_n dX12_round_60 rfl ?_
    refine G_iload_n dX12_round_61 rfl ?_
    refine G_bipush (z := 60) dX12_round_62 rfl ?_
    refine G_iload_n dX12_round_64 rfl ?_
    exact k1 c1
  · -- ¬ a3 = 0
    refine G_aload_n dX12_round_33 rfl ?_
    exact k2 c1
set_option maxRecDepth 20000 in
set_option maxHeartbeats 1000000 in
theorem sg_X12_round_37 {E : Nat × (Nat → Int32)} {d : Nat} {P : Option Value → Mem → Prop} {mem : Mem} {a1 : Int} {a2 : Int} {a3 : Int} {s0 : Int} (w1 : -2147483648 ≤ s0 ∧ s0 < 2147483648)
    (k1 : s0 = 0 → GM E (m_X12_round d) P 29 [.ref 169, vi a1, vi s0, vi 0, un, un, un] [] mem)
    (k2 : ¬ s0 = 0 → GM E (m_X12_round d) P 45 [.ref 169, vi a1, vi s0, vi a3, un, un, un] [vi 59, .ref 169] mem) :
    GM E (m_X12_round d) P 37 [.ref 169, vi a1, vi a2, vi a3, un, un, un] [vi s0] mem := by
  refine G_istore_n dX12_round_37 rfl (by decide : 2 < 7) rfl ?_
  refine G_iload_n dX12_round_38 rfl ?_
  refine G_if_eq (tgt := 55) dX12_round_39 (by decide) (w1) (fun c1 => ?_) (fun c1 => ?_)
  · -- s0 = 0
    refine G_iconst (z := 0) dX12_round_55 rfl ?_
    refine G_istore_n dX12_round_56 rfl (by decide : 3 < 7) rfl ?_
    refine G_goto (tgt := 29) dX12_round_57 (by decide) ?_
    exact k1 c1
  · -- ¬ s0 = 0
    refine G_aload_n dX12_round_42 rfl ?_
    refine G_bipush (z := 59) dX12_round_43 rfl ?_
    exact k2 c1
set_option maxRecDepth 20000 in
set_option maxHeartbeats 1000000 in
theorem sg_X12_round_48 {E : Nat × (Nat → Int32)} {d : Nat} {P : Option Value → Mem → Prop} {mem : Mem} {a1 : Int} {a2 : Int} {a3 : Int} {s0 : Int} (w1 : -2147483648 ≤ s0 ∧ s0 < 2147483648)
    (k1 : s0 = 0 → GM E (m_X12_round d) P 29 [.ref 169, vi a1, vi a2, vi 0, un, un, un] [] mem)
    (k2 : ¬ s0 = 0 → GM E (m_X12_round d) P 29 [.ref 169, vi a1, vi a2, vi 1, un, un, un] [] mem) :
    GM E (m_X12_round d) P 48 [.ref 169, vi a1, vi a2, vi a3, un, un, un] [vi s0] mem := by
  refine G_if_eq (tgt := 55) dX12_round_48 (by decide) (w1) (fun c1 => ?_) (fun c1 => ?_)
  · -- s0 = 0
    refine G_iconst (z := 0) dX12_round_55 rfl ?_
    refine G_istore_n dX12_round_56 rfl (by decide : 3 < 7) rfl ?_
    refine G_goto (tgt := 29) dX12_round_57 (by decide) ?_
    exact k1 c1
  · -- ¬ s0 = 0
    refine G_iconst (z := 1) dX12_round_51 rfl ?_
    refine G_goto (tgt := 56) dX12_round_52 (by decide) ?_
    refine G_istore_n dX12_round_56 rfl (by decide : 3 < 7) rfl ?_
    refine G_goto (tgt := 29) dX12_round_57 (by decide) ?_
    exact k2 c1
set_option maxRecDepth 20000 in
set_option maxHeartbeats 1000000 in
theorem sg_X12_round_68 {E : Nat × (Nat → Int32)} {d : Nat} {P : Option Value → Mem → Prop} {mem : Mem} {a1 : Int} {a2 : Int} {a3 : Int} {s0 : Int} (w1 : -2147483648 ≤ s0 ∧ s0 < 2147483648)
    (k1 : 0 ≤ s0 → GM E (m_X12_round d) P 79 [.ref 169, vi a1, vi a2, vi a3, vi s0, un, un] [.ref 169] mem)
    (k2 : ¬ 0 ≤ s0 → P (some (vi s0)) mem) :
    GM E (m_X12_round d) P 68 [.ref 169, vi a1, vi a2, vi a3, un, un, un] [vi s0] mem := by
  refine G_istore dX12_round_68 (by decide : 4 < 7) rfl ?_
  refine G_iload dX12_round_70 rfl ?_
  refine G_if_ge (tgt := 78) dX12_round_72 (by decide) (w1) (fun c1 => ?_) (fun c1 => ?_)
  · -- 0 ≤ s0
    refine G_aload_n dX12_round_78 rfl ?_
    exact k1 c1
  · -- ¬ 0 ≤ s0
    refine G_iload dX12_round_75 rfl ?_
    exact G_iret dX12_round_77 rfl (Nat.zero_le _) (Nat.zero_le _) (Nat.le_refl _) ⟨rfl, k2 c1⟩
set_option maxRecDepth 20000 in
set_option maxHeartbeats 1000000 in
theorem sg_X12_round_82 {E : Nat × (Nat → Int32)} {d : Nat} {P : Option Value → Mem → Prop} {mem : Mem} {a1 : Int} {a2 : Int} {a3 : Int} {a4 : Int}
    (k1 : GM E (m_X12_round d) P 99 [.ref 169, vi a1, vi a2, vi a3, vi a4, vi (mem 180 98), vi 0] [] (up2 mem 169 47 0)) :
    GM E (m_X12_round d) P 82 [.ref 169, vi a1, vi a2, vi a3, vi a4, un, un] [] mem := by
  refine G_aload_n dX12_round_82 rfl ?_
  refine G_iconst (z := 0) dX12_round_83 rfl ?_
  refine G_putI (mem2 := (up2 mem 169 47 0)) dX12_round_84 fp_12_394 (by decide) sh_169 rfl ?_
  refine G_aload_n dX12_round_87 rfl ?_
  refine G_getR (t := 180) dX12_round_88 fl_12_42 (by decide) sh_169 rr_169_14 ?_
  refine G_bipush (z := 98) dX12_round_91 rfl ?_
  refine G_iald (z := (mem 180 98)) dX12_round_93 (by decide) sh_180 (by decide) (by decide) (by decide) (by simp [up2, upr]) ?_
  refine G_istore dX12_round_94 (by decide : 5 < 7) rfl ?_
  refine G_iconst (z := 0) dX12_round_96 rfl ?_
  refine G_istore dX12_round_97 (by decide : 6 < 7) rfl ?_
  exact k1
set_option maxRecDepth 20000 in
set_option maxHeartbeats 1000000 in
theorem sg_X12_round_99 {E : Nat × (Nat → Int32)} {d : Nat} {P : Option Value → Mem → Prop} {mem : Mem} {a1 : Int} {a2 : Int} {a3 : Int} {a4 : Int} {a5 : Int} {a6 : Int} (w1 : -2147483648 ≤ a6 ∧ a6 < 2147483648) (w2 : -2147483648 ≤ (mem 169 46) ∧ (mem 169 46) < 2147483648)
    (k1 : (mem 169 46) ≤ a6 → (mem 169 46) ≤ a6 → GM E (m_X12_round d) P 143 [.ref 169, vi a1, vi a2, vi a3, vi a4, vi a5, vi a6] [vi 0, .ref 169] (up2 mem 169 1 0))
    (k2 : (mem 169 46) ≤ a6 → ¬ (mem 169 46) ≤ a6 → GM E (m_X12_round d) P 143 [.ref 169, vi a1, vi a2, vi a3, vi a4, vi a5, vi a6] [vi 1, .ref 169] (up2 mem 169 1 0))
    (k3 : ¬ (mem 169 46) ≤ a6 → GM E (m_X12_round d) P 111 [.ref 169, vi a1, vi a2, vi a3, vi a4, vi a5, vi a6] [vi a6, .ref 169] mem) :
    GM E (m_X12_round d) P 99 [.ref 169, vi a1, vi a2, vi a3, vi a4, vi a5, vi a6] [] mem := by
  refine G_iload dX12_round_99 rfl ?_
  refine G_aload_n dX12_round_101 rfl ?_
  refine G_getI (z := (mem 169 46)) dX12_round_102 fl_12_387 (by decide) sh_169 rfl ?_
  refine G_icmp_ge (tgt := 123) dX12_round_105 (by decide) (w1) (w2) (fun c1 => ?_) (fun c1 => ?_)
  · -- (mem 169 46) ≤ a6
    refine G_aload_n dX12_round_123 rfl ?_
    refine G_iconst (z := 0) dX12_round_124 rfl ?_
    refine G_putI (mem2 := (up2 mem 169 1 0)) dX12_round_125 fp_12_134 (by decide) sh_169 rfl ?_
    refine G_aload_n dX12_round_128 rfl ?_
    refine G_iload dX12_round_129 rfl ?_
    refine G_aload_n dX12_round_131 rfl ?_
    refine G_getI (z := (mem 169 46)) dX12_round_132 fl_12_387 (by decide) sh_169 (by simp [up2, upr]) ?_
    refine G_icmp_ge (tgt := 142) dX12_round_135 (by decide) (w1) (w2) (fun c2 => ?_) (fun c2 => ?_)
    · -- (mem 169 46) ≤ a6
      refine G_iconst (z := 0) dX12_round_142 rfl ?_
      exact k1 c1 c2
    · -- ¬ (mem 169 46) ≤ a6
      refine G_iconst (z := 1) dX12_round_138 rfl ?_
      refine G_goto (tgt := 143) dX12_round_139 (by decide) ?_
      exact k2 c1 c2
  · -- ¬ (mem 169 46) ≤ a6
    refine G_aload_n dX12_round_108 rfl ?_
    refine G_iload dX12_round_109 rfl ?_
    exact k3 c1
set_option maxRecDepth 20000 in
set_option maxHeartbeats 1000000 in
theorem sg_X12_round_114 {E : Nat × (Nat → Int32)} {d : Nat} {P : Option Value → Mem → Prop} {mem : Mem} {a1 : Int} {a2 : Int} {a3 : Int} {a4 : Int} {a5 : Int} {a6 : Int} {s0 : Int} (w1 : -2147483648 ≤ s0 ∧ s0 < 2147483648) (w2 : -2147483648 ≤ a6 ∧ a6 < 2147483648) (w3 : s0 = 0 → -2147483648 ≤ (mem 169 46) ∧ (mem 169 46) < 2147483648)
    (k1 : s0 = 0 → (mem 169 46) ≤ a6 → GM E (m_X12_round d) P 143 [.ref 169, vi a1, vi a2, vi a3, vi a4, vi a5, vi a6] [vi 0, .ref 169] (up2 mem 169 1 0))
    (k2 : s0 = 0 → ¬ (mem 169 46) ≤ a6 → GM E (m_X12_round d) P 143 [.ref 169, vi a1, vi a2, vi a3, vi a4, vi a5, vi a6] [vi 1, .ref 169] (up2 mem 169 1 0))
    (k3 : ¬ s0 = 0 → GM E (m_X12_round d) P 99 [.ref 169, vi a1, vi a2, vi a3, vi a4, vi a5, vi (a6 + 1)] [] mem) :
    GM E (m_X12_round d) P 114 [.ref 169, vi a1, vi a2, vi a3, vi a4, vi a5, vi a6] [vi s0] mem := by
  refine G_if_eq (tgt := 123) dX12_round_114 (by decide) (w1) (fun c1 => ?_) (fun c1 => ?_)
  · -- s0 = 0
    refine G_aload_n dX12_round_123 rfl ?_
    refine G_iconst (z := 0) dX12_round_124 rfl ?_
    refine G_putI (mem2 := (up2 mem 169 1 0)) dX12_round_125 fp_12_134 (by decide) sh_169 rfl ?_
    refine G_aload_n dX12_round_128 rfl ?_
    refine G_iload dX12_round_129 rfl ?_
    refine G_aload_n dX12_round_131 rfl ?_
    refine G_getI (z := (mem 169 46)) dX12_round_132 fl_12_387 (by decide) sh_169 (by simp [up2, upr]) ?_
    refine G_icmp_ge (tgt := 142) dX12_round_135 (by decide) (w2) (w3 c1) (fun c2 => ?_) (fun c2 => ?_)
    · -- (mem 169 46) ≤ a6
      refine G_iconst (z := 0) dX12_round_142 rfl ?_
      exact k1 c1 c2
    · -- ¬ (mem 169 46) ≤ a6
      refine G_iconst (z := 1) dX12_round_138 rfl ?_
      refine G_goto (tgt := 143) dX12_round_139 (by decide) ?_
      exact k2 c1 c2
  · -- ¬ s0 = 0
    refine G_iinc (z := (a6 + 1)) dX12_round_117 rfl rfl (by decide : 6 < 7) rfl ?_
    refine G_goto (tgt := 99) dX12_round_120 (by decide) ?_
    exact k3 c1
set_option maxRecDepth 20000 in
set_option maxHeartbeats 1000000 in
theorem sg_X12_round_146 {E : Nat × (Nat → Int32)} {d : Nat} {P : Option Value → Mem → Prop} {mem : Mem} {a1 : Int} {a2 : Int} {a3 : Int} {a4 : Int} {a5 : Int} {a6 : Int} {s0 : Int} (w1 : -2147483648 ≤ s0 ∧ s0 < 2147483648)
    (k1 : GM E (m_X12_round d) P 147 [.ref 169, vi a1, vi a2, vi a3, vi a4, vi a5, vi a6] [vl s0, .ref 169] mem) :
    GM E (m_X12_round d) P 146 [.ref 169, vi a1, vi a2, vi a3, vi a4, vi a5, vi a6] [vi s0, .ref 169] mem := by
  refine G_i2l dX12_round_146 (w1) ?_
  exact k1
set_option maxRecDepth 20000 in
set_option maxHeartbeats 1000000 in
theorem sg_X12_round_150 {E : Nat × (Nat → Int32)} {d : Nat} {P : Option Value → Mem → Prop} {mem : Mem} {a1 : Int} {a2 : Int} {a3 : Int} {a4 : Int} {a5 : Int} {a6 : Int} (w1 : -2147483648 ≤ (mem 169 47) ∧ (mem 169 47) < 2147483648)
    (k1 : GM E (m_X12_round d) P 156 [.ref 169, vi a1, vi a2, vi a3, vi a4, vi a5, vi a6] [vl (mem 169 47), .ref 169] mem) :
    GM E (m_X12_round d) P 150 [.ref 169, vi a1, vi a2, vi a3, vi a4, vi a5, vi a6] [] mem := by
  refine G_aload_n dX12_round_150 rfl ?_
  refine G_aload_n dX12_round_151 rfl ?_
  refine G_getI (z := (mem 169 47)) dX12_round_152 fl_12_394 (by decide) sh_169 rfl ?_
  refine G_i2l dX12_round_155 (w1) ?_
  exact k1
set_option maxRecDepth 20000 in
set_option maxHeartbeats 1000000 in
theorem sg_X12_round_159 {E : Nat × (Nat → Int32)} {d : Nat} {P : Option Value → Mem → Prop} {mem : Mem} {a1 : Int} {a2 : Int} {a3 : Int} {a4 : Int} {a5 : Int} {a6 : Int} (w1 : -2147483648 ≤ ((mem 180 98) - a5) ∧ ((mem 180 98) - a5) < 2147483648)
    (k1 : GM E (m_X12_round d) P 171 [.ref 169, vi a1, vi a2, vi a3, vi a4, vi a5, vi a6] [vl ((mem 180 98) - a5), .ref 169] mem) :
    GM E (m_X12_round d) P 159 [.ref 169, vi a1, vi a2, vi a3, vi a4, vi a5, vi a6] [] mem := by
  refine G_aload_n dX12_round_159 rfl ?_
  refine G_aload_n dX12_round_160 rfl ?_
  refine G_getR (t := 180) dX12_round_161 fl_12_42 (by decide) sh_169 rr_169_14 ?_
  refine G_bipush (z := 98) dX12_round_164 rfl ?_
  refine G_iald (z := (mem 180 98)) dX12_round_166 (by decide) sh_180 (by decide) (by decide) (by decide) rfl ?_
  refine G_iload dX12_round_167 rfl ?_
  refine G_isub dX12_round_169 ?_
  refine G_i2l dX12_round_170 (w1) ?_
  exact k1
set_option maxRecDepth 20000 in
set_option maxHeartbeats 1000000 in
theorem sg_X12_round_174 {E : Nat × (Nat → Int32)} {d : Nat} {P : Option Value → Mem → Prop} {mem : Mem} {a1 : Int} {a2 : Int} {a3 : Int} {a4 : Int} {a5 : Int} {a6 : Int} (w1 : -2147483648 ≤ a6 ∧ a6 < 2147483648)
    (k1 : a6 ≤ 0 → P (some (vi 0)) mem)
    (k2 : ¬ a6 ≤ 0 → GM E (m_X12_round d) P 182 [.ref 169, vi a1, vi a2, vi a3, vi a4, vi a5, vi a6] [vi a6, .ref 169] mem) :
    GM E (m_X12_round d) P 174 [.ref 169, vi a1, vi a2, vi a3, vi a4, vi a5, vi a6] [] mem := by
  refine G_iload dX12_round_174 rfl ?_
  refine G_if_le (tgt := 188) dX12_round_176 (by decide) (w1) (fun c1 => ?_) (fun c1 => ?_)
  · -- a6 ≤ 0
    refine G_iconst (z := 0) dX12_round_188 rfl ?_
    exact G_iret dX12_round_189 rfl (Nat.zero_le _) (Nat.zero_le _) (Nat.le_refl _) ⟨rfl, k1 c1⟩
  · -- ¬ a6 ≤ 0
    refine G_aload_n dX12_round_179 rfl ?_
    refine G_iload dX12_round_180 rfl ?_
    exact k2 c1
set_option maxRecDepth 20000 in
set_option maxHeartbeats 1000000 in
theorem sg_X12_round_185 {E : Nat × (Nat → Int32)} {d : Nat} {P : Option Value → Mem → Prop} {mem : Mem} {a1 : Int} {a2 : Int} {a3 : Int} {a4 : Int} {a5 : Int} {a6 : Int} {s0 : Int}
    (k1 : P (some (vi s0)) mem) :
    GM E (m_X12_round d) P 185 [.ref 169, vi a1, vi a2, vi a3, vi a4, vi a5, vi a6] [vi s0] mem := by
  refine G_goto (tgt := 189) dX12_round_185 (by decide) ?_
  exact G_iret dX12_round_189 rfl (Nat.zero_le _) (Nat.zero_le _) (Nat.le_refl _) ⟨rfl, k1⟩
abbrev m_X12_row (d : Nat) : Mu := (cX12_row, 2, RX12, (some .long), ⟨d, 0, 0, 40 * d⟩, "row")
set_option maxRecDepth 20000 in
set_option maxHeartbeats 1000000 in
theorem sg_X12_row_0 {E : Nat × (Nat → Int32)} {d : Nat} {P : Option Value → Mem → Prop} {mem : Mem} {a1 : Int} (w1 : -2147483648 ≤ a1 ∧ a1 < 2147483648) (w2 : -2147483648 ≤ ((mem 169 1) - 1) ∧ ((mem 169 1) - 1) < 2147483648)
    (k1 : GM E (m_X12_row d) P 15 [.ref 169, vi a1] [vl ((mem 169 1) - 1), vl 0, vl a1] (up2 mem 169 0 0)) :
    GM E (m_X12_row d) P 0 [.ref 169, vi a1] [] mem := by
  refine G_aload_n dX12_row_0 rfl ?_
  refine G_iconst (z := 0) dX12_row_1 rfl ?_
  refine G_putI (mem2 := (up2 mem 169 0 0)) dX12_row_2 fp_12_126 (by decide) sh_169 rfl ?_
  refine G_iload_n dX12_row_5 rfl ?_
  refine G_i2l dX12_row_6 (w1) ?_
  refine G_lconst (z := 0) dX12_row_7 rfl ?_
  refine G_aload_n dX12_row_8 rfl ?_
  refine G_getI (z := (mem 169 1)) dX12_row_9 fl_12_134 (by decide) sh_169 (by simp [up2, upr]) ?_
  refine G_iconst (z := 1) dX12_row_12 rfl ?_
  refine G_isub dX12_row_13 ?_
  refine G_i2l dX12_row_14 (w2) ?_
  exact k1
set_option maxRecDepth 20000 in
set_option maxHeartbeats 1000000 in
theorem sg_X12_row_18 {E : Nat × (Nat → Int32)} {d : Nat} {P : Option Value → Mem → Prop} {mem : Mem} {a1 : Int} {s0 : Int} (w1 : -2147483648 ≤ s0 ∧ s0 < 2147483648) (q2 : s0 ≠ 0 → 0 ≤ a1 ∧ a1 < 24)
    (k1 : s0 ≠ 0 → P (some (vl (mem 170 a1))) mem)
    (k2 : s0 = 0 → P (some (vl 0)) (up2 mem 169 0 1)) :
    GM E (m_X12_row d) P 18 [.ref 169, vi a1] [vi s0] mem := by
  refine G_if_ne (tgt := 28) dX12_row_18 (by decide) (w1) (fun c1 => ?_) (fun c1 => ?_)
  · -- s0 ≠ 0
    refine G_aload_n dX12_row_28 rfl ?_
    refine G_getR (t := 170) dX12_row_29 fl_12_9 (by decide) sh_169 rr_169_2 ?_
    refine G_iload_n dX12_row_32 rfl ?_
    refine G_lald (z := (mem 170 a1)) dX12_row_33 (by decide) sh_170 (by decide) (q2 c1).1 (q2 c1).2 rfl ?_
    exact G_lret dX12_row_34 rfl (Nat.zero_le _) (Nat.zero_le _) (Nat.le_refl _) ⟨rfl, k1 c1⟩
  · -- s0 = 0
    refine G_aload_n dX12_row_21 rfl ?_
    refine G_iconst (z := 1) dX12_row_22 rfl ?_
    refine G_putI (mem2 := (up2 mem 169 0 1)) dX12_row_23 fp_12_126 (by decide) sh_169 rfl ?_
    refine G_lconst (z := 0) dX12_row_26 rfl ?_
    exact G_lret dX12_row_27 rfl (Nat.zero_le _) (Nat.zero_le _) (Nat.le_refl _) ⟨rfl, k2 c1⟩
abbrev m_X12_rubble (d : Nat) : Mu := (cX12_rubble, 3, RX12, (some .int), ⟨d, 0, 0, 40 * d⟩, "rubble")
set_option maxRecDepth 20000 in
set_option maxHeartbeats 1000000 in
theorem sg_X12_rubble_0 {E : Nat × (Nat → Int32)} {d : Nat} {P : Option Value → Mem → Prop} {mem : Mem}
    (k1 : GM E (m_X12_rubble d) P 6 [.ref 169, un, un] [.ref 169] (up2 mem 169 0 0)) :
    GM E (m_X12_rubble d) P 0 [.ref 169, un, un] [] mem := by
  refine G_aload_n dX12_rubble_0 rfl ?_
  refine G_iconst (z := 0) dX12_rubble_1 rfl ?_
  refine G_putI (mem2 := (up2 mem 169 0 0)) dX12_rubble_2 fp_12_126 (by decide) sh_169 rfl ?_
  refine G_aload_n dX12_rubble_5 rfl ?_
  exact k1
set_option maxRecDepth 20000 in
set_option maxHeartbeats 1000000 in
theorem sg_X12_rubble_9 {E : Nat × (Nat → Int32)} {d : Nat} {P : Option Value → Mem → Prop} {mem : Mem}
    (k1 : GM E (m_X12_rubble d) P 18 [.ref 169, vi 0, vi 0] [] (up2 mem 169 1 0)) :
    GM E (m_X12_rubble d) P 9 [.ref 169, un, un] [] mem := by
  refine G_aload_n dX12_rubble_9 rfl ?_
  refine G_iconst (z := 0) dX12_rubble_10 rfl ?_
  refine G_putI (mem2 := (up2 mem 169 1 0)) dX12_rubble_11 fp_12_134 (by decide) sh_169 rfl ?_
  refine G_iconst (z := 0) dX12_rubble_14 rfl ?_
  refine G_istore_n dX12_rubble_15 rfl (by decide : 1 < 3) rfl ?_
  refine G_iconst (z := 0) dX12_rubble_16 rfl ?_
  refine G_istore_n dX12_rubble_17 rfl (by decide : 2 < 3) rfl ?_
  exact k1
set_option maxRecDepth 20000 in
set_option maxHeartbeats 1000000 in
theorem sg_X12_rubble_18 {E : Nat × (Nat → Int32)} {d : Nat} {P : Option Value → Mem → Prop} {mem : Mem} {a1 : Int} {a2 : Int} (w1 : -2147483648 ≤ a2 ∧ a2 < 2147483648) (w2 : -2147483648 ≤ (mem 169 3) ∧ (mem 169 3) < 2147483648) (w3 : -2147483648 ≤ a1 ∧ a1 < 2147483648) (q4 : ¬ (mem 169 3) ≤ a2 → a1 ≠ 0 → 0 ≤ a2 ∧ a2 < 6) (q5 : ¬ (mem 169 3) ≤ a2 → a1 = 0 → 0 ≤ a2 ∧ a2 < 6) (w6 : ¬ (mem 169 3) ≤ a2 → a1 = 0 → -2147483648 ≤ (mem 203 a2) ∧ (mem 203 a2) < 2147483648)
    (k1 : (mem 169 3) ≤ a2 → P (some (vi a1)) mem)
    (k2 : ¬ (mem 169 3) ≤ a2 → a1 ≠ 0 → GM E (m_X12_rubble d) P 18 [.ref 169, vi (a1 + ((2 * (mem 172 a2)) * (mem 203 a2))), vi (a2 + 1)] [] mem)
    (k3 : ¬ (mem 169 3) ≤ a2 → a1 = 0 → (mem 203 a2) ≤ 0 → GM E (m_X12_rubble d) P 18 [.ref 169, vi (a1 + ((2 * (mem 172 a2)) * (mem 203 a2))), vi (a2 + 1)] [] mem)
    (k4 : ¬ (mem 169 3) ≤ a2 → a1 = 0 → ¬ (mem 203 a2) ≤ 0 → GM E (m_X12_rubble d) P 42 [.ref 169, vi a1, vi a2] [vl a2, .ref 169] mem) :
    GM E (m_X12_rubble d) P 18 [.ref 169, vi a1, vi a2] [] mem := by
  refine G_iload_n dX12_rubble_18 rfl ?_
  refine G_aload_n dX12_rubble_19 rfl ?_
  refine G_getI (z := (mem 169 3)) dX12_rubble_20 fl_12_137 (by decide) sh_169 rfl ?_
  refine G_icmp_ge (tgt := 90) dX12_rubble_23 (by decide) (w1) (w2) (fun c1 => ?_) (fun c1 => ?_)
  · -- (mem 169 3) ≤ a2
    refine G_iload_n dX12_rubble_90 rfl ?_
    exact G_iret dX12_rubble_91 rfl (Nat.zero_le _) (Nat.zero_le _) (Nat.le_refl _) ⟨rfl, k1 c1⟩
  · -- ¬ (mem 169 3) ≤ a2
    refine G_iload_n dX12_rubble_26 rfl ?_
    refine G_if_ne (tgt := 66) dX12_rubble_27 (by decide) (w3) (fun c2 => ?_) (fun c2 => ?_)
    · -- a1 ≠ 0
      refine G_iload_n dX12_rubble_66 rfl ?_
      refine G_iconst (z := 2) dX12_rubble_67 rfl ?_
      refine G_aload_n dX12_rubble_68 rfl ?_
      refine G_getR (t := 172) dX12_rubble_69 fl_12_17 (by decide) sh_169 rr_169_6 ?_
      refine G_iload_n dX12_rubble_72 rfl ?_
      refine G_iald (z := (mem 172 a2)) dX12_rubble_73 (by decide) sh_172 (by decide) (q4 c1 c2).1 (q4 c1 c2).2 rfl ?_
      refine G_imul dX12_rubble_74 ?_
      refine G_aload_n dX12_rubble_75 rfl ?_
      refine G_getR (t := 203) dX12_rubble_76 fl_12_111 (by decide) sh_169 rr_169_65 ?_
      refine G_iload_n dX12_rubble_79 rfl ?_
      refine G_iald (z := (mem 203 a2)) dX12_rubble_80 (by decide) sh_203 (by decide) (q4 c1 c2).1 (q4 c1 c2).2 rfl ?_
      refine G_imul dX12_rubble_81 ?_
      refine G_iadd dX12_rubble_82 ?_
      refine G_istore_n dX12_rubble_83 rfl (by decide : 1 < 3) rfl ?_
      refine G_iinc (z := (a2 + 1)) dX12_rubble_84 rfl rfl (by decide : 2 < 3) rfl ?_
      refine G_goto (tgt := 18) dX12_rubble_87 (by decide) ?_
      exact k2 c1 c2
    · -- a1 = 0
      refine G_aload_n dX12_rubble_30 rfl ?_
      refine G_getR (t := 203) dX12_rubble_31 fl_12_111 (by decide) sh_169 rr_169_65 ?_
      refine G_iload_n dX12_rubble_34 rfl ?_
      refine G_iald (z := (mem 203 a2)) dX12_rubble_35 (by decide) sh_203 (by decide) (q5 c1 c2).1 (q5 c1 c2).2 rfl ?_
      refine G_if_le (tgt := 66) dX12_rubble_36 (by decide) (w6 c1 c2) (fun c3 => ?_) (fun c3 => ?_)
      · -- (mem 203 a2) ≤ 0
        refine G_iload_n dX12_rubble_66 rfl ?_
        refine G_iconst (z := 2) dX12_rubble_67 rfl ?_
        refine G_aload_n dX12_rubble_68 rfl ?_
        refine G_getR (t := 172) dX12_rubble_69 fl_12_17 (by decide) sh_169 rr_169_6 ?_
        refine G_iload_n dX12_rubble_72 rfl ?_
        refine G_iald (z := (mem 172 a2)) dX12_rubble_73 (by decide) sh_172 (by decide) (q5 c1 c2).1 (q5 c1 c2).2 rfl ?_
        refine G_imul dX12_rubble_74 ?_
        refine G_aload_n dX12_rubble_75 rfl ?_
        refine G_getR (t := 203) dX12_rubble_76 fl_12_111 (by decide) sh_169 rr_169_65 ?_
        refine G_iload_n dX12_rubble_79 rfl ?_
        refine G_iald (z := (mem 203 a2)) dX12_rubble_80 (by decide) sh_203 (by decide) (q5 c1 c2).1 (q5 c1 c2).2 rfl ?_
        refine G_imul dX12_rubble_81 ?_
        refine G_iadd dX12_rubble_82 ?_
        refine G_istore_n dX12_rubble_83 rfl (by decide : 1 < 3) rfl ?_
        refine G_iinc (z := (a2 + 1)) dX12_rubble_84 rfl rfl (by decide : 2 < 3) rfl ?_
        refine G_goto (tgt := 18) dX12_rubble_87 (by decide) ?_
        exact k3 c1 c2 c3
      · -- ¬ (mem 203 a2) ≤ 0
        refine G_aload_n dX12_rubble_39 rfl ?_
        refine G_iload_n dX12_rubble_40 rfl ?_
        refine G_i2l dX12_rubble_41 (w1) ?_
        exact k4 c1 c2 c3
set_option maxRecDepth 20000 in
set_option maxHeartbeats 1000000 in
theorem sg_X12_rubble_45 {E : Nat × (Nat → Int32)} {d : Nat} {P : Option Value → Mem → Prop} {mem : Mem} {a1 : Int} {a2 : Int}
    (k1 : GM E (m_X12_rubble d) P 47 [.ref 169, vi a1, vi a2] [vl 0, .ref 169] mem) :
    GM E (m_X12_rubble d) P 45 [.ref 169, vi a1, vi a2] [] mem := by
  refine G_aload_n dX12_rubble_45 rfl ?_
  refine G_lconst (z := 0) dX12_rubble_46 rfl ?_
  exact k1
set_option maxRecDepth 20000 in
set_option maxHeartbeats 1000000 in
theorem sg_X12_rubble_50 {E : Nat × (Nat → Int32)} {d : Nat} {P : Option Value → Mem → Prop} {mem : Mem} {a1 : Int} {a2 : Int}
    (k1 : GM E (m_X12_rubble d) P 52 [.ref 169, vi a1, vi a2] [vl 0, .ref 169] mem) :
    GM E (m_X12_rubble d) P 50 [.ref 169, vi a1, vi a2] [] mem := by
  refine G_aload_n dX12_rubble_50 rfl ?_
  refine G_lconst (z := 0) dX12_rubble_51 rfl ?_
  exact k1
set_option maxRecDepth 20000 in
set_option maxHeartbeats 1000000 in
theorem sg_X12_rubble_55 {E : Nat × (Nat → Int32)} {d : Nat} {P : Option Value → Mem → Prop} {mem : Mem} {a1 : Int} {a2 : Int} (q1 : 0 ≤ a2 ∧ a2 < 6) (w2 : -2147483648 ≤ (mem 204 a2) ∧ (mem 204 a2) < 2147483648)
    (k1 : GM E (m_X12_rubble d) P 63 [.ref 169, vi a1, vi a2] [vl (mem 204 a2), .ref 169] mem) :
    GM E (m_X12_rubble d) P 55 [.ref 169, vi a1, vi a2] [] mem := by
  refine G_aload_n dX12_rubble_55 rfl ?_
  refine G_aload_n dX12_rubble_56 rfl ?_
  refine G_getR (t := 204) dX12_rubble_57 fl_12_114 (by decide) sh_169 rr_169_66 ?_
  refine G_iload_n dX12_rubble_60 rfl ?_
  refine G_iald (z := (mem 204 a2)) dX12_rubble_61 (by decide) sh_204 (by decide) (q1).1 (q1).2 rfl ?_
  refine G_i2l dX12_rubble_62 (w2) ?_
  exact k1
set_option maxRecDepth 20000 in
set_option maxHeartbeats 1000000 in
theorem sg_X12_rubble_66 {E : Nat × (Nat → Int32)} {d : Nat} {P : Option Value → Mem → Prop} {mem : Mem} {a1 : Int} {a2 : Int} (q1 : 0 ≤ a2 ∧ a2 < 6)
    (k1 : GM E (m_X12_rubble d) P 18 [.ref 169, vi (a1 + ((2 * (mem 172 a2)) * (mem 203 a2))), vi (a2 + 1)] [] mem) :
    GM E (m_X12_rubble d) P 66 [.ref 169, vi a1, vi a2] [] mem := by
  refine G_iload_n dX12_rubble_66 rfl ?_
  refine G_iconst (z := 2) dX12_rubble_67 rfl ?_
  refine G_aload_n dX12_rubble_68 rfl ?_
  refine G_getR (t := 172) dX12_rubble_69 fl_12_17 (by decide) sh_169 rr_169_6 ?_
  refine G_iload_n dX12_rubble_72 rfl ?_
  refine G_iald (z := (mem 172 a2)) dX12_rubble_73 (by decide) sh_172 (by decide) (q1).1 (q1).2 rfl ?_
  refine G_imul dX12_rubble_74 ?_
  refine G_aload_n dX12_rubble_75 rfl ?_
  refine G_getR (t := 203) dX12_rubble_76 fl_12_111 (by decide) sh_169 rr_169_65 ?_
  refine G_iload_n dX12_rubble_79 rfl ?_
  refine G_iald (z := (mem 203 a2)) dX12_rubble_80 (by decide) sh_203 (by decide) (q1).1 (q1).2 rfl ?_
  refine G_imul dX12_rubble_81 ?_
  refine G_iadd dX12_rubble_82 ?_
  refine G_istore_n dX12_rubble_83 rfl (by decide : 1 < 3) rfl ?_
  refine G_iinc (z := (a2 + 1)) dX12_rubble_84 rfl rfl (by decide : 2 < 3) rfl ?_
  refine G_goto (tgt := 18) dX12_rubble_87 (by decide) ?_
  exact k1
abbrev m_X12_rule (d : Nat) : Mu := (cX12_rule, 5, RX12, (some .int), ⟨d, 0, 0, 40 * d⟩, "rule")
set_option maxRecDepth 20000 in
set_option maxHeartbeats 1000000 in
theorem sg_X12_rule_0 {E : Nat × (Nat → Int32)} {d : Nat} {P : Option Value → Mem → Prop} {mem : Mem}
    (k1 : GM E (m_X12_rule d) P 8 [.ref 169, un, un, un, un] [vi 40, .ref 169] (up2 mem 169 0 0)) :
    GM E (m_X12_rule d) P 0 [.ref 169, un, un, un, un] [] mem := by
  refine G_aload_n dX12_rule_0 rfl ?_
  refine G_iconst (z := 0) dX12_rule_1 rfl ?_
  refine G_putI (mem2 := (up2 mem 169 0 0)) dX12_rule_2 fp_12_126 (by decide) sh_169 rfl ?_
  refine G_aload_n dX12_rule_5 rfl ?_
  refine G_bipush (z := 40) dX12_rule_6 rfl ?_
  exact k1
set_option maxRecDepth 20000 in
set_option maxHeartbeats 1000000 in
theorem sg_X12_rule_11 {E : Nat × (Nat → Int32)} {d : Nat} {P : Option Value → Mem → Prop} {mem : Mem} {s0 : Int} (w1 : -2147483648 ≤ s0 ∧ s0 < 2147483648)
    (k1 : s0 = 0 → GM E (m_X12_rule d) P 40 [.ref 169, vi s0, vi 1, un, un] [vi 1, vi 40, vi s0, .ref 169] (up2 mem 169 27 0))
    (k2 : ¬ s0 = 0 → GM E (m_X12_rule d) P 23 [.ref 169, vi s0, un, un, un] [vi 0, .ref 169] (up2 mem 169 27 0)) :
    GM E (m_X12_rule d) P 11 [.ref 169, un, un, un, un] [vi s0] mem := by
  refine G_istore_n dX12_rule_11 rfl (by decide : 1 < 5) rfl ?_
  refine G_aload_n dX12_rule_12 rfl ?_
  refine G_iconst (z := 0) dX12_rule_13 rfl ?_
  refine G_putI (mem2 := (up2 mem 169 27 0)) dX12_rule_14 fp_12_230 (by decide) sh_169 rfl ?_
  refine G_iload_n dX12_rule_17 rfl ?_
  refine G_if_eq (tgt := 29) dX12_rule_18 (by decide) (w1) (fun c1 => ?_) (fun c1 => ?_)
  · -- s0 = 0
    refine G_iconst (z := 1) dX12_rule_29 rfl ?_
    refine G_goto (tgt := 34) dX12_rule_30 (by decide) ?_
    refine G_istore_n dX12_rule_34 rfl (by decide : 2 < 5) rfl ?_
    refine G_aload_n dX12_rule_35 rfl ?_
    refine G_iload_n dX12_rule_36 rfl ?_
    refine G_bipush (z := 40) dX12_rule_37 rfl ?_
    refine G_iload_n dX12_rule_39 rfl ?_
    exact k1 c1
  · -- ¬ s0 = 0
    refine G_aload_n dX12_rule_21 rfl ?_
    refine G_iconst (z := 0) dX12_rule_22 rfl ?_
    exact k2 c1
set_option maxRecDepth 20000 in
set_option maxHeartbeats 1000000 in
theorem sg_X12_rule_26 {E : Nat × (Nat → Int32)} {d : Nat} {P : Option Value → Mem → Prop} {mem : Mem} {a1 : Int} {s0 : Int} (w1 : -2147483648 ≤ s0 ∧ s0 < 2147483648)
    (k1 : s0 = 0 → GM E (m_X12_rule d) P 40 [.ref 169, vi a1, vi 0, un, un] [vi 0, vi 40, vi a1, .ref 169] mem)
    (k2 : ¬ s0 = 0 → GM E (m_X12_rule d) P 40 [.ref 169, vi a1, vi 1, un, un] [vi 1, vi 40, vi a1, .ref 169] mem) :
    GM E (m_X12_rule d) P 26 [.ref 169, vi a1, un, un, un] [vi s0] mem := by
  refine G_if_eq (tgt := 33) dX12_rule_26 (by decide) (w1) (fun c1 => ?_) (fun c1 => ?_)
  · -- s0 = 0
    refine G_iconst (z := 0) dX12_rule_33 rfl ?_
    refine G_istore_n dX12_rule_34 rfl (by decide : 2 < 5) rfl ?_
    refine G_aload_n dX12_rule_35 rfl ?_
    refine G_iload_n dX12_rule_36 rfl ?_
    refine G_bipush (z := 40) dX12_rule_37 rfl ?_
    refine G_iload_n dX12_rule_39 rfl ?_
    exact k1 c1
  · -- ¬ s0 = 0
    refine G_iconst (z := 1) dX12_rule_29 rfl ?_
    refine G_goto (tgt := 34) dX12_rule_30 (by decide) ?_
    refine G_istore_n dX12_rule_34 rfl (by decide : 2 < 5) rfl ?_
    refine G_aload_n dX12_rule_35 rfl ?_
    refine G_iload_n dX12_rule_36 rfl ?_
    refine G_bipush (z := 40) dX12_rule_37 rfl ?_
    refine G_iload_n dX12_rule_39 rfl ?_
    exact k2 c1
set_option maxRecDepth 20000 in
set_option maxHeartbeats 1000000 in
theorem sg_X12_rule_43 {E : Nat × (Nat → Int32)} {d : Nat} {P : Option Value → Mem → Prop} {mem : Mem} {a1 : Int} {a2 : Int} {s0 : Int} (w1 : -2147483648 ≤ s0 ∧ s0 < 2147483648)
    (k1 : 0 ≤ s0 → GM E (m_X12_rule d) P 61 [.ref 169, vi a1, vi a2, vi s0, vi 0] [] (up2 mem 169 26 (mem 169 27)))
    (k2 : ¬ 0 ≤ s0 → P (some (vi s0)) mem) :
    GM E (m_X12_rule d) P 43 [.ref 169, vi a1, vi a2, un, un] [vi s0] mem := by
  refine G_istore_n dX12_rule_43 rfl (by decide : 3 < 5) rfl ?_
  refine G_iload_n dX12_rule_44 rfl ?_
  refine G_if_ge (tgt := 50) dX12_rule_45 (by decide) (w1) (fun c1 => ?_) (fun c1 => ?_)
  · -- 0 ≤ s0
    refine G_aload_n dX12_rule_50 rfl ?_
    refine G_aload_n dX12_rule_51 rfl ?_
    refine G_getI (z := (mem 169 27)) dX12_rule_52 fl_12_230 (by decide) sh_169 rfl ?_
    refine G_putI (mem2 := (up2 mem 169 26 (mem 169 27))) dX12_rule_55 fp_12_251 (by decide) sh_169 rfl ?_
    refine G_iconst (z := 0) dX12_rule_58 rfl ?_
    refine G_istore dX12_rule_59 (by decide : 4 < 5) rfl ?_
    exact k1 c1
  · -- ¬ 0 ≤ s0
    refine G_iload_n dX12_rule_48 rfl ?_
    exact G_iret dX12_rule_49 rfl (Nat.zero_le _) (Nat.zero_le _) (Nat.le_refl _) ⟨rfl, k2 c1⟩
set_option maxRecDepth 20000 in
set_option maxHeartbeats 1000000 in
theorem sg_X12_rule_61 {E : Nat × (Nat → Int32)} {d : Nat} {P : Option Value → Mem → Prop} {mem : Mem} {a1 : Int} {a2 : Int} {a3 : Int} {a4 : Int} (w1 : -2147483648 ≤ a4 ∧ a4 < 2147483648) (w2 : -2147483648 ≤ (mem 169 27) ∧ (mem 169 27) < 2147483648) (q3 : ¬ (mem 169 27) ≤ a4 → 0 ≤ a4 ∧ a4 < 80)
    (k1 : (mem 169 27) ≤ a4 → P (some (vi 0)) mem)
    (k2 : ¬ (mem 169 27) ≤ a4 → GM E (m_X12_rule d) P 61 [.ref 169, vi a1, vi a2, vi a3, vi (a4 + 1)] [] (up2 mem 185 a4 (mem 186 a4))) :
    GM E (m_X12_rule d) P 61 [.ref 169, vi a1, vi a2, vi a3, vi a4] [] mem := by
  refine G_iload dX12_rule_61 rfl ?_
  refine G_aload_n dX12_rule_63 rfl ?_
  refine G_getI (z := (mem 169 27)) dX12_rule_64 fl_12_230 (by decide) sh_169 rfl ?_
  refine G_icmp_ge (tgt := 90) dX12_rule_67 (by decide) (w1) (w2) (fun c1 => ?_) (fun c1 => ?_)
  · -- (mem 169 27) ≤ a4
    refine G_iconst (z := 0) dX12_rule_90 rfl ?_
    exact G_iret dX12_rule_91 rfl (Nat.zero_le _) (Nat.zero_le _) (Nat.le_refl _) ⟨rfl, k1 c1⟩
  · -- ¬ (mem 169 27) ≤ a4
    refine G_aload_n dX12_rule_70 rfl ?_
    refine G_getR (t := 185) dX12_rule_71 fl_12_57 (by decide) sh_169 rr_169_24 ?_
    refine G_iload dX12_rule_74 rfl ?_
    refine G_aload_n dX12_rule_76 rfl ?_
    refine G_getR (t := 186) dX12_rule_77 fl_12_60 (by decide) sh_169 rr_169_25 ?_
    refine G_iload dX12_rule_80 rfl ?_
    refine G_iald (z := (mem 186 a4)) dX12_rule_82 (by decide) sh_186 (by decide) (q3 c1).1 (q3 c1).2 rfl ?_
    refine G_iast (mem2 := (up2 mem 185 a4 (mem 186 a4))) dX12_rule_83 (by decide) sh_185 (by decide) (q3 c1).1 (q3 c1).2 rfl ?_
    refine G_iinc (z := (a4 + 1)) dX12_rule_84 rfl rfl (by decide : 4 < 5) rfl ?_
    refine G_goto (tgt := 61) dX12_rule_87 (by decide) ?_
    exact k2 c1
abbrev m_X12_ruled (d : Nat) : Mu := (cX12_ruled, 4, RX12, (some .int), ⟨d, 0, 0, 40 * d⟩, "ruled")
set_option maxRecDepth 20000 in
set_option maxHeartbeats 1000000 in
theorem sg_X12_ruled_0 {E : Nat × (Nat → Int32)} {d : Nat} {P : Option Value → Mem → Prop} {mem : Mem}
    (k1 : GM E (m_X12_ruled d) P 4 [.ref 169, vi 0, vi 0, un] [] mem) :
    GM E (m_X12_ruled d) P 0 [.ref 169, un, un, un] [] mem := by
  refine G_iconst (z := 0) dX12_ruled_0 rfl ?_
  refine G_istore_n dX12_ruled_1 rfl (by decide : 1 < 4) rfl ?_
  refine G_iconst (z := 0) dX12_ruled_2 rfl ?_
  refine G_istore_n dX12_ruled_3 rfl (by decide : 2 < 4) rfl ?_
  exact k1
set_option maxRecDepth 20000 in
set_option maxHeartbeats 1000000 in
theorem sg_X12_ruled_4 {E : Nat × (Nat → Int32)} {d : Nat} (hd : 1 ≤ d) {P : Option Value → Mem → Prop} {mem : Mem} {a1 : Int} {a2 : Int} (w1 : -2147483648 ≤ a2 ∧ a2 < 2147483648) (w2 : -2147483648 ≤ (mem 169 26) ∧ (mem 169 26) < 2147483648) (w3 : (mem 169 26) ≤ a2 → (mem 169 26) ≠ 0 → -2147483648 ≤ (mem 187 0) ∧ (mem 187 0) < 2147483648) (w4 : (mem 169 26) ≤ a2 → (mem 169 26) ≠ 0 → -2147483648 ≤ (min 999 (mem 187 0)) ∧ (min 999 (mem 187 0)) < 2147483648) (w5 : (mem 169 26) ≤ a2 → (mem 169 26) = 0 → -2147483648 ≤ (8 + (mem 188 0)) ∧ (8 + (mem 188 0)) < 2147483648) (w6 : (mem 169 26) ≤ a2 → (mem 169 26) = 0 → -2147483648 ≤ (min 999 (8 + (mem 188 0))) ∧ (min 999 (8 + (mem 188 0))) < 2147483648) (q7 : ¬ (mem 169 26) ≤ a2 → 0 ≤ a2 ∧ a2 < 80) (w8 : ¬ (mem 169 26) ≤ a2 → -2147483648 ≤ (mem 185 a2) ∧ (mem 185 a2) < 2147483648) (q9 : ¬ (mem 169 26) ≤ a2 → (mem 185 a2) ≠ 3000 → (mem 185 a2) < 2000 → (mem 185 a2) < 1000 → 0 ≤ a1 ∧ a1 < 80) (q10 : ¬ (mem 169 26) ≤ a2 → (mem 185 a2) ≠ 3000 → (mem 185 a2) < 2000 → ¬ (mem 185 a2) < 1000 → 0 ≤ ((mem 185 a2) - 1000) ∧ ((mem 185 a2) - 1000) < 8) (q11 : ¬ (mem 169 26) ≤ a2 → (mem 185 a2) ≠ 3000 → (mem 185 a2) < 2000 → ¬ (mem 185 a2) < 1000 → 0 ≤ a1 ∧ a1 < 80) (q12 : ¬ (mem 169 26) ≤ a2 → (mem 185 a2) ≠ 3000 → ¬ (mem 185 a2) < 2000 → 0 ≤ ((a1 + (-1)) - 1) ∧ ((a1 + (-1)) - 1) < 80) (q13 : ¬ (mem 169 26) ≤ a2 → (mem 185 a2) ≠ 3000 → ¬ (mem 185 a2) < 2000 → 0 ≤ (a1 + (-1)) ∧ (a1 + (-1)) < 80) (q14 : ¬ (mem 169 26) ≤ a2 → (mem 185 a2) = 3000 → 0 ≤ (a1 - 1) ∧ (a1 - 1) < 80)
    (k1 : (mem 169 26) ≤ a2 → (mem 169 26) ≠ 0 → P (some (vi (max 1 (min 999 (mem 187 0))))) mem)
    (k2 : (mem 169 26) ≤ a2 → (mem 169 26) = 0 → P (some (vi (max 1 (min 999 (8 + (mem 188 0)))))) mem)
    (k3 : ¬ (mem 169 26) ≤ a2 → (mem 185 a2) ≠ 3000 → (mem 185 a2) < 2000 → (mem 185 a2) < 1000 → GM E (m_X12_ruled d) P 4 [.ref 169, vi (a1 + 1), vi (a2 + 1), vi (mem 185 a2)] [] (up2 mem 187 a1 (mem 185 a2)))
    (k4 : ¬ (mem 169 26) ≤ a2 → (mem 185 a2) ≠ 3000 → (mem 185 a2) < 2000 → ¬ (mem 185 a2) < 1000 → GM E (m_X12_ruled d) P 4 [.ref 169, vi (a1 + 1), vi (a2 + 1), vi (mem 185 a2)] [] (up2 mem 187 a1 (mem 188 ((mem 185 a2) - 1000))))
    (k5 : ¬ (mem 169 26) ≤ a2 → (mem 185 a2) ≠ 3000 → ¬ (mem 185 a2) < 2000 → GM E (m_X12_ruled d) P 82 [.ref 169, vi (a1 + (-1)), vi a2, vi (mem 185 a2)] [vi (mem 187 (a1 + (-1))), vi (mem 187 ((a1 + (-1)) - 1)), vi ((mem 185 a2) - 2000), vi ((a1 + (-1)) - 1), .ref 187] mem)
    (k6 : ¬ (mem 169 26) ≤ a2 → (mem 185 a2) = 3000 → GM E (m_X12_ruled d) P 4 [.ref 169, vi a1, vi (a2 + 1), vi (mem 185 a2)] [] (up2 mem 187 (a1 - 1) (-(mem 187 (a1 - 1))))) :
    GM E (m_X12_ruled d) P 4 [.ref 169, vi a1, vi a2, un] [] mem := by
  refine G_iload_n dX12_ruled_4 rfl ?_
  refine G_aload_n dX12_ruled_5 rfl ?_
  refine G_getI (z := (mem 169 26)) dX12_ruled_6 fl_12_251 (by decide) sh_169 rfl ?_
  refine G_icmp_ge (tgt := 125) dX12_ruled_9 (by decide) (w1) (w2) (fun c1 => ?_) (fun c1 => ?_)
  · -- (mem 169 26) ≤ a2
    refine G_aload_n dX12_ruled_125 rfl ?_
    refine G_getI (z := (mem 169 26)) dX12_ruled_126 fl_12_251 (by decide) sh_169 rfl ?_
    refine G_if_ne (tgt := 144) dX12_ruled_129 (by decide) (w2) (fun c2 => ?_) (fun c2 => ?_)
    · -- (mem 169 26) ≠ 0
      refine G_aload_n dX12_ruled_144 rfl ?_
      refine G_getR (t := 187) dX12_ruled_145 fl_12_63 (by decide) sh_169 rr_169_28 ?_
      refine G_iconst (z := 0) dX12_ruled_148 rfl ?_
      refine G_iald (z := (mem 187 0)) dX12_ruled_149 (by decide) sh_187 (by decide) (by decide) (by decide) rfl ?_
      refine G_istore_n dX12_ruled_150 rfl (by decide : 2 < 4) rfl ?_
      refine G_iconst (z := 1) dX12_ruled_151 rfl ?_
      refine G_sipush (z := 999) dX12_ruled_152 rfl ?_
      refine G_iload_n dX12_ruled_155 rfl ?_
      refine G_min (z := (min 999 (mem 187 0))) dX12_ruled_156 ml_12_157 mw_min (by decide) (w3 c1 c2) ⟨by show 1 ≤ d; omega, by show 21 ≤ 40 * d; omega, Nat.zero_le _, Nat.zero_le _⟩ (Nat.le_of_ble_eq_true rfl) rfl ?_
      refine G_max (z := (max 1 (min 999 (mem 187 0)))) dX12_ruled_159 ml_12_257 mw_max (by decide) (w4 c1 c2) ⟨by show 1 ≤ d; omega, by show 21 ≤ 40 * d; omega, Nat.zero_le _, Nat.zero_le _⟩ (Nat.le_of_ble_eq_true rfl) rfl ?_
      exact G_iret dX12_ruled_162 rfl (Nat.zero_le _) (Nat.zero_le _) (Nat.le_refl _) ⟨rfl, k1 c1 c2⟩
    · -- (mem 169 26) = 0
      refine G_bipush (z := 8) dX12_ruled_132 rfl ?_
      refine G_aload_n dX12_ruled_134 rfl ?_
      refine G_getR (t := 188) dX12_ruled_135 fl_12_66 (by decide) sh_169 rr_169_29 ?_
      refine G_iconst (z := 0) dX12_ruled_138 rfl ?_
      refine G_iald (z := (mem 188 0)) dX12_ruled_139 (by decide) sh_188 (by decide) (by decide) (by decide) rfl ?_
      refine G_iadd dX12_ruled_140 ?_
      refine G_goto (tgt := 150) dX12_ruled_141 (by decide) ?_
      refine G_istore_n dX12_ruled_150 rfl (by decide : 2 < 4) rfl ?_
      refine G_iconst (z := 1) dX12_ruled_151 rfl ?_
      refine G_sipush (z := 999) dX12_ruled_152 rfl ?_
      refine G_iload_n dX12_ruled_155 rfl ?_
      refine G_min (z := (min 999 (8 + (mem 188 0)))) dX12_ruled_156 ml_12_157 mw_min (by decide) (w5 c1 c2) ⟨by show 1 ≤ d; omega, by show 21 ≤ 40 * d; omega, Nat.zero_le _, Nat.zero_le _⟩ (Nat.le_of_ble_eq_true rfl) rfl ?_
      refine G_max (z := (max 1 (min 999 (8 + (mem 188 0))))) dX12_ruled_159 ml_12_257 mw_max (by decide) (w6 c1 c2) ⟨by show 1 ≤ d; omega, by show 21 ≤ 40 * d; omega, Nat.zero_le _, Nat.zero_le _⟩ (Nat.le_of_ble_eq_true rfl) rfl ?_
      exact G_iret dX12_ruled_162 rfl (Nat.zero_le _) (Nat.zero_le _) (Nat.le_refl _) ⟨rfl, k2 c1 c2⟩
  · -- ¬ (mem 169 26) ≤ a2
    refine G_aload_n dX12_ruled_12 rfl ?_
    refine G_getR (t := 185) dX12_ruled_13 fl_12_57 (by decide) sh_169 rr_169_24 ?_
    refine G_iload_n dX12_ruled_16 rfl ?_
    refine G_iald (z := (mem 185 a2)) dX12_ruled_17 (by decide) sh_185 (by decide) (q7 c1).1 (q7 c1).2 rfl ?_
    refine G_istore_n dX12_ruled_18 rfl (by decide : 3 < 4) rfl ?_
    refine G_iload_n dX12_ruled_19 rfl ?_
    refine G_sipush (z := 3000) dX12_ruled_20 rfl ?_
    refine G_icmp_ne (tgt := 46) dX12_ruled_23 (by decide) (w8 c1) (by decide) (fun c3 => ?_) (fun c3 => ?_)
    · -- (mem 185 a2) ≠ 3000
      refine G_iload_n dX12_ruled_46 rfl ?_
      refine G_sipush (z := 2000) dX12_ruled_47 rfl ?_
      refine G_icmp_lt (tgt := 89) dX12_ruled_50 (by decide) (w8 c1) (by decide) (fun c4 => ?_) (fun c4 => ?_)
      · -- (mem 185 a2) < 2000
        refine G_aload_n dX12_ruled_89 rfl ?_
        refine G_getR (t := 187) dX12_ruled_90 fl_12_63 (by decide) sh_169 rr_169_28 ?_
        refine G_iload_n dX12_ruled_93 rfl ?_
        refine G_iload_n dX12_ruled_94 rfl ?_
        refine G_sipush (z := 1000) dX12_ruled_95 rfl ?_
        refine G_icmp_lt (tgt := 114) dX12_ruled_98 (by decide) (w8 c1) (by decide) (fun c5 => ?_) (fun c5 => ?_)
        · -- (mem 185 a2) < 1000
          refine G_iload_n dX12_ruled_114 rfl ?_
          refine G_iast (mem2 := (up2 mem 187 a1 (mem 185 a2))) dX12_ruled_115 (by decide) sh_187 (by decide) (q9 c1 c3 c4 c5).1 (q9 c1 c3 c4 c5).2 rfl ?_
          refine G_iinc (z := (a1 + 1)) dX12_ruled_116 rfl rfl (by decide : 1 < 4) rfl ?_
          refine G_iinc (z := (a2 + 1)) dX12_ruled_119 rfl rfl (by decide : 2 < 4) rfl ?_
          refine G_goto (tgt := 4) dX12_ruled_122 (by decide) ?_
          exact k3 c1 c3 c4 c5
        · -- ¬ (mem 185 a2) < 1000
          refine G_aload_n dX12_ruled_101 rfl ?_
          refine G_getR (t := 188) dX12_ruled_102 fl_12_66 (by decide) sh_169 rr_169_29 ?_
          refine G_iload_n dX12_ruled_105 rfl ?_
          refine G_sipush (z := 1000) dX12_ruled_106 rfl ?_
          refine G_isub dX12_ruled_109 ?_
          refine G_iald (z := (mem 188 ((mem 185 a2) - 1000))) dX12_ruled_110 (by decide) sh_188 (by decide) (q10 c1 c3 c4 c5).1 (q10 c1 c3 c4 c5).2 rfl ?_
          refine G_goto (tgt := 115) dX12_ruled_111 (by decide) ?_
          refine G_iast (mem2 := (up2 mem 187 a1 (mem 188 ((mem 185 a2) - 1000)))) dX12_ruled_115 (by decide) sh_187 (by decide) (q11 c1 c3 c4 c5).1 (q11 c1 c3 c4 c5).2 rfl ?_
          refine G_iinc (z := (a1 + 1)) dX12_ruled_116 rfl rfl (by decide : 1 < 4) rfl ?_
          refine G_iinc (z := (a2 + 1)) dX12_ruled_119 rfl rfl (by decide : 2 < 4) rfl ?_
          refine G_goto (tgt := 4) dX12_ruled_122 (by decide) ?_
          exact k4 c1 c3 c4 c5
      · -- ¬ (mem 185 a2) < 2000
        refine G_iinc (z := (a1 + (-1))) dX12_ruled_53 rfl rfl (by decide : 1 < 4) rfl ?_
        refine G_aload_n dX12_ruled_56 rfl ?_
        refine G_getR (t := 187) dX12_ruled_57 fl_12_63 (by decide) sh_169 rr_169_28 ?_
        refine G_iload_n dX12_ruled_60 rfl ?_
        refine G_iconst (z := 1) dX12_ruled_61 rfl ?_
        refine G_isub dX12_ruled_62 ?_
        refine G_iload_n dX12_ruled_63 rfl ?_
        refine G_sipush (z := 2000) dX12_ruled_64 rfl ?_
        refine G_isub dX12_ruled_67 ?_
        refine G_aload_n dX12_ruled_68 rfl ?_
        refine G_getR (t := 187) dX12_ruled_69 fl_12_63 (by decide) sh_169 rr_169_28 ?_
        refine G_iload_n dX12_ruled_72 rfl ?_
        refine G_iconst (z := 1) dX12_ruled_73 rfl ?_
        refine G_isub dX12_ruled_74 ?_
        refine G_iald (z := (mem 187 ((a1 + (-1)) - 1))) dX12_ruled_75 (by decide) sh_187 (by decide) (q12 c1 c3 c4).1 (q12 c1 c3 c4).2 rfl ?_
        refine G_aload_n dX12_ruled_76 rfl ?_
        refine G_getR (t := 187) dX12_ruled_77 fl_12_63 (by decide) sh_169 rr_169_28 ?_
        refine G_iload_n dX12_ruled_80 rfl ?_
        refine G_iald (z := (mem 187 (a1 + (-1)))) dX12_ruled_81 (by decide) sh_187 (by decide) (q13 c1 c3 c4).1 (q13 c1 c3 c4).2 rfl ?_
        exact k5 c1 c3 c4
    · -- (mem 185 a2) = 3000
      refine G_aload_n dX12_ruled_26 rfl ?_
      refine G_getR (t := 187) dX12_ruled_27 fl_12_63 (by decide) sh_169 rr_169_28 ?_
      refine G_iload_n dX12_ruled_30 rfl ?_
      refine G_iconst (z := 1) dX12_ruled_31 rfl ?_
      refine G_isub dX12_ruled_32 ?_
      refine G_aload_n dX12_ruled_33 rfl ?_
      refine G_getR (t := 187) dX12_ruled_34 fl_12_63 (by decide) sh_169 rr_169_28 ?_
      refine G_iload_n dX12_ruled_37 rfl ?_
      refine G_iconst (z := 1) dX12_ruled_38 rfl ?_
      refine G_isub dX12_ruled_39 ?_
      refine G_iald (z := (mem 187 (a1 - 1))) dX12_ruled_40 (by decide) sh_187 (by decide) (q14 c1 c3).1 (q14 c1 c3).2 rfl ?_
      refine G_ineg dX12_ruled_41 ?_
      refine G_iast (mem2 := (up2 mem 187 (a1 - 1) (-(mem 187 (a1 - 1))))) dX12_ruled_42 (by decide) sh_187 (by decide) (q14 c1 c3).1 (q14 c1 c3).2 rfl ?_
      refine G_goto (tgt := 119) dX12_ruled_43 (by decide) ?_
      refine G_iinc (z := (a2 + 1)) dX12_ruled_119 rfl rfl (by decide : 2 < 4) rfl ?_
      refine G_goto (tgt := 4) dX12_ruled_122 (by decide) ?_
      exact k6 c1 c3
set_option maxRecDepth 20000 in
set_option maxHeartbeats 1000000 in
theorem sg_X12_ruled_85 {E : Nat × (Nat → Int32)} {d : Nat} {P : Option Value → Mem → Prop} {mem : Mem} {a1 : Int} {a2 : Int} {a3 : Int} {s0 : Int} {s1 : Int} (q1 : 0 ≤ s1 ∧ s1 < 80)
    (k1 : GM E (m_X12_ruled d) P 4 [.ref 169, vi a1, vi (a2 + 1), vi a3] [] (up2 mem 187 s1 s0)) :
    GM E (m_X12_ruled d) P 85 [.ref 169, vi a1, vi a2, vi a3] [vi s0, vi s1, .ref 187] mem := by
  refine G_iast (mem2 := (up2 mem 187 s1 s0)) dX12_ruled_85 (by decide) sh_187 (by decide) (q1).1 (q1).2 rfl ?_
  refine G_goto (tgt := 119) dX12_ruled_86 (by decide) ?_
  refine G_iinc (z := (a2 + 1)) dX12_ruled_119 rfl rfl (by decide : 2 < 4) rfl ?_
  refine G_goto (tgt := 4) dX12_ruled_122 (by decide) ?_
  exact k1
abbrev m_X12_secondsOf (d : Nat) : Mu := (cX12_secondsOf, 5, RX12, (some .int), ⟨d, 0, 0, 40 * d⟩, "secondsOf")
set_option maxRecDepth 20000 in
set_option maxHeartbeats 1000000 in
theorem sg_X12_secondsOf_0 {E : Nat × (Nat → Int32)} {d : Nat} {P : Option Value → Mem → Prop} {mem : Mem} {a1 : Int} {a2 : Int} {a3 : Int} {a4 : Int}
    (k1 : GM E (m_X12_secondsOf d) P 9 [.ref 169, vi a1, vi a2, vi a3, vi a4] [vi a3, vi a2, vi a1, .ref 169, vi 0, .ref 188] mem) :
    GM E (m_X12_secondsOf d) P 0 [.ref 169, vi a1, vi a2, vi a3, vi a4] [] mem := by
  refine G_aload_n dX12_secondsOf_0 rfl ?_
  refine G_getR (t := 188) dX12_secondsOf_1 fl_12_66 (by decide) sh_169 rr_169_29 ?_
  refine G_iconst (z := 0) dX12_secondsOf_4 rfl ?_
  refine G_aload_n dX12_secondsOf_5 rfl ?_
  refine G_iload_n dX12_secondsOf_6 rfl ?_
  refine G_iload_n dX12_secondsOf_7 rfl ?_
  refine G_iload_n dX12_secondsOf_8 rfl ?_
  exact k1
set_option maxRecDepth 20000 in
set_option maxHeartbeats 1000000 in
theorem sg_X12_secondsOf_12 {E : Nat × (Nat → Int32)} {d : Nat} {P : Option Value → Mem → Prop} {mem : Mem} {a1 : Int} {a2 : Int} {a3 : Int} {a4 : Int} {s0 : Int} {s2 : Int}
    (k1 : GM E (m_X12_secondsOf d) P 12 [.ref 169, vi a1, vi a2, vi a3, vi a4] [vi s0, .ref 169, vi s2, .ref 188] mem) :
    GM E (m_X12_secondsOf d) P 12 [.ref 169, vi a1, vi a2, vi a3, vi a4] [vi s0, .ref 169, vi s2, .ref 188] mem := by
  exact k1
set_option maxRecDepth 20000 in
set_option maxHeartbeats 1000000 in
theorem sg_X12_secondsOf_15 {E : Nat × (Nat → Int32)} {d : Nat} {P : Option Value → Mem → Prop} {mem : Mem} {a1 : Int} {a2 : Int} {a3 : Int} {a4 : Int} {s0 : Int} {s1 : Int} (q1 : 0 ≤ s1 ∧ s1 < 8)
    (k1 : GM E (m_X12_secondsOf d) P 80 [.ref 169, vi a1, vi a2, vi a3, vi a4] [.ref 169] (up2 (up2 (up2 (up2 (up2 (up2 (up2 (up2 mem 188 s1 s0) 188 1 a3) 188 2 a2) 188 3 (mem 169 31)) 188 4 (mem 169 30)) 188 5 (mem 179 2)) 188 6 a4) 188 7 a1)) :
    GM E (m_X12_secondsOf d) P 15 [.ref 169, vi a1, vi a2, vi a3, vi a4] [vi s0, vi s1, .ref 188] mem := by
  refine G_iast (mem2 := (up2 mem 188 s1 s0)) dX12_secondsOf_15 (by decide) sh_188 (by decide) (q1).1 (q1).2 rfl ?_
  refine G_aload_n dX12_secondsOf_16 rfl ?_
  refine G_getR (t := 188) dX12_secondsOf_17 fl_12_66 (by decide) sh_169 rr_169_29 ?_
  refine G_iconst (z := 1) dX12_secondsOf_20 rfl ?_
  refine G_iload_n dX12_secondsOf_21 rfl ?_
  refine G_iast (mem2 := (up2 (up2 mem 188 s1 s0) 188 1 a3)) dX12_secondsOf_22 (by decide) sh_188 (by decide) (by decide) (by decide) rfl ?_
  refine G_aload_n dX12_secondsOf_23 rfl ?_
  refine G_getR (t := 188) dX12_secondsOf_24 fl_12_66 (by decide) sh_169 rr_169_29 ?_
  refine G_iconst (z := 2) dX12_secondsOf_27 rfl ?_
  refine G_iload_n dX12_secondsOf_28 rfl ?_
  refine G_iast (mem2 := (up2 (up2 (up2 mem 188 s1 s0) 188 1 a3) 188 2 a2)) dX12_secondsOf_29 (by decide) sh_188 (by decide) (by decide) (by decide) rfl ?_
  refine G_aload_n dX12_secondsOf_30 rfl ?_
  refine G_getR (t := 188) dX12_secondsOf_31 fl_12_66 (by decide) sh_169 rr_169_29 ?_
  refine G_iconst (z := 3) dX12_secondsOf_34 rfl ?_
  refine G_aload_n dX12_secondsOf_35 rfl ?_
  refine G_getI (z := (mem 169 31)) dX12_secondsOf_36 fl_12_266 (by decide) sh_169 (by simp [up2, upr]) ?_
  refine G_iast (mem2 := (up2 (up2 (up2 (up2 mem 188 s1 s0) 188 1 a3) 188 2 a2) 188 3 (mem 169 31))) dX12_secondsOf_39 (by decide) sh_188 (by decide) (by decide) (by decide) rfl ?_
  refine G_aload_n dX12_secondsOf_40 rfl ?_
  refine G_getR (t := 188) dX12_secondsOf_41 fl_12_66 (by decide) sh_169 rr_169_29 ?_
  refine G_iconst (z := 4) dX12_secondsOf_44 rfl ?_
  refine G_aload_n dX12_secondsOf_45 rfl ?_
  refine G_getI (z := (mem 169 30)) dX12_secondsOf_46 fl_12_269 (by decide) sh_169 (by simp [up2, upr]) ?_
  refine G_iast (mem2 := (up2 (up2 (up2 (up2 (up2 mem 188 s1 s0) 188 1 a3) 188 2 a2) 188 3 (mem 169 31)) 188 4 (mem 169 30))) dX12_secondsOf_49 (by decide) sh_188 (by decide) (by decide) (by decide) rfl ?_
  refine G_aload_n dX12_secondsOf_50 rfl ?_
  refine G_getR (t := 188) dX12_secondsOf_51 fl_12_66 (by decide) sh_169 rr_169_29 ?_
  refine G_iconst (z := 5) dX12_secondsOf_54 rfl ?_
  refine G_aload_n dX12_secondsOf_55 rfl ?_
  refine G_getR (t := 179) dX12_secondsOf_56 fl_12_39 (by decide) sh_169 rr_169_13 ?_
  refine G_iconst (z := 2) dX12_secondsOf_59 rfl ?_
  refine G_iald (z := (mem 179 2)) dX12_secondsOf_60 (by decide) sh_179 (by decide) (by decide) (by decide) (by simp [up2, upr]) ?_
  refine G_iast (mem2 := (up2 (up2 (up2 (up2 (up2 (up2 mem 188 s1 s0) 188 1 a3) 188 2 a2) 188 3 (mem 169 31)) 188 4 (mem 169 30)) 188 5 (mem 179 2))) dX12_secondsOf_61 (by decide) sh_188 (by decide) (by decide) (by decide) rfl ?_
  refine G_aload_n dX12_secondsOf_62 rfl ?_
  refine G_getR (t := 188) dX12_secondsOf_63 fl_12_66 (by decide) sh_169 rr_169_29 ?_
  refine G_bipush (z := 6) dX12_secondsOf_66 rfl ?_
  refine G_iload dX12_secondsOf_68 rfl ?_
  refine G_iast (mem2 := (up2 (up2 (up2 (up2 (up2 (up2 (up2 mem 188 s1 s0) 188 1 a3) 188 2 a2) 188 3 (mem 169 31)) 188 4 (mem 169 30)) 188 5 (mem 179 2)) 188 6 a4)) dX12_secondsOf_70 (by decide) sh_188 (by decide) (by decide) (by decide) rfl ?_
  refine G_aload_n dX12_secondsOf_71 rfl ?_
  refine G_getR (t := 188) dX12_secondsOf_72 fl_12_66 (by decide) sh_169 rr_169_29 ?_
  refine G_bipush (z := 7) dX12_secondsOf_75 rfl ?_
  refine G_iload_n dX12_secondsOf_77 rfl ?_
  refine G_iast (mem2 := (up2 (up2 (up2 (up2 (up2 (up2 (up2 (up2 mem 188 s1 s0) 188 1 a3) 188 2 a2) 188 3 (mem 169 31)) 188 4 (mem 169 30)) 188 5 (mem 179 2)) 188 6 a4) 188 7 a1)) dX12_secondsOf_78 (by decide) sh_188 (by decide) (by decide) (by decide) rfl ?_
  refine G_aload_n dX12_secondsOf_79 rfl ?_
  exact k1
set_option maxRecDepth 20000 in
set_option maxHeartbeats 1000000 in
theorem sg_X12_secondsOf_83 {E : Nat × (Nat → Int32)} {d : Nat} {P : Option Value → Mem → Prop} {mem : Mem} {a1 : Int} {a2 : Int} {a3 : Int} {a4 : Int} {s0 : Int}
    (k1 : P (some (vi s0)) mem) :
    GM E (m_X12_secondsOf d) P 83 [.ref 169, vi a1, vi a2, vi a3, vi a4] [vi s0] mem := by
  exact G_iret dX12_secondsOf_83 rfl (Nat.zero_le _) (Nat.zero_le _) (Nat.le_refl _) ⟨rfl, k1⟩
