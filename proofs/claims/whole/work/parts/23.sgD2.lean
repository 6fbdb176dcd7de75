abbrev m_X11_sheet (d : Nat) : Mu := (cX11_sheet, 5, RX11, (some .int), ⟨d, 0, 0, 40 * d⟩, "sheet")
set_option maxRecDepth 20000 in
set_option maxHeartbeats 1000000 in
theorem sg_X11_sheet_0 {E : Nat × (Nat → Int32)} {d : Nat} {P : Option Value → Mem → Prop} {mem : Mem} {a1 : Int} {a2 : Int} {a3 : Int} {a4 : Int} (w1 : -2147483648 ≤ a1 ∧ a1 < 2147483648) (w2 : -2147483648 ≤ a2 ∧ a2 < 2147483648)
    (k1 : a1 < 0 → P (some (vi (-1))) mem)
    (k2 : ¬ a1 < 0 → 3 < a1 → P (some (vi (-1))) mem)
    (k3 : ¬ a1 < 0 → ¬ 3 < a1 → a2 ≤ 6 → a1 ≠ 3 → 0 ≤ a2 → GM E (m_X11_sheet d) P 54 [.ref 0, vi a1, vi a2, vi a3, vi a4] [vi a4, vi a3, vi a2, vi a1, .ref 9] mem)
    (k4 : ¬ a1 < 0 → ¬ 3 < a1 → a2 ≤ 6 → a1 ≠ 3 → ¬ 0 ≤ a2 → P (some (vi (-2))) mem)
    (k5 : ¬ a1 < 0 → ¬ 3 < a1 → a2 ≤ 6 → a1 = 3 → GM E (m_X11_sheet d) P 31 [.ref 0, vi a1, vi a2, vi a3, vi a4] [vi a4, vi a3, vi 0, vi a1, .ref 9] mem)
    (k6 : ¬ a1 < 0 → ¬ 3 < a1 → ¬ a2 ≤ 6 → P (some (vi (-1))) mem) :
    GM E (m_X11_sheet d) P 0 [.ref 0, vi a1, vi a2, vi a3, vi a4] [] mem := by
  refine G_iload_n dX11_sheet_0 rfl ?_
  refine G_if_lt (tgt := 15) dX11_sheet_1 (by decide) (w1) (fun c1 => ?_) (fun c1 => ?_)
  · -- a1 < 0
    refine G_iconst (z := (-1)) dX11_sheet_15 rfl ?_
    exact G_iret dX11_sheet_16 rfl (Nat.zero_le _) (Nat.zero_le _) (Nat.le_refl _) ⟨rfl, k1 c1⟩
  · -- ¬ a1 < 0
    refine G_iload_n dX11_sheet_4 rfl ?_
    refine G_iconst (z := 3) dX11_sheet_5 rfl ?_
    refine G_icmp_gt (tgt := 15) dX11_sheet_6 (by decide) (w1) (by decide) (fun c2 => ?_) (fun c2 => ?_)
    · -- 3 < a1
      refine G_iconst (z := (-1)) dX11_sheet_15 rfl ?_
      exact G_iret dX11_sheet_16 rfl (Nat.zero_le _) (Nat.zero_le _) (Nat.le_refl _) ⟨rfl, k2 c1 c2⟩
    · -- ¬ 3 < a1
      refine G_iload_n dX11_sheet_9 rfl ?_
      refine G_bipush (z := 6) dX11_sheet_10 rfl ?_
      refine G_icmp_le (tgt := 17) dX11_sheet_12 (by decide) (w2) (by decide) (fun c3 => ?_) (fun c3 => ?_)
      · -- a2 ≤ 6
        refine G_iload_n dX11_sheet_17 rfl ?_
        refine G_iconst (z := 3) dX11_sheet_18 rfl ?_
        refine G_icmp_ne (tgt := 38) dX11_sheet_19 (by decide) (w1) (by decide) (fun c4 => ?_) (fun c4 => ?_)
        · -- a1 ≠ 3
          refine G_iload_n dX11_sheet_38 rfl ?_
          refine G_if_ge (tgt := 45) dX11_sheet_39 (by decide) (w2) (fun c5 => ?_) (fun c5 => ?_)
          · -- 0 ≤ a2
            refine G_aload_n dX11_sheet_45 rfl ?_
            refine G_getR (t := 9) dX11_sheet_46 fl_11_33 (by decide) sh_0 rr_0_3 ?_
            refine G_iload_n dX11_sheet_49 rfl ?_
            refine G_iload_n dX11_sheet_50 rfl ?_
            refine G_iload_n dX11_sheet_51 rfl ?_
            refine G_iload dX11_sheet_52 rfl ?_
            exact k3 c1 c2 c3 c4 c5
          · -- ¬ 0 ≤ a2
            refine G_bipush (z := (-2)) dX11_sheet_42 rfl ?_
            exact G_iret dX11_sheet_44 rfl (Nat.zero_le _) (Nat.zero_le _) (Nat.le_refl _) ⟨rfl, k4 c1 c2 c3 c4 c5⟩
        · -- a1 = 3
          refine G_aload_n dX11_sheet_22 rfl ?_
          refine G_getR (t := 9) dX11_sheet_23 fl_11_33 (by decide) sh_0 rr_0_3 ?_
          refine G_iload_n dX11_sheet_26 rfl ?_
          refine G_iconst (z := 0) dX11_sheet_27 rfl ?_
          refine G_iload_n dX11_sheet_28 rfl ?_
          refine G_iload dX11_sheet_29 rfl ?_
          exact k5 c1 c2 c3 c4
      · -- ¬ a2 ≤ 6
        refine G_iconst (z := (-1)) dX11_sheet_15 rfl ?_
        exact G_iret dX11_sheet_16 rfl (Nat.zero_le _) (Nat.zero_le _) (Nat.le_refl _) ⟨rfl, k6 c1 c2 c3⟩
set_option maxRecDepth 20000 in
set_option maxHeartbeats 1000000 in
theorem sg_X11_sheet_34 {E : Nat × (Nat → Int32)} {d : Nat} {P : Option Value → Mem → Prop} {mem : Mem} {a1 : Int} {a2 : Int} {a3 : Int} {a4 : Int} {s0 : Int}
    (k1 : P (some (vi (-3))) mem) :
    GM E (m_X11_sheet d) P 34 [.ref 0, vi a1, vi a2, vi a3, vi a4] [vi s0] mem := by
  refine G_pop dX11_sheet_34 rfl ?_
  refine G_bipush (z := (-3)) dX11_sheet_35 rfl ?_
  exact G_iret dX11_sheet_37 rfl (Nat.zero_le _) (Nat.zero_le _) (Nat.le_refl _) ⟨rfl, k1⟩
set_option maxRecDepth 20000 in
set_option maxHeartbeats 1000000 in
theorem sg_X11_sheet_57 {E : Nat × (Nat → Int32)} {d : Nat} {P : Option Value → Mem → Prop} {mem : Mem} {a1 : Int} {a2 : Int} {a3 : Int} {a4 : Int} {s0 : Int}
    (k1 : P (some (vi s0)) mem) :
    GM E (m_X11_sheet d) P 57 [.ref 0, vi a1, vi a2, vi a3, vi a4] [vi s0] mem := by
  exact G_iret dX11_sheet_57 rfl (Nat.zero_le _) (Nat.zero_le _) (Nat.le_refl _) ⟨rfl, k1⟩
abbrev m_X11_sign (d : Nat) : Mu := (cX11_sign, 2, RX11, (some .int), ⟨d, 0, 0, 40 * d⟩, "sign")
set_option maxRecDepth 20000 in
set_option maxHeartbeats 1000000 in
theorem sg_X11_sign_0 {E : Nat × (Nat → Int32)} {d : Nat} {P : Option Value → Mem → Prop} {mem : Mem} {a1 : Int}
    (k1 : GM E (m_X11_sign d) P 5 [.ref 0, vi a1] [vi a1, .ref 1] mem) :
    GM E (m_X11_sign d) P 0 [.ref 0, vi a1] [] mem := by
  refine G_aload_n dX11_sign_0 rfl ?_
  refine G_getR (t := 1) dX11_sign_1 fl_11_12 (by decide) sh_0 rr_0_0 ?_
  refine G_iload_n dX11_sign_4 rfl ?_
  exact k1
set_option maxRecDepth 20000 in
set_option maxHeartbeats 1000000 in
theorem sg_X11_sign_8 {E : Nat × (Nat → Int32)} {d : Nat} {P : Option Value → Mem → Prop} {mem : Mem} {a1 : Int} {s0 : Int} (w1 : -2147483648 ≤ s0 ∧ s0 < 2147483648)
    (k1 : s0 = 0 → P (some (vi (-1))) mem)
    (k2 : ¬ s0 = 0 → P (some (vi (mem 1 1))) mem) :
    GM E (m_X11_sign d) P 8 [.ref 0, vi a1] [vi s0] mem := by
  refine G_if_eq (tgt := 21) dX11_sign_8 (by decide) (w1) (fun c1 => ?_) (fun c1 => ?_)
  · -- s0 = 0
    refine G_iconst (z := (-1)) dX11_sign_21 rfl ?_
    exact G_iret dX11_sign_22 rfl (Nat.zero_le _) (Nat.zero_le _) (Nat.le_refl _) ⟨rfl, k1 c1⟩
  · -- ¬ s0 = 0
    refine G_aload_n dX11_sign_11 rfl ?_
    refine G_getR (t := 1) dX11_sign_12 fl_11_12 (by decide) sh_0 rr_0_0 ?_
    refine G_getI (z := (mem 1 1)) dX11_sign_15 fl_11_106 (by decide) sh_1 rfl ?_
    refine G_goto (tgt := 22) dX11_sign_18 (by decide) ?_
    exact G_iret dX11_sign_22 rfl (Nat.zero_le _) (Nat.zero_le _) (Nat.le_refl _) ⟨rfl, k2 c1⟩
abbrev m_X11_soonest (d : Nat) : Mu := (cX11_soonest, 3, RX11, (some .int), ⟨d, 0, 0, 40 * d⟩, "soonest")
set_option maxRecDepth 20000 in
set_option maxHeartbeats 1000000 in
theorem sg_X11_soonest_0 {E : Nat × (Nat → Int32)} {d : Nat} {P : Option Value → Mem → Prop} {mem : Mem} {a1 : Int} (w1 : -2147483648 ≤ a1 ∧ a1 < 2147483648)
    (k1 : a1 = 0 → P (some (vi (-1))) mem)
    (k2 : ¬ a1 = 0 → GM E (m_X11_soonest d) P 9 [.ref 0, vi a1, un] [vi a1, .ref 9] mem) :
    GM E (m_X11_soonest d) P 0 [.ref 0, vi a1, un] [] mem := by
  refine G_iload_n dX11_soonest_0 rfl ?_
  refine G_if_eq (tgt := 15) dX11_soonest_1 (by decide) (w1) (fun c1 => ?_) (fun c1 => ?_)
  · -- a1 = 0
    refine G_iconst (z := (-1)) dX11_soonest_15 rfl ?_
    exact G_iret dX11_soonest_16 rfl (Nat.zero_le _) (Nat.zero_le _) (Nat.le_refl _) ⟨rfl, k1 c1⟩
  · -- ¬ a1 = 0
    refine G_aload_n dX11_soonest_4 rfl ?_
    refine G_getR (t := 9) dX11_soonest_5 fl_11_33 (by decide) sh_0 rr_0_3 ?_
    refine G_iload_n dX11_soonest_8 rfl ?_
    exact k2 c1
set_option maxRecDepth 20000 in
set_option maxHeartbeats 1000000 in
theorem sg_X11_soonest_12 {E : Nat × (Nat → Int32)} {d : Nat} {P : Option Value → Mem → Prop} {mem : Mem} {a1 : Int} {s0 : Int} (w1 : -2147483648 ≤ s0 ∧ s0 < 2147483648)
    (k1 : s0 ≠ 0 → GM E (m_X11_soonest d) P 28 [.ref 0, vi a1, un] [.ref 24, .ref 106] mem)
    (k2 : s0 = 0 → P (some (vi (-1))) mem) :
    GM E (m_X11_soonest d) P 12 [.ref 0, vi a1, un] [vi s0] mem := by
  refine G_if_ne (tgt := 17) dX11_soonest_12 (by decide) (w1) (fun c1 => ?_) (fun c1 => ?_)
  · -- s0 ≠ 0
    refine G_aload_n dX11_soonest_17 rfl ?_
    refine G_getR (t := 106) dX11_soonest_18 fl_11_74 (by decide) sh_0 rr_0_8 ?_
    refine G_aload_n dX11_soonest_21 rfl ?_
    refine G_getR (t := 23) dX11_soonest_22 fl_11_40 (by decide) sh_0 rr_0_4 ?_
    refine G_getR (t := 24) dX11_soonest_25 fl_11_352 (by decide) sh_23 (rrState_0 (by decide)) ?_
    exact k1 c1
  · -- s0 = 0
    refine G_iconst (z := (-1)) dX11_soonest_15 rfl ?_
    exact G_iret dX11_soonest_16 rfl (Nat.zero_le _) (Nat.zero_le _) (Nat.le_refl _) ⟨rfl, k2 c1⟩
set_option maxRecDepth 20000 in
set_option maxHeartbeats 1000000 in
theorem sg_X11_soonest_31 {E : Nat × (Nat → Int32)} {d : Nat} {P : Option Value → Mem → Prop} {mem : Mem} {a1 : Int}
    (k1 : GM E (m_X11_soonest d) P 56 [.ref 0, vi a1, un] [vi (mem 23 5), vi (mem 23 4), vi (mem 23 3), .ref 106] mem) :
    GM E (m_X11_soonest d) P 31 [.ref 0, vi a1, un] [] mem := by
  refine G_aload_n dX11_soonest_31 rfl ?_
  refine G_getR (t := 106) dX11_soonest_32 fl_11_74 (by decide) sh_0 rr_0_8 ?_
  refine G_aload_n dX11_soonest_35 rfl ?_
  refine G_getR (t := 23) dX11_soonest_36 fl_11_40 (by decide) sh_0 rr_0_4 ?_
  refine G_getI (z := (mem 23 3)) dX11_soonest_39 fl_11_203 (by decide) sh_23 rfl ?_
  refine G_aload_n dX11_soonest_42 rfl ?_
  refine G_getR (t := 23) dX11_soonest_43 fl_11_40 (by decide) sh_0 rr_0_4 ?_
  refine G_getI (z := (mem 23 4)) dX11_soonest_46 fl_11_252 (by decide) sh_23 rfl ?_
  refine G_aload_n dX11_soonest_49 rfl ?_
  refine G_getR (t := 23) dX11_soonest_50 fl_11_40 (by decide) sh_0 rr_0_4 ?_
  refine G_getI (z := (mem 23 5)) dX11_soonest_53 fl_11_253 (by decide) sh_23 rfl ?_
  exact k1
set_option maxRecDepth 20000 in
set_option maxHeartbeats 1000000 in
theorem sg_X11_soonest_59 {E : Nat × (Nat → Int32)} {d : Nat} {P : Option Value → Mem → Prop} {mem : Mem} {a1 : Int}
    (k1 : GM E (m_X11_soonest d) P 65 [.ref 0, vi a1, un] [vi (-1), vi a1, .ref 106] mem) :
    GM E (m_X11_soonest d) P 59 [.ref 0, vi a1, un] [] mem := by
  refine G_aload_n dX11_soonest_59 rfl ?_
  refine G_getR (t := 106) dX11_soonest_60 fl_11_74 (by decide) sh_0 rr_0_8 ?_
  refine G_iload_n dX11_soonest_63 rfl ?_
  refine G_iconst (z := (-1)) dX11_soonest_64 rfl ?_
  exact k1
set_option maxRecDepth 20000 in
set_option maxHeartbeats 1000000 in
theorem sg_X11_soonest_68 {E : Nat × (Nat → Int32)} {d : Nat} {P : Option Value → Mem → Prop} {mem : Mem} {a1 : Int} (w1 : -2147483648 ≤ (mem 106 12) ∧ (mem 106 12) < 2147483648)
    (k1 : 0 ≤ (mem 106 12) → GM E (m_X11_soonest d) P 82 [.ref 0, vi a1, un] [.ref 0] mem)
    (k2 : ¬ 0 ≤ (mem 106 12) → P (some (vi (-2))) mem) :
    GM E (m_X11_soonest d) P 68 [.ref 0, vi a1, un] [] mem := by
  refine G_aload_n dX11_soonest_68 rfl ?_
  refine G_getR (t := 106) dX11_soonest_69 fl_11_74 (by decide) sh_0 rr_0_8 ?_
  refine G_getI (z := (mem 106 12)) dX11_soonest_72 fl_11_377 (by decide) sh_106 rfl ?_
  refine G_if_ge (tgt := 81) dX11_soonest_75 (by decide) (w1) (fun c1 => ?_) (fun c1 => ?_)
  · -- 0 ≤ (mem 106 12)
    refine G_aload_n dX11_soonest_81 rfl ?_
    exact k1 c1
  · -- ¬ 0 ≤ (mem 106 12)
    refine G_bipush (z := (-2)) dX11_soonest_78 rfl ?_
    exact G_iret dX11_soonest_80 rfl (Nat.zero_le _) (Nat.zero_le _) (Nat.le_refl _) ⟨rfl, k2 c1⟩
set_option maxRecDepth 20000 in
set_option maxHeartbeats 1000000 in
theorem sg_X11_soonest_85 {E : Nat × (Nat → Int32)} {d : Nat} {P : Option Value → Mem → Prop} {mem : Mem} {a1 : Int}
    (k1 : GM E (m_X11_soonest d) P 87 [.ref 0, vi a1, vi 0] [] mem) :
    GM E (m_X11_soonest d) P 85 [.ref 0, vi a1, un] [] mem := by
  refine G_iconst (z := 0) dX11_soonest_85 rfl ?_
  refine G_istore_n dX11_soonest_86 rfl (by decide : 2 < 3) rfl ?_
  exact k1
set_option maxRecDepth 20000 in
set_option maxHeartbeats 1000000 in
theorem sg_X11_soonest_87 {E : Nat × (Nat → Int32)} {d : Nat} {P : Option Value → Mem → Prop} {mem : Mem} {a1 : Int} {a2 : Int}
    (k1 : GM E (m_X11_soonest d) P 89 [.ref 0, vi a1, vi a2] [vi a1, vi a2] mem) :
    GM E (m_X11_soonest d) P 87 [.ref 0, vi a1, vi a2] [] mem := by
  refine G_iload_n dX11_soonest_87 rfl ?_
  refine G_iload_n dX11_soonest_88 rfl ?_
  exact k1
set_option maxRecDepth 20000 in
set_option maxHeartbeats 1000000 in
theorem sg_X11_soonest_92 {E : Nat × (Nat → Int32)} {d : Nat} {P : Option Value → Mem → Prop} {mem : Mem} {a1 : Int} {a2 : Int} {s0 : Int} {s1 : Int} (w1 : -2147483648 ≤ s1 ∧ s1 < 2147483648) (w2 : -2147483648 ≤ s0 ∧ s0 < 2147483648)
    (k1 : s0 ≤ s1 → P (some (vi ((mem 106 12) - (mem 23 5)))) mem)
    (k2 : ¬ s0 ≤ s1 → GM E (m_X11_soonest d) P 101 [.ref 0, vi a1, vi a2] [vi a2, .ref 106, .ref 0] mem) :
    GM E (m_X11_soonest d) P 92 [.ref 0, vi a1, vi a2] [vi s0, vi s1] mem := by
  refine G_icmp_ge (tgt := 114) dX11_soonest_92 (by decide) (w1) (w2) (fun c1 => ?_) (fun c1 => ?_)
  · -- s0 ≤ s1
    refine G_aload_n dX11_soonest_114 rfl ?_
    refine G_getR (t := 106) dX11_soonest_115 fl_11_74 (by decide) sh_0 rr_0_8 ?_
    refine G_getI (z := (mem 106 12)) dX11_soonest_118 fl_11_377 (by decide) sh_106 rfl ?_
    refine G_aload_n dX11_soonest_121 rfl ?_
    refine G_getR (t := 23) dX11_soonest_122 fl_11_40 (by decide) sh_0 rr_0_4 ?_
    refine G_getI (z := (mem 23 5)) dX11_soonest_125 fl_11_253 (by decide) sh_23 rfl ?_
    refine G_isub dX11_soonest_128 ?_
    exact G_iret dX11_soonest_129 rfl (Nat.zero_le _) (Nat.zero_le _) (Nat.le_refl _) ⟨rfl, k1 c1⟩
  · -- ¬ s0 ≤ s1
    refine G_aload_n dX11_soonest_95 rfl ?_
    refine G_aload_n dX11_soonest_96 rfl ?_
    refine G_getR (t := 106) dX11_soonest_97 fl_11_74 (by decide) sh_0 rr_0_8 ?_
    refine G_iload_n dX11_soonest_100 rfl ?_
    exact k2 c1
set_option maxRecDepth 20000 in
set_option maxHeartbeats 1000000 in
theorem sg_X11_soonest_104 {E : Nat × (Nat → Int32)} {d : Nat} {P : Option Value → Mem → Prop} {mem : Mem} {a1 : Int} {a2 : Int} {s0 : Int} (w1 : -2147483648 ≤ s0 ∧ s0 < 2147483648)
    (k1 : GM E (m_X11_soonest d) P 105 [.ref 0, vi a1, vi a2] [vl s0, .ref 0] mem) :
    GM E (m_X11_soonest d) P 104 [.ref 0, vi a1, vi a2] [vi s0, .ref 0] mem := by
  refine G_i2l dX11_soonest_104 (w1) ?_
  exact k1
set_option maxRecDepth 20000 in
set_option maxHeartbeats 1000000 in
theorem sg_X11_soonest_108 {E : Nat × (Nat → Int32)} {d : Nat} {P : Option Value → Mem → Prop} {mem : Mem} {a1 : Int} {a2 : Int}
    (k1 : GM E (m_X11_soonest d) P 87 [.ref 0, vi a1, vi (a2 + 1)] [] mem) :
    GM E (m_X11_soonest d) P 108 [.ref 0, vi a1, vi a2] [] mem := by
  refine G_iinc (z := (a2 + 1)) dX11_soonest_108 rfl rfl (by decide : 2 < 3) rfl ?_
  refine G_goto (tgt := 87) dX11_soonest_111 (by decide) ?_
  exact k1
abbrev m_X11_street (d : Nat) : Mu := (cX11_street, 4, RX11, (some .int), ⟨d, 0, 0, 40 * d⟩, "street")
set_option maxRecDepth 20000 in
set_option maxHeartbeats 1000000 in
theorem sg_X11_street_0 {E : Nat × (Nat → Int32)} {d : Nat} {P : Option Value → Mem → Prop} {mem : Mem} {a1 : Int} {a2 : Int}
    (k1 : GM E (m_X11_street d) P 5 [.ref 0, vi a1, vi a2, un] [vi a1, .ref 9] mem) :
    GM E (m_X11_street d) P 0 [.ref 0, vi a1, vi a2, un] [] mem := by
  refine G_aload_n dX11_street_0 rfl ?_
  refine G_getR (t := 9) dX11_street_1 fl_11_33 (by decide) sh_0 rr_0_3 ?_
  refine G_iload_n dX11_street_4 rfl ?_
  exact k1
set_option maxRecDepth 20000 in
set_option maxHeartbeats 1000000 in
theorem sg_X11_street_8n {E : Nat × (Nat → Int32)} {d : Nat} {P : Option Value → Mem → Prop} {mem : Mem} {a1 : Int} {a2 : Int}
    (k1 : GM E (m_X11_street d) P 13 [.ref 0, vi a1, vi a2, .null] [] mem) :
    GM E (m_X11_street d) P 8 [.ref 0, vi a1, vi a2, un] [.null] mem := by
  refine G_astoreNull_n dX11_street_8 rfl (by decide : 3 < 4) rfl ?_
  refine G_aloadNull_n dX11_street_9 rfl ?_
  refine G_ifnonnullZ dX11_street_10 ?_
  exact k1
set_option maxRecDepth 20000 in
set_option maxHeartbeats 1000000 in
theorem sg_X11_street_8r {E : Nat × (Nat → Int32)} {d : Nat} {P : Option Value → Mem → Prop} {mem : Mem} {a1 : Int} {a2 : Int} {os0 : Nat} (hos0 : os0 ∈ streetL) (w1 : -2147483648 ≤ a2 ∧ a2 < 2147483648) (w2 : ¬ a2 = 0 → ¬ a2 = 1 → ¬ a2 = 2 → a2 = 3 → -2147483648 ≤ (mem os0 5) ∧ (mem os0 5) < 2147483648)
    (k1 : a2 = 0 → P (some (vi (mem os0 2))) mem)
    (k2 : ¬ a2 = 0 → a2 = 1 → P (some (vi (mem os0 3))) mem)
    (k3 : ¬ a2 = 0 → ¬ a2 = 1 → a2 = 2 → P (some (vi (mem os0 4))) mem)
    (k4 : ¬ a2 = 0 → ¬ a2 = 1 → ¬ a2 = 2 → a2 = 3 → (mem os0 5) = 0 → P (some (vi 0)) mem)
    (k5 : ¬ a2 = 0 → ¬ a2 = 1 → ¬ a2 = 2 → a2 = 3 → ¬ (mem os0 5) = 0 → P (some (vi 1)) mem)
    (k6 : ¬ a2 = 0 → ¬ a2 = 1 → ¬ a2 = 2 → ¬ a2 = 3 → a2 = 4 → P (some (vi (mem os0 6))) mem)
    (k7 : ¬ a2 = 0 → ¬ a2 = 1 → ¬ a2 = 2 → ¬ a2 = 3 → ¬ a2 = 4 → a2 = 5 → P (some (vi (mem os0 7))) mem)
    (k8 : ¬ a2 = 0 → ¬ a2 = 1 → ¬ a2 = 2 → ¬ a2 = 3 → ¬ a2 = 4 → ¬ a2 = 5 → a2 = 6 → P (some (vi (mem os0 8))) mem)
    (k9 : ¬ a2 = 0 → ¬ a2 = 1 → ¬ a2 = 2 → ¬ a2 = 3 → ¬ a2 = 4 → ¬ a2 = 5 → ¬ a2 = 6 → a2 = 7 → GM E (m_X11_street d) P 124 [.ref 0, vi a1, vi a2, .ref os0] [vi a1, .ref 23] mem)
    (k10 : ¬ a2 = 0 → ¬ a2 = 1 → ¬ a2 = 2 → ¬ a2 = 3 → ¬ a2 = 4 → ¬ a2 = 5 → ¬ a2 = 6 → ¬ a2 = 7 → a2 = 8 → GM E (m_X11_street d) P 141 [.ref 0, vi a1, vi a2, .ref os0] [vi a1, .ref 23, .ref os0, .ref 3] mem)
    (k11 : ¬ a2 = 0 → ¬ a2 = 1 → ¬ a2 = 2 → ¬ a2 = 3 → ¬ a2 = 4 → ¬ a2 = 5 → ¬ a2 = 6 → ¬ a2 = 7 → ¬ a2 = 8 → GM E (m_X11_street d) P 156 [.ref 0, vi a1, vi a2, .ref os0] [] mem) :
    GM E (m_X11_street d) P 8 [.ref 0, vi a1, vi a2, un] [.ref os0] mem := by
  refine G_astore_n dX11_street_8 rfl (by decide : 3 < 4) rfl ?_
  refine G_aload_n dX11_street_9 rfl ?_
  refine G_ifnonnull (tgt := 23) dX11_street_10 (by decide) ?_
  refine G_iload_n dX11_street_23 rfl ?_
  by_cases c1 : a2 = 0
  · refine G_tableIn (off := 52) (tgt := 76) dX11_street_24 (w1) (by omega) (by omega) (by rw [c1]; rfl) (by decide) ?_
    refine G_aload_n dX11_street_76 rfl ?_
    refine G_getI (z := (mem os0 2)) dX11_street_77 fl_11_144 (ltStreet0 hos0) (shStreet0 hos0) rfl ?_
    exact G_iret dX11_street_80 rfl (Nat.zero_le _) (Nat.zero_le _) (Nat.le_refl _) ⟨rfl, k1 c1⟩
  by_cases c2 : a2 = 1
  · refine G_tableIn (off := 57) (tgt := 81) dX11_street_24 (w1) (by omega) (by omega) (by rw [c2]; rfl) (by decide) ?_
    refine G_aload_n dX11_street_81 rfl ?_
    refine G_getI (z := (mem os0 3)) dX11_street_82 fl_11_149 (ltStreet0 hos0) (shStreet0 hos0) rfl ?_
    exact G_iret dX11_street_85 rfl (Nat.zero_le _) (Nat.zero_le _) (Nat.le_refl _) ⟨rfl, k2 c1 c2⟩
  by_cases c3 : a2 = 2
  · refine G_tableIn (off := 62) (tgt := 86) dX11_street_24 (w1) (by omega) (by omega) (by rw [c3]; rfl) (by decide) ?_
    refine G_aload_n dX11_street_86 rfl ?_
    refine G_getI (z := (mem os0 4)) dX11_street_87 fl_11_152 (ltStreet0 hos0) (shStreet0 hos0) rfl ?_
    exact G_iret dX11_street_90 rfl (Nat.zero_le _) (Nat.zero_le _) (Nat.le_refl _) ⟨rfl, k3 c1 c2 c3⟩
  by_cases c4 : a2 = 3
  · refine G_tableIn (off := 67) (tgt := 91) dX11_street_24 (w1) (by omega) (by omega) (by rw [c4]; rfl) (by decide) ?_
    refine G_aload_n dX11_street_91 rfl ?_
    refine G_getI (z := (mem os0 5)) dX11_street_92 fl_11_155 (ltStreet0 hos0) (shStreet0 hos0) rfl ?_
    refine G_if_eq (tgt := 102) dX11_street_95 (by decide) (w2 c1 c2 c3 c4) (fun c5 => ?_) (fun c5 => ?_)
    · -- (mem os0 5) = 0
      refine G_iconst (z := 0) dX11_street_102 rfl ?_
      exact G_iret dX11_street_103 rfl (Nat.zero_le _) (Nat.zero_le _) (Nat.le_refl _) ⟨rfl, k4 c1 c2 c3 c4 c5⟩
    · -- ¬ (mem os0 5) = 0
      refine G_iconst (z := 1) dX11_street_98 rfl ?_
      refine G_goto (tgt := 103) dX11_street_99 (by decide) ?_
      exact G_iret dX11_street_103 rfl (Nat.zero_le _) (Nat.zero_le _) (Nat.le_refl _) ⟨rfl, k5 c1 c2 c3 c4 c5⟩
  by_cases c6 : a2 = 4
  · refine G_tableIn (off := 80) (tgt := 104) dX11_street_24 (w1) (by omega) (by omega) (by rw [c6]; rfl) (by decide) ?_
    refine G_aload_n dX11_street_104 rfl ?_
    refine G_getI (z := (mem os0 6)) dX11_street_105 fl_11_159 (ltStreet0 hos0) (shStreet0 hos0) rfl ?_
    exact G_iret dX11_street_108 rfl (Nat.zero_le _) (Nat.zero_le _) (Nat.le_refl _) ⟨rfl, k6 c1 c2 c3 c4 c6⟩
  by_cases c7 : a2 = 5
  · refine G_tableIn (off := 85) (tgt := 109) dX11_street_24 (w1) (by omega) (by omega) (by rw [c7]; rfl) (by decide) ?_
    refine G_aload_n dX11_street_109 rfl ?_
    refine G_getI (z := (mem os0 7)) dX11_street_110 fl_11_162 (ltStreet0 hos0) (shStreet0 hos0) rfl ?_
    exact G_iret dX11_street_113 rfl (Nat.zero_le _) (Nat.zero_le _) (Nat.le_refl _) ⟨rfl, k7 c1 c2 c3 c4 c6 c7⟩
  by_cases c8 : a2 = 6
  · refine G_tableIn (off := 90) (tgt := 114) dX11_street_24 (w1) (by omega) (by omega) (by rw [c8]; rfl) (by decide) ?_
    refine G_aload_n dX11_street_114 rfl ?_
    refine G_getI (z := (mem os0 8)) dX11_street_115 fl_11_165 (ltStreet0 hos0) (shStreet0 hos0) rfl ?_
    exact G_iret dX11_street_118 rfl (Nat.zero_le _) (Nat.zero_le _) (Nat.le_refl _) ⟨rfl, k8 c1 c2 c3 c4 c6 c7 c8⟩
  by_cases c9 : a2 = 7
  · refine G_tableIn (off := 95) (tgt := 119) dX11_street_24 (w1) (by omega) (by omega) (by rw [c9]; rfl) (by decide) ?_
    refine G_aload_n dX11_street_119 rfl ?_
    refine G_getR (t := 23) dX11_street_120 fl_11_40 (by decide) sh_0 rr_0_4 ?_
    refine G_iload_n dX11_street_123 rfl ?_
    exact k9 c1 c2 c3 c4 c6 c7 c8 c9
  by_cases c10 : a2 = 8
  · refine G_tableIn (off := 107) (tgt := 131) dX11_street_24 (w1) (by omega) (by omega) (by rw [c10]; rfl) (by decide) ?_
    refine G_aload_n dX11_street_131 rfl ?_
    refine G_getR (t := 3) dX11_street_132 fl_11_19 (by decide) sh_0 rr_0_1 ?_
    refine G_aload_n dX11_street_135 rfl ?_
    refine G_aload_n dX11_street_136 rfl ?_
    refine G_getR (t := 23) dX11_street_137 fl_11_40 (by decide) sh_0 rr_0_4 ?_
    refine G_iload_n dX11_street_140 rfl ?_
    exact k10 c1 c2 c3 c4 c6 c7 c8 c9 c10
  refine G_tableOut (tgt := 156) dX11_street_24 (w1) (by omega) (by decide) ?_
  exact k11 c1 c2 c3 c4 c6 c7 c8 c9 c10
set_option maxRecDepth 20000 in
set_option maxHeartbeats 1000000 in
theorem sg_X11_street_127 {E : Nat × (Nat → Int32)} {d : Nat} {P : Option Value → Mem → Prop} {mem : Mem} {a1 : Int} {a2 : Int} {o3 : Nat} {s0 : Int} (ho3 : o3 ∈ streetL)
    (k1 : GM E (m_X11_street d) P 127 [.ref 0, vi a1, vi a2, .ref o3] [vi s0] mem) :
    GM E (m_X11_street d) P 127 [.ref 0, vi a1, vi a2, .ref o3] [vi s0] mem := by
  exact k1
set_option maxRecDepth 20000 in
set_option maxHeartbeats 1000000 in
theorem sg_X11_street_130 {E : Nat × (Nat → Int32)} {d : Nat} {P : Option Value → Mem → Prop} {mem : Mem} {a1 : Int} {a2 : Int} {o3 : Nat} {s0 : Int} (ho3 : o3 ∈ streetL)
    (k1 : P (some (vi s0)) mem) :
    GM E (m_X11_street d) P 130 [.ref 0, vi a1, vi a2, .ref o3] [vi s0] mem := by
  exact G_iret dX11_street_130 rfl (Nat.zero_le _) (Nat.zero_le _) (Nat.le_refl _) ⟨rfl, k1⟩
set_option maxRecDepth 20000 in
set_option maxHeartbeats 1000000 in
theorem sg_X11_street_144 {E : Nat × (Nat → Int32)} {d : Nat} {P : Option Value → Mem → Prop} {mem : Mem} {a1 : Int} {a2 : Int} {o3 : Nat} {s0 : Int} (ho3 : o3 ∈ streetL)
    (k1 : GM E (m_X11_street d) P 149 [.ref 0, vi a1, vi a2, .ref o3] [vi 2, .ref 3, vi s0, .ref o3, .ref 3] mem) :
    GM E (m_X11_street d) P 144 [.ref 0, vi a1, vi a2, .ref o3] [vi s0, .ref o3, .ref 3] mem := by
  refine G_aload_n dX11_street_144 rfl ?_
  refine G_getR (t := 3) dX11_street_145 fl_11_19 (by decide) sh_0 rr_0_1 ?_
  refine G_iconst (z := 2) dX11_street_148 rfl ?_
  exact k1
set_option maxRecDepth 20000 in
set_option maxHeartbeats 1000000 in
theorem sg_X11_street_152 {E : Nat × (Nat → Int32)} {d : Nat} {P : Option Value → Mem → Prop} {mem : Mem} {a1 : Int} {a2 : Int} {o3 : Nat} {s0 : Int} {s1 : Int} (ho3 : o3 ∈ streetL)
    (k1 : GM E (m_X11_street d) P 152 [.ref 0, vi a1, vi a2, .ref o3] [vi s0, vi s1, .ref o3, .ref 3] mem) :
    GM E (m_X11_street d) P 152 [.ref 0, vi a1, vi a2, .ref o3] [vi s0, vi s1, .ref o3, .ref 3] mem := by
  exact k1
set_option maxRecDepth 20000 in
set_option maxHeartbeats 1000000 in
theorem sg_X11_street_155 {E : Nat × (Nat → Int32)} {d : Nat} {P : Option Value → Mem → Prop} {mem : Mem} {a1 : Int} {a2 : Int} {o3 : Nat} {s0 : Int} (ho3 : o3 ∈ streetL)
    (k1 : P (some (vi s0)) mem) :
    GM E (m_X11_street d) P 155 [.ref 0, vi a1, vi a2, .ref o3] [vi s0] mem := by
  exact G_iret dX11_street_155 rfl (Nat.zero_le _) (Nat.zero_le _) (Nat.le_refl _) ⟨rfl, k1⟩
abbrev m_X11_streets (d : Nat) : Mu := (cX11_streets, 4, RX11, (some .int), ⟨d, 0, 0, 40 * d⟩, "streets")
set_option maxRecDepth 20000 in
set_option maxHeartbeats 1000000 in
theorem sg_X11_streets_0 {E : Nat × (Nat → Int32)} {d : Nat} {P : Option Value → Mem → Prop} {mem : Mem}
    (k1 : GM E (m_X11_streets d) P 16 [.ref 0, vi (mem 9 1), un, un] [.ref 1, .ref 9] mem) :
    GM E (m_X11_streets d) P 0 [.ref 0, un, un, un] [] mem := by
  refine G_aload_n dX11_streets_0 rfl ?_
  refine G_getR (t := 9) dX11_streets_1 fl_11_33 (by decide) sh_0 rr_0_3 ?_
  refine G_getI (z := (mem 9 1)) dX11_streets_4 fl_11_113 (by decide) sh_9 rfl ?_
  refine G_istore_n dX11_streets_7 rfl (by decide : 1 < 4) rfl ?_
  refine G_aload_n dX11_streets_8 rfl ?_
  refine G_getR (t := 9) dX11_streets_9 fl_11_33 (by decide) sh_0 rr_0_3 ?_
  refine G_aload_n dX11_streets_12 rfl ?_
  refine G_getR (t := 1) dX11_streets_13 fl_11_12 (by decide) sh_0 rr_0_0 ?_
  exact k1
set_option maxRecDepth 20000 in
set_option maxHeartbeats 1000000 in
theorem sg_X11_streets_19 {E : Nat × (Nat → Int32)} {d : Nat} {P : Option Value → Mem → Prop} {mem : Mem} {a1 : Int} {s0 : Int}
    (k1 : GM E (m_X11_streets d) P 24 [.ref 0, vi a1, vi s0, un] [.ref 1] mem) :
    GM E (m_X11_streets d) P 19 [.ref 0, vi a1, un, un] [vi s0] mem := by
  refine G_istore_n dX11_streets_19 rfl (by decide : 2 < 4) rfl ?_
  refine G_aload_n dX11_streets_20 rfl ?_
  refine G_getR (t := 1) dX11_streets_21 fl_11_12 (by decide) sh_0 rr_0_0 ?_
  exact k1
set_option maxRecDepth 20000 in
set_option maxHeartbeats 1000000 in
theorem sg_X11_streets_27 {E : Nat × (Nat → Int32)} {d : Nat} {P : Option Value → Mem → Prop} {mem : Mem} {a1 : Int} {a2 : Int}
    (k1 : GM E (m_X11_streets d) P 29 [.ref 0, vi a1, vi a2, vi a1] [] mem) :
    GM E (m_X11_streets d) P 27 [.ref 0, vi a1, vi a2, un] [] mem := by
  refine G_iload_n dX11_streets_27 rfl ?_
  refine G_istore_n dX11_streets_28 rfl (by decide : 3 < 4) rfl ?_
  exact k1
set_option maxRecDepth 20000 in
set_option maxHeartbeats 1000000 in
theorem sg_X11_streets_29 {E : Nat × (Nat → Int32)} {d : Nat} {P : Option Value → Mem → Prop} {mem : Mem} {a1 : Int} {a2 : Int} {a3 : Int} (w1 : -2147483648 ≤ a3 ∧ a3 < 2147483648) (w2 : -2147483648 ≤ (mem 9 1) ∧ (mem 9 1) < 2147483648) (w3 : -2147483648 ≤ a2 ∧ a2 < 2147483648)
    (k1 : (mem 9 1) ≤ a3 → a2 ≤ 0 → P (some (vi a2)) mem)
    (k2 : (mem 9 1) ≤ a3 → ¬ a2 ≤ 0 → GM E (m_X11_streets d) P 70 [.ref 0, vi a1, vi a2, vi a3] [.ref 27] mem)
    (k3 : ¬ (mem 9 1) ≤ a3 → GM E (m_X11_streets d) P 50 [.ref 0, vi a1, vi a2, vi a3] [vi a3, .ref 9, vi a3, .ref 23] mem) :
    GM E (m_X11_streets d) P 29 [.ref 0, vi a1, vi a2, vi a3] [] mem := by
  refine G_iload_n dX11_streets_29 rfl ?_
  refine G_aload_n dX11_streets_30 rfl ?_
  refine G_getR (t := 9) dX11_streets_31 fl_11_33 (by decide) sh_0 rr_0_3 ?_
  refine G_getI (z := (mem 9 1)) dX11_streets_34 fl_11_113 (by decide) sh_9 rfl ?_
  refine G_icmp_ge (tgt := 62) dX11_streets_37 (by decide) (w1) (w2) (fun c1 => ?_) (fun c1 => ?_)
  · -- (mem 9 1) ≤ a3
    refine G_iload_n dX11_streets_62 rfl ?_
    refine G_if_le (tgt := 73) dX11_streets_63 (by decide) (w3) (fun c2 => ?_) (fun c2 => ?_)
    · -- a2 ≤ 0
      refine G_iload_n dX11_streets_73 rfl ?_
      exact G_iret dX11_streets_74 rfl (Nat.zero_le _) (Nat.zero_le _) (Nat.le_refl _) ⟨rfl, k1 c1 c2⟩
    · -- ¬ a2 ≤ 0
      refine G_aload_n dX11_streets_66 rfl ?_
      refine G_getR (t := 27) dX11_streets_67 fl_11_47 (by decide) sh_0 rr_0_5 ?_
      exact k2 c1 c2
  · -- ¬ (mem 9 1) ≤ a3
    refine G_aload_n dX11_streets_40 rfl ?_
    refine G_getR (t := 23) dX11_streets_41 fl_11_40 (by decide) sh_0 rr_0_4 ?_
    refine G_iload_n dX11_streets_44 rfl ?_
    refine G_aload_n dX11_streets_45 rfl ?_
    refine G_getR (t := 9) dX11_streets_46 fl_11_33 (by decide) sh_0 rr_0_3 ?_
    refine G_iload_n dX11_streets_49 rfl ?_
    exact k3 c1
set_option maxRecDepth 20000 in
set_option maxHeartbeats 1000000 in
theorem sg_X11_streets_53 {E : Nat × (Nat → Int32)} {d : Nat} {P : Option Value → Mem → Prop} {mem : Mem} {a1 : Int} {a2 : Int} {a3 : Int} {s0 : Int} {s1 : Int}
    (k1 : GM E (m_X11_streets d) P 53 [.ref 0, vi a1, vi a2, vi a3] [vi s0, vi s1, .ref 23] mem) :
    GM E (m_X11_streets d) P 53 [.ref 0, vi a1, vi a2, vi a3] [vi s0, vi s1, .ref 23] mem := by
  exact k1
set_option maxRecDepth 20000 in
set_option maxHeartbeats 1000000 in
theorem sg_X11_streets_56 {E : Nat × (Nat → Int32)} {d : Nat} {P : Option Value → Mem → Prop} {mem : Mem} {a1 : Int} {a2 : Int} {a3 : Int}
    (k1 : GM E (m_X11_streets d) P 29 [.ref 0, vi a1, vi a2, vi (a3 + 1)] [] mem) :
    GM E (m_X11_streets d) P 56 [.ref 0, vi a1, vi a2, vi a3] [] mem := by
  refine G_iinc (z := (a3 + 1)) dX11_streets_56 rfl rfl (by decide : 3 < 4) rfl ?_
  refine G_goto (tgt := 29) dX11_streets_59 (by decide) ?_
  exact k1
set_option maxRecDepth 20000 in
set_option maxHeartbeats 1000000 in
theorem sg_X11_streets_73 {E : Nat × (Nat → Int32)} {d : Nat} {P : Option Value → Mem → Prop} {mem : Mem} {a1 : Int} {a2 : Int} {a3 : Int}
    (k1 : P (some (vi a2)) mem) :
    GM E (m_X11_streets d) P 73 [.ref 0, vi a1, vi a2, vi a3] [] mem := by
  refine G_iload_n dX11_streets_73 rfl ?_
  exact G_iret dX11_streets_74 rfl (Nat.zero_le _) (Nat.zero_le _) (Nat.le_refl _) ⟨rfl, k1⟩
abbrev m_X11_takes (d : Nat) : Mu := (cX11_takes, 4, RX11, (some .int), ⟨d, 0, 0, 40 * d⟩, "takes")
set_option maxRecDepth 20000 in
set_option maxHeartbeats 1000000 in
theorem sg_X11_takes_0 {E : Nat × (Nat → Int32)} {d : Nat} {P : Option Value → Mem → Prop} {mem : Mem} {a1 : Int} {a2 : Int}
    (k1 : GM E (m_X11_takes d) P 5 [.ref 0, vi a1, vi a2, un] [vi a1, .ref 9] mem) :
    GM E (m_X11_takes d) P 0 [.ref 0, vi a1, vi a2, un] [] mem := by
  refine G_aload_n dX11_takes_0 rfl ?_
  refine G_getR (t := 9) dX11_takes_1 fl_11_33 (by decide) sh_0 rr_0_3 ?_
  refine G_iload_n dX11_takes_4 rfl ?_
  exact k1
set_option maxRecDepth 20000 in
set_option maxHeartbeats 1000000 in
theorem sg_X11_takes_8n {E : Nat × (Nat → Int32)} {d : Nat} {P : Option Value → Mem → Prop} {mem : Mem} {a1 : Int} {a2 : Int}
    (k1 : P (some (vi (-1))) mem) :
    GM E (m_X11_takes d) P 8 [.ref 0, vi a1, vi a2, un] [.null] mem := by
  refine G_astoreNull_n dX11_takes_8 rfl (by decide : 3 < 4) rfl ?_
  refine G_aloadNull_n dX11_takes_9 rfl ?_
  refine G_ifnullZ (tgt := 22) dX11_takes_10 (by decide) ?_
  refine G_iconst (z := (-1)) dX11_takes_22 rfl ?_
  exact G_iret dX11_takes_23 rfl (Nat.zero_le _) (Nat.zero_le _) (Nat.le_refl _) ⟨rfl, k1⟩
set_option maxRecDepth 20000 in
set_option maxHeartbeats 1000000 in
theorem sg_X11_takes_8r {E : Nat × (Nat → Int32)} {d : Nat} {P : Option Value → Mem → Prop} {mem : Mem} {a1 : Int} {a2 : Int} {os0 : Nat} (hos0 : os0 ∈ streetL) (w1 : -2147483648 ≤ a2 ∧ a2 < 2147483648)
    (k1 : a2 < 0 → P (some (vi (-1))) mem)
    (k2 : ¬ a2 < 0 → a2 < 3 → GM E (m_X11_takes d) P 33 [.ref 0, vi a1, vi a2, .ref os0] [vi 1, .ref 3, .ref 100] mem)
    (k3 : ¬ a2 < 0 → ¬ a2 < 3 → P (some (vi (-1))) mem) :
    GM E (m_X11_takes d) P 8 [.ref 0, vi a1, vi a2, un] [.ref os0] mem := by
  refine G_astore_n dX11_takes_8 rfl (by decide : 3 < 4) rfl ?_
  refine G_aload_n dX11_takes_9 rfl ?_
  refine G_ifnull dX11_takes_10 ?_
  refine G_iload_n dX11_takes_13 rfl ?_
  refine G_if_lt (tgt := 22) dX11_takes_14 (by decide) (w1) (fun c1 => ?_) (fun c1 => ?_)
  · -- a2 < 0
    refine G_iconst (z := (-1)) dX11_takes_22 rfl ?_
    exact G_iret dX11_takes_23 rfl (Nat.zero_le _) (Nat.zero_le _) (Nat.le_refl _) ⟨rfl, k1 c1⟩
  · -- ¬ a2 < 0
    refine G_iload_n dX11_takes_17 rfl ?_
    refine G_iconst (z := 3) dX11_takes_18 rfl ?_
    refine G_icmp_lt (tgt := 24) dX11_takes_19 (by decide) (w1) (by decide) (fun c2 => ?_) (fun c2 => ?_)
    · -- a2 < 3
      refine G_aload_n dX11_takes_24 rfl ?_
      refine G_getR (t := 100) dX11_takes_25 fl_11_65 (by decide) sh_0 rr_0_7 ?_
      refine G_aload_n dX11_takes_28 rfl ?_
      refine G_getR (t := 3) dX11_takes_29 fl_11_19 (by decide) sh_0 rr_0_1 ?_
      refine G_iconst (z := 1) dX11_takes_32 rfl ?_
      exact k2 c1 c2
    · -- ¬ a2 < 3
      refine G_iconst (z := (-1)) dX11_takes_22 rfl ?_
      exact G_iret dX11_takes_23 rfl (Nat.zero_le _) (Nat.zero_le _) (Nat.le_refl _) ⟨rfl, k3 c1 c2⟩
set_option maxRecDepth 20000 in
set_option maxHeartbeats 1000000 in
theorem sg_X11_takes_36 {E : Nat × (Nat → Int32)} {d : Nat} {P : Option Value → Mem → Prop} {mem : Mem} {a1 : Int} {a2 : Int} {o3 : Nat} {s0 : Int} (ho3 : o3 ∈ streetL)
    (k1 : GM E (m_X11_takes d) P 40 [.ref 0, vi a1, vi a2, .ref o3] [vi (mem o3 4), vi s0, .ref 100] mem) :
    GM E (m_X11_takes d) P 36 [.ref 0, vi a1, vi a2, .ref o3] [vi s0, .ref 100] mem := by
  refine G_aload_n dX11_takes_36 rfl ?_
  refine G_getI (z := (mem o3 4)) dX11_takes_37 fl_11_152 (ltStreet0 ho3) (shStreet0 ho3) rfl ?_
  exact k1
set_option maxRecDepth 20000 in
set_option maxHeartbeats 1000000 in
theorem sg_X11_takes_43 {E : Nat × (Nat → Int32)} {d : Nat} {P : Option Value → Mem → Prop} {mem : Mem} {a1 : Int} {a2 : Int} {o3 : Nat} (ho3 : o3 ∈ streetL)
    (k1 : GM E (m_X11_takes d) P 54 [.ref 0, vi a1, vi a2, .ref o3] [vi a1, .ref 23, vi a2, .ref o3, .ref 100] mem) :
    GM E (m_X11_takes d) P 43 [.ref 0, vi a1, vi a2, .ref o3] [] mem := by
  refine G_aload_n dX11_takes_43 rfl ?_
  refine G_getR (t := 100) dX11_takes_44 fl_11_65 (by decide) sh_0 rr_0_7 ?_
  refine G_aload_n dX11_takes_47 rfl ?_
  refine G_iload_n dX11_takes_48 rfl ?_
  refine G_aload_n dX11_takes_49 rfl ?_
  refine G_getR (t := 23) dX11_takes_50 fl_11_40 (by decide) sh_0 rr_0_4 ?_
  refine G_iload_n dX11_takes_53 rfl ?_
  exact k1
set_option maxRecDepth 20000 in
set_option maxHeartbeats 1000000 in
theorem sg_X11_takes_57 {E : Nat × (Nat → Int32)} {d : Nat} {P : Option Value → Mem → Prop} {mem : Mem} {a1 : Int} {a2 : Int} {o3 : Nat} {s0 : Int} {s1 : Int} (ho3 : o3 ∈ streetL)
    (k1 : GM E (m_X11_takes d) P 57 [.ref 0, vi a1, vi a2, .ref o3] [vi s0, vi s1, .ref o3, .ref 100] mem) :
    GM E (m_X11_takes d) P 57 [.ref 0, vi a1, vi a2, .ref o3] [vi s0, vi s1, .ref o3, .ref 100] mem := by
  exact k1
set_option maxRecDepth 20000 in
set_option maxHeartbeats 1000000 in
theorem sg_X11_takes_60 {E : Nat × (Nat → Int32)} {d : Nat} {P : Option Value → Mem → Prop} {mem : Mem} {a1 : Int} {a2 : Int} {o3 : Nat} (ho3 : o3 ∈ streetL)
    (k1 : GM E (m_X11_takes d) P 68 [.ref 0, vi a1, vi a2, .ref o3] [vi 1000000, vi 0, .ref 100] mem) :
    GM E (m_X11_takes d) P 60 [.ref 0, vi a1, vi a2, .ref o3] [] mem := by
  refine G_aload_n dX11_takes_60 rfl ?_
  refine G_getR (t := 100) dX11_takes_61 fl_11_65 (by decide) sh_0 rr_0_7 ?_
  refine G_iconst (z := 0) dX11_takes_64 rfl ?_
  refine G_ldcw (z := 1000000) dX11_takes_65 kc_11_317 ?_
  exact k1
set_option maxRecDepth 20000 in
set_option maxHeartbeats 1000000 in
theorem sg_X11_takes_71 {E : Nat × (Nat → Int32)} {d : Nat} {P : Option Value → Mem → Prop} {mem : Mem} {a1 : Int} {a2 : Int} {o3 : Nat} (ho3 : o3 ∈ streetL) (w1 : -2147483648 ≤ (mem 100 18) ∧ (mem 100 18) < 2147483648)
    (k1 : GM E (m_X11_takes d) P 80 [.ref 0, vi a1, vi a2, .ref o3] [vl (mem 100 18), .ref 0] mem) :
    GM E (m_X11_takes d) P 71 [.ref 0, vi a1, vi a2, .ref o3] [] mem := by
  refine G_aload_n dX11_takes_71 rfl ?_
  refine G_aload_n dX11_takes_72 rfl ?_
  refine G_getR (t := 100) dX11_takes_73 fl_11_65 (by decide) sh_0 rr_0_7 ?_
  refine G_getI (z := (mem 100 18)) dX11_takes_76 fl_11_318 (by decide) sh_100 rfl ?_
  refine G_i2l dX11_takes_79 (w1) ?_
  exact k1
set_option maxRecDepth 20000 in
set_option maxHeartbeats 1000000 in
theorem sg_X11_takes_83 {E : Nat × (Nat → Int32)} {d : Nat} {P : Option Value → Mem → Prop} {mem : Mem} {a1 : Int} {a2 : Int} {o3 : Nat} (ho3 : o3 ∈ streetL) (w1 : -2147483648 ≤ (mem 100 11) ∧ (mem 100 11) < 2147483648)
    (k1 : GM E (m_X11_takes d) P 92 [.ref 0, vi a1, vi a2, .ref o3] [vl (mem 100 11), .ref 0] mem) :
    GM E (m_X11_takes d) P 83 [.ref 0, vi a1, vi a2, .ref o3] [] mem := by
  refine G_aload_n dX11_takes_83 rfl ?_
  refine G_aload_n dX11_takes_84 rfl ?_
  refine G_getR (t := 100) dX11_takes_85 fl_11_65 (by decide) sh_0 rr_0_7 ?_
  refine G_getI (z := (mem 100 11)) dX11_takes_88 fl_11_321 (by decide) sh_100 rfl ?_
  refine G_i2l dX11_takes_91 (w1) ?_
  exact k1
set_option maxRecDepth 20000 in
set_option maxHeartbeats 1000000 in
theorem sg_X11_takes_95 {E : Nat × (Nat → Int32)} {d : Nat} {P : Option Value → Mem → Prop} {mem : Mem} {a1 : Int} {a2 : Int} {o3 : Nat} (ho3 : o3 ∈ streetL)
    (k1 : GM E (m_X11_takes d) P 99 [.ref 0, vi a1, vi a2, .ref o3] [.ref 100] mem) :
    GM E (m_X11_takes d) P 95 [.ref 0, vi a1, vi a2, .ref o3] [] mem := by
  refine G_aload_n dX11_takes_95 rfl ?_
  refine G_getR (t := 100) dX11_takes_96 fl_11_65 (by decide) sh_0 rr_0_7 ?_
  exact k1
set_option maxRecDepth 20000 in
set_option maxHeartbeats 1000000 in
theorem sg_X11_takes_102 {E : Nat × (Nat → Int32)} {d : Nat} {P : Option Value → Mem → Prop} {mem : Mem} {a1 : Int} {a2 : Int} {o3 : Nat} {s0 : Int} (ho3 : o3 ∈ streetL)
    (k1 : P (some (vi s0)) mem) :
    GM E (m_X11_takes d) P 102 [.ref 0, vi a1, vi a2, .ref o3] [vi s0] mem := by
  exact G_iret dX11_takes_102 rfl (Nat.zero_le _) (Nat.zero_le _) (Nat.le_refl _) ⟨rfl, k1⟩
abbrev m_X11_tell (d : Nat) : Mu := (cX11_tell, 3, RX11, none, ⟨d, 0, 0, 40 * d⟩, "tell")
set_option maxRecDepth 20000 in
set_option maxHeartbeats 1000000 in
theorem sg_X11_tell_0 {E : Nat × (Nat → Int32)} {d : Nat} {P : Option Value → Mem → Prop} {mem : Mem} {a1 : Int}
    (k1 : GM E (m_X11_tell d) P 1 [.ref 0, vl a1, un] [.ref 0] mem) :
    GM E (m_X11_tell d) P 0 [.ref 0, vl a1, un] [] mem := by
  refine G_aload_n dX11_tell_0 rfl ?_
  exact k1
set_option maxRecDepth 20000 in
set_option maxHeartbeats 1000000 in
theorem sg_X11_tell_4 {E : Nat × (Nat → Int32)} {d : Nat} {P : Option Value → Mem → Prop} {mem : Mem} {a1 : Int}
    (k1 : GM E (m_X11_tell d) P 6 [.ref 0, vl a1, un] [vl a1, .ref 0] mem) :
    GM E (m_X11_tell d) P 4 [.ref 0, vl a1, un] [] mem := by
  refine G_aload_n dX11_tell_4 rfl ?_
  refine G_lload_n dX11_tell_5 rfl ?_
  exact k1
set_option maxRecDepth 20000 in
set_option maxHeartbeats 1000000 in
theorem sg_X11_tell_9 {E : Nat × (Nat → Int32)} {d : Nat} {P : Option Value → Mem → Prop} {mem : Mem} {a1 : Int}
    (k1 : P none mem) :
    GM E (m_X11_tell d) P 9 [.ref 0, vl a1, un] [] mem := by
  exact G_vret dX11_tell_9 rfl (Nat.zero_le _) (Nat.zero_le _) (Nat.le_refl _) ⟨rfl, k1⟩
abbrev m_X11_tellMore (d : Nat) : Mu := (cX11_tellMore, 3, RX11, none, ⟨d, 0, 0, 40 * d⟩, "tellMore")
set_option maxRecDepth 20000 in
set_option maxHeartbeats 1000000 in
theorem sg_X11_tellMore_0 {E : Nat × (Nat → Int32)} {d : Nat} {P : Option Value → Mem → Prop} {mem : Mem} {a1 : Int} (w1 : -2147483648 ≤ (mem 0 14) ∧ (mem 0 14) < 2147483648) (q2 : ¬ 6 ≤ (mem 0 14) → 0 ≤ (mem 0 14) ∧ (mem 0 14) < 6)
    (k1 : 6 ≤ (mem 0 14) → P none mem)
    (k2 : ¬ 6 ≤ (mem 0 14) → P none (up2 (up2 mem 168 (mem 0 14) a1) 0 14 ((mem 0 14) + 1))) :
    GM E (m_X11_tellMore d) P 0 [.ref 0, vl a1, un] [] mem := by
  refine G_aload_n dX11_tellMore_0 rfl ?_
  refine G_getI (z := (mem 0 14)) dX11_tellMore_1 fl_11_465 (by decide) sh_0 rfl ?_
  refine G_aload_n dX11_tellMore_4 rfl ?_
  refine G_getR (t := 168) dX11_tellMore_5 fl_11_98 (by decide) sh_0 rr_0_13 ?_
  refine G_alen (z := 6) dX11_tellMore_8 (by decide) sh_168 (by decide) rfl ?_
  refine G_icmp_ge (tgt := 32) dX11_tellMore_9 (by decide) (w1) (by decide) (fun c1 => ?_) (fun c1 => ?_)
  · -- 6 ≤ (mem 0 14)
    exact G_vret dX11_tellMore_32 rfl (Nat.zero_le _) (Nat.zero_le _) (Nat.le_refl _) ⟨rfl, k1 c1⟩
  · -- ¬ 6 ≤ (mem 0 14)
    refine G_aload_n dX11_tellMore_12 rfl ?_
    refine G_getR (t := 168) dX11_tellMore_13 fl_11_98 (by decide) sh_0 rr_0_13 ?_
    refine G_aload_n dX11_tellMore_16 rfl ?_
    refine G_getI (z := (mem 0 14)) dX11_tellMore_17 fl_11_465 (by decide) sh_0 rfl ?_
    refine G_lload_n dX11_tellMore_20 rfl ?_
    refine G_last (mem2 := (up2 mem 168 (mem 0 14) a1)) dX11_tellMore_21 (by decide) sh_168 (by decide) (q2 c1).1 (q2 c1).2 rfl ?_
    refine G_aload_n dX11_tellMore_22 rfl ?_
    refine G_dup dX11_tellMore_23 rfl ?_
    refine G_getI (z := (mem 0 14)) dX11_tellMore_24 fl_11_465 (by decide) sh_0 (by simp [up2, upr]) ?_
    refine G_iconst (z := 1) dX11_tellMore_27 rfl ?_
    refine G_iadd dX11_tellMore_28 ?_
    refine G_putI (mem2 := (up2 (up2 mem 168 (mem 0 14) a1) 0 14 ((mem 0 14) + 1))) dX11_tellMore_29 fp_11_465 (by decide) sh_0 rfl ?_
    exact G_vret dX11_tellMore_32 rfl (Nat.zero_le _) (Nat.zero_le _) (Nat.le_refl _) ⟨rfl, k2 c1⟩
abbrev m_X11_tip (d : Nat) : Mu := (cX11_tip, 3, RX11, (some .int), ⟨d, 0, 0, 40 * d⟩, "tip")
set_option maxRecDepth 20000 in
set_option maxHeartbeats 1000000 in
theorem sg_X11_tip_0 {E : Nat × (Nat → Int32)} {d : Nat} {P : Option Value → Mem → Prop} {mem : Mem}
    (k1 : GM E (m_X11_tip d) P 8 [.ref 0, un, un] [.ref 23, .ref 27] mem) :
    GM E (m_X11_tip d) P 0 [.ref 0, un, un] [] mem := by
  refine G_aload_n dX11_tip_0 rfl ?_
  refine G_getR (t := 27) dX11_tip_1 fl_11_47 (by decide) sh_0 rr_0_5 ?_
  refine G_aload_n dX11_tip_4 rfl ?_
  refine G_getR (t := 23) dX11_tip_5 fl_11_40 (by decide) sh_0 rr_0_4 ?_
  exact k1
set_option maxRecDepth 20000 in
set_option maxHeartbeats 1000000 in
theorem sg_X11_tip_11 {E : Nat × (Nat → Int32)} {d : Nat} {P : Option Value → Mem → Prop} {mem : Mem}
    (k1 : GM E (m_X11_tip d) P 21 [.ref 0, vi (mem 23 3), un] [.ref 0, .ref 0] mem) :
    GM E (m_X11_tip d) P 11 [.ref 0, un, un] [] mem := by
  refine G_aload_n dX11_tip_11 rfl ?_
  refine G_getR (t := 23) dX11_tip_12 fl_11_40 (by decide) sh_0 rr_0_4 ?_
  refine G_getI (z := (mem 23 3)) dX11_tip_15 fl_11_203 (by decide) sh_23 rfl ?_
  refine G_istore_n dX11_tip_18 rfl (by decide : 1 < 3) rfl ?_
  refine G_aload_n dX11_tip_19 rfl ?_
  refine G_aload_n dX11_tip_20 rfl ?_
  exact k1
set_option maxRecDepth 20000 in
set_option maxHeartbeats 1000000 in
theorem sg_X11_tip_24 {E : Nat × (Nat → Int32)} {d : Nat} {P : Option Value → Mem → Prop} {mem : Mem} {a1 : Int} {s0 : Int}
    (k1 : GM E (m_X11_tip d) P 24 [.ref 0, vi a1, un] [vi s0, .ref 0] mem) :
    GM E (m_X11_tip d) P 24 [.ref 0, vi a1, un] [vi s0, .ref 0] mem := by
  exact k1
set_option maxRecDepth 20000 in
set_option maxHeartbeats 1000000 in
theorem sg_X11_tip_27 {E : Nat × (Nat → Int32)} {d : Nat} {P : Option Value → Mem → Prop} {mem : Mem} {a1 : Int} {s0 : Int} (w1 : -2147483648 ≤ s0 ∧ s0 < 2147483648) (w2 : -2147483648 ≤ a1 ∧ a1 < 2147483648)
    (k1 : s0 < 0 → P (some (vi s0)) mem)
    (k2 : ¬ s0 < 0 → GM E (m_X11_tip d) P 35 [.ref 0, vi a1, vi s0] [vl a1, .ref 0] mem) :
    GM E (m_X11_tip d) P 27 [.ref 0, vi a1, un] [vi s0] mem := by
  refine G_istore_n dX11_tip_27 rfl (by decide : 2 < 3) rfl ?_
  refine G_iload_n dX11_tip_28 rfl ?_
  refine G_if_lt (tgt := 38) dX11_tip_29 (by decide) (w1) (fun c1 => ?_) (fun c1 => ?_)
  · -- s0 < 0
    refine G_iload_n dX11_tip_38 rfl ?_
    exact G_iret dX11_tip_39 rfl (Nat.zero_le _) (Nat.zero_le _) (Nat.le_refl _) ⟨rfl, k1 c1⟩
  · -- ¬ s0 < 0
    refine G_aload_n dX11_tip_32 rfl ?_
    refine G_iload_n dX11_tip_33 rfl ?_
    refine G_i2l dX11_tip_34 (w2) ?_
    exact k2 c1
set_option maxRecDepth 20000 in
set_option maxHeartbeats 1000000 in
theorem sg_X11_tip_38 {E : Nat × (Nat → Int32)} {d : Nat} {P : Option Value → Mem → Prop} {mem : Mem} {a1 : Int} {a2 : Int}
    (k1 : P (some (vi a2)) mem) :
    GM E (m_X11_tip d) P 38 [.ref 0, vi a1, vi a2] [] mem := by
  refine G_iload_n dX11_tip_38 rfl ?_
  exact G_iret dX11_tip_39 rfl (Nat.zero_le _) (Nat.zero_le _) (Nat.le_refl _) ⟨rfl, k1⟩
abbrev m_X11_tipnow (d : Nat) : Mu := (cX11_tipnow, 7, RX11, (some .int), ⟨d, 0, 0, 40 * d⟩, "tipnow")
set_option maxRecDepth 20000 in
set_option maxHeartbeats 1000000 in
theorem sg_X11_tipnow_0 {E : Nat × (Nat → Int32)} {d : Nat} {P : Option Value → Mem → Prop} {mem : Mem} {a1 : Int}
    (k1 : GM E (m_X11_tipnow d) P 5 [.ref 0, vi a1, un, un, un, un, un] [vi a1, .ref 9] mem) :
    GM E (m_X11_tipnow d) P 0 [.ref 0, vi a1, un, un, un, un, un] [] mem := by
  refine G_aload_n dX11_tipnow_0 rfl ?_
  refine G_getR (t := 9) dX11_tipnow_1 fl_11_33 (by decide) sh_0 rr_0_3 ?_
  refine G_iload_n dX11_tipnow_4 rfl ?_
  exact k1
set_option maxRecDepth 20000 in
set_option maxHeartbeats 1000000 in
theorem sg_X11_tipnow_8n {E : Nat × (Nat → Int32)} {d : Nat} {P : Option Value → Mem → Prop} {mem : Mem} {a1 : Int}
    (k1 : P (some (vi (-1))) mem) :
    GM E (m_X11_tipnow d) P 8 [.ref 0, vi a1, un, un, un, un, un] [.null] mem := by
  refine G_astoreNull_n dX11_tipnow_8 rfl (by decide : 2 < 7) rfl ?_
  refine G_aloadNull_n dX11_tipnow_9 rfl ?_
  refine G_ifnonnullZ dX11_tipnow_10 ?_
  refine G_iconst (z := (-1)) dX11_tipnow_13 rfl ?_
  exact G_iret dX11_tipnow_14 rfl (Nat.zero_le _) (Nat.zero_le _) (Nat.le_refl _) ⟨rfl, k1⟩
set_option maxRecDepth 20000 in
set_option maxHeartbeats 1000000 in
theorem sg_X11_tipnow_8r {E : Nat × (Nat → Int32)} {d : Nat} {P : Option Value → Mem → Prop} {mem : Mem} {a1 : Int} {os0 : Nat} (hos0 : os0 ∈ streetL)
    (k1 : GM E (m_X11_tipnow d) P 20 [.ref 0, vi a1, .ref os0, un, un, un, un] [vi 5, .ref 3] mem) :
    GM E (m_X11_tipnow d) P 8 [.ref 0, vi a1, un, un, un, un, un] [.ref os0] mem := by
  refine G_astore_n dX11_tipnow_8 rfl (by decide : 2 < 7) rfl ?_
  refine G_aload_n dX11_tipnow_9 rfl ?_
  refine G_ifnonnull (tgt := 15) dX11_tipnow_10 (by decide) ?_
  refine G_aload_n dX11_tipnow_15 rfl ?_
  refine G_getR (t := 3) dX11_tipnow_16 fl_11_19 (by decide) sh_0 rr_0_1 ?_
  refine G_iconst (z := 5) dX11_tipnow_19 rfl ?_
  exact k1
set_option maxRecDepth 20000 in
set_option maxHeartbeats 1000000 in
theorem sg_X11_tipnow_23 {E : Nat × (Nat → Int32)} {d : Nat} {P : Option Value → Mem → Prop} {mem : Mem} {a1 : Int} {o2 : Nat} {s0 : Int} (ho2 : o2 ∈ streetL)
    (k1 : GM E (m_X11_tipnow d) P 31 [.ref 0, vi a1, .ref o2, vi s0, un, un, un] [vi 1, .ref 3, .ref o2, .ref 0] mem) :
    GM E (m_X11_tipnow d) P 23 [.ref 0, vi a1, .ref o2, un, un, un, un] [vi s0] mem := by
  refine G_istore_n dX11_tipnow_23 rfl (by decide : 3 < 7) rfl ?_
  refine G_aload_n dX11_tipnow_24 rfl ?_
  refine G_aload_n dX11_tipnow_25 rfl ?_
  refine G_aload_n dX11_tipnow_26 rfl ?_
  refine G_getR (t := 3) dX11_tipnow_27 fl_11_19 (by decide) sh_0 rr_0_1 ?_
  refine G_iconst (z := 1) dX11_tipnow_30 rfl ?_
  exact k1
set_option maxRecDepth 20000 in
set_option maxHeartbeats 1000000 in
theorem sg_X11_tipnow_34 {E : Nat × (Nat → Int32)} {d : Nat} {P : Option Value → Mem → Prop} {mem : Mem} {a1 : Int} {o2 : Nat} {a3 : Int} {s0 : Int} (ho2 : o2 ∈ streetL)
    (k1 : GM E (m_X11_tipnow d) P 38 [.ref 0, vi a1, .ref o2, vi a3, un, un, un] [vi (mem o2 4), vi s0, .ref o2, .ref 0] mem) :
    GM E (m_X11_tipnow d) P 34 [.ref 0, vi a1, .ref o2, vi a3, un, un, un] [vi s0, .ref o2, .ref 0] mem := by
  refine G_aload_n dX11_tipnow_34 rfl ?_
  refine G_getI (z := (mem o2 4)) dX11_tipnow_35 fl_11_152 (ltStreet0 ho2) (shStreet0 ho2) rfl ?_
  exact k1
set_option maxRecDepth 20000 in
set_option maxHeartbeats 1000000 in
theorem sg_X11_tipnow_41 {E : Nat × (Nat → Int32)} {d : Nat} {P : Option Value → Mem → Prop} {mem : Mem} {a1 : Int} {o2 : Nat} {a3 : Int} {s0 : Int} (ho2 : o2 ∈ streetL)
    (k1 : GM E (m_X11_tipnow d) P 46 [.ref 0, vi a1, .ref o2, vi a3, un, un, un] [vi a3, vi (mem o2 2), vi s0] mem) :
    GM E (m_X11_tipnow d) P 41 [.ref 0, vi a1, .ref o2, vi a3, un, un, un] [vi s0] mem := by
  refine G_aload_n dX11_tipnow_41 rfl ?_
  refine G_getI (z := (mem o2 2)) dX11_tipnow_42 fl_11_144 (ltStreet0 ho2) (shStreet0 ho2) rfl ?_
  refine G_iload_n dX11_tipnow_45 rfl ?_
  exact k1
set_option maxRecDepth 20000 in
set_option maxHeartbeats 1000000 in
theorem sg_X11_tipnow_49 {E : Nat × (Nat → Int32)} {d : Nat} {P : Option Value → Mem → Prop} {mem : Mem} {a1 : Int} {o2 : Nat} {a3 : Int} {s0 : Int} {s1 : Int} (ho2 : o2 ∈ streetL)
    (k1 : GM E (m_X11_tipnow d) P 64 [.ref 0, vi a1, .ref o2, vi a3, vi ((s1 + s0) + 300), un, un] [vi a3, vi (mem 23 4)] mem) :
    GM E (m_X11_tipnow d) P 49 [.ref 0, vi a1, .ref o2, vi a3, un, un, un] [vi s0, vi s1] mem := by
  refine G_iadd dX11_tipnow_49 ?_
  refine G_sipush (z := 300) dX11_tipnow_50 rfl ?_
  refine G_iadd dX11_tipnow_53 ?_
  refine G_istore dX11_tipnow_54 (by decide : 4 < 7) rfl ?_
  refine G_aload_n dX11_tipnow_56 rfl ?_
  refine G_getR (t := 23) dX11_tipnow_57 fl_11_40 (by decide) sh_0 rr_0_4 ?_
  refine G_getI (z := (mem 23 4)) dX11_tipnow_60 fl_11_252 (by decide) sh_23 rfl ?_
  refine G_iload_n dX11_tipnow_63 rfl ?_
  exact k1
set_option maxRecDepth 20000 in
set_option maxHeartbeats 1000000 in
theorem sg_X11_tipnow_67 {E : Nat × (Nat → Int32)} {d : Nat} {P : Option Value → Mem → Prop} {mem : Mem} {a1 : Int} {o2 : Nat} {a3 : Int} {a4 : Int} {s0 : Int} (ho2 : o2 ∈ streetL)
    (k1 : GM E (m_X11_tipnow d) P 76 [.ref 0, vi a1, .ref o2, vi a3, vi a4, un, un] [vi (mem o2 2), vi a3, vi (s0 + 300)] mem) :
    GM E (m_X11_tipnow d) P 67 [.ref 0, vi a1, .ref o2, vi a3, vi a4, un, un] [vi s0] mem := by
  refine G_sipush (z := 300) dX11_tipnow_67 rfl ?_
  refine G_iadd dX11_tipnow_70 ?_
  refine G_iload_n dX11_tipnow_71 rfl ?_
  refine G_aload_n dX11_tipnow_72 rfl ?_
  refine G_getI (z := (mem o2 2)) dX11_tipnow_73 fl_11_144 (ltStreet0 ho2) (shStreet0 ho2) rfl ?_
  exact k1
set_option maxRecDepth 20000 in
set_option maxHeartbeats 1000000 in
theorem sg_X11_tipnow_79 {E : Nat × (Nat → Int32)} {d : Nat} {P : Option Value → Mem → Prop} {mem : Mem} {a1 : Int} {o2 : Nat} {a3 : Int} {a4 : Int} {s0 : Int} {s1 : Int} (ho2 : o2 ∈ streetL)
    (k1 : GM E (m_X11_tipnow d) P 96 [.ref 0, vi a1, .ref o2, vi a3, vi a4, vi ((s1 + s0) + a4), un] [vi (mem o2 2), vi (mem 23 4)] mem) :
    GM E (m_X11_tipnow d) P 79 [.ref 0, vi a1, .ref o2, vi a3, vi a4, un, un] [vi s0, vi s1] mem := by
  refine G_iadd dX11_tipnow_79 ?_
  refine G_iload dX11_tipnow_80 rfl ?_
  refine G_iadd dX11_tipnow_82 ?_
  refine G_istore dX11_tipnow_83 (by decide : 5 < 7) rfl ?_
  refine G_aload_n dX11_tipnow_85 rfl ?_
  refine G_getR (t := 23) dX11_tipnow_86 fl_11_40 (by decide) sh_0 rr_0_4 ?_
  refine G_getI (z := (mem 23 4)) dX11_tipnow_89 fl_11_252 (by decide) sh_23 rfl ?_
  refine G_aload_n dX11_tipnow_92 rfl ?_
  refine G_getI (z := (mem o2 2)) dX11_tipnow_93 fl_11_144 (ltStreet0 ho2) (shStreet0 ho2) rfl ?_
  exact k1
set_option maxRecDepth 20000 in
set_option maxHeartbeats 1000000 in
theorem sg_X11_tipnow_99 {E : Nat × (Nat → Int32)} {d : Nat} {P : Option Value → Mem → Prop} {mem : Mem} {a1 : Int} {o2 : Nat} {a3 : Int} {a4 : Int} {a5 : Int} {s0 : Int} (ho2 : o2 ∈ streetL)
    (k1 : GM E (m_X11_tipnow d) P 116 [.ref 0, vi a1, .ref o2, vi a3, vi a4, vi a5, vi (s0 + a4)] [vi 0, .ref 3, vi (mem 100 12)] mem) :
    GM E (m_X11_tipnow d) P 99 [.ref 0, vi a1, .ref o2, vi a3, vi a4, vi a5, un] [vi s0] mem := by
  refine G_iload dX11_tipnow_99 rfl ?_
  refine G_iadd dX11_tipnow_101 ?_
  refine G_istore dX11_tipnow_102 (by decide : 6 < 7) rfl ?_
  refine G_aload_n dX11_tipnow_104 rfl ?_
  refine G_getR (t := 100) dX11_tipnow_105 fl_11_65 (by decide) sh_0 rr_0_7 ?_
  refine G_getI (z := (mem 100 12)) dX11_tipnow_108 fl_11_390 (by decide) sh_100 rfl ?_
  refine G_aload_n dX11_tipnow_111 rfl ?_
  refine G_getR (t := 3) dX11_tipnow_112 fl_11_19 (by decide) sh_0 rr_0_1 ?_
  refine G_iconst (z := 0) dX11_tipnow_115 rfl ?_
  exact k1
set_option maxRecDepth 20000 in
set_option maxHeartbeats 1000000 in
theorem sg_X11_tipnow_119 {E : Nat × (Nat → Int32)} {d : Nat} {P : Option Value → Mem → Prop} {mem : Mem} {a1 : Int} {o2 : Nat} {a3 : Int} {a4 : Int} {a5 : Int} {a6 : Int} {s0 : Int} {s1 : Int} (ho2 : o2 ∈ streetL) (w1 : -2147483648 ≤ s1 ∧ s1 < 2147483648) (w2 : -2147483648 ≤ s0 ∧ s0 < 2147483648) (w3 : -2147483648 ≤ a5 ∧ a5 < 2147483648)
    (k1 : s1 ≤ s0 → GM E (m_X11_tipnow d) P 129 [.ref 0, vi a1, .ref o2, vi a3, vi a4, vi a5, vi a6] [vl a5, .ref 0] mem)
    (k2 : ¬ s1 ≤ s0 → P (some (vi (-2))) mem) :
    GM E (m_X11_tipnow d) P 119 [.ref 0, vi a1, .ref o2, vi a3, vi a4, vi a5, vi a6] [vi s0, vi s1] mem := by
  refine G_icmp_le (tgt := 125) dX11_tipnow_119 (by decide) (w1) (w2) (fun c1 => ?_) (fun c1 => ?_)
  · -- s1 ≤ s0
    refine G_aload_n dX11_tipnow_125 rfl ?_
    refine G_iload dX11_tipnow_126 rfl ?_
    refine G_i2l dX11_tipnow_128 (w3) ?_
    exact k1 c1
  · -- ¬ s1 ≤ s0
    refine G_bipush (z := (-2)) dX11_tipnow_122 rfl ?_
    exact G_iret dX11_tipnow_124 rfl (Nat.zero_le _) (Nat.zero_le _) (Nat.le_refl _) ⟨rfl, k2 c1⟩
set_option maxRecDepth 20000 in
set_option maxHeartbeats 1000000 in
theorem sg_X11_tipnow_132 {E : Nat × (Nat → Int32)} {d : Nat} {P : Option Value → Mem → Prop} {mem : Mem} {a1 : Int} {o2 : Nat} {a3 : Int} {a4 : Int} {a5 : Int} {a6 : Int} (ho2 : o2 ∈ streetL)
    (k1 : GM E (m_X11_tipnow d) P 152 [.ref 0, vi a1, .ref o2, vi a3, vi a4, vi a5, vi a6] [vi 0, .ref 3, vi ((mem 23 3) + (mem 100 12))] mem) :
    GM E (m_X11_tipnow d) P 132 [.ref 0, vi a1, .ref o2, vi a3, vi a4, vi a5, vi a6] [] mem := by
  refine G_aload_n dX11_tipnow_132 rfl ?_
  refine G_getR (t := 23) dX11_tipnow_133 fl_11_40 (by decide) sh_0 rr_0_4 ?_
  refine G_getI (z := (mem 23 3)) dX11_tipnow_136 fl_11_203 (by decide) sh_23 rfl ?_
  refine G_aload_n dX11_tipnow_139 rfl ?_
  refine G_getR (t := 100) dX11_tipnow_140 fl_11_65 (by decide) sh_0 rr_0_7 ?_
  refine G_getI (z := (mem 100 12)) dX11_tipnow_143 fl_11_390 (by decide) sh_100 rfl ?_
  refine G_iadd dX11_tipnow_146 ?_
  refine G_aload_n dX11_tipnow_147 rfl ?_
  refine G_getR (t := 3) dX11_tipnow_148 fl_11_19 (by decide) sh_0 rr_0_1 ?_
  refine G_iconst (z := 0) dX11_tipnow_151 rfl ?_
  exact k1
set_option maxRecDepth 20000 in
set_option maxHeartbeats 1000000 in
theorem sg_X11_tipnow_155 {E : Nat × (Nat → Int32)} {d : Nat} {P : Option Value → Mem → Prop} {mem : Mem} {a1 : Int} {o2 : Nat} {a3 : Int} {a4 : Int} {a5 : Int} {a6 : Int} {s0 : Int} {s1 : Int} (ho2 : o2 ∈ streetL) (w1 : -2147483648 ≤ s1 ∧ s1 < 2147483648) (w2 : -2147483648 ≤ s0 ∧ s0 < 2147483648) (w3 : -2147483648 ≤ a6 ∧ a6 < 2147483648)
    (k1 : s1 ≤ s0 → GM E (m_X11_tipnow d) P 171 [.ref 0, vi a1, .ref o2, vi a3, vi a4, vi a5, vi a6] [vl a6, .ref 0] mem)
    (k2 : ¬ s1 ≤ s0 → GM E (m_X11_tipnow d) P 162 [.ref 0, vi a1, .ref o2, vi a3, vi a4, vi a5, vi a6] [vl (-1), .ref 0] mem) :
    GM E (m_X11_tipnow d) P 155 [.ref 0, vi a1, .ref o2, vi a3, vi a4, vi a5, vi a6] [vi s0, vi s1] mem := by
  refine G_icmp_le (tgt := 167) dX11_tipnow_155 (by decide) (w1) (w2) (fun c1 => ?_) (fun c1 => ?_)
  · -- s1 ≤ s0
    refine G_aload_n dX11_tipnow_167 rfl ?_
    refine G_iload dX11_tipnow_168 rfl ?_
    refine G_i2l dX11_tipnow_170 (w3) ?_
    exact k1 c1
  · -- ¬ s1 ≤ s0
    refine G_aload_n dX11_tipnow_158 rfl ?_
    refine G_ldc2 (z := (-1)) dX11_tipnow_159 kc_11_342 ?_
    exact k2 c1
set_option maxRecDepth 20000 in
set_option maxHeartbeats 1000000 in
theorem sg_X11_tipnow_165 {E : Nat × (Nat → Int32)} {d : Nat} {P : Option Value → Mem → Prop} {mem : Mem} {a1 : Int} {o2 : Nat} {a3 : Int} {a4 : Int} {a5 : Int} {a6 : Int} (ho2 : o2 ∈ streetL)
    (k1 : P (some (vi 2)) mem) :
    GM E (m_X11_tipnow d) P 165 [.ref 0, vi a1, .ref o2, vi a3, vi a4, vi a5, vi a6] [] mem := by
  refine G_iconst (z := 2) dX11_tipnow_165 rfl ?_
  exact G_iret dX11_tipnow_166 rfl (Nat.zero_le _) (Nat.zero_le _) (Nat.le_refl _) ⟨rfl, k1⟩
set_option maxRecDepth 20000 in
set_option maxHeartbeats 1000000 in
theorem sg_X11_tipnow_174 {E : Nat × (Nat → Int32)} {d : Nat} {P : Option Value → Mem → Prop} {mem : Mem} {a1 : Int} {o2 : Nat} {a3 : Int} {a4 : Int} {a5 : Int} {a6 : Int} (ho2 : o2 ∈ streetL) (w1 : -2147483648 ≤ (mem 23 3) ∧ (mem 23 3) < 2147483648) (w2 : -2147483648 ≤ a5 ∧ a5 < 2147483648) (w3 : -2147483648 ≤ a6 ∧ a6 < 2147483648)
    (k1 : (mem 23 3) = 0 → P (some (vi 0)) mem)
    (k2 : ¬ (mem 23 3) = 0 → a6 ≤ a5 → P (some (vi 0)) mem)
    (k3 : ¬ (mem 23 3) = 0 → ¬ a6 ≤ a5 → P (some (vi 1)) mem) :
    GM E (m_X11_tipnow d) P 174 [.ref 0, vi a1, .ref o2, vi a3, vi a4, vi a5, vi a6] [] mem := by
  refine G_aload_n dX11_tipnow_174 rfl ?_
  refine G_getR (t := 23) dX11_tipnow_175 fl_11_40 (by decide) sh_0 rr_0_4 ?_
  refine G_getI (z := (mem 23 3)) dX11_tipnow_178 fl_11_203 (by decide) sh_23 rfl ?_
  refine G_if_eq (tgt := 195) dX11_tipnow_181 (by decide) (w1) (fun c1 => ?_) (fun c1 => ?_)
  · -- (mem 23 3) = 0
    refine G_iconst (z := 0) dX11_tipnow_195 rfl ?_
    exact G_iret dX11_tipnow_196 rfl (Nat.zero_le _) (Nat.zero_le _) (Nat.le_refl _) ⟨rfl, k1 c1⟩
  · -- ¬ (mem 23 3) = 0
    refine G_iload dX11_tipnow_184 rfl ?_
    refine G_iload dX11_tipnow_186 rfl ?_
    refine G_icmp_ge (tgt := 195) dX11_tipnow_188 (by decide) (w2) (w3) (fun c2 => ?_) (fun c2 => ?_)
    · -- a6 ≤ a5
      refine G_iconst (z := 0) dX11_tipnow_195 rfl ?_
      exact G_iret dX11_tipnow_196 rfl (Nat.zero_le _) (Nat.zero_le _) (Nat.le_refl _) ⟨rfl, k2 c1 c2⟩
    · -- ¬ a6 ≤ a5
      refine G_iconst (z := 1) dX11_tipnow_191 rfl ?_
      refine G_goto (tgt := 196) dX11_tipnow_192 (by decide) ?_
      exact G_iret dX11_tipnow_196 rfl (Nat.zero_le _) (Nat.zero_le _) (Nat.le_refl _) ⟨rfl, k3 c1 c2⟩
abbrev m_X11_undo (d : Nat) : Mu := (cX11_undo, 1, RX11, (some .int), ⟨d, 0, 0, 40 * d⟩, "undo")
set_option maxRecDepth 20000 in
set_option maxHeartbeats 1000000 in
theorem sg_X11_undo_0 {E : Nat × (Nat → Int32)} {d : Nat} {P : Option Value → Mem → Prop} {mem : Mem}
    (k1 : GM E (m_X11_undo d) P 8 [.ref 0] [.ref 23, .ref 27] mem) :
    GM E (m_X11_undo d) P 0 [.ref 0] [] mem := by
  refine G_aload_n dX11_undo_0 rfl ?_
  refine G_getR (t := 27) dX11_undo_1 fl_11_47 (by decide) sh_0 rr_0_5 ?_
  refine G_aload_n dX11_undo_4 rfl ?_
  refine G_getR (t := 23) dX11_undo_5 fl_11_40 (by decide) sh_0 rr_0_4 ?_
  exact k1
set_option maxRecDepth 20000 in
set_option maxHeartbeats 1000000 in
theorem sg_X11_undo_11 {E : Nat × (Nat → Int32)} {d : Nat} {P : Option Value → Mem → Prop} {mem : Mem} {s0 : Int} (w1 : -2147483648 ≤ s0 ∧ s0 < 2147483648)
    (k1 : s0 = 0 → P (some (vi (-1))) mem)
    (k2 : ¬ s0 = 0 → P (some (vi (mem 27 2))) mem) :
    GM E (m_X11_undo d) P 11 [.ref 0] [vi s0] mem := by
  refine G_if_eq (tgt := 24) dX11_undo_11 (by decide) (w1) (fun c1 => ?_) (fun c1 => ?_)
  · -- s0 = 0
    refine G_iconst (z := (-1)) dX11_undo_24 rfl ?_
    exact G_iret dX11_undo_25 rfl (Nat.zero_le _) (Nat.zero_le _) (Nat.le_refl _) ⟨rfl, k1 c1⟩
  · -- ¬ s0 = 0
    refine G_aload_n dX11_undo_14 rfl ?_
    refine G_getR (t := 27) dX11_undo_15 fl_11_47 (by decide) sh_0 rr_0_5 ?_
    refine G_getI (z := (mem 27 2)) dX11_undo_18 fl_11_272 (by decide) sh_27 rfl ?_
    refine G_goto (tgt := 25) dX11_undo_21 (by decide) ?_
    exact G_iret dX11_undo_25 rfl (Nat.zero_le _) (Nat.zero_le _) (Nat.le_refl _) ⟨rfl, k2 c1⟩
abbrev m_X11_waitFor (d : Nat) : Mu := (cX11_waitFor, 2, RX11, (some .int), ⟨d, 0, 0, 40 * d⟩, "waitFor")
set_option maxRecDepth 20000 in
set_option maxHeartbeats 1000000 in
theorem sg_X11_waitFor_0 {E : Nat × (Nat → Int32)} {d : Nat} {P : Option Value → Mem → Prop} {mem : Mem} {a1 : Int} (w1 : -2147483648 ≤ a1 ∧ a1 < 2147483648)
    (k1 : a1 < 0 → P (some (vi (-1))) mem)
    (k2 : ¬ a1 < 0 → a1 ≤ 9999 → P (some (vi ((mem 23 5) + a1))) (up2 mem 23 5 ((mem 23 5) + a1)))
    (k3 : ¬ a1 < 0 → ¬ a1 ≤ 9999 → P (some (vi (-1))) mem) :
    GM E (m_X11_waitFor d) P 0 [.ref 0, vi a1] [] mem := by
  refine G_iload_n dX11_waitFor_0 rfl ?_
  refine G_if_lt (tgt := 11) dX11_waitFor_1 (by decide) (w1) (fun c1 => ?_) (fun c1 => ?_)
  · -- a1 < 0
    refine G_iconst (z := (-1)) dX11_waitFor_11 rfl ?_
    exact G_iret dX11_waitFor_12 rfl (Nat.zero_le _) (Nat.zero_le _) (Nat.le_refl _) ⟨rfl, k1 c1⟩
  · -- ¬ a1 < 0
    refine G_iload_n dX11_waitFor_4 rfl ?_
    refine G_sipush (z := 9999) dX11_waitFor_5 rfl ?_
    refine G_icmp_le (tgt := 13) dX11_waitFor_8 (by decide) (w1) (by decide) (fun c2 => ?_) (fun c2 => ?_)
    · -- a1 ≤ 9999
      refine G_aload_n dX11_waitFor_13 rfl ?_
      refine G_getR (t := 23) dX11_waitFor_14 fl_11_40 (by decide) sh_0 rr_0_4 ?_
      refine G_dup dX11_waitFor_17 rfl ?_
      refine G_getI (z := (mem 23 5)) dX11_waitFor_18 fl_11_253 (by decide) sh_23 rfl ?_
      refine G_iload_n dX11_waitFor_21 rfl ?_
      refine G_iadd dX11_waitFor_22 ?_
      refine G_putI (mem2 := (up2 mem 23 5 ((mem 23 5) + a1))) dX11_waitFor_23 fp_11_253 (by decide) sh_23 rfl ?_
      refine G_aload_n dX11_waitFor_26 rfl ?_
      refine G_getR (t := 23) dX11_waitFor_27 fl_11_40 (by decide) sh_0 rr_0_4 ?_
      refine G_getI (z := ((mem 23 5) + a1)) dX11_waitFor_30 fl_11_253 (by decide) sh_23 (by simp [up2, upr]) ?_
      exact G_iret dX11_waitFor_33 rfl (Nat.zero_le _) (Nat.zero_le _) (Nat.le_refl _) ⟨rfl, k2 c1 c2⟩
    · -- ¬ a1 ≤ 9999
      refine G_iconst (z := (-1)) dX11_waitFor_11 rfl ?_
      exact G_iret dX11_waitFor_12 rfl (Nat.zero_le _) (Nat.zero_le _) (Nat.le_refl _) ⟨rfl, k3 c1 c2⟩
abbrev m_X11_week (d : Nat) : Mu := (cX11_week, 2, RX11, (some .int), ⟨d, 0, 0, 40 * d⟩, "week")
set_option maxRecDepth 20000 in
set_option maxHeartbeats 1000000 in
theorem sg_X11_week_0 {E : Nat × (Nat → Int32)} {d : Nat} {P : Option Value → Mem → Prop} {mem : Mem}
    (k1 : GM E (m_X11_week d) P 8 [.ref 0, un] [.ref 23, .ref 27] mem) :
    GM E (m_X11_week d) P 0 [.ref 0, un] [] mem := by
  refine G_aload_n dX11_week_0 rfl ?_
  refine G_getR (t := 27) dX11_week_1 fl_11_47 (by decide) sh_0 rr_0_5 ?_
  refine G_aload_n dX11_week_4 rfl ?_
  refine G_getR (t := 23) dX11_week_5 fl_11_40 (by decide) sh_0 rr_0_4 ?_
  exact k1
set_option maxRecDepth 20000 in
set_option maxHeartbeats 1000000 in
theorem sg_X11_week_11 {E : Nat × (Nat → Int32)} {d : Nat} {P : Option Value → Mem → Prop} {mem : Mem}
    (k1 : GM E (m_X11_week d) P 13 [.ref 0, vi 0] [] mem) :
    GM E (m_X11_week d) P 11 [.ref 0, un] [] mem := by
  refine G_iconst (z := 0) dX11_week_11 rfl ?_
  refine G_istore_n dX11_week_12 rfl (by decide : 1 < 2) rfl ?_
  exact k1
set_option maxRecDepth 20000 in
set_option maxHeartbeats 1000000 in
theorem sg_X11_week_13 {E : Nat × (Nat → Int32)} {d : Nat} {P : Option Value → Mem → Prop} {mem : Mem} {a1 : Int} (w1 : -2147483648 ≤ a1 ∧ a1 < 2147483648) (w2 : -2147483648 ≤ (mem 9 1) ∧ (mem 9 1) < 2147483648)
    (k1 : (mem 9 1) ≤ a1 → GM E (m_X11_week d) P 76 [.ref 0, vi a1] [vi 1, .ref 23, .ref 0] (up2 (up2 (up2 mem 23 3 0) 23 4 0) 23 5 0))
    (k2 : ¬ (mem 9 1) ≤ a1 → GM E (m_X11_week d) P 34 [.ref 0, vi a1] [vi a1, .ref 9, vi a1, .ref 23] mem) :
    GM E (m_X11_week d) P 13 [.ref 0, vi a1] [] mem := by
  refine G_iload_n dX11_week_13 rfl ?_
  refine G_aload_n dX11_week_14 rfl ?_
  refine G_getR (t := 9) dX11_week_15 fl_11_33 (by decide) sh_0 rr_0_3 ?_
  refine G_getI (z := (mem 9 1)) dX11_week_18 fl_11_113 (by decide) sh_9 rfl ?_
  refine G_icmp_ge (tgt := 46) dX11_week_21 (by decide) (w1) (w2) (fun c1 => ?_) (fun c1 => ?_)
  · -- (mem 9 1) ≤ a1
    refine G_aload_n dX11_week_46 rfl ?_
    refine G_getR (t := 23) dX11_week_47 fl_11_40 (by decide) sh_0 rr_0_4 ?_
    refine G_iconst (z := 0) dX11_week_50 rfl ?_
    refine G_putI (mem2 := (up2 mem 23 3 0)) dX11_week_51 fp_11_203 (by decide) sh_23 rfl ?_
    refine G_aload_n dX11_week_54 rfl ?_
    refine G_getR (t := 23) dX11_week_55 fl_11_40 (by decide) sh_0 rr_0_4 ?_
    refine G_iconst (z := 0) dX11_week_58 rfl ?_
    refine G_putI (mem2 := (up2 (up2 mem 23 3 0) 23 4 0)) dX11_week_59 fp_11_252 (by decide) sh_23 rfl ?_
    refine G_aload_n dX11_week_62 rfl ?_
    refine G_getR (t := 23) dX11_week_63 fl_11_40 (by decide) sh_0 rr_0_4 ?_
    refine G_iconst (z := 0) dX11_week_66 rfl ?_
    refine G_putI (mem2 := (up2 (up2 (up2 mem 23 3 0) 23 4 0) 23 5 0)) dX11_week_67 fp_11_253 (by decide) sh_23 rfl ?_
    refine G_aload_n dX11_week_70 rfl ?_
    refine G_aload_n dX11_week_71 rfl ?_
    refine G_getR (t := 23) dX11_week_72 fl_11_40 (by decide) sh_0 rr_0_4 ?_
    refine G_iconst (z := 1) dX11_week_75 rfl ?_
    exact k1 c1
  · -- ¬ (mem 9 1) ≤ a1
    refine G_aload_n dX11_week_24 rfl ?_
    refine G_getR (t := 23) dX11_week_25 fl_11_40 (by decide) sh_0 rr_0_4 ?_
    refine G_iload_n dX11_week_28 rfl ?_
    refine G_aload_n dX11_week_29 rfl ?_
    refine G_getR (t := 9) dX11_week_30 fl_11_33 (by decide) sh_0 rr_0_3 ?_
    refine G_iload_n dX11_week_33 rfl ?_
    exact k2 c1
set_option maxRecDepth 20000 in
set_option maxHeartbeats 1000000 in
theorem sg_X11_week_37 {E : Nat × (Nat → Int32)} {d : Nat} {P : Option Value → Mem → Prop} {mem : Mem} {a1 : Int} {s0 : Int} {s1 : Int}
    (k1 : GM E (m_X11_week d) P 37 [.ref 0, vi a1] [vi s0, vi s1, .ref 23] mem) :
    GM E (m_X11_week d) P 37 [.ref 0, vi a1] [vi s0, vi s1, .ref 23] mem := by
  exact k1
set_option maxRecDepth 20000 in
set_option maxHeartbeats 1000000 in
theorem sg_X11_week_40 {E : Nat × (Nat → Int32)} {d : Nat} {P : Option Value → Mem → Prop} {mem : Mem} {a1 : Int}
    (k1 : GM E (m_X11_week d) P 13 [.ref 0, vi (a1 + 1)] [] mem) :
    GM E (m_X11_week d) P 40 [.ref 0, vi a1] [] mem := by
  refine G_iinc (z := (a1 + 1)) dX11_week_40 rfl rfl (by decide : 1 < 2) rfl ?_
  refine G_goto (tgt := 13) dX11_week_43 (by decide) ?_
  exact k1
set_option maxRecDepth 20000 in
set_option maxHeartbeats 1000000 in
theorem sg_X11_week_79 {E : Nat × (Nat → Int32)} {d : Nat} {P : Option Value → Mem → Prop} {mem : Mem} {a1 : Int} {s0 : Int}
    (k1 : GM E (m_X11_week d) P 79 [.ref 0, vi a1] [vi s0, .ref 0] mem) :
    GM E (m_X11_week d) P 79 [.ref 0, vi a1] [vi s0, .ref 0] mem := by
  exact k1
set_option maxRecDepth 20000 in
set_option maxHeartbeats 1000000 in
theorem sg_X11_week_82 {E : Nat × (Nat → Int32)} {d : Nat} {P : Option Value → Mem → Prop} {mem : Mem} {a1 : Int} {s0 : Int}
    (k1 : P (some (vi s0)) mem) :
    GM E (m_X11_week d) P 82 [.ref 0, vi a1] [vi s0] mem := by
  exact G_iret dX11_week_82 rfl (Nat.zero_le _) (Nat.zero_le _) (Nat.le_refl _) ⟨rfl, k1⟩
abbrev m_X11_weeks (d : Nat) : Mu := (cX11_weeks, 8, RX11, (some .int), ⟨d, 0, 0, 40 * d⟩, "weeks")
set_option maxRecDepth 20000 in
set_option maxHeartbeats 1000000 in
theorem sg_X11_weeks_0 {E : Nat × (Nat → Int32)} {d : Nat} {P : Option Value → Mem → Prop} {mem : Mem} {a1 : Int} {a2 : Int} {a3 : Int} (w1 : -2147483648 ≤ (mem 9 1) ∧ (mem 9 1) < 2147483648) (w2 : -2147483648 ≤ a2 ∧ a2 < 2147483648) (w3 : -2147483648 ≤ a3 ∧ a3 < 2147483648)
    (k1 : (mem 9 1) = 0 → P (some (vi (-1))) mem)
    (k2 : ¬ (mem 9 1) = 0 → a2 < 1 → P (some (vi (-1))) mem)
    (k3 : ¬ (mem 9 1) = 0 → ¬ a2 < 1 → 20 < a2 → P (some (vi (-1))) mem)
    (k4 : ¬ (mem 9 1) = 0 → ¬ a2 < 1 → ¬ 20 < a2 → a3 < 0 → P (some (vi (-1))) mem)
    (k5 : ¬ (mem 9 1) = 0 → ¬ a2 < 1 → ¬ 20 < a2 → ¬ a3 < 0 → a3 ≤ 10 → GM E (m_X11_weeks d) P 42 [.ref 0, vi a1, vi a2, vi a3, un, un, un, un] [.ref 106] (up2 mem 0 15 a1))
    (k6 : ¬ (mem 9 1) = 0 → ¬ a2 < 1 → ¬ 20 < a2 → ¬ a3 < 0 → ¬ a3 ≤ 10 → P (some (vi (-1))) mem) :
    GM E (m_X11_weeks d) P 0 [.ref 0, vi a1, vi a2, vi a3, un, un, un, un] [] mem := by
  refine G_aload_n dX11_weeks_0 rfl ?_
  refine G_getR (t := 9) dX11_weeks_1 fl_11_33 (by decide) sh_0 rr_0_3 ?_
  refine G_getI (z := (mem 9 1)) dX11_weeks_4 fl_11_113 (by decide) sh_9 rfl ?_
  refine G_if_eq (tgt := 31) dX11_weeks_7 (by decide) (w1) (fun c1 => ?_) (fun c1 => ?_)
  · -- (mem 9 1) = 0
    refine G_iconst (z := (-1)) dX11_weeks_31 rfl ?_
    exact G_iret dX11_weeks_32 rfl (Nat.zero_le _) (Nat.zero_le _) (Nat.le_refl _) ⟨rfl, k1 c1⟩
  · -- ¬ (mem 9 1) = 0
    refine G_iload_n dX11_weeks_10 rfl ?_
    refine G_iconst (z := 1) dX11_weeks_11 rfl ?_
    refine G_icmp_lt (tgt := 31) dX11_weeks_12 (by decide) (w2) (by decide) (fun c2 => ?_) (fun c2 => ?_)
    · -- a2 < 1
      refine G_iconst (z := (-1)) dX11_weeks_31 rfl ?_
      exact G_iret dX11_weeks_32 rfl (Nat.zero_le _) (Nat.zero_le _) (Nat.le_refl _) ⟨rfl, k2 c1 c2⟩
    · -- ¬ a2 < 1
      refine G_iload_n dX11_weeks_15 rfl ?_
      refine G_bipush (z := 20) dX11_weeks_16 rfl ?_
      refine G_icmp_gt (tgt := 31) dX11_weeks_18 (by decide) (w2) (by decide) (fun c3 => ?_) (fun c3 => ?_)
      · -- 20 < a2
        refine G_iconst (z := (-1)) dX11_weeks_31 rfl ?_
        exact G_iret dX11_weeks_32 rfl (Nat.zero_le _) (Nat.zero_le _) (Nat.le_refl _) ⟨rfl, k3 c1 c2 c3⟩
      · -- ¬ 20 < a2
        refine G_iload_n dX11_weeks_21 rfl ?_
        refine G_if_lt (tgt := 31) dX11_weeks_22 (by decide) (w3) (fun c4 => ?_) (fun c4 => ?_)
        · -- a3 < 0
          refine G_iconst (z := (-1)) dX11_weeks_31 rfl ?_
          exact G_iret dX11_weeks_32 rfl (Nat.zero_le _) (Nat.zero_le _) (Nat.le_refl _) ⟨rfl, k4 c1 c2 c3 c4⟩
        · -- ¬ a3 < 0
          refine G_iload_n dX11_weeks_25 rfl ?_
          refine G_bipush (z := 10) dX11_weeks_26 rfl ?_
          refine G_icmp_le (tgt := 33) dX11_weeks_28 (by decide) (w3) (by decide) (fun c5 => ?_) (fun c5 => ?_)
          · -- a3 ≤ 10
            refine G_aload_n dX11_weeks_33 rfl ?_
            refine G_iload_n dX11_weeks_34 rfl ?_
            refine G_putI (mem2 := (up2 mem 0 15 a1)) dX11_weeks_35 fp_11_445 (by decide) sh_0 rfl ?_
            refine G_aload_n dX11_weeks_38 rfl ?_
            refine G_getR (t := 106) dX11_weeks_39 fl_11_74 (by decide) sh_0 rr_0_8 ?_
            exact k5 c1 c2 c3 c4 c5
          · -- ¬ a3 ≤ 10
            refine G_iconst (z := (-1)) dX11_weeks_31 rfl ?_
            exact G_iret dX11_weeks_32 rfl (Nat.zero_le _) (Nat.zero_le _) (Nat.le_refl _) ⟨rfl, k6 c1 c2 c3 c4 c5⟩
set_option maxRecDepth 20000 in
set_option maxHeartbeats 1000000 in
theorem sg_X11_weeks_45 {E : Nat × (Nat → Int32)} {d : Nat} {P : Option Value → Mem → Prop} {mem : Mem} {a1 : Int} {a2 : Int} {a3 : Int}
    (k1 : GM E (m_X11_weeks d) P 57 [.ref 0, vi a1, vi a2, vi a3, vi 0, vi (-1), vi (-1), vi 0] [] mem) :
    GM E (m_X11_weeks d) P 45 [.ref 0, vi a1, vi a2, vi a3, un, un, un, un] [] mem := by
  refine G_iconst (z := 0) dX11_weeks_45 rfl ?_
  refine G_istore dX11_weeks_46 (by decide : 4 < 8) rfl ?_
  refine G_iconst (z := (-1)) dX11_weeks_48 rfl ?_
  refine G_istore dX11_weeks_49 (by decide : 5 < 8) rfl ?_
  refine G_iconst (z := (-1)) dX11_weeks_51 rfl ?_
  refine G_istore dX11_weeks_52 (by decide : 6 < 8) rfl ?_
  refine G_iconst (z := 0) dX11_weeks_54 rfl ?_
  refine G_istore dX11_weeks_55 (by decide : 7 < 8) rfl ?_
  exact k1
set_option maxRecDepth 20000 in
set_option maxHeartbeats 1000000 in
theorem sg_X11_weeks_57 {E : Nat × (Nat → Int32)} {d : Nat} {P : Option Value → Mem → Prop} {mem : Mem} {a1 : Int} {a2 : Int} {a3 : Int} {a4 : Int} {a5 : Int} {a6 : Int} {a7 : Int} (w1 : -2147483648 ≤ a7 ∧ a7 < 2147483648) (w2 : -2147483648 ≤ a2 ∧ a2 < 2147483648) (w3 : -2147483648 ≤ a5 ∧ a5 < 2147483648)
    (k1 : a2 ≤ a7 → GM E (m_X11_weeks d) P 151 [.ref 0, vi a1, vi a2, vi a3, vi a4, vi a5, vi a6, vi a7] [vl a5, .ref 0] mem)
    (k2 : ¬ a2 ≤ a7 → GM E (m_X11_weeks d) P 69 [.ref 0, vi a1, vi a2, vi a3, vi a4, vi a5, vi a6, vi a7] [vi a3, .ref 0, .ref 106] mem) :
    GM E (m_X11_weeks d) P 57 [.ref 0, vi a1, vi a2, vi a3, vi a4, vi a5, vi a6, vi a7] [] mem := by
  refine G_iload dX11_weeks_57 rfl ?_
  refine G_iload_n dX11_weeks_59 rfl ?_
  refine G_icmp_ge (tgt := 147) dX11_weeks_60 (by decide) (w1) (w2) (fun c1 => ?_) (fun c1 => ?_)
  · -- a2 ≤ a7
    refine G_aload_n dX11_weeks_147 rfl ?_
    refine G_iload dX11_weeks_148 rfl ?_
    refine G_i2l dX11_weeks_150 (w3) ?_
    exact k1 c1
  · -- ¬ a2 ≤ a7
    refine G_aload_n dX11_weeks_63 rfl ?_
    refine G_getR (t := 106) dX11_weeks_64 fl_11_74 (by decide) sh_0 rr_0_8 ?_
    refine G_aload_n dX11_weeks_67 rfl ?_
    refine G_iload_n dX11_weeks_68 rfl ?_
    exact k2 c1
set_option maxRecDepth 20000 in
set_option maxHeartbeats 1000000 in
theorem sg_X11_weeks_72 {E : Nat × (Nat → Int32)} {d : Nat} {P : Option Value → Mem → Prop} {mem : Mem} {a1 : Int} {a2 : Int} {a3 : Int} {a4 : Int} {a5 : Int} {a6 : Int} {a7 : Int}
    (k1 : GM E (m_X11_weeks d) P 72 [.ref 0, vi a1, vi a2, vi a3, vi a4, vi a5, vi a6, vi a7] [.ref 108, .ref 106] mem) :
    GM E (m_X11_weeks d) P 72 [.ref 0, vi a1, vi a2, vi a3, vi a4, vi a5, vi a6, vi a7] [.ref 108, .ref 106] mem := by
  exact k1
set_option maxRecDepth 20000 in
set_option maxHeartbeats 1000000 in
theorem sg_X11_weeks_75 {E : Nat × (Nat → Int32)} {d : Nat} {P : Option Value → Mem → Prop} {mem : Mem} {a1 : Int} {a2 : Int} {a3 : Int} {a4 : Int} {a5 : Int} {a6 : Int} {a7 : Int}
    (k1 : GM E (m_X11_weeks d) P 82 [.ref 0, vi a1, vi a2, vi a3, vi a4, vi a5, vi a6, vi a7] [vi 0, vi 0, vi 0, .ref 106] mem) :
    GM E (m_X11_weeks d) P 75 [.ref 0, vi a1, vi a2, vi a3, vi a4, vi a5, vi a6, vi a7] [] mem := by
  refine G_aload_n dX11_weeks_75 rfl ?_
  refine G_getR (t := 106) dX11_weeks_76 fl_11_74 (by decide) sh_0 rr_0_8 ?_
  refine G_iconst (z := 0) dX11_weeks_79 rfl ?_
  refine G_iconst (z := 0) dX11_weeks_80 rfl ?_
  refine G_iconst (z := 0) dX11_weeks_81 rfl ?_
  exact k1
set_option maxRecDepth 20000 in
set_option maxHeartbeats 1000000 in
theorem sg_X11_weeks_85 {E : Nat × (Nat → Int32)} {d : Nat} {P : Option Value → Mem → Prop} {mem : Mem} {a1 : Int} {a2 : Int} {a3 : Int} {a4 : Int} {a5 : Int} {a6 : Int} {a7 : Int}
    (k1 : GM E (m_X11_weeks d) P 89 [.ref 0, vi a1, vi a2, vi a3, vi a4, vi a5, vi a6, vi a7] [.ref 106] mem) :
    GM E (m_X11_weeks d) P 85 [.ref 0, vi a1, vi a2, vi a3, vi a4, vi a5, vi a6, vi a7] [] mem := by
  refine G_aload_n dX11_weeks_85 rfl ?_
  refine G_getR (t := 106) dX11_weeks_86 fl_11_74 (by decide) sh_0 rr_0_8 ?_
  exact k1
set_option maxRecDepth 20000 in
set_option maxHeartbeats 1000000 in
theorem sg_X11_weeks_92 {E : Nat × (Nat → Int32)} {d : Nat} (hd : 1 ≤ d) {P : Option Value → Mem → Prop} {mem : Mem} {a1 : Int} {a2 : Int} {a3 : Int} {a4 : Int} {a5 : Int} {a6 : Int} {a7 : Int} {s0 : Int} (w1 : -2147483648 ≤ s0 ∧ s0 < 2147483648) (w2 : -2147483648 ≤ a4 ∧ a4 < 2147483648) (w3 : -2147483648 ≤ a5 ∧ a5 < 2147483648) (w4 : ¬ s0 = 0 → a4 ≠ 0 → -2147483648 ≤ (mem 106 8) ∧ (mem 106 8) < 2147483648) (w5 : -2147483648 ≤ a6 ∧ a6 < 2147483648) (w6 : ¬ s0 = 0 → a4 = 0 → -2147483648 ≤ (mem 106 8) ∧ (mem 106 8) < 2147483648)
    (k1 : s0 = 0 → GM E (m_X11_weeks d) P 57 [.ref 0, vi a1, vi a2, vi a3, vi a4, vi a5, vi a6, vi (a7 + 1)] [] mem)
    (k2 : ¬ s0 = 0 → a4 ≠ 0 → GM E (m_X11_weeks d) P 57 [.ref 0, vi a1, vi a2, vi a3, vi (a4 + 1), vi (min a5 (mem 106 8)), vi (max a6 (mem 106 8)), vi (a7 + 1)] [] mem)
    (k3 : ¬ s0 = 0 → a4 = 0 → GM E (m_X11_weeks d) P 57 [.ref 0, vi a1, vi a2, vi a3, vi (a4 + 1), vi (mem 106 8), vi (max a6 (mem 106 8)), vi (a7 + 1)] [] mem) :
    GM E (m_X11_weeks d) P 92 [.ref 0, vi a1, vi a2, vi a3, vi a4, vi a5, vi a6, vi a7] [vi s0] mem := by
  refine G_if_eq (tgt := 141) dX11_weeks_92 (by decide) (w1) (fun c1 => ?_) (fun c1 => ?_)
  · -- s0 = 0
    refine G_iinc (z := (a7 + 1)) dX11_weeks_141 rfl rfl (by decide : 7 < 8) rfl ?_
    refine G_goto (tgt := 57) dX11_weeks_144 (by decide) ?_
    exact k1 c1
  · -- ¬ s0 = 0
    refine G_iload dX11_weeks_95 rfl ?_
    refine G_if_ne (tgt := 110) dX11_weeks_97 (by decide) (w2) (fun c2 => ?_) (fun c2 => ?_)
    · -- a4 ≠ 0
      refine G_iload dX11_weeks_110 rfl ?_
      refine G_aload_n dX11_weeks_112 rfl ?_
      refine G_getR (t := 106) dX11_weeks_113 fl_11_74 (by decide) sh_0 rr_0_8 ?_
      refine G_getI (z := (mem 106 8)) dX11_weeks_116 fl_11_370 (by decide) sh_106 rfl ?_
      refine G_min (z := (min a5 (mem 106 8))) dX11_weeks_119 ml_11_337 mw_min (w3) (w4 c1 c2) ⟨by show 1 ≤ d; omega, by show 21 ≤ 40 * d; omega, Nat.zero_le _, Nat.zero_le _⟩ (Nat.le_of_ble_eq_true rfl) rfl ?_
      refine G_istore dX11_weeks_122 (by decide : 5 < 8) rfl ?_
      refine G_iload dX11_weeks_124 rfl ?_
      refine G_aload_n dX11_weeks_126 rfl ?_
      refine G_getR (t := 106) dX11_weeks_127 fl_11_74 (by decide) sh_0 rr_0_8 ?_
      refine G_getI (z := (mem 106 8)) dX11_weeks_130 fl_11_370 (by decide) sh_106 rfl ?_
      refine G_max (z := (max a6 (mem 106 8))) dX11_weeks_133 ml_11_397 mw_max (w5) (w4 c1 c2) ⟨by show 1 ≤ d; omega, by show 21 ≤ 40 * d; omega, Nat.zero_le _, Nat.zero_le _⟩ (Nat.le_of_ble_eq_true rfl) rfl ?_
      refine G_istore dX11_weeks_136 (by decide : 6 < 8) rfl ?_
      refine G_iinc (z := (a4 + 1)) dX11_weeks_138 rfl rfl (by decide : 4 < 8) rfl ?_
      refine G_iinc (z := (a7 + 1)) dX11_weeks_141 rfl rfl (by decide : 7 < 8) rfl ?_
      refine G_goto (tgt := 57) dX11_weeks_144 (by decide) ?_
      exact k2 c1 c2
    · -- a4 = 0
      refine G_aload_n dX11_weeks_100 rfl ?_
      refine G_getR (t := 106) dX11_weeks_101 fl_11_74 (by decide) sh_0 rr_0_8 ?_
      refine G_getI (z := (mem 106 8)) dX11_weeks_104 fl_11_370 (by decide) sh_106 rfl ?_
      refine G_goto (tgt := 122) dX11_weeks_107 (by decide) ?_
      refine G_istore dX11_weeks_122 (by decide : 5 < 8) rfl ?_
      refine G_iload dX11_weeks_124 rfl ?_
      refine G_aload_n dX11_weeks_126 rfl ?_
      refine G_getR (t := 106) dX11_weeks_127 fl_11_74 (by decide) sh_0 rr_0_8 ?_
      refine G_getI (z := (mem 106 8)) dX11_weeks_130 fl_11_370 (by decide) sh_106 rfl ?_
      refine G_max (z := (max a6 (mem 106 8))) dX11_weeks_133 ml_11_397 mw_max (w5) (w6 c1 c2) ⟨by show 1 ≤ d; omega, by show 21 ≤ 40 * d; omega, Nat.zero_le _, Nat.zero_le _⟩ (Nat.le_of_ble_eq_true rfl) rfl ?_
      refine G_istore dX11_weeks_136 (by decide : 6 < 8) rfl ?_
      refine G_iinc (z := (a4 + 1)) dX11_weeks_138 rfl rfl (by decide : 4 < 8) rfl ?_
      refine G_iinc (z := (a7 + 1)) dX11_weeks_141 rfl rfl (by decide : 7 < 8) rfl ?_
      refine G_goto (tgt := 57) dX11_weeks_144 (by decide) ?_
      exact k3 c1 c2
set_option maxRecDepth 20000 in
set_option maxHeartbeats 1000000 in
theorem sg_X11_weeks_154 {E : Nat × (Nat → Int32)} {d : Nat} {P : Option Value → Mem → Prop} {mem : Mem} {a1 : Int} {a2 : Int} {a3 : Int} {a4 : Int} {a5 : Int} {a6 : Int} {a7 : Int} (w1 : -2147483648 ≤ a6 ∧ a6 < 2147483648)
    (k1 : GM E (m_X11_weeks d) P 158 [.ref 0, vi a1, vi a2, vi a3, vi a4, vi a5, vi a6, vi a7] [vl a6, .ref 0] mem) :
    GM E (m_X11_weeks d) P 154 [.ref 0, vi a1, vi a2, vi a3, vi a4, vi a5, vi a6, vi a7] [] mem := by
  refine G_aload_n dX11_weeks_154 rfl ?_
  refine G_iload dX11_weeks_155 rfl ?_
  refine G_i2l dX11_weeks_157 (w1) ?_
  exact k1
set_option maxRecDepth 20000 in
set_option maxHeartbeats 1000000 in
theorem sg_X11_weeks_161 {E : Nat × (Nat → Int32)} {d : Nat} {P : Option Value → Mem → Prop} {mem : Mem} {a1 : Int} {a2 : Int} {a3 : Int} {a4 : Int} {a5 : Int} {a6 : Int} {a7 : Int}
    (k1 : P (some (vi a4)) mem) :
    GM E (m_X11_weeks d) P 161 [.ref 0, vi a1, vi a2, vi a3, vi a4, vi a5, vi a6, vi a7] [] mem := by
  refine G_iload dX11_weeks_161 rfl ?_
  exact G_iret dX11_weeks_163 rfl (Nat.zero_le _) (Nat.zero_le _) (Nat.le_refl _) ⟨rfl, k1⟩
abbrev m_X11_weighed (d : Nat) : Mu := (cX11_weighed, 3, RX11, (some .int), ⟨d, 0, 0, 40 * d⟩, "weighed")
set_option maxRecDepth 20000 in
set_option maxHeartbeats 1000000 in
theorem sg_X11_weighed_0 {E : Nat × (Nat → Int32)} {d : Nat} {P : Option Value → Mem → Prop} {mem : Mem} {a1 : Int} {a2 : Int}
    (k1 : GM E (m_X11_weighed d) P 5 [.ref 0, vi a1, vi a2] [vi a1, .ref 9] mem) :
    GM E (m_X11_weighed d) P 0 [.ref 0, vi a1, vi a2] [] mem := by
  refine G_aload_n dX11_weighed_0 rfl ?_
  refine G_getR (t := 9) dX11_weighed_1 fl_11_33 (by decide) sh_0 rr_0_3 ?_
  refine G_iload_n dX11_weighed_4 rfl ?_
  exact k1
set_option maxRecDepth 20000 in
set_option maxHeartbeats 1000000 in
theorem sg_X11_weighed_8 {E : Nat × (Nat → Int32)} {d : Nat} {P : Option Value → Mem → Prop} {mem : Mem} {a1 : Int} {a2 : Int} {s0 : Int} (w1 : -2147483648 ≤ s0 ∧ s0 < 2147483648) (w2 : -2147483648 ≤ a2 ∧ a2 < 2147483648)
    (k1 : s0 = 0 → P (some (vi (-1))) mem)
    (k2 : ¬ s0 = 0 → a2 < 0 → P (some (vi (-1))) mem)
    (k3 : ¬ s0 = 0 → ¬ a2 < 0 → a2 ≤ 9999 → GM E (m_X11_weighed d) P 30 [.ref 0, vi a1, vi a2] [vi a2, vi a1, .ref 93] mem)
    (k4 : ¬ s0 = 0 → ¬ a2 < 0 → ¬ a2 ≤ 9999 → P (some (vi (-1))) mem) :
    GM E (m_X11_weighed d) P 8 [.ref 0, vi a1, vi a2] [vi s0] mem := by
  refine G_if_eq (tgt := 22) dX11_weighed_8 (by decide) (w1) (fun c1 => ?_) (fun c1 => ?_)
  · -- s0 = 0
    refine G_iconst (z := (-1)) dX11_weighed_22 rfl ?_
    exact G_iret dX11_weighed_23 rfl (Nat.zero_le _) (Nat.zero_le _) (Nat.le_refl _) ⟨rfl, k1 c1⟩
  · -- ¬ s0 = 0
    refine G_iload_n dX11_weighed_11 rfl ?_
    refine G_if_lt (tgt := 22) dX11_weighed_12 (by decide) (w2) (fun c2 => ?_) (fun c2 => ?_)
    · -- a2 < 0
      refine G_iconst (z := (-1)) dX11_weighed_22 rfl ?_
      exact G_iret dX11_weighed_23 rfl (Nat.zero_le _) (Nat.zero_le _) (Nat.le_refl _) ⟨rfl, k2 c1 c2⟩
    · -- ¬ a2 < 0
      refine G_iload_n dX11_weighed_15 rfl ?_
      refine G_sipush (z := 9999) dX11_weighed_16 rfl ?_
      refine G_icmp_le (tgt := 24) dX11_weighed_19 (by decide) (w2) (by decide) (fun c3 => ?_) (fun c3 => ?_)
      · -- a2 ≤ 9999
        refine G_aload_n dX11_weighed_24 rfl ?_
        refine G_getR (t := 93) dX11_weighed_25 fl_11_56 (by decide) sh_0 rr_0_6 ?_
        refine G_iload_n dX11_weighed_28 rfl ?_
        refine G_iload_n dX11_weighed_29 rfl ?_
        exact k3 c1 c2 c3
      · -- ¬ a2 ≤ 9999
        refine G_iconst (z := (-1)) dX11_weighed_22 rfl ?_
        exact G_iret dX11_weighed_23 rfl (Nat.zero_le _) (Nat.zero_le _) (Nat.le_refl _) ⟨rfl, k4 c1 c2 c3⟩
set_option maxRecDepth 20000 in
set_option maxHeartbeats 1000000 in
theorem sg_X11_weighed_33 {E : Nat × (Nat → Int32)} {d : Nat} {P : Option Value → Mem → Prop} {mem : Mem} {a1 : Int} {a2 : Int} {s0 : Int} (w1 : -2147483648 ≤ s0 ∧ s0 < 2147483648)
    (k1 : s0 = 0 → P (some (vi (-1))) mem)
    (k2 : ¬ s0 = 0 → P (some (vi (mem 93 4))) mem) :
    GM E (m_X11_weighed d) P 33 [.ref 0, vi a1, vi a2] [vi s0] mem := by
  refine G_if_eq (tgt := 46) dX11_weighed_33 (by decide) (w1) (fun c1 => ?_) (fun c1 => ?_)
  · -- s0 = 0
    refine G_iconst (z := (-1)) dX11_weighed_46 rfl ?_
    exact G_iret dX11_weighed_47 rfl (Nat.zero_le _) (Nat.zero_le _) (Nat.le_refl _) ⟨rfl, k1 c1⟩
  · -- ¬ s0 = 0
    refine G_aload_n dX11_weighed_36 rfl ?_
    refine G_getR (t := 93) dX11_weighed_37 fl_11_56 (by decide) sh_0 rr_0_6 ?_
    refine G_getI (z := (mem 93 4)) dX11_weighed_40 fl_11_422 (by decide) sh_93 rfl ?_
    refine G_goto (tgt := 47) dX11_weighed_43 (by decide) ?_
    exact G_iret dX11_weighed_47 rfl (Nat.zero_le _) (Nat.zero_le _) (Nat.le_refl _) ⟨rfl, k2 c1⟩
abbrev m_X11_wet (d : Nat) : Mu := (cX11_wet, 4, RX11, (some .int), ⟨d, 0, 0, 40 * d⟩, "wet")
set_option maxRecDepth 20000 in
set_option maxHeartbeats 1000000 in
theorem sg_X11_wet_0 {E : Nat × (Nat → Int32)} {d : Nat} {P : Option Value → Mem → Prop} {mem : Mem} {a1 : Int} {a2 : Int}
    (k1 : GM E (m_X11_wet d) P 5 [.ref 0, vi a1, vi a2, un] [vi a1, .ref 9] mem) :
    GM E (m_X11_wet d) P 0 [.ref 0, vi a1, vi a2, un] [] mem := by
  refine G_aload_n dX11_wet_0 rfl ?_
  refine G_getR (t := 9) dX11_wet_1 fl_11_33 (by decide) sh_0 rr_0_3 ?_
  refine G_iload_n dX11_wet_4 rfl ?_
  exact k1
set_option maxRecDepth 20000 in
set_option maxHeartbeats 1000000 in
theorem sg_X11_wet_8n {E : Nat × (Nat → Int32)} {d : Nat} {P : Option Value → Mem → Prop} {mem : Mem} {a1 : Int} {a2 : Int}
    (k1 : P (some (vi (-1))) mem) :
    GM E (m_X11_wet d) P 8 [.ref 0, vi a1, vi a2, un] [.null] mem := by
  refine G_astoreNull_n dX11_wet_8 rfl (by decide : 3 < 4) rfl ?_
  refine G_aloadNull_n dX11_wet_9 rfl ?_
  refine G_ifnullZ (tgt := 23) dX11_wet_10 (by decide) ?_
  refine G_iconst (z := (-1)) dX11_wet_23 rfl ?_
  exact G_iret dX11_wet_24 rfl (Nat.zero_le _) (Nat.zero_le _) (Nat.le_refl _) ⟨rfl, k1⟩
set_option maxRecDepth 20000 in
set_option maxHeartbeats 1000000 in
theorem sg_X11_wet_8r {E : Nat × (Nat → Int32)} {d : Nat} {P : Option Value → Mem → Prop} {mem : Mem} {a1 : Int} {a2 : Int} {os0 : Nat} (hos0 : os0 ∈ streetL) (w1 : -2147483648 ≤ a2 ∧ a2 < 2147483648)
    (k1 : a2 < 0 → P (some (vi (-1))) mem)
    (k2 : ¬ a2 < 0 → a2 ≤ 9 → GM E (m_X11_wet d) P 36 [.ref 0, vi a1, vi a2, .ref os0] [vi a1, .ref 23, .ref os0, .ref 3, .ref 0] mem)
    (k3 : ¬ a2 < 0 → ¬ a2 ≤ 9 → P (some (vi (-1))) mem) :
    GM E (m_X11_wet d) P 8 [.ref 0, vi a1, vi a2, un] [.ref os0] mem := by
  refine G_astore_n dX11_wet_8 rfl (by decide : 3 < 4) rfl ?_
  refine G_aload_n dX11_wet_9 rfl ?_
  refine G_ifnull dX11_wet_10 ?_
  refine G_iload_n dX11_wet_13 rfl ?_
  refine G_if_lt (tgt := 23) dX11_wet_14 (by decide) (w1) (fun c1 => ?_) (fun c1 => ?_)
  · -- a2 < 0
    refine G_iconst (z := (-1)) dX11_wet_23 rfl ?_
    exact G_iret dX11_wet_24 rfl (Nat.zero_le _) (Nat.zero_le _) (Nat.le_refl _) ⟨rfl, k1 c1⟩
  · -- ¬ a2 < 0
    refine G_iload_n dX11_wet_17 rfl ?_
    refine G_bipush (z := 9) dX11_wet_18 rfl ?_
    refine G_icmp_le (tgt := 25) dX11_wet_20 (by decide) (w1) (by decide) (fun c2 => ?_) (fun c2 => ?_)
    · -- a2 ≤ 9
      refine G_aload_n dX11_wet_25 rfl ?_
      refine G_aload_n dX11_wet_26 rfl ?_
      refine G_getR (t := 3) dX11_wet_27 fl_11_19 (by decide) sh_0 rr_0_1 ?_
      refine G_aload_n dX11_wet_30 rfl ?_
      refine G_aload_n dX11_wet_31 rfl ?_
      refine G_getR (t := 23) dX11_wet_32 fl_11_40 (by decide) sh_0 rr_0_4 ?_
      refine G_iload_n dX11_wet_35 rfl ?_
      exact k2 c1 c2
    · -- ¬ a2 ≤ 9
      refine G_iconst (z := (-1)) dX11_wet_23 rfl ?_
      exact G_iret dX11_wet_24 rfl (Nat.zero_le _) (Nat.zero_le _) (Nat.le_refl _) ⟨rfl, k3 c1 c2⟩
set_option maxRecDepth 20000 in
set_option maxHeartbeats 1000000 in
theorem sg_X11_wet_39 {E : Nat × (Nat → Int32)} {d : Nat} {P : Option Value → Mem → Prop} {mem : Mem} {a1 : Int} {a2 : Int} {o3 : Nat} {s0 : Int} (ho3 : o3 ∈ streetL)
    (k1 : GM E (m_X11_wet d) P 40 [.ref 0, vi a1, vi a2, .ref o3] [vi a2, vi s0, .ref o3, .ref 3, .ref 0] mem) :
    GM E (m_X11_wet d) P 39 [.ref 0, vi a1, vi a2, .ref o3] [vi s0, .ref o3, .ref 3, .ref 0] mem := by
  refine G_iload_n dX11_wet_39 rfl ?_
  exact k1
set_option maxRecDepth 20000 in
set_option maxHeartbeats 1000000 in
theorem sg_X11_wet_43 {E : Nat × (Nat → Int32)} {d : Nat} {P : Option Value → Mem → Prop} {mem : Mem} {a1 : Int} {a2 : Int} {o3 : Nat} {s0 : Int} (ho3 : o3 ∈ streetL) (w1 : -2147483648 ≤ s0 ∧ s0 < 2147483648)
    (k1 : GM E (m_X11_wet d) P 44 [.ref 0, vi a1, vi a2, .ref o3] [vl s0, .ref 0] mem) :
    GM E (m_X11_wet d) P 43 [.ref 0, vi a1, vi a2, .ref o3] [vi s0, .ref 0] mem := by
  refine G_i2l dX11_wet_43 (w1) ?_
  exact k1
set_option maxRecDepth 20000 in
set_option maxHeartbeats 1000000 in
theorem sg_X11_wet_47 {E : Nat × (Nat → Int32)} {d : Nat} {P : Option Value → Mem → Prop} {mem : Mem} {a1 : Int} {a2 : Int} {o3 : Nat} (ho3 : o3 ∈ streetL)
    (k1 : GM E (m_X11_wet d) P 57 [.ref 0, vi a1, vi a2, .ref o3] [vi a1, .ref 23, .ref o3, .ref 3] mem) :
    GM E (m_X11_wet d) P 47 [.ref 0, vi a1, vi a2, .ref o3] [] mem := by
  refine G_aload_n dX11_wet_47 rfl ?_
  refine G_getR (t := 3) dX11_wet_48 fl_11_19 (by decide) sh_0 rr_0_1 ?_
  refine G_aload_n dX11_wet_51 rfl ?_
  refine G_aload_n dX11_wet_52 rfl ?_
  refine G_getR (t := 23) dX11_wet_53 fl_11_40 (by decide) sh_0 rr_0_4 ?_
  refine G_iload_n dX11_wet_56 rfl ?_
  exact k1
set_option maxRecDepth 20000 in
set_option maxHeartbeats 1000000 in
theorem sg_X11_wet_60 {E : Nat × (Nat → Int32)} {d : Nat} {P : Option Value → Mem → Prop} {mem : Mem} {a1 : Int} {a2 : Int} {o3 : Nat} {s0 : Int} (ho3 : o3 ∈ streetL)
    (k1 : GM E (m_X11_wet d) P 61 [.ref 0, vi a1, vi a2, .ref o3] [vi a2, vi s0, .ref o3, .ref 3] mem) :
    GM E (m_X11_wet d) P 60 [.ref 0, vi a1, vi a2, .ref o3] [vi s0, .ref o3, .ref 3] mem := by
  refine G_iload_n dX11_wet_60 rfl ?_
  exact k1
set_option maxRecDepth 20000 in
set_option maxHeartbeats 1000000 in
theorem sg_X11_wet_64 {E : Nat × (Nat → Int32)} {d : Nat} {P : Option Value → Mem → Prop} {mem : Mem} {a1 : Int} {a2 : Int} {o3 : Nat} {s0 : Int} (ho3 : o3 ∈ streetL)
    (k1 : P (some (vi s0)) mem) :
    GM E (m_X11_wet d) P 64 [.ref 0, vi a1, vi a2, .ref o3] [vi s0] mem := by
  exact G_iret dX11_wet_64 rfl (Nat.zero_le _) (Nat.zero_le _) (Nat.le_refl _) ⟨rfl, k1⟩
abbrev m_X11_whose (d : Nat) : Mu := (cX11_whose, 3, RX11, (some .int), ⟨d, 0, 0, 40 * d⟩, "whose")
set_option maxRecDepth 20000 in
set_option maxHeartbeats 1000000 in
theorem sg_X11_whose_0 {E : Nat × (Nat → Int32)} {d : Nat} {P : Option Value → Mem → Prop} {mem : Mem}
    (k1 : GM E (m_X11_whose d) P 4 [.ref 0, un, un] [.ref 93] mem) :
    GM E (m_X11_whose d) P 0 [.ref 0, un, un] [] mem := by
  refine G_aload_n dX11_whose_0 rfl ?_
  refine G_getR (t := 93) dX11_whose_1 fl_11_56 (by decide) sh_0 rr_0_6 ?_
  exact k1
set_option maxRecDepth 20000 in
set_option maxHeartbeats 1000000 in
theorem sg_X11_whose_7 {E : Nat × (Nat → Int32)} {d : Nat} {P : Option Value → Mem → Prop} {mem : Mem}
    (k1 : GM E (m_X11_whose d) P 11 [.ref 0, vi 0, vi 0] [] mem) :
    GM E (m_X11_whose d) P 7 [.ref 0, un, un] [] mem := by
  refine G_iconst (z := 0) dX11_whose_7 rfl ?_
  refine G_istore_n dX11_whose_8 rfl (by decide : 1 < 3) rfl ?_
  refine G_iconst (z := 0) dX11_whose_9 rfl ?_
  refine G_istore_n dX11_whose_10 rfl (by decide : 2 < 3) rfl ?_
  exact k1
set_option maxRecDepth 20000 in
set_option maxHeartbeats 1000000 in
theorem sg_X11_whose_11 {E : Nat × (Nat → Int32)} {d : Nat} {P : Option Value → Mem → Prop} {mem : Mem} {a1 : Int} {a2 : Int} (w1 : -2147483648 ≤ a2 ∧ a2 < 2147483648) (w2 : -2147483648 ≤ (mem 9 1) ∧ (mem 9 1) < 2147483648) (w3 : (mem 9 1) ≤ a2 → -2147483648 ≤ (mem 93 9) ∧ (mem 93 9) < 2147483648)
    (k1 : (mem 9 1) ≤ a2 → (mem 93 9) = 0 → GM E (m_X11_whose d) P 63 [.ref 0, vi a1, vi a2] [vl 0, .ref 0] mem)
    (k2 : (mem 9 1) ≤ a2 → ¬ (mem 93 9) = 0 → GM E (m_X11_whose d) P 63 [.ref 0, vi a1, vi a2] [vl 1, .ref 0] mem)
    (k3 : ¬ (mem 9 1) ≤ a2 → GM E (m_X11_whose d) P 29 [.ref 0, vi a1, vi a2] [vi (shlI 1 a2), .ref 93] mem) :
    GM E (m_X11_whose d) P 11 [.ref 0, vi a1, vi a2] [] mem := by
  refine G_iload_n dX11_whose_11 rfl ?_
  refine G_aload_n dX11_whose_12 rfl ?_
  refine G_getR (t := 9) dX11_whose_13 fl_11_33 (by decide) sh_0 rr_0_3 ?_
  refine G_getI (z := (mem 9 1)) dX11_whose_16 fl_11_113 (by decide) sh_9 rfl ?_
  refine G_icmp_ge (tgt := 47) dX11_whose_19 (by decide) (w1) (w2) (fun c1 => ?_) (fun c1 => ?_)
  · -- (mem 9 1) ≤ a2
    refine G_aload_n dX11_whose_47 rfl ?_
    refine G_aload_n dX11_whose_48 rfl ?_
    refine G_getR (t := 93) dX11_whose_49 fl_11_56 (by decide) sh_0 rr_0_6 ?_
    refine G_getI (z := (mem 93 9)) dX11_whose_52 fl_11_432 (by decide) sh_93 rfl ?_
    refine G_if_eq (tgt := 62) dX11_whose_55 (by decide) (w3 c1) (fun c2 => ?_) (fun c2 => ?_)
    · -- (mem 93 9) = 0
      refine G_lconst (z := 0) dX11_whose_62 rfl ?_
      exact k1 c1 c2
    · -- ¬ (mem 93 9) = 0
      refine G_lconst (z := 1) dX11_whose_58 rfl ?_
      refine G_goto (tgt := 63) dX11_whose_59 (by decide) ?_
      exact k2 c1 c2
  · -- ¬ (mem 9 1) ≤ a2
    refine G_aload_n dX11_whose_22 rfl ?_
    refine G_getR (t := 93) dX11_whose_23 fl_11_56 (by decide) sh_0 rr_0_6 ?_
    refine G_iconst (z := 1) dX11_whose_26 rfl ?_
    refine G_iload_n dX11_whose_27 rfl ?_
    refine G_ishl (z := (shlI 1 a2)) dX11_whose_28 (iI_inv _) ?_
    exact k3 c1
set_option maxRecDepth 20000 in
set_option maxHeartbeats 1000000 in
theorem sg_X11_whose_32 {E : Nat × (Nat → Int32)} {d : Nat} {P : Option Value → Mem → Prop} {mem : Mem} {a1 : Int} {a2 : Int} {s0 : Int} (w1 : -2147483648 ≤ s0 ∧ s0 < 2147483648)
    (k1 : s0 ≤ 0 → GM E (m_X11_whose d) P 11 [.ref 0, vi a1, vi (a2 + 1)] [] mem)
    (k2 : ¬ s0 ≤ 0 → GM E (m_X11_whose d) P 11 [.ref 0, vi (borI a1 (shlI 1 a2)), vi (a2 + 1)] [] mem) :
    GM E (m_X11_whose d) P 32 [.ref 0, vi a1, vi a2] [vi s0] mem := by
  refine G_if_le (tgt := 41) dX11_whose_32 (by decide) (w1) (fun c1 => ?_) (fun c1 => ?_)
  · -- s0 ≤ 0
    refine G_iinc (z := (a2 + 1)) dX11_whose_41 rfl rfl (by decide : 2 < 3) rfl ?_
    refine G_goto (tgt := 11) dX11_whose_44 (by decide) ?_
    exact k1 c1
  · -- ¬ s0 ≤ 0
    refine G_iload_n dX11_whose_35 rfl ?_
    refine G_iconst (z := 1) dX11_whose_36 rfl ?_
    refine G_iload_n dX11_whose_37 rfl ?_
    refine G_ishl (z := (shlI 1 a2)) dX11_whose_38 (iI_inv _) ?_
    refine G_ior (z := (borI a1 (shlI 1 a2))) dX11_whose_39 (iI_inv _) ?_
    refine G_istore_n dX11_whose_40 rfl (by decide : 1 < 3) rfl ?_
    refine G_iinc (z := (a2 + 1)) dX11_whose_41 rfl rfl (by decide : 2 < 3) rfl ?_
    refine G_goto (tgt := 11) dX11_whose_44 (by decide) ?_
    exact k2 c1
set_option maxRecDepth 20000 in
set_option maxHeartbeats 1000000 in
theorem sg_X11_whose_66 {E : Nat × (Nat → Int32)} {d : Nat} {P : Option Value → Mem → Prop} {mem : Mem} {a1 : Int} {a2 : Int}
    (k1 : P (some (vi a1)) mem) :
    GM E (m_X11_whose d) P 66 [.ref 0, vi a1, vi a2] [] mem := by
  refine G_iload_n dX11_whose_66 rfl ?_
  exact G_iret dX11_whose_67 rfl (Nat.zero_le _) (Nat.zero_le _) (Nat.le_refl _) ⟨rfl, k1⟩
