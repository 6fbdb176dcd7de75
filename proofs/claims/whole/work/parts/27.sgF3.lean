set_option maxRecDepth 20000 in
set_option maxHeartbeats 8000000 in
theorem sg_X12_wet_0 {E : Nat × (Nat → Int32)} {P : Option Value → Mem → Prop} {mem : Mem} {a1 : Int} {a2 : Int} (w1 : 0 ≤ (mem 169 3) ∧ (mem 169 3) < 2147483648) (w2 : -2147483648 ≤ a1 ∧ a1 < 2147483648) (w3 : -2147483648 ≤ a2 ∧ a2 < 2147483648) (w4 : -9223372036854775808 ≤ a2 ∧ a2 < 9223372036854775808)
    (k1 : 0 ≤ a1 ∧ a1 < (mem 169 3) → 0 ≤ a2 ∧ a2 ≤ 9 → GM E (m_X12_wet 2) P 38 [.ref 169, vi a1, vi a2, vi 0, vi 0, vi (16 * a1), un] [] (up2 mem 169 0 0))
    (k2 : 0 ≤ a1 ∧ a1 < (mem 169 3) → ¬ (0 ≤ a2 ∧ a2 ≤ 9) → P (some (vi (-1))) (up2 mem 169 0 0))
    (k3 : ¬ (0 ≤ a1 ∧ a1 < (mem 169 3)) → P (some (vi (-1))) (up2 mem 169 0 0)) :
    GM E (m_X12_wet 2) P 0 [.ref 169, vi a1, vi a2, un, un, un, un] [] mem := by
  refine G_aload_n dX12_wet_0 rfl ?_
  refine G_iconst (z := 0) dX12_wet_1 rfl ?_
  refine G_putI (mem2 := (up2 mem 169 0 0)) dX12_wet_2 fp_12_126 (by decide) sh_169 rfl ?_
  refine G_aload_n dX12_wet_5 rfl ?_
  refine G_iload_n dX12_wet_6 rfl ?_
  refine cb_X12_wet_7 (ic_X12_isStreet (z := (mem 169 3)) (by simp [up2, upr]) (w2) (w1) (fun c1 => ?_) (fun c2 => ?_))
  · -- 0 ≤ a1 ∧ a1 < (mem 169 3)
    refine G_if_eq (tgt := 25) dX12_wet_10 (by decide) (by decide) (fun h => absurd h (by decide)) (fun _ => ?_)
    refine G_iload_n dX12_wet_13 rfl ?_
    refine G_i2l dX12_wet_14 (w3) ?_
    refine G_lconst (z := 0) dX12_wet_15 rfl ?_
    refine G_ldc2 (z := 9) dX12_wet_16 kc_12_414 ?_
    refine cb_X12_wet_19 (ic_X12_in (w4) (by decide) (by decide) (fun c3 => ?_) (fun c4 => ?_))
    · -- 0 ≤ a2 ∧ a2 ≤ 9
      refine G_if_ne (tgt := 27) dX12_wet_22 (by decide) (by decide) (fun _ => ?_) (fun h => absurd h (by decide))
      refine G_iconst (z := 0) dX12_wet_27 rfl ?_
      refine G_istore_n dX12_wet_28 rfl (by decide : 3 < 7) rfl ?_
      refine G_iconst (z := 0) dX12_wet_29 rfl ?_
      refine G_istore dX12_wet_30 (by decide : 4 < 7) rfl ?_
      refine G_bipush (z := 16) dX12_wet_32 rfl ?_
      refine G_iload_n dX12_wet_34 rfl ?_
      refine G_imul dX12_wet_35 ?_
      refine G_istore dX12_wet_36 (by decide : 5 < 7) rfl ?_
      exact k1 c1 c3
    · -- ¬ (0 ≤ a2 ∧ a2 ≤ 9)
      refine G_if_ne (tgt := 27) dX12_wet_22 (by decide) (by decide) (fun h => absurd h (by decide)) (fun _ => ?_)
      refine G_iconst (z := (-1)) dX12_wet_25 rfl ?_
      exact G_iret dX12_wet_26 rfl (Nat.zero_le _) (Nat.zero_le _) (Nat.le_refl _) ⟨rfl, k2 c1 c4⟩
  · -- ¬ (0 ≤ a1 ∧ a1 < (mem 169 3))
    refine G_if_eq (tgt := 25) dX12_wet_10 (by decide) (by decide) (fun _ => ?_) (fun h => absurd h (by decide))
    refine G_iconst (z := (-1)) dX12_wet_25 rfl ?_
    exact G_iret dX12_wet_26 rfl (Nat.zero_le _) (Nat.zero_le _) (Nat.le_refl _) ⟨rfl, k3 c2⟩
set_option maxRecDepth 20000 in
set_option maxHeartbeats 8000000 in
theorem sg_X12_wet_38 {E : Nat × (Nat → Int32)} {P : Option Value → Mem → Prop} {mem : Mem} {a1 : Int} {a2 : Int} {a3 : Int} {a4 : Int} {a5 : Int} (w1 : -2147483648 ≤ a5 ∧ a5 < 2147483648) (w2 : -2147483648 ≤ (16 * (a1 + 1)) ∧ (16 * (a1 + 1)) < 2147483648) (w3 : -2147483648 ≤ a4 ∧ a4 < 2147483648) (q4 : ¬ (16 * (a1 + 1)) ≤ a5 → 0 ≤ a5 ∧ a5 < 99) (w5 : ¬ (16 * (a1 + 1)) ≤ a5 → -2147483648 ≤ (mem 180 a5) ∧ (mem 180 a5) < 2147483648) (q6 : ¬ (16 * (a1 + 1)) ≤ a5 → (mem 180 a5) = 1 → 0 ≤ a5 ∧ a5 < 96) (w7 : ¬ (16 * (a1 + 1)) ≤ a5 → -2147483648 ≤ (if (mem 180 a5) ≠ 1 then (0 : Int) else (divI (((mem 178 a5) * (mem 179 3)) * (10 + a2)) 10)) ∧ (if (mem 180 a5) ≠ 1 then (0 : Int) else (divI (((mem 178 a5) * (mem 179 3)) * (10 + a2)) 10)) < 2147483648) (w8 : ¬ (16 * (a1 + 1)) ≤ a5 → -2147483648 ≤ (mem 179 4) ∧ (mem 179 4) < 2147483648)
    (k1 : (16 * (a1 + 1)) ≤ a5 → P (some (vi a3)) (up2 (up2 (up2 mem 169 1 0) 170 0 a4) 169 1 1))
    (k2 : ¬ (16 * (a1 + 1)) ≤ a5 → (if (mem 180 a5) ≠ 1 then (0 : Int) else (divI (((mem 178 a5) * (mem 179 3)) * (10 + a2)) 10)) ≤ (mem 179 4) → GM E (m_X12_wet 2) P 38 [.ref 169, vi a1, vi a2, vi (a3 + (if (mem 180 a5) ≠ 1 then (0 : Int) else (divI (((mem 178 a5) * (mem 179 3)) * (10 + a2)) 10))), vi (a4 + 0), vi (a5 + 1), un] [] mem)
    (k3 : ¬ (16 * (a1 + 1)) ≤ a5 → ¬ (if (mem 180 a5) ≠ 1 then (0 : Int) else (divI (((mem 178 a5) * (mem 179 3)) * (10 + a2)) 10)) ≤ (mem 179 4) → GM E (m_X12_wet 2) P 38 [.ref 169, vi a1, vi a2, vi (a3 + (if (mem 180 a5) ≠ 1 then (0 : Int) else (divI (((mem 178 a5) * (mem 179 3)) * (10 + a2)) 10))), vi (a4 + 1), vi (a5 + 1), un] [] mem) :
    GM E (m_X12_wet 2) P 38 [.ref 169, vi a1, vi a2, vi a3, vi a4, vi a5, un] [] mem := by
  refine G_iload dX12_wet_38 rfl ?_
  refine G_bipush (z := 16) dX12_wet_40 rfl ?_
  refine G_iload_n dX12_wet_42 rfl ?_
  refine G_iconst (z := 1) dX12_wet_43 rfl ?_
  refine G_iadd dX12_wet_44 ?_
  refine G_imul dX12_wet_45 ?_
  refine G_icmp_ge (tgt := 113) dX12_wet_46 (by decide) (w1) (w2) (fun c1 => ?_) (fun c1 => ?_)
  · -- (16 * (a1 + 1)) ≤ a5
    refine G_aload_n dX12_wet_113 rfl ?_
    refine G_iconst (z := 0) dX12_wet_114 rfl ?_
    refine G_putI (mem2 := (up2 mem 169 1 0)) dX12_wet_115 fp_12_134 (by decide) sh_169 rfl ?_
    refine G_aload_n dX12_wet_118 rfl ?_
    refine G_iload dX12_wet_119 rfl ?_
    refine G_i2l dX12_wet_121 (w3) ?_
    refine cb_X12_wet_122 (ic_X12_enters (z := 0) (z2 := 1) (by simp [up2, upr]) (by decide) rfl ?_)
    refine G_iload_n dX12_wet_125 rfl ?_
    exact G_iret dX12_wet_126 rfl (Nat.zero_le _) (Nat.zero_le _) (Nat.le_refl _) ⟨rfl, k1 c1⟩
  · -- ¬ (16 * (a1 + 1)) ≤ a5
    refine G_aload_n dX12_wet_49 rfl ?_
    refine G_getR (t := 180) dX12_wet_50 fl_12_42 (by decide) sh_169 rr_169_14 ?_
    refine G_iload dX12_wet_53 rfl ?_
    refine G_iald (z := (mem 180 a5)) dX12_wet_55 (by decide) sh_180 (by decide) (q4 c1).1 (q4 c1).2 rfl ?_
    refine G_iconst (z := 1) dX12_wet_56 rfl ?_
    have j1 : GM E (m_X12_wet 2) P 76 [.ref 169, vi a1, vi a2, vi a3, vi a4, vi a5, un] [vi (if (mem 180 a5) ≠ 1 then (0 : Int) else (divI (((mem 178 a5) * (mem 179 3)) * (10 + a2)) 10))] mem := by
      refine G_istore dX12_wet_76 (by decide : 6 < 7) rfl ?_
      refine G_iload_n dX12_wet_78 rfl ?_
      refine G_iload dX12_wet_79 rfl ?_
      refine G_iadd dX12_wet_81 ?_
      refine G_istore_n dX12_wet_82 rfl (by decide : 3 < 7) rfl ?_
      refine G_iload dX12_wet_83 rfl ?_
      refine G_iload dX12_wet_85 rfl ?_
      refine G_aload_n dX12_wet_87 rfl ?_
      refine G_getR (t := 179) dX12_wet_88 fl_12_39 (by decide) sh_169 rr_169_13 ?_
      refine G_iconst (z := 4) dX12_wet_91 rfl ?_
      refine G_iald (z := (mem 179 4)) dX12_wet_92 (by decide) sh_179 (by decide) (by decide) (by decide) rfl ?_
      refine G_icmp_le (tgt := 100) dX12_wet_93 (by decide) (w7 c1) (w8 c1) (fun c3 => ?_) (fun c3 => ?_)
      · -- (if (mem 180 a5) ≠ 1 then (0 : Int) else (divI (((mem 178 a5) * (mem 179 3)) * (10 + a2)) 10)) ≤ (mem 179 4)
        refine G_iconst (z := 0) dX12_wet_100 rfl ?_
        refine cb_X12_wet_101 (ic_X12_flagL (by decide) ?_)
        refine G_iadd dX12_wet_104 ?_
        refine G_istore dX12_wet_105 (by decide : 4 < 7) rfl ?_
        refine G_iinc (z := (a5 + 1)) dX12_wet_107 rfl rfl (by decide : 5 < 7) rfl ?_
        refine G_goto (tgt := 38) dX12_wet_110 (by decide) ?_
        refine G_weak (lv2 := [.ref 169, vi a1, vi a2, vi (a3 + (if (mem 180 a5) ≠ 1 then (0 : Int) else (divI (((mem 178 a5) * (mem 179 3)) * (10 + a2)) 10))), vi (a4 + 0), vi (a5 + 1), un]) ⟨Or.inr rfl, Or.inr rfl, Or.inr rfl, Or.inr rfl, Or.inr rfl, Or.inr rfl, Or.inl rfl, trivial⟩ ?_
        exact k2 c1 c3
      · -- ¬ (if (mem 180 a5) ≠ 1 then (0 : Int) else (divI (((mem 178 a5) * (mem 179 3)) * (10 + a2)) 10)) ≤ (mem 179 4)
        refine G_iconst (z := 1) dX12_wet_96 rfl ?_
        refine G_goto (tgt := 101) dX12_wet_97 (by decide) ?_
        refine cb_X12_wet_101 (ic_X12_flagL (by decide) ?_)
        refine G_iadd dX12_wet_104 ?_
        refine G_istore dX12_wet_105 (by decide : 4 < 7) rfl ?_
        refine G_iinc (z := (a5 + 1)) dX12_wet_107 rfl rfl (by decide : 5 < 7) rfl ?_
        refine G_goto (tgt := 38) dX12_wet_110 (by decide) ?_
        refine G_weak (lv2 := [.ref 169, vi a1, vi a2, vi (a3 + (if (mem 180 a5) ≠ 1 then (0 : Int) else (divI (((mem 178 a5) * (mem 179 3)) * (10 + a2)) 10))), vi (a4 + 1), vi (a5 + 1), un]) ⟨Or.inr rfl, Or.inr rfl, Or.inr rfl, Or.inr rfl, Or.inr rfl, Or.inr rfl, Or.inl rfl, trivial⟩ ?_
        exact k3 c1 c3
    refine G_icmp_ne (tgt := 75) dX12_wet_57 (by decide) (w5 c1) (by decide) (fun c2 => ?_) (fun c2 => ?_)
    · -- (mem 180 a5) ≠ 1
      refine G_iconst (z := 0) dX12_wet_75 rfl ?_
      have qj1 := j1
      simp only [if_pos c2] at qj1
      exact qj1
    · -- (mem 180 a5) = 1
      refine G_aload_n dX12_wet_60 rfl ?_
      refine G_aload_n dX12_wet_61 rfl ?_
      refine G_getR (t := 178) dX12_wet_62 fl_12_36 (by decide) sh_169 rr_169_12 ?_
      refine G_iload dX12_wet_65 rfl ?_
      refine G_iald (z := (mem 178 a5)) dX12_wet_67 (by decide) sh_178 (by decide) (q6 c1 c2).1 (q6 c1 c2).2 rfl ?_
      refine G_iload_n dX12_wet_68 rfl ?_
      refine cb_X12_wet_69 (ic_X12_heavyBy (z := (mem 179 3)) rfl ?_)
      refine G_goto (tgt := 76) dX12_wet_72 (by decide) ?_
      have qj1 := j1
      simp only [if_neg (show ¬ ((mem 180 a5) ≠ 1) from fun q => q c2)] at qj1
      exact qj1
set_option maxRecDepth 20000 in
set_option maxHeartbeats 8000000 in
theorem sg_X12_whose_0 {E : Nat × (Nat → Int32)} {P : Option Value → Mem → Prop} {mem : Mem}
    (k1 : GM E (m_X12_whose 5) P 6 [.ref 169, un, un] [.ref 169] (up2 mem 169 0 0)) :
    GM E (m_X12_whose 5) P 0 [.ref 169, un, un] [] mem := by
  refine G_aload_n dX12_whose_0 rfl ?_
  refine G_iconst (z := 0) dX12_whose_1 rfl ?_
  refine G_putI (mem2 := (up2 mem 169 0 0)) dX12_whose_2 fp_12_126 (by decide) sh_169 rfl ?_
  refine G_aload_n dX12_whose_5 rfl ?_
  exact k1
set_option maxRecDepth 20000 in
set_option maxHeartbeats 8000000 in
theorem sg_X12_whose_9 {E : Nat × (Nat → Int32)} {P : Option Value → Mem → Prop} {mem : Mem}
    (k1 : GM E (m_X12_whose 5) P 13 [.ref 169, vi 0, vi 0] [] mem) :
    GM E (m_X12_whose 5) P 9 [.ref 169, un, un] [] mem := by
  refine G_iconst (z := 0) dX12_whose_9 rfl ?_
  refine G_istore_n dX12_whose_10 rfl (by decide : 1 < 3) rfl ?_
  refine G_iconst (z := 0) dX12_whose_11 rfl ?_
  refine G_istore_n dX12_whose_12 rfl (by decide : 2 < 3) rfl ?_
  exact k1
set_option maxRecDepth 20000 in
set_option maxHeartbeats 8000000 in
theorem sg_X12_whose_13 {E : Nat × (Nat → Int32)} {P : Option Value → Mem → Prop} {mem : Mem} {a1 : Int} {a2 : Int} (w1 : -2147483648 ≤ a2 ∧ a2 < 2147483648) (w2 : -2147483648 ≤ (mem 169 3) ∧ (mem 169 3) < 2147483648) (q3 : ¬ (mem 169 3) ≤ a2 → 0 ≤ a2 ∧ a2 < 6) (w4 : ¬ (mem 169 3) ≤ a2 → -2147483648 ≤ (mem 203 a2) ∧ (mem 203 a2) < 2147483648)
    (k1 : (mem 169 3) ≤ a2 → GM E (m_X12_whose 5) P 55 [.ref 169, vi a1, vi a2] [vi 0, vi (-1), .ref 169, .ref 169] (up2 mem 169 1 0))
    (k2 : ¬ (mem 169 3) ≤ a2 → GM E (m_X12_whose 5) P 13 [.ref 169, vi (borI a1 (if (mem 203 a2) ≤ 0 then (0 : Int) else (shlI 1 a2))), vi (a2 + 1)] [] mem) :
    GM E (m_X12_whose 5) P 13 [.ref 169, vi a1, vi a2] [] mem := by
  refine G_iload_n dX12_whose_13 rfl ?_
  refine G_aload_n dX12_whose_14 rfl ?_
  refine G_getI (z := (mem 169 3)) dX12_whose_15 fl_12_137 (by decide) sh_169 rfl ?_
  refine G_icmp_ge (tgt := 46) dX12_whose_18 (by decide) (w1) (w2) (fun c1 => ?_) (fun c1 => ?_)
  · -- (mem 169 3) ≤ a2
    refine G_aload_n dX12_whose_46 rfl ?_
    refine G_iconst (z := 0) dX12_whose_47 rfl ?_
    refine G_putI (mem2 := (up2 mem 169 1 0)) dX12_whose_48 fp_12_134 (by decide) sh_169 rfl ?_
    refine G_aload_n dX12_whose_51 rfl ?_
    refine G_aload_n dX12_whose_52 rfl ?_
    refine G_iconst (z := (-1)) dX12_whose_53 rfl ?_
    refine G_iconst (z := 0) dX12_whose_54 rfl ?_
    exact k1 c1
  · -- ¬ (mem 169 3) ≤ a2
    refine G_iload_n dX12_whose_21 rfl ?_
    refine G_aload_n dX12_whose_22 rfl ?_
    refine G_getR (t := 203) dX12_whose_23 fl_12_111 (by decide) sh_169 rr_169_65 ?_
    refine G_iload_n dX12_whose_26 rfl ?_
    refine G_iald (z := (mem 203 a2)) dX12_whose_27 (by decide) sh_203 (by decide) (q3 c1).1 (q3 c1).2 rfl ?_
    have j1 : GM E (m_X12_whose 5) P 38 [.ref 169, vi a1, vi a2] [vi (if (mem 203 a2) ≤ 0 then (0 : Int) else (shlI 1 a2)), vi a1] mem := by
      refine G_ior (z := (borI a1 (if (mem 203 a2) ≤ 0 then (0 : Int) else (shlI 1 a2)))) dX12_whose_38 (iI_inv _) ?_
      refine G_istore_n dX12_whose_39 rfl (by decide : 1 < 3) rfl ?_
      refine G_iinc (z := (a2 + 1)) dX12_whose_40 rfl rfl (by decide : 2 < 3) rfl ?_
      refine G_goto (tgt := 13) dX12_whose_43 (by decide) ?_
      exact k2 c1
    refine G_if_le (tgt := 37) dX12_whose_28 (by decide) (w4 c1) (fun c2 => ?_) (fun c2 => ?_)
    · -- (mem 203 a2) ≤ 0
      refine G_iconst (z := 0) dX12_whose_37 rfl ?_
      have qj1 := j1
      simp only [if_pos c2] at qj1
      exact qj1
    · -- ¬ (mem 203 a2) ≤ 0
      refine G_iconst (z := 1) dX12_whose_31 rfl ?_
      refine G_iload_n dX12_whose_32 rfl ?_
      refine G_ishl (z := (shlI 1 a2)) dX12_whose_33 (iI_inv _) ?_
      refine G_goto (tgt := 38) dX12_whose_34 (by decide) ?_
      have qj1 := j1
      simp only [if_neg c2] at qj1
      exact qj1
set_option maxRecDepth 20000 in
set_option maxHeartbeats 8000000 in
theorem sg_X12_whose_58 {E : Nat × (Nat → Int32)} {P : Option Value → Mem → Prop} {mem : Mem} {a1 : Int} {a2 : Int} {s0 : Int} (w1 : -2147483648 ≤ s0 ∧ s0 < 2147483648) (q2 : ¬ s0 = 0 → 0 ≤ (mem 169 1) ∧ (mem 169 1) < 24) (q3 : s0 = 0 → 0 ≤ (mem 169 1) ∧ (mem 169 1) < 24)
    (k1 : ¬ s0 = 0 → P (some (vi a1)) (up2 (up2 mem 170 (mem 169 1) 1) 169 1 ((mem 169 1) + 1)))
    (k2 : s0 = 0 → P (some (vi a1)) (up2 (up2 mem 170 (mem 169 1) 0) 169 1 ((mem 169 1) + 1))) :
    GM E (m_X12_whose 5) P 58 [.ref 169, vi a1, vi a2] [vi s0, .ref 169] mem := by
  refine cb_X12_whose_58 (ic_X12_flag (w1) (fun c1 => ?_) (fun c2 => ?_))
  · -- ¬ s0 = 0
    refine G_i2l dX12_whose_61 (by decide) ?_
    refine cb_X12_whose_62 (ic_X12_enters (z := (mem 169 1)) (z2 := ((mem 169 1) + 1)) rfl (q2 c1) rfl ?_)
    refine G_iload_n dX12_whose_65 rfl ?_
    exact G_iret dX12_whose_66 rfl (Nat.zero_le _) (Nat.zero_le _) (Nat.le_refl _) ⟨rfl, k1 c1⟩
  · -- s0 = 0
    refine G_i2l dX12_whose_61 (by decide) ?_
    refine cb_X12_whose_62 (ic_X12_enters (z := (mem 169 1)) (z2 := ((mem 169 1) + 1)) rfl (q3 c2) rfl ?_)
    refine G_iload_n dX12_whose_65 rfl ?_
    exact G_iret dX12_whose_66 rfl (Nat.zero_le _) (Nat.zero_le _) (Nat.le_refl _) ⟨rfl, k2 c2⟩
set_option maxRecDepth 20000 in
set_option maxHeartbeats 8000000 in
theorem sg_X12_whyNot_0 {E : Nat × (Nat → Int32)} {P : Option Value → Mem → Prop} {mem : Mem} {a1 : Int} {a2 : Int} (w1 : 0 ≤ (mem 169 3) ∧ (mem 169 3) < 2147483648) (w2 : -2147483648 ≤ a1 ∧ a1 < 2147483648) (w3 : -2147483648 ≤ a2 ∧ a2 < 2147483648) (w4 : -9223372036854775808 ≤ a2 ∧ a2 < 9223372036854775808) (q5 : 0 ≤ a1 ∧ a1 < (mem 169 3) → 0 ≤ a2 ∧ a2 ≤ 2 → 0 ≤ a1 ∧ a1 < 6) (w6 : 0 ≤ a1 ∧ a1 < (mem 169 3) → 0 ≤ a2 ∧ a2 ≤ 2 → -2147483648 ≤ (mem 180 97) ∧ (mem 180 97) < 2147483648) (w7 : 0 ≤ a1 ∧ a1 < (mem 169 3) → 0 ≤ a2 ∧ a2 ≤ 2 → -2147483648 ≤ (mem 171 a1) ∧ (mem 171 a1) < 2147483648)
    (k1 : 0 ≤ a1 ∧ a1 < (mem 169 3) → 0 ≤ a2 ∧ a2 ≤ 2 → (mem 180 97) = (mem 171 a1) → GM E (m_X12_whyNot 2) P 51 [.ref 169, vi a1, vi a2] [vi a1, .ref 180, .ref 169] mem)
    (k2 : 0 ≤ a1 ∧ a1 < (mem 169 3) → 0 ≤ a2 ∧ a2 ≤ 2 → ¬ (mem 180 97) = (mem 171 a1) → P (some (vi (-2))) mem)
    (k3 : 0 ≤ a1 ∧ a1 < (mem 169 3) → ¬ (0 ≤ a2 ∧ a2 ≤ 2) → P (some (vi (-1))) mem)
    (k4 : ¬ (0 ≤ a1 ∧ a1 < (mem 169 3)) → P (some (vi (-1))) mem) :
    GM E (m_X12_whyNot 2) P 0 [.ref 169, vi a1, vi a2] [] mem := by
  refine G_aload_n dX12_whyNot_0 rfl ?_
  refine G_iload_n dX12_whyNot_1 rfl ?_
  refine cb_X12_whyNot_2 (ic_X12_isStreet (z := (mem 169 3)) rfl (w2) (w1) (fun c1 => ?_) (fun c2 => ?_))
  · -- 0 ≤ a1 ∧ a1 < (mem 169 3)
    refine G_if_eq (tgt := 20) dX12_whyNot_5 (by decide) (by decide) (fun h => absurd h (by decide)) (fun _ => ?_)
    refine G_iload_n dX12_whyNot_8 rfl ?_
    refine G_i2l dX12_whyNot_9 (w3) ?_
    refine G_lconst (z := 0) dX12_whyNot_10 rfl ?_
    refine G_ldc2 (z := 2) dX12_whyNot_11 kc_12_346 ?_
    refine cb_X12_whyNot_14 (ic_X12_in (w4) (by decide) (by decide) (fun c3 => ?_) (fun c4 => ?_))
    · -- 0 ≤ a2 ∧ a2 ≤ 2
      refine G_if_ne (tgt := 24) dX12_whyNot_17 (by decide) (by decide) (fun _ => ?_) (fun h => absurd h (by decide))
      refine G_aload_n dX12_whyNot_24 rfl ?_
      refine G_getR (t := 180) dX12_whyNot_25 fl_12_42 (by decide) sh_169 rr_169_14 ?_
      refine G_bipush (z := 97) dX12_whyNot_28 rfl ?_
      refine G_iald (z := (mem 180 97)) dX12_whyNot_30 (by decide) sh_180 (by decide) (by decide) (by decide) rfl ?_
      refine G_aload_n dX12_whyNot_31 rfl ?_
      refine G_getR (t := 171) dX12_whyNot_32 fl_12_13 (by decide) sh_169 rr_169_5 ?_
      refine G_iload_n dX12_whyNot_35 rfl ?_
      refine G_iald (z := (mem 171 a1)) dX12_whyNot_36 (by decide) sh_171 (by decide) (q5 c1 c3).1 (q5 c1 c3).2 rfl ?_
      refine G_icmp_eq (tgt := 45) dX12_whyNot_37 (by decide) (w6 c1 c3) (w7 c1 c3) (fun c5 => ?_) (fun c5 => ?_)
      · -- (mem 180 97) = (mem 171 a1)
        refine G_aload_n dX12_whyNot_45 rfl ?_
        refine G_aload_n dX12_whyNot_46 rfl ?_
        refine G_getR (t := 180) dX12_whyNot_47 fl_12_42 (by decide) sh_169 rr_169_14 ?_
        refine G_iload_n dX12_whyNot_50 rfl ?_
        exact k1 c1 c3 c5
      · -- ¬ (mem 180 97) = (mem 171 a1)
        refine G_bipush (z := (-2)) dX12_whyNot_40 rfl ?_
        refine G_goto (tgt := 63) dX12_whyNot_42 (by decide) ?_
        exact G_iret dX12_whyNot_63 rfl (Nat.zero_le _) (Nat.zero_le _) (Nat.le_refl _) ⟨rfl, k2 c1 c3 c5⟩
    · -- ¬ (0 ≤ a2 ∧ a2 ≤ 2)
      refine G_if_ne (tgt := 24) dX12_whyNot_17 (by decide) (by decide) (fun h => absurd h (by decide)) (fun _ => ?_)
      refine G_iconst (z := (-1)) dX12_whyNot_20 rfl ?_
      refine G_goto (tgt := 63) dX12_whyNot_21 (by decide) ?_
      exact G_iret dX12_whyNot_63 rfl (Nat.zero_le _) (Nat.zero_le _) (Nat.le_refl _) ⟨rfl, k3 c1 c4⟩
  · -- ¬ (0 ≤ a1 ∧ a1 < (mem 169 3))
    refine G_if_eq (tgt := 20) dX12_whyNot_5 (by decide) (by decide) (fun _ => ?_) (fun h => absurd h (by decide))
    refine G_iconst (z := (-1)) dX12_whyNot_20 rfl ?_
    refine G_goto (tgt := 63) dX12_whyNot_21 (by decide) ?_
    exact G_iret dX12_whyNot_63 rfl (Nat.zero_le _) (Nat.zero_le _) (Nat.le_refl _) ⟨rfl, k4 c2⟩
set_option maxRecDepth 20000 in
set_option maxHeartbeats 8000000 in
theorem sg_X12_whyNot_54 {E : Nat × (Nat → Int32)} {P : Option Value → Mem → Prop} {mem : Mem} {a1 : Int} {a2 : Int} {s0 : Int} (w1 : -2147483648 ≤ s0 ∧ s0 < 2147483648)
    (k1 : P (some (vi (if s0 = 0 then (0 : Int) else ((-3) : Int)))) mem) :
    GM E (m_X12_whyNot 2) P 54 [.ref 169, vi a1, vi a2] [vi s0] mem := by
  have j1 : GM E (m_X12_whyNot 2) P 63 [.ref 169, vi a1, vi a2] [vi (if s0 = 0 then (0 : Int) else ((-3) : Int))] mem := by
    exact G_iret dX12_whyNot_63 rfl (Nat.zero_le _) (Nat.zero_le _) (Nat.le_refl _) ⟨rfl, k1⟩
  refine G_if_eq (tgt := 62) dX12_whyNot_54 (by decide) (w1) (fun c1 => ?_) (fun c1 => ?_)
  · -- s0 = 0
    refine G_iconst (z := 0) dX12_whyNot_62 rfl ?_
    have qj1 := j1
    simp only [if_pos c1] at qj1
    exact qj1
  · -- ¬ s0 = 0
    refine G_bipush (z := (-3)) dX12_whyNot_57 rfl ?_
    refine G_goto (tgt := 63) dX12_whyNot_59 (by decide) ?_
    have qj1 := j1
    simp only [if_neg c1] at qj1
    exact qj1
set_option maxRecDepth 20000 in
set_option maxHeartbeats 8000000 in
theorem sg_X12_worked_0 {E : Nat × (Nat → Int32)} {P : Option Value → Mem → Prop} {mem : Mem} {a0 : Int} {a1 : Int} {a2 : Int} (w1 : -2147483648 ≤ a0 ∧ a0 < 2147483648) (w2 : -2147483648 ≤ a1 ∧ a1 < 2147483648) (w3 : -2147483648 ≤ a2 ∧ a2 < 2147483648) (z4 : ¬ a0 = 0 → ¬ a0 = 1 → ¬ a0 = 2 → ¬ a0 = 3 → ¬ a0 = 4 → ¬ a0 = 5 → a2 ≠ 0 → a2 ≠ 0)
    (k1 : a0 = 0 → a2 ≤ a1 → P (some (vi 0)) mem)
    (k2 : a0 = 0 → ¬ a2 ≤ a1 → P (some (vi 1)) mem)
    (k3 : ¬ a0 = 0 → a0 = 1 → a1 ≤ a2 → P (some (vi 0)) mem)
    (k4 : ¬ a0 = 0 → a0 = 1 → ¬ a1 ≤ a2 → P (some (vi 1)) mem)
    (k5 : ¬ a0 = 0 → ¬ a0 = 1 → a0 = 2 → a1 ≠ a2 → P (some (vi 0)) mem)
    (k6 : ¬ a0 = 0 → ¬ a0 = 1 → a0 = 2 → a1 = a2 → P (some (vi 1)) mem)
    (k7 : ¬ a0 = 0 → ¬ a0 = 1 → ¬ a0 = 2 → a0 = 3 → P (some (vi (a1 + a2))) mem)
    (k8 : ¬ a0 = 0 → ¬ a0 = 1 → ¬ a0 = 2 → ¬ a0 = 3 → a0 = 4 → P (some (vi (a1 - a2))) mem)
    (k9 : ¬ a0 = 0 → ¬ a0 = 1 → ¬ a0 = 2 → ¬ a0 = 3 → ¬ a0 = 4 → a0 = 5 → P (some (vi (a1 * a2))) mem)
    (k10 : ¬ a0 = 0 → ¬ a0 = 1 → ¬ a0 = 2 → ¬ a0 = 3 → ¬ a0 = 4 → ¬ a0 = 5 → P (some (vi (if a2 ≠ 0 then (divI a1 a2) else (0 : Int)))) mem) :
    GM E (m_X12_worked 1) P 0 [vi a0, vi a1, vi a2] [] mem := by
  refine G_iload_n dX12_worked_0 rfl ?_
  by_cases c1 : a0 = 0
  · refine G_tableIn (off := 39) (tgt := 40) dX12_worked_1 (w1) (by omega) (by omega) (by rw [c1]; rfl) (by decide) ?_
    refine G_iload_n dX12_worked_40 rfl ?_
    refine G_iload_n dX12_worked_41 rfl ?_
    refine G_icmp_ge (tgt := 49) dX12_worked_42 (by decide) (w2) (w3) (fun c2 => ?_) (fun c2 => ?_)
    · -- a2 ≤ a1
      refine G_iconst (z := 0) dX12_worked_49 rfl ?_
      refine cb_X12_worked_50 (ic_X12_flagL (by decide) ?_)
      exact G_iret dX12_worked_53 rfl (Nat.zero_le _) (Nat.zero_le _) (Nat.le_refl _) ⟨rfl, k1 c1 c2⟩
    · -- ¬ a2 ≤ a1
      refine G_iconst (z := 1) dX12_worked_45 rfl ?_
      refine G_goto (tgt := 50) dX12_worked_46 (by decide) ?_
      refine cb_X12_worked_50 (ic_X12_flagL (by decide) ?_)
      exact G_iret dX12_worked_53 rfl (Nat.zero_le _) (Nat.zero_le _) (Nat.le_refl _) ⟨rfl, k2 c1 c2⟩
  by_cases c3 : a0 = 1
  · refine G_tableIn (off := 53) (tgt := 54) dX12_worked_1 (w1) (by omega) (by omega) (by rw [c3]; rfl) (by decide) ?_
    refine G_iload_n dX12_worked_54 rfl ?_
    refine G_iload_n dX12_worked_55 rfl ?_
    refine G_icmp_le (tgt := 63) dX12_worked_56 (by decide) (w2) (w3) (fun c4 => ?_) (fun c4 => ?_)
    · -- a1 ≤ a2
      refine G_iconst (z := 0) dX12_worked_63 rfl ?_
      refine cb_X12_worked_64 (ic_X12_flagL (by decide) ?_)
      exact G_iret dX12_worked_67 rfl (Nat.zero_le _) (Nat.zero_le _) (Nat.le_refl _) ⟨rfl, k3 c1 c3 c4⟩
    · -- ¬ a1 ≤ a2
      refine G_iconst (z := 1) dX12_worked_59 rfl ?_
      refine G_goto (tgt := 64) dX12_worked_60 (by decide) ?_
      refine cb_X12_worked_64 (ic_X12_flagL (by decide) ?_)
      exact G_iret dX12_worked_67 rfl (Nat.zero_le _) (Nat.zero_le _) (Nat.le_refl _) ⟨rfl, k4 c1 c3 c4⟩
  by_cases c5 : a0 = 2
  · refine G_tableIn (off := 67) (tgt := 68) dX12_worked_1 (w1) (by omega) (by omega) (by rw [c5]; rfl) (by decide) ?_
    refine G_iload_n dX12_worked_68 rfl ?_
    refine G_iload_n dX12_worked_69 rfl ?_
    refine G_icmp_ne (tgt := 77) dX12_worked_70 (by decide) (w2) (w3) (fun c6 => ?_) (fun c6 => ?_)
    · -- a1 ≠ a2
      refine G_iconst (z := 0) dX12_worked_77 rfl ?_
      refine cb_X12_worked_78 (ic_X12_flagL (by decide) ?_)
      exact G_iret dX12_worked_81 rfl (Nat.zero_le _) (Nat.zero_le _) (Nat.le_refl _) ⟨rfl, k5 c1 c3 c5 c6⟩
    · -- a1 = a2
      refine G_iconst (z := 1) dX12_worked_73 rfl ?_
      refine G_goto (tgt := 78) dX12_worked_74 (by decide) ?_
      refine cb_X12_worked_78 (ic_X12_flagL (by decide) ?_)
      exact G_iret dX12_worked_81 rfl (Nat.zero_le _) (Nat.zero_le _) (Nat.le_refl _) ⟨rfl, k6 c1 c3 c5 c6⟩
  by_cases c7 : a0 = 3
  · refine G_tableIn (off := 81) (tgt := 82) dX12_worked_1 (w1) (by omega) (by omega) (by rw [c7]; rfl) (by decide) ?_
    refine G_iload_n dX12_worked_82 rfl ?_
    refine G_iload_n dX12_worked_83 rfl ?_
    refine G_iadd dX12_worked_84 ?_
    exact G_iret dX12_worked_85 rfl (Nat.zero_le _) (Nat.zero_le _) (Nat.le_refl _) ⟨rfl, k7 c1 c3 c5 c7⟩
  by_cases c8 : a0 = 4
  · refine G_tableIn (off := 85) (tgt := 86) dX12_worked_1 (w1) (by omega) (by omega) (by rw [c8]; rfl) (by decide) ?_
    refine G_iload_n dX12_worked_86 rfl ?_
    refine G_iload_n dX12_worked_87 rfl ?_
    refine G_isub dX12_worked_88 ?_
    exact G_iret dX12_worked_89 rfl (Nat.zero_le _) (Nat.zero_le _) (Nat.le_refl _) ⟨rfl, k8 c1 c3 c5 c7 c8⟩
  by_cases c9 : a0 = 5
  · refine G_tableIn (off := 89) (tgt := 90) dX12_worked_1 (w1) (by omega) (by omega) (by rw [c9]; rfl) (by decide) ?_
    refine G_iload_n dX12_worked_90 rfl ?_
    refine G_iload_n dX12_worked_91 rfl ?_
    refine G_imul dX12_worked_92 ?_
    exact G_iret dX12_worked_93 rfl (Nat.zero_le _) (Nat.zero_le _) (Nat.le_refl _) ⟨rfl, k9 c1 c3 c5 c7 c8 c9⟩
  refine G_tableOut (tgt := 94) dX12_worked_1 (w1) (by omega) (by decide) ?_
  refine G_iload_n dX12_worked_94 rfl ?_
  have j1 : GM E (m_X12_worked 1) P 105 [vi a0, vi a1, vi a2] [vi (if a2 ≠ 0 then (divI a1 a2) else (0 : Int))] mem := by
    exact G_iret dX12_worked_105 rfl (Nat.zero_le _) (Nat.zero_le _) (Nat.le_refl _) ⟨rfl, k10 c1 c3 c5 c7 c8 c9⟩
  refine G_if_ne (tgt := 102) dX12_worked_95 (by decide) (w3) (fun c10 => ?_) (fun c10 => ?_)
  · -- a2 ≠ 0
    refine G_iload_n dX12_worked_102 rfl ?_
    refine G_iload_n dX12_worked_103 rfl ?_
    refine G_idiv (z := (divI a1 a2)) dX12_worked_104 (iI_ne0 (w3) (z4 c1 c3 c5 c7 c8 c9 c10)) (iI_inv _) ?_
    have qj1 := j1
    simp only [if_pos c10] at qj1
    exact qj1
  · -- a2 = 0
    refine G_iconst (z := 0) dX12_worked_98 rfl ?_
    refine G_goto (tgt := 105) dX12_worked_99 (by decide) ?_
    have qj1 := j1
    simp only [if_neg (show ¬ (a2 ≠ 0) from fun q => q c10)] at qj1
    exact qj1
set_option maxRecDepth 20000 in
set_option maxHeartbeats 8000000 in
theorem sg_X12_wouldLoad_0 {E : Nat × (Nat → Int32)} {P : Option Value → Mem → Prop} {mem : Mem} {r1 : Nat} {a2 : Int} (hl1 : r1 < 209) (hs1 : SH[r1]? = some (.inr (0, 99)))
    (k1 : GM E (m_X12_wouldLoad 2) P 8 [.ref 169, .ref r1, vi a2, vi 0, vi (16 * a2)] [] mem) :
    GM E (m_X12_wouldLoad 2) P 0 [.ref 169, .ref r1, vi a2, un, un] [] mem := by
  refine G_iconst (z := 0) dX12_wouldLoad_0 rfl ?_
  refine G_istore_n dX12_wouldLoad_1 rfl (by decide : 3 < 5) rfl ?_
  refine G_bipush (z := 16) dX12_wouldLoad_2 rfl ?_
  refine G_iload_n dX12_wouldLoad_4 rfl ?_
  refine G_imul dX12_wouldLoad_5 ?_
  refine G_istore dX12_wouldLoad_6 (by decide : 4 < 5) rfl ?_
  exact k1
set_option maxRecDepth 20000 in
set_option maxHeartbeats 8000000 in
theorem sg_X12_wouldLoad_8 {E : Nat × (Nat → Int32)} {P : Option Value → Mem → Prop} {mem : Mem} {r1 : Nat} {a2 : Int} {a3 : Int} {a4 : Int} (hl1 : r1 < 209) (hs1 : SH[r1]? = some (.inr (0, 99))) (w1 : -2147483648 ≤ a4 ∧ a4 < 2147483648) (w2 : -2147483648 ≤ (16 * (a2 + 1)) ∧ (16 * (a2 + 1)) < 2147483648) (q3 : ¬ (16 * (a2 + 1)) ≤ a4 → 0 ≤ a4 ∧ a4 < 99) (w4 : ¬ (16 * (a2 + 1)) ≤ a4 → -2147483648 ≤ (mem r1 a4) ∧ (mem r1 a4) < 2147483648) (q5 : ¬ (16 * (a2 + 1)) ≤ a4 → (mem r1 a4) = 1 → 0 ≤ a4 ∧ a4 < 96) (w6 : ¬ (16 * (a2 + 1)) ≤ a4 → (mem r1 a4) = 1 → -2147483648 ≤ (mem 179 4) ∧ (mem 179 4) < 2147483648)
    (k1 : (16 * (a2 + 1)) ≤ a4 → P (some (vi a3)) mem)
    (k2 : ¬ (16 * (a2 + 1)) ≤ a4 → GM E (m_X12_wouldLoad 2) P 8 [.ref 169, .ref r1, vi a2, vi (a3 + (if (mem r1 a4) ≠ 1 then (0 : Int) else (if (mem 179 4) < (divI (((mem 178 a4) * (mem 179 3)) * (10 + (mem 179 2))) 10) then (0 : Int) else (divI (((mem 178 a4) * (mem 179 3)) * (10 + (mem 179 2))) 10)))), vi (a4 + 1)] [] mem) :
    GM E (m_X12_wouldLoad 2) P 8 [.ref 169, .ref r1, vi a2, vi a3, vi a4] [] mem := by
  refine G_iload dX12_wouldLoad_8 rfl ?_
  refine G_bipush (z := 16) dX12_wouldLoad_10 rfl ?_
  refine G_iload_n dX12_wouldLoad_12 rfl ?_
  refine G_iconst (z := 1) dX12_wouldLoad_13 rfl ?_
  refine G_iadd dX12_wouldLoad_14 ?_
  refine G_imul dX12_wouldLoad_15 ?_
  refine G_icmp_ge (tgt := 61) dX12_wouldLoad_16 (by decide) (w1) (w2) (fun c1 => ?_) (fun c1 => ?_)
  · -- (16 * (a2 + 1)) ≤ a4
    refine G_iload_n dX12_wouldLoad_61 rfl ?_
    exact G_iret dX12_wouldLoad_62 rfl (Nat.zero_le _) (Nat.zero_le _) (Nat.le_refl _) ⟨rfl, k1 c1⟩
  · -- ¬ (16 * (a2 + 1)) ≤ a4
    refine G_iload_n dX12_wouldLoad_19 rfl ?_
    refine G_aload_n dX12_wouldLoad_20 rfl ?_
    refine G_iload dX12_wouldLoad_21 rfl ?_
    refine G_iald (z := (mem r1 a4)) dX12_wouldLoad_23 hl1 hs1 (by decide) (q3 c1).1 (q3 c1).2 rfl ?_
    refine G_iconst (z := 1) dX12_wouldLoad_24 rfl ?_
    have j1 : GM E (m_X12_wouldLoad 2) P 53 [.ref 169, .ref r1, vi a2, vi a3, vi a4] [vi (if (mem r1 a4) ≠ 1 then (0 : Int) else (if (mem 179 4) < (divI (((mem 178 a4) * (mem 179 3)) * (10 + (mem 179 2))) 10) then (0 : Int) else (divI (((mem 178 a4) * (mem 179 3)) * (10 + (mem 179 2))) 10))), vi a3] mem := by
      refine G_iadd dX12_wouldLoad_53 ?_
      refine G_istore_n dX12_wouldLoad_54 rfl (by decide : 3 < 5) rfl ?_
      refine G_iinc (z := (a4 + 1)) dX12_wouldLoad_55 rfl rfl (by decide : 4 < 5) rfl ?_
      refine G_goto (tgt := 8) dX12_wouldLoad_58 (by decide) ?_
      exact k2 c1
    refine G_icmp_ne (tgt := 52) dX12_wouldLoad_25 (by decide) (w4 c1) (by decide) (fun c2 => ?_) (fun c2 => ?_)
    · -- (mem r1 a4) ≠ 1
      refine G_iconst (z := 0) dX12_wouldLoad_52 rfl ?_
      have qj1 := j1
      simp only [if_pos c2] at qj1
      exact qj1
    · -- (mem r1 a4) = 1
      refine G_aload_n dX12_wouldLoad_28 rfl ?_
      refine G_iload dX12_wouldLoad_29 rfl ?_
      refine cb_X12_wouldLoad_31 (ic_X12_heavy (w := (mem 178 a4)) (z := (mem 179 3)) (r := (mem 179 2)) ⟨(q5 c1 c2).1, (q5 c1 c2).2⟩ rfl rfl rfl ?_)
      refine G_aload_n dX12_wouldLoad_34 rfl ?_
      refine G_getR (t := 179) dX12_wouldLoad_35 fl_12_39 (by decide) sh_169 rr_169_13 ?_
      refine G_iconst (z := 4) dX12_wouldLoad_38 rfl ?_
      refine G_iald (z := (mem 179 4)) dX12_wouldLoad_39 (by decide) sh_179 (by decide) (by decide) (by decide) rfl ?_
      have j2 : GM E (m_X12_wouldLoad 2) P 53 [.ref 169, .ref r1, vi a2, vi a3, vi a4] [vi (if (mem 179 4) < (divI (((mem 178 a4) * (mem 179 3)) * (10 + (mem 179 2))) 10) then (0 : Int) else (divI (((mem 178 a4) * (mem 179 3)) * (10 + (mem 179 2))) 10)), vi a3] mem := by
        have qj1 := j1
        simp only [if_neg (show ¬ ((mem r1 a4) ≠ 1) from fun q => q c2)] at qj1
        exact qj1
      refine G_icmp_gt (tgt := 52) dX12_wouldLoad_40 (by decide) (iI_rng _) (w6 c1 c2) (fun c3 => ?_) (fun c3 => ?_)
      · -- (mem 179 4) < (divI (((mem 178 a4) * (mem 179 3)) * (10 + (mem 179 2))) 10)
        refine G_iconst (z := 0) dX12_wouldLoad_52 rfl ?_
        have qj2 := j2
        simp only [if_pos c3] at qj2
        exact qj2
      · -- ¬ (mem 179 4) < (divI (((mem 178 a4) * (mem 179 3)) * (10 + (mem 179 2))) 10)
        refine G_aload_n dX12_wouldLoad_43 rfl ?_
        refine G_iload dX12_wouldLoad_44 rfl ?_
        refine cb_X12_wouldLoad_46 (ic_X12_heavy (w := (mem 178 a4)) (z := (mem 179 3)) (r := (mem 179 2)) ⟨(q5 c1 c2).1, (q5 c1 c2).2⟩ rfl rfl rfl ?_)
        refine G_goto (tgt := 53) dX12_wouldLoad_49 (by decide) ?_
        have qj2 := j2
        simp only [if_neg c3] at qj2
        exact qj2
