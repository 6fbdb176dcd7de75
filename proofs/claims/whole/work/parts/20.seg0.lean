set_option maxRecDepth 20000 in
set_option maxHeartbeats 8000000 in
theorem sg_X0_foundAt_0 {E : Nat × (Nat → Int32)} {P : Option Value → Mem → Prop} {mem : Mem} {a1 : Int} (w1 : -2147483648 ≤ a1 ∧ a1 < 2147483648)
    (k1 : a1 < 0 → P (some (vi (-1))) mem)
    (k2 : ¬ a1 < 0 → 6 ≤ a1 → P (some (vi (-1))) mem)
    (k3 : ¬ a1 < 0 → ¬ 6 ≤ a1 → P (some (vi (mem 152 a1))) mem) :
    GM E (m_X0_foundAt 0) P 0 [.ref 147, vi a1] [] mem := by
  refine G_iload_n dX0_foundAt_0 rfl ?_
  refine G_if_lt (tgt := 22) dX0_foundAt_1 (by decide) (w1) (fun c1 => ?_) (fun c1 => ?_)
  · -- a1 < 0
    refine G_iconst (z := (-1)) dX0_foundAt_22 rfl ?_
    exact G_iret dX0_foundAt_23 rfl (Nat.zero_le _) (Nat.zero_le _) (Nat.le_refl _) ⟨rfl, k1 c1⟩
  · -- ¬ a1 < 0
    refine G_iload_n dX0_foundAt_4 rfl ?_
    refine G_aload_n dX0_foundAt_5 rfl ?_
    refine G_getR (t := 152) dX0_foundAt_6 fl_0_24 (by decide) sh_147 rr_147_6 ?_
    refine G_alen (z := 6) dX0_foundAt_9 (by decide) sh_152 (by decide) rfl ?_
    refine G_icmp_ge (tgt := 22) dX0_foundAt_10 (by decide) (w1) (by decide) (fun c2 => ?_) (fun c2 => ?_)
    · -- 6 ≤ a1
      refine G_iconst (z := (-1)) dX0_foundAt_22 rfl ?_
      exact G_iret dX0_foundAt_23 rfl (Nat.zero_le _) (Nat.zero_le _) (Nat.le_refl _) ⟨rfl, k2 c1 c2⟩
    · -- ¬ 6 ≤ a1
      refine G_aload_n dX0_foundAt_13 rfl ?_
      refine G_getR (t := 152) dX0_foundAt_14 fl_0_24 (by decide) sh_147 rr_147_6 ?_
      refine G_iload_n dX0_foundAt_17 rfl ?_
      refine G_iald (z := (mem 152 a1)) dX0_foundAt_18 (by decide) sh_152 (by decide) (by omega) (by omega) rfl ?_
      refine G_goto (tgt := 23) dX0_foundAt_19 (by decide) ?_
      exact G_iret dX0_foundAt_23 rfl (Nat.zero_le _) (Nat.zero_le _) (Nat.le_refl _) ⟨rfl, k3 c1 c2⟩
set_option maxRecDepth 20000 in
set_option maxHeartbeats 8000000 in
theorem sg_X0_secondsOn_0 {E : Nat × (Nat → Int32)} {P : Option Value → Mem → Prop} {mem : Mem} {a1 : Int} (w1 : -2147483648 ≤ a1 ∧ a1 < 2147483648)
    (k1 : a1 < 0 → P (some (vi 0)) mem)
    (k2 : ¬ a1 < 0 → 7 ≤ a1 → P (some (vi 0)) mem)
    (k3 : ¬ a1 < 0 → ¬ 7 ≤ a1 → P (some (vi (mem 149 a1))) mem) :
    GM E (m_X0_secondsOn 0) P 0 [.ref 147, vi a1] [] mem := by
  refine G_iload_n dX0_secondsOn_0 rfl ?_
  refine G_if_lt (tgt := 22) dX0_secondsOn_1 (by decide) (w1) (fun c1 => ?_) (fun c1 => ?_)
  · -- a1 < 0
    refine G_iconst (z := 0) dX0_secondsOn_22 rfl ?_
    exact G_iret dX0_secondsOn_23 rfl (Nat.zero_le _) (Nat.zero_le _) (Nat.le_refl _) ⟨rfl, k1 c1⟩
  · -- ¬ a1 < 0
    refine G_iload_n dX0_secondsOn_4 rfl ?_
    refine G_aload_n dX0_secondsOn_5 rfl ?_
    refine G_getR (t := 149) dX0_secondsOn_6 fl_0_15 (by decide) sh_147 rr_147_2 ?_
    refine G_alen (z := 7) dX0_secondsOn_9 (by decide) sh_149 (by decide) rfl ?_
    refine G_icmp_ge (tgt := 22) dX0_secondsOn_10 (by decide) (w1) (by decide) (fun c2 => ?_) (fun c2 => ?_)
    · -- 7 ≤ a1
      refine G_iconst (z := 0) dX0_secondsOn_22 rfl ?_
      exact G_iret dX0_secondsOn_23 rfl (Nat.zero_le _) (Nat.zero_le _) (Nat.le_refl _) ⟨rfl, k2 c1 c2⟩
    · -- ¬ 7 ≤ a1
      refine G_aload_n dX0_secondsOn_13 rfl ?_
      refine G_getR (t := 149) dX0_secondsOn_14 fl_0_15 (by decide) sh_147 rr_147_2 ?_
      refine G_iload_n dX0_secondsOn_17 rfl ?_
      refine G_iald (z := (mem 149 a1)) dX0_secondsOn_18 (by decide) sh_149 (by decide) (by omega) (by omega) rfl ?_
      refine G_goto (tgt := 23) dX0_secondsOn_19 (by decide) ?_
      exact G_iret dX0_secondsOn_23 rfl (Nat.zero_le _) (Nat.zero_le _) (Nat.le_refl _) ⟨rfl, k3 c1 c2⟩
set_option maxRecDepth 20000 in
set_option maxHeartbeats 8000000 in
theorem sg_X10_at_0 {E : Nat × (Nat → Int32)} {P : Option Value → Mem → Prop} {mem : Mem} {a1 : Int} (w1 : -2147483648 ≤ a1 ∧ a1 < 2147483648) (w2 : ¬ a1 < 0 → -2147483648 ≤ (mem 9 1) ∧ (mem 9 1) < 2147483648)
    (k1 : a1 < 0 → P (some (.null)) mem)
    (k2 : ¬ a1 < 0 → (mem 9 1) ≤ a1 → P (some (.null)) mem)
    (k3 : ¬ a1 < 0 → ¬ (mem 9 1) ≤ a1 → 6 ≤ a1 → P (some (.null)) mem)
    (k4 : ¬ a1 < 0 → ¬ (mem 9 1) ≤ a1 → ¬ 6 ≤ a1 → P (some (.ref (11 + 2 * (a1).toNat))) mem) :
    GM E (m_X10_at 0) P 0 [.ref 9, vi a1] [] mem := by
  refine G_iload_n dX10_at_0 rfl ?_
  refine G_if_lt (tgt := 30) dX10_at_1 (by decide) (w1) (fun c1 => ?_) (fun c1 => ?_)
  · -- a1 < 0
    refine G_aconst_null dX10_at_30 ?_
    exact G_aretN dX10_at_31 rfl rfl (Nat.zero_le _) (Nat.zero_le _) (Nat.le_refl _) ⟨rfl, k1 c1⟩
  · -- ¬ a1 < 0
    refine G_iload_n dX10_at_4 rfl ?_
    refine G_aload_n dX10_at_5 rfl ?_
    refine G_getI (z := (mem 9 1)) dX10_at_6 fl_10_20 (by decide) sh_9 rfl ?_
    refine G_icmp_ge (tgt := 30) dX10_at_9 (by decide) (w1) (w2 c1) (fun c2 => ?_) (fun c2 => ?_)
    · -- (mem 9 1) ≤ a1
      refine G_aconst_null dX10_at_30 ?_
      exact G_aretN dX10_at_31 rfl rfl (Nat.zero_le _) (Nat.zero_le _) (Nat.le_refl _) ⟨rfl, k2 c1 c2⟩
    · -- ¬ (mem 9 1) ≤ a1
      refine G_iload_n dX10_at_12 rfl ?_
      refine G_aload_n dX10_at_13 rfl ?_
      refine G_getR (t := 10) dX10_at_14 fl_10_11 (by decide) sh_9 rr_9_0 ?_
      refine G_alen (z := 6) dX10_at_17 (by decide) sh_10 (by decide) rfl ?_
      refine G_icmp_ge (tgt := 30) dX10_at_18 (by decide) (w1) (by decide) (fun c3 => ?_) (fun c3 => ?_)
      · -- 6 ≤ a1
        refine G_aconst_null dX10_at_30 ?_
        exact G_aretN dX10_at_31 rfl rfl (Nat.zero_le _) (Nat.zero_le _) (Nat.le_refl _) ⟨rfl, k3 c1 c2 c3⟩
      · -- ¬ 6 ≤ a1
        refine G_aload_n dX10_at_21 rfl ?_
        refine G_getR (t := 10) dX10_at_22 fl_10_11 (by decide) sh_9 rr_9_0 ?_
        refine G_iload_n dX10_at_25 rfl ?_
        refine G_aald3S (t := (11 + 2 * (a1).toNat)) dX10_at_26 (by decide) sh_10 (by decide) (by omega) (by omega) (rr_streets (by omega) (by omega)) ?_
        refine G_goto (tgt := 31) dX10_at_27 (by decide) ?_
        exact G_aret dX10_at_31 rfl rfl (Nat.zero_le _) (Nat.zero_le _) (Nat.le_refl _) ⟨rfl, k4 c1 c2 c3⟩
set_option maxRecDepth 20000 in
set_option maxHeartbeats 8000000 in
theorem sg_X10_hasAll_0 {E : Nat × (Nat → Int32)} {P : Option Value → Mem → Prop} {mem : Mem} {a1 : Int}
    (k1 : (bandI a1 (-(shlI 1 (mem 9 1)))) ≠ 0 → P (some (vi 0)) mem)
    (k2 : (bandI a1 (-(shlI 1 (mem 9 1)))) = 0 → P (some (vi 1)) mem) :
    GM E (m_X10_hasAll 0) P 0 [.ref 9, vi a1] [] mem := by
  refine G_iload_n dX10_hasAll_0 rfl ?_
  refine G_iconst (z := 1) dX10_hasAll_1 rfl ?_
  refine G_aload_n dX10_hasAll_2 rfl ?_
  refine G_getI (z := (mem 9 1)) dX10_hasAll_3 fl_10_20 (by decide) sh_9 rfl ?_
  refine G_ishl (z := (shlI 1 (mem 9 1))) dX10_hasAll_6 (iI_inv _) ?_
  refine G_ineg dX10_hasAll_7 ?_
  refine G_iand (z := (bandI a1 (-(shlI 1 (mem 9 1))))) dX10_hasAll_8 (iI_inv _) ?_
  refine G_if_ne (tgt := 16) dX10_hasAll_9 (by decide) (iI_rng _) (fun c1 => ?_) (fun c1 => ?_)
  · -- (bandI a1 (-(shlI 1 (mem 9 1)))) ≠ 0
    refine G_iconst (z := 0) dX10_hasAll_16 rfl ?_
    exact G_zret dX10_hasAll_17 rfl (nar_zb (by decide)) (Nat.zero_le _) (Nat.zero_le _) (Nat.le_refl _) ⟨rfl, k1 c1⟩
  · -- (bandI a1 (-(shlI 1 (mem 9 1)))) = 0
    refine G_iconst (z := 1) dX10_hasAll_12 rfl ?_
    refine G_goto (tgt := 17) dX10_hasAll_13 (by decide) ?_
    exact G_zret dX10_hasAll_17 rfl (nar_zb (by decide)) (Nat.zero_le _) (Nat.zero_le _) (Nat.le_refl _) ⟨rfl, k2 c1⟩
set_option maxRecDepth 20000 in
set_option maxHeartbeats 8000000 in
theorem sg_X11_clearRow_0 {E : Nat × (Nat → Int32)} {P : Option Value → Mem → Prop} {mem : Mem}
    (k1 : P none (up2 mem 0 14 0)) :
    GM E (m_X11_clearRow 0) P 0 [.ref 0] [] mem := by
  refine G_aload_n dX11_clearRow_0 rfl ?_
  refine G_iconst (z := 0) dX11_clearRow_1 rfl ?_
  refine G_putI (mem2 := (up2 mem 0 14 0)) dX11_clearRow_2 fp_11_465 (by decide) sh_0 rfl ?_
  exact G_vret dX11_clearRow_5 rfl (Nat.zero_le _) (Nat.zero_le _) (Nat.le_refl _) ⟨rfl, k1⟩
set_option maxRecDepth 20000 in
set_option maxHeartbeats 8000000 in
theorem sg_X11_driving_0 {E : Nat × (Nat → Int32)} {P : Option Value → Mem → Prop} {mem : Mem} {a0 : Int} {a1 : Int} (w1 : -2147483648 ≤ (a0 - a1) ∧ (a0 - a1) < 2147483648)
    (k1 : P (some (vi (10 * (if 0 ≤ (a0 - a1) then (a0 - a1) else -(a0 - a1))))) mem) :
    GM E (m_X11_driving 1) P 0 [vi a0, vi a1] [] mem := by
  refine G_bipush (z := 10) dX11_driving_0 rfl ?_
  refine G_iload_n dX11_driving_2 rfl ?_
  refine G_iload_n dX11_driving_3 rfl ?_
  refine G_isub dX11_driving_4 ?_
  refine G_abs (z := (if 0 ≤ (a0 - a1) then (a0 - a1) else -(a0 - a1))) dX11_driving_5 ml_11_470 mw_abs (w1) ⟨by show 1 ≤ 1; first | decide | omega, by show 21 ≤ 40 * 1; first | decide | omega, Nat.zero_le _, Nat.zero_le _⟩ (Nat.le_of_ble_eq_true rfl) rfl ?_
  refine G_imul dX11_driving_8 ?_
  exact G_iret dX11_driving_9 rfl (Nat.zero_le _) (Nat.zero_le _) (Nat.le_refl _) ⟨rfl, k1⟩
set_option maxRecDepth 20000 in
set_option maxHeartbeats 8000000 in
theorem sg_X11_tellMore_0 {E : Nat × (Nat → Int32)} {P : Option Value → Mem → Prop} {mem : Mem} {a1 : Int} (w1 : -2147483648 ≤ (mem 0 14) ∧ (mem 0 14) < 2147483648) (q2 : ¬ 6 ≤ (mem 0 14) → 0 ≤ (mem 0 14) ∧ (mem 0 14) < 6)
    (k1 : 6 ≤ (mem 0 14) → P none mem)
    (k2 : ¬ 6 ≤ (mem 0 14) → P none (up2 (up2 mem 168 (mem 0 14) a1) 0 14 ((mem 0 14) + 1))) :
    GM E (m_X11_tellMore 0) P 0 [.ref 0, vl a1, un] [] mem := by
  refine G_aload_n dX11_tellMore_0 rfl ?_
  refine G_getI (z := (mem 0 14)) dX11_tellMore_1 fl_11_465 (by decide) sh_0 rfl ?_
  refine G_aload_n dX11_tellMore_4 rfl ?_
  refine G_getR (t := 168) dX11_tellMore_5 fl_11_98 (by decide) sh_0 rr_0_13 ?_
  refine G_alen (z := 6) dX11_tellMore_8 (by decide) sh_168 (by decide) rfl ?_
  refine G_icmp_ge (tgt := 32) dX11_tellMore_9 (by decide) (w1) (by decide) (fun c1 => ?_) (fun c1 => ?_)
  · -- 6 ≤ (mem 0 14)
    exact G_vret dX11_tellMore_32 rfl (Nat.zero_le _) (Nat.zero_le _) (Nat.le_refl _) ⟨rfl, k1 c1⟩
  · -- ¬ 6 ≤ (mem 0 14)
    refine G_aload_n dX11_tellMore_12 rfl ?_
    refine G_getR (t := 168) dX11_tellMore_13 fl_11_98 (by decide) sh_0 rr_0_13 ?_
    refine G_aload_n dX11_tellMore_16 rfl ?_
    refine G_getI (z := (mem 0 14)) dX11_tellMore_17 fl_11_465 (by decide) sh_0 rfl ?_
    refine G_lload_n dX11_tellMore_20 rfl ?_
    refine G_last (mem2 := (up2 mem 168 (mem 0 14) a1)) dX11_tellMore_21 (by decide) sh_168 (by decide) (q2 c1).1 (q2 c1).2 rfl ?_
    refine G_aload_n dX11_tellMore_22 rfl ?_
    refine G_dup dX11_tellMore_23 rfl ?_
    refine G_getI (z := (mem 0 14)) dX11_tellMore_24 fl_11_465 (by decide) sh_0 (by simp [up2, upr]) ?_
    refine G_iconst (z := 1) dX11_tellMore_27 rfl ?_
    refine G_iadd dX11_tellMore_28 ?_
    refine G_putI (mem2 := (up2 (up2 mem 168 (mem 0 14) a1) 0 14 ((mem 0 14) + 1))) dX11_tellMore_29 fp_11_465 (by decide) sh_0 rfl ?_
    exact G_vret dX11_tellMore_32 rfl (Nat.zero_le _) (Nat.zero_le _) (Nat.le_refl _) ⟨rfl, k2 c1⟩
set_option maxRecDepth 20000 in
set_option maxHeartbeats 8000000 in
theorem sg_X12_all_0 {E : Nat × (Nat → Int32)} {P : Option Value → Mem → Prop} {mem : Mem}
    (k1 : P (some (vi ((shlI 1 (mem 169 3)) - 1))) mem) :
    GM E (m_X12_all 0) P 0 [.ref 169] [] mem := by
  refine G_iconst (z := 1) dX12_all_0 rfl ?_
  refine G_aload_n dX12_all_1 rfl ?_
  refine G_getI (z := (mem 169 3)) dX12_all_2 fl_12_137 (by decide) sh_169 rfl ?_
  refine G_ishl (z := (shlI 1 (mem 169 3))) dX12_all_5 (iI_inv _) ?_
  refine G_iconst (z := 1) dX12_all_6 rfl ?_
  refine G_isub dX12_all_7 ?_
  exact G_iret dX12_all_8 rfl (Nat.zero_le _) (Nat.zero_le _) (Nat.le_refl _) ⟨rfl, k1⟩
set_option maxRecDepth 20000 in
set_option maxHeartbeats 8000000 in
theorem sg_X12_at_0 {E : Nat × (Nat → Int32)} {P : Option Value → Mem → Prop} {mem : Mem} {a0 : Int} {a1 : Int} {a2 : Int}
    (k1 : P (some (vi (((16 * a0) + (8 * a1)) + a2))) mem) :
    GM E (m_X12_at 0) P 0 [vi a0, vi a1, vi a2] [] mem := by
  refine G_bipush (z := 16) dX12_at_0 rfl ?_
  refine G_iload_n dX12_at_2 rfl ?_
  refine G_imul dX12_at_3 ?_
  refine G_bipush (z := 8) dX12_at_4 rfl ?_
  refine G_iload_n dX12_at_6 rfl ?_
  refine G_imul dX12_at_7 ?_
  refine G_iadd dX12_at_8 ?_
  refine G_iload_n dX12_at_9 rfl ?_
  refine G_iadd dX12_at_10 ?_
  exact G_iret dX12_at_11 rfl (Nat.zero_le _) (Nat.zero_le _) (Nat.le_refl _) ⟨rfl, k1⟩
set_option maxRecDepth 20000 in
set_option maxHeartbeats 8000000 in
theorem sg_X12_begins_0 {E : Nat × (Nat → Int32)} {P : Option Value → Mem → Prop} {mem : Mem} {a1 : Int} (w1 : -2147483648 ≤ (mem 169 17) ∧ (mem 169 17) < 2147483648) (w2 : -2147483648 ≤ a1 ∧ a1 < 2147483648)
    (k1 : P (some (vi (mem 169 17))) (up2 (up2 (up2 (up2 mem 169 17 0) 169 18 0) 169 20 0) 169 19 (min (mem 169 17) a1))) :
    GM E (m_X12_begins 1) P 0 [.ref 169, vi a1, un] [] mem := by
  refine G_aload_n dX12_begins_0 rfl ?_
  refine G_getI (z := (mem 169 17)) dX12_begins_1 fl_12_148 (by decide) sh_169 rfl ?_
  refine G_istore_n dX12_begins_4 rfl (by decide : 2 < 3) rfl ?_
  refine G_aload_n dX12_begins_5 rfl ?_
  refine G_iconst (z := 0) dX12_begins_6 rfl ?_
  refine G_putI (mem2 := (up2 mem 169 17 0)) dX12_begins_7 fp_12_148 (by decide) sh_169 rfl ?_
  refine G_aload_n dX12_begins_10 rfl ?_
  refine G_iconst (z := 0) dX12_begins_11 rfl ?_
  refine G_putI (mem2 := (up2 (up2 mem 169 17 0) 169 18 0)) dX12_begins_12 fp_12_151 (by decide) sh_169 rfl ?_
  refine G_aload_n dX12_begins_15 rfl ?_
  refine G_iconst (z := 0) dX12_begins_16 rfl ?_
  refine G_putI (mem2 := (up2 (up2 (up2 mem 169 17 0) 169 18 0) 169 20 0)) dX12_begins_17 fp_12_154 (by decide) sh_169 rfl ?_
  refine G_aload_n dX12_begins_20 rfl ?_
  refine G_iload_n dX12_begins_21 rfl ?_
  refine G_iload_n dX12_begins_22 rfl ?_
  refine G_min (z := (min (mem 169 17) a1)) dX12_begins_23 ml_12_157 mw_min (w1) (w2) ⟨by show 1 ≤ 1; first | decide | omega, by show 21 ≤ 40 * 1; first | decide | omega, Nat.zero_le _, Nat.zero_le _⟩ (Nat.le_of_ble_eq_true rfl) rfl ?_
  refine G_putI (mem2 := (up2 (up2 (up2 (up2 mem 169 17 0) 169 18 0) 169 20 0) 169 19 (min (mem 169 17) a1))) dX12_begins_26 fp_12_163 (by decide) sh_169 rfl ?_
  refine G_iload_n dX12_begins_29 rfl ?_
  exact G_iret dX12_begins_30 rfl (Nat.zero_le _) (Nat.zero_le _) (Nat.le_refl _) ⟨rfl, k1⟩
set_option maxRecDepth 20000 in
set_option maxHeartbeats 8000000 in
theorem sg_X12_codes_0 {E : Nat × (Nat → Int32)} {P : Option Value → Mem → Prop} {mem : Mem} {a1 : Int} (q1 : 0 ≤ (mem 169 27) ∧ (mem 169 27) < 80)
    (k1 : P none (up2 (up2 mem 186 (mem 169 27) a1) 169 27 ((mem 169 27) + 1))) :
    GM E (m_X12_codes 0) P 0 [.ref 169, vi a1] [] mem := by
  refine G_aload_n dX12_codes_0 rfl ?_
  refine G_getR (t := 186) dX12_codes_1 fl_12_60 (by decide) sh_169 rr_169_25 ?_
  refine G_aload_n dX12_codes_4 rfl ?_
  refine G_getI (z := (mem 169 27)) dX12_codes_5 fl_12_230 (by decide) sh_169 rfl ?_
  refine G_iload_n dX12_codes_8 rfl ?_
  refine G_iast (mem2 := (up2 mem 186 (mem 169 27) a1)) dX12_codes_9 (by decide) sh_186 (by decide) (q1).1 (q1).2 rfl ?_
  refine G_aload_n dX12_codes_10 rfl ?_
  refine G_dup dX12_codes_11 rfl ?_
  refine G_getI (z := (mem 169 27)) dX12_codes_12 fl_12_230 (by decide) sh_169 (by simp [up2, upr]) ?_
  refine G_iconst (z := 1) dX12_codes_15 rfl ?_
  refine G_iadd dX12_codes_16 ?_
  refine G_putI (mem2 := (up2 (up2 mem 186 (mem 169 27) a1) 169 27 ((mem 169 27) + 1))) dX12_codes_17 fp_12_230 (by decide) sh_169 rfl ?_
  exact G_vret dX12_codes_20 rfl (Nat.zero_le _) (Nat.zero_le _) (Nat.le_refl _) ⟨rfl, k1⟩
set_option maxRecDepth 20000 in
set_option maxHeartbeats 8000000 in
theorem sg_X12_drives_0 {E : Nat × (Nat → Int32)} {P : Option Value → Mem → Prop} {mem : Mem} {r1 : Nat} {a2 : Int} (hl1 : r1 < 209) (hs1 : SH[r1]? = some (.inr (0, 99))) (w1 : -2147483648 ≤ ((mem r1 97) - a2) ∧ ((mem r1 97) - a2) < 2147483648)
    (k1 : P (some (vi (10 * (if 0 ≤ ((mem r1 97) - a2) then ((mem r1 97) - a2) else -((mem r1 97) - a2))))) (up2 (up2 mem r1 97 a2) r1 98 ((mem r1 98) + (10 * (if 0 ≤ ((mem r1 97) - a2) then ((mem r1 97) - a2) else -((mem r1 97) - a2)))))) :
    GM E (m_X12_drives 1) P 0 [.ref 169, .ref r1, vi a2, un] [] mem := by
  refine G_bipush (z := 10) dX12_drives_0 rfl ?_
  refine G_aload_n dX12_drives_2 rfl ?_
  refine G_bipush (z := 97) dX12_drives_3 rfl ?_
  refine G_iald (z := (mem r1 97)) dX12_drives_5 hl1 hs1 (by decide) (by decide) (by decide) rfl ?_
  refine G_iload_n dX12_drives_6 rfl ?_
  refine G_isub dX12_drives_7 ?_
  refine G_abs (z := (if 0 ≤ ((mem r1 97) - a2) then ((mem r1 97) - a2) else -((mem r1 97) - a2))) dX12_drives_8 ml_12_343 mw_abs (w1) ⟨by show 1 ≤ 1; first | decide | omega, by show 21 ≤ 40 * 1; first | decide | omega, Nat.zero_le _, Nat.zero_le _⟩ (Nat.le_of_ble_eq_true rfl) rfl ?_
  refine G_imul dX12_drives_11 ?_
  refine G_istore_n dX12_drives_12 rfl (by decide : 3 < 4) rfl ?_
  refine G_aload_n dX12_drives_13 rfl ?_
  refine G_bipush (z := 97) dX12_drives_14 rfl ?_
  refine G_iload_n dX12_drives_16 rfl ?_
  refine G_iast (mem2 := (up2 mem r1 97 a2)) dX12_drives_17 hl1 hs1 (by decide) (by decide) (by decide) rfl ?_
  refine G_aload_n dX12_drives_18 rfl ?_
  refine G_bipush (z := 98) dX12_drives_19 rfl ?_
  refine G_dup2 dX12_drives_21 rfl rfl ?_
  refine G_iald (z := (mem r1 98)) dX12_drives_22 hl1 hs1 (by decide) (by decide) (by decide) (by simp [up2, upr]) ?_
  refine G_iload_n dX12_drives_23 rfl ?_
  refine G_iadd dX12_drives_24 ?_
  refine G_iast (mem2 := (up2 (up2 mem r1 97 a2) r1 98 ((mem r1 98) + (10 * (if 0 ≤ ((mem r1 97) - a2) then ((mem r1 97) - a2) else -((mem r1 97) - a2)))))) dX12_drives_25 hl1 hs1 (by decide) (by decide) (by decide) rfl ?_
  refine G_iload_n dX12_drives_26 rfl ?_
  exact G_iret dX12_drives_27 rfl (Nat.zero_le _) (Nat.zero_le _) (Nat.le_refl _) ⟨rfl, k1⟩
set_option maxRecDepth 20000 in
set_option maxHeartbeats 8000000 in
theorem sg_X12_enters_0 {E : Nat × (Nat → Int32)} {P : Option Value → Mem → Prop} {mem : Mem} {a1 : Int} (q1 : 0 ≤ (mem 169 1) ∧ (mem 169 1) < 24)
    (k1 : P none (up2 (up2 mem 170 (mem 169 1) a1) 169 1 ((mem 169 1) + 1))) :
    GM E (m_X12_enters 0) P 0 [.ref 169, vl a1, un] [] mem := by
  refine G_aload_n dX12_enters_0 rfl ?_
  refine G_getR (t := 170) dX12_enters_1 fl_12_9 (by decide) sh_169 rr_169_2 ?_
  refine G_aload_n dX12_enters_4 rfl ?_
  refine G_getI (z := (mem 169 1)) dX12_enters_5 fl_12_134 (by decide) sh_169 rfl ?_
  refine G_lload_n dX12_enters_8 rfl ?_
  refine G_last (mem2 := (up2 mem 170 (mem 169 1) a1)) dX12_enters_9 (by decide) sh_170 (by decide) (q1).1 (q1).2 rfl ?_
  refine G_aload_n dX12_enters_10 rfl ?_
  refine G_dup dX12_enters_11 rfl ?_
  refine G_getI (z := (mem 169 1)) dX12_enters_12 fl_12_134 (by decide) sh_169 (by simp [up2, upr]) ?_
  refine G_iconst (z := 1) dX12_enters_15 rfl ?_
  refine G_iadd dX12_enters_16 ?_
  refine G_putI (mem2 := (up2 (up2 mem 170 (mem 169 1) a1) 169 1 ((mem 169 1) + 1))) dX12_enters_17 fp_12_134 (by decide) sh_169 rfl ?_
  exact G_vret dX12_enters_20 rfl (Nat.zero_le _) (Nat.zero_le _) (Nat.le_refl _) ⟨rfl, k1⟩
set_option maxRecDepth 20000 in
set_option maxHeartbeats 8000000 in
theorem sg_X12_flag_0 {E : Nat × (Nat → Int32)} {P : Option Value → Mem → Prop} {mem : Mem} {a0 : Int} (w1 : -2147483648 ≤ a0 ∧ a0 < 2147483648)
    (k1 : a0 = 0 → P (some (vi 0)) mem)
    (k2 : ¬ a0 = 0 → P (some (vi 1)) mem) :
    GM E (m_X12_flag 0) P 0 [vi a0] [] mem := by
  refine G_iload_n dX12_flag_0 rfl ?_
  refine G_if_eq (tgt := 8) dX12_flag_1 (by decide) (w1) (fun c1 => ?_) (fun c1 => ?_)
  · -- a0 = 0
    refine G_iconst (z := 0) dX12_flag_8 rfl ?_
    exact G_iret dX12_flag_9 rfl (Nat.zero_le _) (Nat.zero_le _) (Nat.le_refl _) ⟨rfl, k1 c1⟩
  · -- ¬ a0 = 0
    refine G_iconst (z := 1) dX12_flag_4 rfl ?_
    refine G_goto (tgt := 9) dX12_flag_5 (by decide) ?_
    exact G_iret dX12_flag_9 rfl (Nat.zero_le _) (Nat.zero_le _) (Nat.le_refl _) ⟨rfl, k2 c1⟩
set_option maxRecDepth 20000 in
set_option maxHeartbeats 8000000 in
theorem sg_X12_has_0 {E : Nat × (Nat → Int32)} {P : Option Value → Mem → Prop} {mem : Mem} {a0 : Int} {a1 : Int}
    (k1 : (bandI (shrI a0 a1) 1) ≠ 1 → P (some (vi 0)) mem)
    (k2 : (bandI (shrI a0 a1) 1) = 1 → P (some (vi 1)) mem) :
    GM E (m_X12_has 0) P 0 [vi a0, vi a1] [] mem := by
  refine G_iload_n dX12_has_0 rfl ?_
  refine G_iload_n dX12_has_1 rfl ?_
  refine G_ishr (z := (shrI a0 a1)) dX12_has_2 (iI_inv _) ?_
  refine G_iconst (z := 1) dX12_has_3 rfl ?_
  refine G_iand (z := (bandI (shrI a0 a1) 1)) dX12_has_4 (iI_inv _) ?_
  refine G_iconst (z := 1) dX12_has_5 rfl ?_
  refine G_icmp_ne (tgt := 13) dX12_has_6 (by decide) (iI_rng _) (by decide) (fun c1 => ?_) (fun c1 => ?_)
  · -- (bandI (shrI a0 a1) 1) ≠ 1
    refine G_iconst (z := 0) dX12_has_13 rfl ?_
    exact G_zret dX12_has_14 rfl (nar_zb (by decide)) (Nat.zero_le _) (Nat.zero_le _) (Nat.le_refl _) ⟨rfl, k1 c1⟩
  · -- (bandI (shrI a0 a1) 1) = 1
    refine G_iconst (z := 1) dX12_has_9 rfl ?_
    refine G_goto (tgt := 14) dX12_has_10 (by decide) ?_
    exact G_zret dX12_has_14 rfl (nar_zb (by decide)) (Nat.zero_le _) (Nat.zero_le _) (Nat.le_refl _) ⟨rfl, k2 c1⟩
set_option maxRecDepth 20000 in
set_option maxHeartbeats 8000000 in
theorem sg_X12_heavyBy_0 {E : Nat × (Nat → Int32)} {P : Option Value → Mem → Prop} {mem : Mem} {a1 : Int} {a2 : Int}
    (k1 : P (some (vi (divI ((a1 * (mem 179 3)) * (10 + a2)) 10))) mem) :
    GM E (m_X12_heavyBy 0) P 0 [.ref 169, vi a1, vi a2] [] mem := by
  refine G_iload_n dX12_heavyBy_0 rfl ?_
  refine G_aload_n dX12_heavyBy_1 rfl ?_
  refine G_getR (t := 179) dX12_heavyBy_2 fl_12_39 (by decide) sh_169 rr_169_13 ?_
  refine G_iconst (z := 3) dX12_heavyBy_5 rfl ?_
  refine G_iald (z := (mem 179 3)) dX12_heavyBy_6 (by decide) sh_179 (by decide) (by decide) (by decide) rfl ?_
  refine G_imul dX12_heavyBy_7 ?_
  refine G_bipush (z := 10) dX12_heavyBy_8 rfl ?_
  refine G_iload_n dX12_heavyBy_10 rfl ?_
  refine G_iadd dX12_heavyBy_11 ?_
  refine G_imul dX12_heavyBy_12 ?_
  refine G_bipush (z := 10) dX12_heavyBy_13 rfl ?_
  refine G_idiv (z := (divI ((a1 * (mem 179 3)) * (10 + a2)) 10)) dX12_heavyBy_15 (iI_ne0 (by decide) (by decide)) (iI_inv _) ?_
  exact G_iret dX12_heavyBy_16 rfl (Nat.zero_le _) (Nat.zero_le _) (Nat.le_refl _) ⟨rfl, k1⟩
set_option maxRecDepth 20000 in
set_option maxHeartbeats 8000000 in
theorem sg_X12_in_0 {E : Nat × (Nat → Int32)} {P : Option Value → Mem → Prop} {mem : Mem} {a0 : Int} {a2 : Int} {a4 : Int} (w1 : -9223372036854775808 ≤ a0 ∧ a0 < 9223372036854775808) (w2 : -9223372036854775808 ≤ a2 ∧ a2 < 9223372036854775808) (w3 : -9223372036854775808 ≤ a4 ∧ a4 < 9223372036854775808)
    (k1 : a0 < a2 → P (some (vi 0)) mem)
    (k2 : ¬ a0 < a2 → a4 < a0 → P (some (vi 0)) mem)
    (k3 : ¬ a0 < a2 → ¬ a4 < a0 → P (some (vi 1)) mem) :
    GM E (m_X12_in 0) P 0 [vl a0, un, vl a2, un, vl a4, un] [] mem := by
  refine G_lload_n dX12_in_0 rfl ?_
  refine G_lload_n dX12_in_1 rfl ?_
  refine G_lcmp_lt (tgt := 17) dX12_in_2 dX12_in_3 (by decide) (w1) (w2) (fun c1 => ?_) (fun c1 => ?_)
  · -- a0 < a2
    refine G_iconst (z := 0) dX12_in_17 rfl ?_
    exact G_zret dX12_in_18 rfl (nar_zb (by decide)) (Nat.zero_le _) (Nat.zero_le _) (Nat.le_refl _) ⟨rfl, k1 c1⟩
  · -- ¬ a0 < a2
    refine G_lload_n dX12_in_6 rfl ?_
    refine G_lload dX12_in_7 rfl ?_
    refine G_lcmp_gt (tgt := 17) dX12_in_9 dX12_in_10 (by decide) (w1) (w3) (fun c2 => ?_) (fun c2 => ?_)
    · -- a4 < a0
      refine G_iconst (z := 0) dX12_in_17 rfl ?_
      exact G_zret dX12_in_18 rfl (nar_zb (by decide)) (Nat.zero_le _) (Nat.zero_le _) (Nat.le_refl _) ⟨rfl, k2 c1 c2⟩
    · -- ¬ a4 < a0
      refine G_iconst (z := 1) dX12_in_13 rfl ?_
      refine G_goto (tgt := 18) dX12_in_14 (by decide) ?_
      exact G_zret dX12_in_18 rfl (nar_zb (by decide)) (Nat.zero_le _) (Nat.zero_le _) (Nat.le_refl _) ⟨rfl, k3 c1 c2⟩
set_option maxRecDepth 20000 in
set_option maxHeartbeats 8000000 in
theorem sg_X12_isShut_0 {E : Nat × (Nat → Int32)} {P : Option Value → Mem → Prop} {mem : Mem} {r1 : Nat} (hl1 : r1 < 209) (hs1 : SH[r1]? = some (.inr (0, 99))) (w1 : -2147483648 ≤ ((mem r1 97) - (mem 179 5)) ∧ ((mem r1 97) - (mem 179 5)) < 2147483648) (w2 : -2147483648 ≤ (mem 179 6) ∧ (mem 179 6) < 2147483648)
    (k1 : (divI ((mem r1 98) + (10 * (if 0 ≤ ((mem r1 97) - (mem 179 5)) then ((mem r1 97) - (mem 179 5)) else -((mem r1 97) - (mem 179 5))))) 60) ≤ (mem 179 6) → P (some (vi 0)) mem)
    (k2 : ¬ (divI ((mem r1 98) + (10 * (if 0 ≤ ((mem r1 97) - (mem 179 5)) then ((mem r1 97) - (mem 179 5)) else -((mem r1 97) - (mem 179 5))))) 60) ≤ (mem 179 6) → P (some (vi 1)) mem) :
    GM E (m_X12_isShut 1) P 0 [.ref 169, .ref r1] [] mem := by
  refine G_aload_n dX12_isShut_0 rfl ?_
  refine G_bipush (z := 98) dX12_isShut_1 rfl ?_
  refine G_iald (z := (mem r1 98)) dX12_isShut_3 hl1 hs1 (by decide) (by decide) (by decide) rfl ?_
  refine G_bipush (z := 10) dX12_isShut_4 rfl ?_
  refine G_aload_n dX12_isShut_6 rfl ?_
  refine G_bipush (z := 97) dX12_isShut_7 rfl ?_
  refine G_iald (z := (mem r1 97)) dX12_isShut_9 hl1 hs1 (by decide) (by decide) (by decide) rfl ?_
  refine G_aload_n dX12_isShut_10 rfl ?_
  refine G_getR (t := 179) dX12_isShut_11 fl_12_39 (by decide) sh_169 rr_169_13 ?_
  refine G_iconst (z := 5) dX12_isShut_14 rfl ?_
  refine G_iald (z := (mem 179 5)) dX12_isShut_15 (by decide) sh_179 (by decide) (by decide) (by decide) rfl ?_
  refine G_isub dX12_isShut_16 ?_
  refine G_abs (z := (if 0 ≤ ((mem r1 97) - (mem 179 5)) then ((mem r1 97) - (mem 179 5)) else -((mem r1 97) - (mem 179 5)))) dX12_isShut_17 ml_12_343 mw_abs (w1) ⟨by show 1 ≤ 1; first | decide | omega, by show 21 ≤ 40 * 1; first | decide | omega, Nat.zero_le _, Nat.zero_le _⟩ (Nat.le_of_ble_eq_true rfl) rfl ?_
  refine G_imul dX12_isShut_20 ?_
  refine G_iadd dX12_isShut_21 ?_
  refine G_bipush (z := 60) dX12_isShut_22 rfl ?_
  refine G_idiv (z := (divI ((mem r1 98) + (10 * (if 0 ≤ ((mem r1 97) - (mem 179 5)) then ((mem r1 97) - (mem 179 5)) else -((mem r1 97) - (mem 179 5))))) 60)) dX12_isShut_24 (iI_ne0 (by decide) (by decide)) (iI_inv _) ?_
  refine G_aload_n dX12_isShut_25 rfl ?_
  refine G_getR (t := 179) dX12_isShut_26 fl_12_39 (by decide) sh_169 rr_169_13 ?_
  refine G_bipush (z := 6) dX12_isShut_29 rfl ?_
  refine G_iald (z := (mem 179 6)) dX12_isShut_31 (by decide) sh_179 (by decide) (by decide) (by decide) rfl ?_
  refine G_icmp_le (tgt := 39) dX12_isShut_32 (by decide) (iI_rng _) (w2) (fun c1 => ?_) (fun c1 => ?_)
  · -- (divI ((mem r1 98) + (10 * (if 0 ≤ ((mem r1 97) - (mem 179 5)) then ((mem r1 97) - (mem 179 5)) else -((mem r1 97) - (mem 179 5))))) 60) ≤ (mem 179 6)
    refine G_iconst (z := 0) dX12_isShut_39 rfl ?_
    exact G_zret dX12_isShut_40 rfl (nar_zb (by decide)) (Nat.zero_le _) (Nat.zero_le _) (Nat.le_refl _) ⟨rfl, k1 c1⟩
  · -- ¬ (divI ((mem r1 98) + (10 * (if 0 ≤ ((mem r1 97) - (mem 179 5)) then ((mem r1 97) - (mem 179 5)) else -((mem r1 97) - (mem 179 5))))) 60) ≤ (mem 179 6)
    refine G_iconst (z := 1) dX12_isShut_35 rfl ?_
    refine G_goto (tgt := 40) dX12_isShut_36 (by decide) ?_
    exact G_zret dX12_isShut_40 rfl (nar_zb (by decide)) (Nat.zero_le _) (Nat.zero_le _) (Nat.le_refl _) ⟨rfl, k2 c1⟩
set_option maxRecDepth 20000 in
set_option maxHeartbeats 8000000 in
theorem sg_X12_refuse_0 {E : Nat × (Nat → Int32)} {P : Option Value → Mem → Prop} {mem : Mem}
    (k1 : P (some (vi 0)) (up2 mem 169 0 1)) :
    GM E (m_X12_refuse 0) P 0 [.ref 169] [] mem := by
  refine G_aload_n dX12_refuse_0 rfl ?_
  refine G_iconst (z := 1) dX12_refuse_1 rfl ?_
  refine G_putI (mem2 := (up2 mem 169 0 1)) dX12_refuse_2 fp_12_126 (by decide) sh_169 rfl ?_
  refine G_iconst (z := 0) dX12_refuse_5 rfl ?_
  exact G_iret dX12_refuse_6 rfl (Nat.zero_le _) (Nat.zero_le _) (Nat.le_refl _) ⟨rfl, k1⟩
set_option maxRecDepth 20000 in
set_option maxHeartbeats 8000000 in
theorem sg_X12_thinksAsIs_0 {E : Nat × (Nat → Int32)} {P : Option Value → Mem → Prop} {mem : Mem} {a1 : Int} (q1 : 0 ≤ a1 ∧ a1 < 6)
    (k1 : P none (up2 (up2 mem 169 30 (mem 179 1)) 169 31 (mem 173 a1))) :
    GM E (m_X12_thinksAsIs 0) P 0 [.ref 169, vi a1] [] mem := by
  refine G_aload_n dX12_thinksAsIs_0 rfl ?_
  refine G_aload_n dX12_thinksAsIs_1 rfl ?_
  refine G_getR (t := 179) dX12_thinksAsIs_2 fl_12_39 (by decide) sh_169 rr_169_13 ?_
  refine G_iconst (z := 1) dX12_thinksAsIs_5 rfl ?_
  refine G_iald (z := (mem 179 1)) dX12_thinksAsIs_6 (by decide) sh_179 (by decide) (by decide) (by decide) rfl ?_
  refine G_putI (mem2 := (up2 mem 169 30 (mem 179 1))) dX12_thinksAsIs_7 fp_12_269 (by decide) sh_169 rfl ?_
  refine G_aload_n dX12_thinksAsIs_10 rfl ?_
  refine G_aload_n dX12_thinksAsIs_11 rfl ?_
  refine G_getR (t := 173) dX12_thinksAsIs_12 fl_12_20 (by decide) sh_169 rr_169_7 ?_
  refine G_iload_n dX12_thinksAsIs_15 rfl ?_
  refine G_iald (z := (mem 173 a1)) dX12_thinksAsIs_16 (by decide) sh_173 (by decide) (q1).1 (q1).2 (by simp [up2, upr]) ?_
  refine G_putI (mem2 := (up2 (up2 mem 169 30 (mem 179 1)) 169 31 (mem 173 a1))) dX12_thinksAsIs_17 fp_12_266 (by decide) sh_169 rfl ?_
  exact G_vret dX12_thinksAsIs_20 rfl (Nat.zero_le _) (Nat.zero_le _) (Nat.le_refl _) ⟨rfl, k1⟩
set_option maxRecDepth 20000 in
set_option maxHeartbeats 8000000 in
theorem sg_X1_clear_0 {E : Nat × (Nat → Int32)} {P : Option Value → Mem → Prop} {mem : Mem}
    (k1 : P none (up2 mem 27 2 0)) :
    GM E (m_X1_clear 0) P 0 [.ref 27] [] mem := by
  refine G_aload_n dX1_clear_0 rfl ?_
  refine G_iconst (z := 0) dX1_clear_1 rfl ?_
  refine G_putI (mem2 := (up2 mem 27 2 0)) dX1_clear_2 fp_1_24 (by decide) sh_27 rfl ?_
  exact G_vret dX1_clear_5 rfl (Nat.zero_le _) (Nat.zero_le _) (Nat.le_refl _) ⟨rfl, k1⟩
set_option maxRecDepth 20000 in
set_option maxHeartbeats 8000000 in
theorem sg_X2_seconds_0 {E : Nat × (Nat → Int32)} {P : Option Value → Mem → Prop} {mem : Mem} {o : Nat} (ho : o ∈ jobL)
    (k1 : P (some (vi ((mem o 18) + (mem o 11)))) mem) :
    GM E (m_X2_seconds 0) P 0 [.ref o] [] mem := by
  refine G_aload_n dX2_seconds_0 rfl ?_
  refine G_getI (z := (mem o 18)) dX2_seconds_1 fl_2_113 (ltJob0 ho) (shJob0 ho) rfl ?_
  refine G_aload_n dX2_seconds_4 rfl ?_
  refine G_getI (z := (mem o 11)) dX2_seconds_5 fl_2_82 (ltJob0 ho) (shJob0 ho) rfl ?_
  refine G_iadd dX2_seconds_8 ?_
  exact G_iret dX2_seconds_9 rfl (Nat.zero_le _) (Nat.zero_le _) (Nat.le_refl _) ⟨rfl, k1⟩
set_option maxRecDepth 20000 in
set_option maxHeartbeats 8000000 in
theorem sg_X2_secondsOf_0 {E : Nat × (Nat → Int32)} {P : Option Value → Mem → Prop} {mem : Mem} {o : Nat} {a1 : Int} (ho : o ∈ jobL) (w1 : -2147483648 ≤ a1 ∧ a1 < 2147483648)
    (k1 : a1 < 0 → P (some (vi 0)) mem)
    (k2 : ¬ a1 < 0 → 3 ≤ a1 → P (some (vi 0)) mem)
    (k3 : ¬ a1 < 0 → ¬ 3 ≤ a1 → P (some (vi (mem (o + 5) a1))) mem) :
    GM E (m_X2_secondsOf 0) P 0 [.ref o, vi a1] [] mem := by
  refine G_iload_n dX2_secondsOf_0 rfl ?_
  refine G_if_lt (tgt := 22) dX2_secondsOf_1 (by decide) (w1) (fun c1 => ?_) (fun c1 => ?_)
  · -- a1 < 0
    refine G_iconst (z := 0) dX2_secondsOf_22 rfl ?_
    exact G_iret dX2_secondsOf_23 rfl (Nat.zero_le _) (Nat.zero_le _) (Nat.le_refl _) ⟨rfl, k1 c1⟩
  · -- ¬ a1 < 0
    refine G_iload_n dX2_secondsOf_4 rfl ?_
    refine G_aload_n dX2_secondsOf_5 rfl ?_
    refine G_getR (t := (o + 5)) dX2_secondsOf_6 fl_2_24 (ltJob0 ho) (shJob0 ho) (rrJob_6 ho) ?_
    refine G_alen (z := 3) dX2_secondsOf_9 (ltJob5 ho) (shJob5 ho) (by decide) rfl ?_
    refine G_icmp_ge (tgt := 22) dX2_secondsOf_10 (by decide) (w1) (by decide) (fun c2 => ?_) (fun c2 => ?_)
    · -- 3 ≤ a1
      refine G_iconst (z := 0) dX2_secondsOf_22 rfl ?_
      exact G_iret dX2_secondsOf_23 rfl (Nat.zero_le _) (Nat.zero_le _) (Nat.le_refl _) ⟨rfl, k2 c1 c2⟩
    · -- ¬ 3 ≤ a1
      refine G_aload_n dX2_secondsOf_13 rfl ?_
      refine G_getR (t := (o + 5)) dX2_secondsOf_14 fl_2_24 (ltJob0 ho) (shJob0 ho) (rrJob_6 ho) ?_
      refine G_iload_n dX2_secondsOf_17 rfl ?_
      refine G_iald (z := (mem (o + 5) a1)) dX2_secondsOf_18 (ltJob5 ho) (shJob5 ho) (by decide) (by omega) (by omega) rfl ?_
      refine G_goto (tgt := 23) dX2_secondsOf_19 (by decide) ?_
      exact G_iret dX2_secondsOf_23 rfl (Nat.zero_le _) (Nat.zero_le _) (Nat.le_refl _) ⟨rfl, k3 c1 c2⟩
set_option maxRecDepth 20000 in
set_option maxHeartbeats 8000000 in
theorem sg_X2_think_0 {E : Nat × (Nat → Int32)} {P : Option Value → Mem → Prop} {mem : Mem} {o : Nat} {a1 : Int} {a2 : Int} (ho : o ∈ jobL) (w1 : -2147483648 ≤ a1 ∧ a1 < 2147483648)
    (k1 : P none (up2 (up2 mem o 7 (max 1 a1)) o 8 a2)) :
    GM E (m_X2_think 1) P 0 [.ref o, vi a1, vi a2] [] mem := by
  refine G_aload_n dX2_think_0 rfl ?_
  refine G_iconst (z := 1) dX2_think_1 rfl ?_
  refine G_iload_n dX2_think_2 rfl ?_
  refine G_max (z := (max 1 a1)) dX2_think_3 ml_2_39 mw_max (by decide) (w1) ⟨by show 1 ≤ 1; first | decide | omega, by show 21 ≤ 40 * 1; first | decide | omega, Nat.zero_le _, Nat.zero_le _⟩ (Nat.le_of_ble_eq_true rfl) rfl ?_
  refine G_putI (mem2 := (up2 mem o 7 (max 1 a1))) dX2_think_6 fp_2_27 (ltJob0 ho) (shJob0 ho) rfl ?_
  refine G_aload_n dX2_think_9 rfl ?_
  refine G_iload_n dX2_think_10 rfl ?_
  refine G_putI (mem2 := (up2 (up2 mem o 7 (max 1 a1)) o 8 a2)) dX2_think_11 fp_2_45 (ltJob0 ho) (shJob0 ho) rfl ?_
  exact G_vret dX2_think_14 rfl (Nat.zero_le _) (Nat.zero_le _) (Nat.le_refl _) ⟨rfl, k1⟩
set_option maxRecDepth 20000 in
set_option maxHeartbeats 8000000 in
theorem sg_X3_leastMoreOf_0 {E : Nat × (Nat → Int32)} {P : Option Value → Mem → Prop} {mem : Mem} {a1 : Int} (w1 : -2147483648 ≤ a1 ∧ a1 < 2147483648)
    (k1 : a1 < 0 → P (some (vi 0)) mem)
    (k2 : ¬ a1 < 0 → 6 ≤ a1 → P (some (vi 0)) mem)
    (k3 : ¬ a1 < 0 → ¬ 6 ≤ a1 → P (some (vi (mem 99 a1))) mem) :
    GM E (m_X3_leastMoreOf 0) P 0 [.ref 93, vi a1] [] mem := by
  refine G_iload_n dX3_leastMoreOf_0 rfl ?_
  refine G_if_lt (tgt := 22) dX3_leastMoreOf_1 (by decide) (w1) (fun c1 => ?_) (fun c1 => ?_)
  · -- a1 < 0
    refine G_iconst (z := 0) dX3_leastMoreOf_22 rfl ?_
    exact G_iret dX3_leastMoreOf_23 rfl (Nat.zero_le _) (Nat.zero_le _) (Nat.le_refl _) ⟨rfl, k1 c1⟩
  · -- ¬ a1 < 0
    refine G_iload_n dX3_leastMoreOf_4 rfl ?_
    refine G_aload_n dX3_leastMoreOf_5 rfl ?_
    refine G_getR (t := 99) dX3_leastMoreOf_6 fl_3_27 (by decide) sh_93 rr_93_8 ?_
    refine G_alen (z := 6) dX3_leastMoreOf_9 (by decide) sh_99 (by decide) rfl ?_
    refine G_icmp_ge (tgt := 22) dX3_leastMoreOf_10 (by decide) (w1) (by decide) (fun c2 => ?_) (fun c2 => ?_)
    · -- 6 ≤ a1
      refine G_iconst (z := 0) dX3_leastMoreOf_22 rfl ?_
      exact G_iret dX3_leastMoreOf_23 rfl (Nat.zero_le _) (Nat.zero_le _) (Nat.le_refl _) ⟨rfl, k2 c1 c2⟩
    · -- ¬ 6 ≤ a1
      refine G_aload_n dX3_leastMoreOf_13 rfl ?_
      refine G_getR (t := 99) dX3_leastMoreOf_14 fl_3_27 (by decide) sh_93 rr_93_8 ?_
      refine G_iload_n dX3_leastMoreOf_17 rfl ?_
      refine G_iald (z := (mem 99 a1)) dX3_leastMoreOf_18 (by decide) sh_99 (by decide) (by omega) (by omega) rfl ?_
      refine G_goto (tgt := 23) dX3_leastMoreOf_19 (by decide) ?_
      exact G_iret dX3_leastMoreOf_23 rfl (Nat.zero_le _) (Nat.zero_le _) (Nat.le_refl _) ⟨rfl, k3 c1 c2⟩
set_option maxRecDepth 20000 in
set_option maxHeartbeats 8000000 in
theorem sg_X4_soonestAt_0 {E : Nat × (Nat → Int32)} {P : Option Value → Mem → Prop} {mem : Mem} {a1 : Int} (w1 : -2147483648 ≤ a1 ∧ a1 < 2147483648)
    (k1 : a1 < 0 → P (some (vi (-1))) mem)
    (k2 : ¬ a1 < 0 → 6 ≤ a1 → P (some (vi (-1))) mem)
    (k3 : ¬ a1 < 0 → ¬ 6 ≤ a1 → P (some (vi (mem 110 a1))) mem) :
    GM E (m_X4_soonestAt 0) P 0 [.ref 106, vi a1] [] mem := by
  refine G_iload_n dX4_soonestAt_0 rfl ?_
  refine G_if_lt (tgt := 22) dX4_soonestAt_1 (by decide) (w1) (fun c1 => ?_) (fun c1 => ?_)
  · -- a1 < 0
    refine G_iconst (z := (-1)) dX4_soonestAt_22 rfl ?_
    exact G_iret dX4_soonestAt_23 rfl (Nat.zero_le _) (Nat.zero_le _) (Nat.le_refl _) ⟨rfl, k1 c1⟩
  · -- ¬ a1 < 0
    refine G_iload_n dX4_soonestAt_4 rfl ?_
    refine G_aload_n dX4_soonestAt_5 rfl ?_
    refine G_getR (t := 110) dX4_soonestAt_6 fl_4_24 (by decide) sh_106 rr_106_11 ?_
    refine G_alen (z := 6) dX4_soonestAt_9 (by decide) sh_110 (by decide) rfl ?_
    refine G_icmp_ge (tgt := 22) dX4_soonestAt_10 (by decide) (w1) (by decide) (fun c2 => ?_) (fun c2 => ?_)
    · -- 6 ≤ a1
      refine G_iconst (z := (-1)) dX4_soonestAt_22 rfl ?_
      exact G_iret dX4_soonestAt_23 rfl (Nat.zero_le _) (Nat.zero_le _) (Nat.le_refl _) ⟨rfl, k2 c1 c2⟩
    · -- ¬ 6 ≤ a1
      refine G_aload_n dX4_soonestAt_13 rfl ?_
      refine G_getR (t := 110) dX4_soonestAt_14 fl_4_24 (by decide) sh_106 rr_106_11 ?_
      refine G_iload_n dX4_soonestAt_17 rfl ?_
      refine G_iald (z := (mem 110 a1)) dX4_soonestAt_18 (by decide) sh_110 (by decide) (by omega) (by omega) rfl ?_
      refine G_goto (tgt := 23) dX4_soonestAt_19 (by decide) ?_
      exact G_iret dX4_soonestAt_23 rfl (Nat.zero_le _) (Nat.zero_le _) (Nat.le_refl _) ⟨rfl, k3 c1 c2⟩
set_option maxRecDepth 20000 in
set_option maxHeartbeats 8000000 in
theorem sg_X4_start_0 {E : Nat × (Nat → Int32)} {P : Option Value → Mem → Prop} {mem : Mem} {a1 : Int} {a2 : Int} {a3 : Int}
    (k1 : P none (up2 (up2 (up2 (up2 (up2 mem 106 6 a1) 106 7 a2) 106 8 a3) 106 9 0) 106 10 0)) :
    GM E (m_X4_start 0) P 0 [.ref 106, vi a1, vi a2, vi a3] [] mem := by
  refine G_aload_n dX4_start_0 rfl ?_
  refine G_iload_n dX4_start_1 rfl ?_
  refine G_putI (mem2 := (up2 mem 106 6 a1)) dX4_start_2 fp_4_100 (by decide) sh_106 rfl ?_
  refine G_aload_n dX4_start_5 rfl ?_
  refine G_iload_n dX4_start_6 rfl ?_
  refine G_putI (mem2 := (up2 (up2 mem 106 6 a1) 106 7 a2)) dX4_start_7 fp_4_103 (by decide) sh_106 rfl ?_
  refine G_aload_n dX4_start_10 rfl ?_
  refine G_iload_n dX4_start_11 rfl ?_
  refine G_putI (mem2 := (up2 (up2 (up2 mem 106 6 a1) 106 7 a2) 106 8 a3)) dX4_start_12 fp_4_106 (by decide) sh_106 rfl ?_
  refine G_aload_n dX4_start_15 rfl ?_
  refine G_iconst (z := 0) dX4_start_16 rfl ?_
  refine G_putI (mem2 := (up2 (up2 (up2 (up2 mem 106 6 a1) 106 7 a2) 106 8 a3) 106 9 0)) dX4_start_17 fp_4_109 (by decide) sh_106 rfl ?_
  refine G_aload_n dX4_start_20 rfl ?_
  refine G_iconst (z := 0) dX4_start_21 rfl ?_
  refine G_putI (mem2 := (up2 (up2 (up2 (up2 (up2 mem 106 6 a1) 106 7 a2) 106 8 a3) 106 9 0) 106 10 0)) dX4_start_22 fp_4_112 (by decide) sh_106 rfl ?_
  exact G_vret dX4_start_25 rfl (Nat.zero_le _) (Nat.zero_le _) (Nat.le_refl _) ⟨rfl, k1⟩
set_option maxRecDepth 20000 in
set_option maxHeartbeats 8000000 in
theorem sg_X6_get_0 {E : Nat × (Nat → Int32)} {P : Option Value → Mem → Prop} {mem : Mem} {a1 : Int} (w1 : -2147483648 ≤ a1 ∧ a1 < 2147483648)
    (k1 : a1 < 0 → P (some (vi 0)) mem)
    (k2 : ¬ a1 < 0 → 7 ≤ a1 → P (some (vi 0)) mem)
    (k3 : ¬ a1 < 0 → ¬ 7 ≤ a1 → P (some (vi (mem 4 a1))) mem) :
    GM E (m_X6_get 0) P 0 [.ref 3, vi a1] [] mem := by
  refine G_iload_n dX6_get_0 rfl ?_
  refine G_if_lt (tgt := 22) dX6_get_1 (by decide) (w1) (fun c1 => ?_) (fun c1 => ?_)
  · -- a1 < 0
    refine G_iconst (z := 0) dX6_get_22 rfl ?_
    exact G_iret dX6_get_23 rfl (Nat.zero_le _) (Nat.zero_le _) (Nat.le_refl _) ⟨rfl, k1 c1⟩
  · -- ¬ a1 < 0
    refine G_iload_n dX6_get_4 rfl ?_
    refine G_aload_n dX6_get_5 rfl ?_
    refine G_getR (t := 4) dX6_get_6 fl_6_9 (by decide) sh_3 rr_3_0 ?_
    refine G_alen (z := 7) dX6_get_9 (by decide) sh_4 (by decide) rfl ?_
    refine G_icmp_ge (tgt := 22) dX6_get_10 (by decide) (w1) (by decide) (fun c2 => ?_) (fun c2 => ?_)
    · -- 7 ≤ a1
      refine G_iconst (z := 0) dX6_get_22 rfl ?_
      exact G_iret dX6_get_23 rfl (Nat.zero_le _) (Nat.zero_le _) (Nat.le_refl _) ⟨rfl, k2 c1 c2⟩
    · -- ¬ 7 ≤ a1
      refine G_aload_n dX6_get_13 rfl ?_
      refine G_getR (t := 4) dX6_get_14 fl_6_9 (by decide) sh_3 rr_3_0 ?_
      refine G_iload_n dX6_get_17 rfl ?_
      refine G_iald (z := (mem 4 a1)) dX6_get_18 (by decide) sh_4 (by decide) (by omega) (by omega) rfl ?_
      refine G_goto (tgt := 23) dX6_get_19 (by decide) ?_
      exact G_iret dX6_get_23 rfl (Nat.zero_le _) (Nat.zero_le _) (Nat.le_refl _) ⟨rfl, k3 c1 c2⟩
set_option maxRecDepth 20000 in
set_option maxHeartbeats 8000000 in
theorem sg_X7_outOf_0 {E : Nat × (Nat → Int32)} {P : Option Value → Mem → Prop} {mem : Mem} {o : Nat} {a1 : Int} (ho : o ∈ stateL) (w1 : -2147483648 ≤ a1 ∧ a1 < 2147483648)
    (k1 : a1 < 0 → P (some (vi 0)) mem)
    (k2 : ¬ a1 < 0 → 6 ≤ a1 → P (some (vi 0)) mem)
    (k3 : ¬ a1 < 0 → ¬ 6 ≤ a1 → P (some (vi (mem (o + 1) a1))) mem) :
    GM E (m_X7_outOf 0) P 0 [.ref o, vi a1] [] mem := by
  refine G_iload_n dX7_outOf_0 rfl ?_
  refine G_if_lt (tgt := 22) dX7_outOf_1 (by decide) (w1) (fun c1 => ?_) (fun c1 => ?_)
  · -- a1 < 0
    refine G_iconst (z := 0) dX7_outOf_22 rfl ?_
    exact G_iret dX7_outOf_23 rfl (Nat.zero_le _) (Nat.zero_le _) (Nat.le_refl _) ⟨rfl, k1 c1⟩
  · -- ¬ a1 < 0
    refine G_iload_n dX7_outOf_4 rfl ?_
    refine G_aload_n dX7_outOf_5 rfl ?_
    refine G_getR (t := (o + 1)) dX7_outOf_6 fl_7_9 (ltState0 ho) (shState0 ho) (rrState_0 ho) ?_
    refine G_alen (z := 6) dX7_outOf_9 (ltState1 ho) (shState1 ho) (by decide) rfl ?_
    refine G_icmp_ge (tgt := 22) dX7_outOf_10 (by decide) (w1) (by decide) (fun c2 => ?_) (fun c2 => ?_)
    · -- 6 ≤ a1
      refine G_iconst (z := 0) dX7_outOf_22 rfl ?_
      exact G_iret dX7_outOf_23 rfl (Nat.zero_le _) (Nat.zero_le _) (Nat.le_refl _) ⟨rfl, k2 c1 c2⟩
    · -- ¬ 6 ≤ a1
      refine G_aload_n dX7_outOf_13 rfl ?_
      refine G_getR (t := (o + 1)) dX7_outOf_14 fl_7_9 (ltState0 ho) (shState0 ho) (rrState_0 ho) ?_
      refine G_iload_n dX7_outOf_17 rfl ?_
      refine G_iald (z := (mem (o + 1) a1)) dX7_outOf_18 (ltState1 ho) (shState1 ho) (by decide) (by omega) (by omega) rfl ?_
      refine G_goto (tgt := 23) dX7_outOf_19 (by decide) ?_
      exact G_iret dX7_outOf_23 rfl (Nat.zero_le _) (Nat.zero_le _) (Nat.le_refl _) ⟨rfl, k3 c1 c2⟩
set_option maxRecDepth 20000 in
set_option maxHeartbeats 8000000 in
theorem sg_X8_isBarred_0 {E : Nat × (Nat → Int32)} {P : Option Value → Mem → Prop} {mem : Mem} {o : Nat} {a1 : Int} (ho : o ∈ streetL) (w1 : -2147483648 ≤ (mem o 7) ∧ (mem o 7) < 2147483648) (w2 : ¬ (mem o 7) < 0 → ¬ (divI a1 60) < (mem o 7) → -2147483648 ≤ (mem o 8) ∧ (mem o 8) < 2147483648)
    (k1 : (mem o 7) < 0 → P (some (vi 0)) mem)
    (k2 : ¬ (mem o 7) < 0 → (divI a1 60) < (mem o 7) → P (some (vi 0)) mem)
    (k3 : ¬ (mem o 7) < 0 → ¬ (divI a1 60) < (mem o 7) → (mem o 8) < (divI a1 60) → P (some (vi 0)) mem)
    (k4 : ¬ (mem o 7) < 0 → ¬ (divI a1 60) < (mem o 7) → ¬ (mem o 8) < (divI a1 60) → P (some (vi 1)) mem) :
    GM E (m_X8_isBarred 0) P 0 [.ref o, vi a1, un] [] mem := by
  refine G_iload_n dX8_isBarred_0 rfl ?_
  refine G_bipush (z := 60) dX8_isBarred_1 rfl ?_
  refine G_idiv (z := (divI a1 60)) dX8_isBarred_3 (iI_ne0 (by decide) (by decide)) (iI_inv _) ?_
  refine G_istore_n dX8_isBarred_4 rfl (by decide : 2 < 3) rfl ?_
  refine G_aload_n dX8_isBarred_5 rfl ?_
  refine G_getI (z := (mem o 7)) dX8_isBarred_6 fl_8_15 (ltStreet0 ho) (shStreet0 ho) rfl ?_
  refine G_if_lt (tgt := 32) dX8_isBarred_9 (by decide) (w1) (fun c1 => ?_) (fun c1 => ?_)
  · -- (mem o 7) < 0
    refine G_iconst (z := 0) dX8_isBarred_32 rfl ?_
    exact G_zret dX8_isBarred_33 rfl (nar_zb (by decide)) (Nat.zero_le _) (Nat.zero_le _) (Nat.le_refl _) ⟨rfl, k1 c1⟩
  · -- ¬ (mem o 7) < 0
    refine G_iload_n dX8_isBarred_12 rfl ?_
    refine G_aload_n dX8_isBarred_13 rfl ?_
    refine G_getI (z := (mem o 7)) dX8_isBarred_14 fl_8_15 (ltStreet0 ho) (shStreet0 ho) rfl ?_
    refine G_icmp_lt (tgt := 32) dX8_isBarred_17 (by decide) (iI_rng _) (w1) (fun c2 => ?_) (fun c2 => ?_)
    · -- (divI a1 60) < (mem o 7)
      refine G_iconst (z := 0) dX8_isBarred_32 rfl ?_
      exact G_zret dX8_isBarred_33 rfl (nar_zb (by decide)) (Nat.zero_le _) (Nat.zero_le _) (Nat.le_refl _) ⟨rfl, k2 c1 c2⟩
    · -- ¬ (divI a1 60) < (mem o 7)
      refine G_iload_n dX8_isBarred_20 rfl ?_
      refine G_aload_n dX8_isBarred_21 rfl ?_
      refine G_getI (z := (mem o 8)) dX8_isBarred_22 fl_8_19 (ltStreet0 ho) (shStreet0 ho) rfl ?_
      refine G_icmp_gt (tgt := 32) dX8_isBarred_25 (by decide) (iI_rng _) (w2 c1 c2) (fun c3 => ?_) (fun c3 => ?_)
      · -- (mem o 8) < (divI a1 60)
        refine G_iconst (z := 0) dX8_isBarred_32 rfl ?_
        exact G_zret dX8_isBarred_33 rfl (nar_zb (by decide)) (Nat.zero_le _) (Nat.zero_le _) (Nat.le_refl _) ⟨rfl, k3 c1 c2 c3⟩
      · -- ¬ (mem o 8) < (divI a1 60)
        refine G_iconst (z := 1) dX8_isBarred_28 rfl ?_
        refine G_goto (tgt := 33) dX8_isBarred_29 (by decide) ?_
        exact G_zret dX8_isBarred_33 rfl (nar_zb (by decide)) (Nat.zero_le _) (Nat.zero_le _) (Nat.le_refl _) ⟨rfl, k4 c1 c2 c3⟩
set_option maxRecDepth 20000 in
set_option maxHeartbeats 8000000 in
theorem sg_X8_weightAt_0 {E : Nat × (Nat → Int32)} {P : Option Value → Mem → Prop} {mem : Mem} {o : Nat} {a1 : Int} (ho : o ∈ streetL) (w1 : -2147483648 ≤ a1 ∧ a1 < 2147483648)
    (k1 : a1 < 0 → P (some (vi 0)) mem)
    (k2 : ¬ a1 < 0 → 16 ≤ a1 → P (some (vi 0)) mem)
    (k3 : ¬ a1 < 0 → ¬ 16 ≤ a1 → P (some (vi (mem (o + 1) a1))) mem) :
    GM E (m_X8_weightAt 0) P 0 [.ref o, vi a1] [] mem := by
  refine G_iload_n dX8_weightAt_0 rfl ?_
  refine G_if_lt (tgt := 22) dX8_weightAt_1 (by decide) (w1) (fun c1 => ?_) (fun c1 => ?_)
  · -- a1 < 0
    refine G_iconst (z := 0) dX8_weightAt_22 rfl ?_
    exact G_iret dX8_weightAt_23 rfl (Nat.zero_le _) (Nat.zero_le _) (Nat.le_refl _) ⟨rfl, k1 c1⟩
  · -- ¬ a1 < 0
    refine G_iload_n dX8_weightAt_4 rfl ?_
    refine G_aload_n dX8_weightAt_5 rfl ?_
    refine G_getR (t := (o + 1)) dX8_weightAt_6 fl_8_9 (ltStreet0 ho) (shStreet0 ho) (rrStreet_1 ho) ?_
    refine G_alen (z := 16) dX8_weightAt_9 (ltStreet1 ho) (shStreet1 ho) (by decide) rfl ?_
    refine G_icmp_ge (tgt := 22) dX8_weightAt_10 (by decide) (w1) (by decide) (fun c2 => ?_) (fun c2 => ?_)
    · -- 16 ≤ a1
      refine G_iconst (z := 0) dX8_weightAt_22 rfl ?_
      exact G_iret dX8_weightAt_23 rfl (Nat.zero_le _) (Nat.zero_le _) (Nat.le_refl _) ⟨rfl, k2 c1 c2⟩
    · -- ¬ 16 ≤ a1
      refine G_aload_n dX8_weightAt_13 rfl ?_
      refine G_getR (t := (o + 1)) dX8_weightAt_14 fl_8_9 (ltStreet0 ho) (shStreet0 ho) (rrStreet_1 ho) ?_
      refine G_iload_n dX8_weightAt_17 rfl ?_
      refine G_iald (z := (mem (o + 1) a1)) dX8_weightAt_18 (ltStreet1 ho) (shStreet1 ho) (by decide) (by omega) (by omega) rfl ?_
      refine G_goto (tgt := 23) dX8_weightAt_19 (by decide) ?_
      exact G_iret dX8_weightAt_23 rfl (Nat.zero_le _) (Nat.zero_le _) (Nat.le_refl _) ⟨rfl, k3 c1 c2⟩
set_option maxRecDepth 20000 in
set_option maxHeartbeats 8000000 in
theorem sg_X9_begin_0 {E : Nat × (Nat → Int32)} {P : Option Value → Mem → Prop} {mem : Mem} {a1 : Int} (w1 : -2147483648 ≤ (mem 1 1) ∧ (mem 1 1) < 2147483648) (w2 : -2147483648 ≤ a1 ∧ a1 < 2147483648)
    (k1 : P none (up2 (up2 mem 1 2 0) 1 3 (min (mem 1 1) a1))) :
    GM E (m_X9_begin 1) P 0 [.ref 1, vi a1] [] mem := by
  refine G_aload_n dX9_begin_0 rfl ?_
  refine G_iconst (z := 0) dX9_begin_1 rfl ?_
  refine G_putI (mem2 := (up2 mem 1 2 0)) dX9_begin_2 fp_9_19 (by decide) sh_1 rfl ?_
  refine G_aload_n dX9_begin_5 rfl ?_
  refine G_aload_n dX9_begin_6 rfl ?_
  refine G_getI (z := (mem 1 1)) dX9_begin_7 fl_9_15 (by decide) sh_1 (by simp [up2, upr]) ?_
  refine G_iload_n dX9_begin_10 rfl ?_
  refine G_min (z := (min (mem 1 1) a1)) dX9_begin_11 ml_9_22 mw_min (w1) (w2) ⟨by show 1 ≤ 1; first | decide | omega, by show 21 ≤ 40 * 1; first | decide | omega, Nat.zero_le _, Nat.zero_le _⟩ (Nat.le_of_ble_eq_true rfl) rfl ?_
  refine G_putI (mem2 := (up2 (up2 mem 1 2 0) 1 3 (min (mem 1 1) a1))) dX9_begin_14 fp_9_28 (by decide) sh_1 rfl ?_
  exact G_vret dX9_begin_17 rfl (Nat.zero_le _) (Nat.zero_le _) (Nat.le_refl _) ⟨rfl, k1⟩
set_option maxRecDepth 20000 in
set_option maxHeartbeats 8000000 in
theorem sg_X9_clear_0 {E : Nat × (Nat → Int32)} {P : Option Value → Mem → Prop} {mem : Mem}
    (k1 : P none (up2 mem 1 1 0)) :
    GM E (m_X9_clear 0) P 0 [.ref 1] [] mem := by
  refine G_aload_n dX9_clear_0 rfl ?_
  refine G_iconst (z := 0) dX9_clear_1 rfl ?_
  refine G_putI (mem2 := (up2 mem 1 1 0)) dX9_clear_2 fp_9_15 (by decide) sh_1 rfl ?_
  exact G_vret dX9_clear_5 rfl (Nat.zero_le _) (Nat.zero_le _) (Nat.le_refl _) ⟨rfl, k1⟩
set_option maxRecDepth 20000 in
set_option maxHeartbeats 8000000 in
theorem sg_X9_fault_0 {E : Nat × (Nat → Int32)} {P : Option Value → Mem → Prop} {mem : Mem}
    (k1 : P (some (vi ((-1) - (mem 1 2)))) mem) :
    GM E (m_X9_fault 0) P 0 [.ref 1] [] mem := by
  refine G_iconst (z := (-1)) dX9_fault_0 rfl ?_
  refine G_aload_n dX9_fault_1 rfl ?_
  refine G_getI (z := (mem 1 2)) dX9_fault_2 fl_9_19 (by decide) sh_1 rfl ?_
  refine G_isub dX9_fault_5 ?_
  exact G_iret dX9_fault_6 rfl (Nat.zero_le _) (Nat.zero_le _) (Nat.le_refl _) ⟨rfl, k1⟩
set_option maxRecDepth 20000 in
set_option maxHeartbeats 8000000 in
theorem sg_X9_isRead_0 {E : Nat × (Nat → Int32)} {P : Option Value → Mem → Prop} {mem : Mem} (w1 : -2147483648 ≤ (mem 1 2) ∧ (mem 1 2) < 2147483648) (w2 : -2147483648 ≤ (mem 1 1) ∧ (mem 1 1) < 2147483648)
    (k1 : (mem 1 2) < (mem 1 1) → P (some (vi 0)) mem)
    (k2 : ¬ (mem 1 2) < (mem 1 1) → P (some (vi 1)) mem) :
    GM E (m_X9_isRead 0) P 0 [.ref 1] [] mem := by
  refine G_aload_n dX9_isRead_0 rfl ?_
  refine G_getI (z := (mem 1 2)) dX9_isRead_1 fl_9_19 (by decide) sh_1 rfl ?_
  refine G_aload_n dX9_isRead_4 rfl ?_
  refine G_getI (z := (mem 1 1)) dX9_isRead_5 fl_9_15 (by decide) sh_1 rfl ?_
  refine G_icmp_lt (tgt := 15) dX9_isRead_8 (by decide) (w1) (w2) (fun c1 => ?_) (fun c1 => ?_)
  · -- (mem 1 2) < (mem 1 1)
    refine G_iconst (z := 0) dX9_isRead_15 rfl ?_
    exact G_zret dX9_isRead_16 rfl (nar_zb (by decide)) (Nat.zero_le _) (Nat.zero_le _) (Nat.le_refl _) ⟨rfl, k1 c1⟩
  · -- ¬ (mem 1 2) < (mem 1 1)
    refine G_iconst (z := 1) dX9_isRead_11 rfl ?_
    refine G_goto (tgt := 16) dX9_isRead_12 (by decide) ?_
    exact G_zret dX9_isRead_16 rfl (nar_zb (by decide)) (Nat.zero_le _) (Nat.zero_le _) (Nat.le_refl _) ⟨rfl, k2 c1⟩
set_option maxRecDepth 20000 in
set_option maxHeartbeats 8000000 in
theorem sg_X9_look_0 {E : Nat × (Nat → Int32)} {P : Option Value → Mem → Prop} {mem : Mem} (w1 : -2147483648 ≤ (mem 1 2) ∧ (mem 1 2) < 2147483648) (w2 : ¬ (mem 1 2) < 0 → -2147483648 ≤ (mem 1 3) ∧ (mem 1 3) < 2147483648)
    (k1 : (mem 1 2) < 0 → P (some (vi (-1))) mem)
    (k2 : ¬ (mem 1 2) < 0 → (mem 1 3) ≤ (mem 1 2) → P (some (vi (-1))) mem)
    (k3 : ¬ (mem 1 2) < 0 → ¬ (mem 1 3) ≤ (mem 1 2) → 80 ≤ (mem 1 2) → P (some (vi (-1))) mem)
    (k4 : ¬ (mem 1 2) < 0 → ¬ (mem 1 3) ≤ (mem 1 2) → ¬ 80 ≤ (mem 1 2) → P (some (vi (mem 2 (mem 1 2)))) mem) :
    GM E (m_X9_look 0) P 0 [.ref 1] [] mem := by
  refine G_aload_n dX9_look_0 rfl ?_
  refine G_getI (z := (mem 1 2)) dX9_look_1 fl_9_19 (by decide) sh_1 rfl ?_
  refine G_if_lt (tgt := 42) dX9_look_4 (by decide) (w1) (fun c1 => ?_) (fun c1 => ?_)
  · -- (mem 1 2) < 0
    refine G_iconst (z := (-1)) dX9_look_42 rfl ?_
    exact G_iret dX9_look_43 rfl (Nat.zero_le _) (Nat.zero_le _) (Nat.le_refl _) ⟨rfl, k1 c1⟩
  · -- ¬ (mem 1 2) < 0
    refine G_aload_n dX9_look_7 rfl ?_
    refine G_getI (z := (mem 1 2)) dX9_look_8 fl_9_19 (by decide) sh_1 rfl ?_
    refine G_aload_n dX9_look_11 rfl ?_
    refine G_getI (z := (mem 1 3)) dX9_look_12 fl_9_28 (by decide) sh_1 rfl ?_
    refine G_icmp_ge (tgt := 42) dX9_look_15 (by decide) (w1) (w2 c1) (fun c2 => ?_) (fun c2 => ?_)
    · -- (mem 1 3) ≤ (mem 1 2)
      refine G_iconst (z := (-1)) dX9_look_42 rfl ?_
      exact G_iret dX9_look_43 rfl (Nat.zero_le _) (Nat.zero_le _) (Nat.le_refl _) ⟨rfl, k2 c1 c2⟩
    · -- ¬ (mem 1 3) ≤ (mem 1 2)
      refine G_aload_n dX9_look_18 rfl ?_
      refine G_getI (z := (mem 1 2)) dX9_look_19 fl_9_19 (by decide) sh_1 rfl ?_
      refine G_aload_n dX9_look_22 rfl ?_
      refine G_getR (t := 2) dX9_look_23 fl_9_9 (by decide) sh_1 rr_1_0 ?_
      refine G_alen (z := 80) dX9_look_26 (by decide) sh_2 (by decide) rfl ?_
      refine G_icmp_ge (tgt := 42) dX9_look_27 (by decide) (w1) (by decide) (fun c3 => ?_) (fun c3 => ?_)
      · -- 80 ≤ (mem 1 2)
        refine G_iconst (z := (-1)) dX9_look_42 rfl ?_
        exact G_iret dX9_look_43 rfl (Nat.zero_le _) (Nat.zero_le _) (Nat.le_refl _) ⟨rfl, k3 c1 c2 c3⟩
      · -- ¬ 80 ≤ (mem 1 2)
        refine G_aload_n dX9_look_30 rfl ?_
        refine G_getR (t := 2) dX9_look_31 fl_9_9 (by decide) sh_1 rr_1_0 ?_
        refine G_aload_n dX9_look_34 rfl ?_
        refine G_getI (z := (mem 1 2)) dX9_look_35 fl_9_19 (by decide) sh_1 rfl ?_
        refine G_iald (z := (mem 2 (mem 1 2))) dX9_look_38 (by decide) sh_2 (by decide) (by omega) (by omega) rfl ?_
        refine G_goto (tgt := 43) dX9_look_39 (by decide) ?_
        exact G_iret dX9_look_43 rfl (Nat.zero_le _) (Nat.zero_le _) (Nat.le_refl _) ⟨rfl, k4 c1 c2 c3⟩
set_option maxRecDepth 20000 in
set_option maxHeartbeats 8000000 in
theorem sg_X9_pass_0 {E : Nat × (Nat → Int32)} {P : Option Value → Mem → Prop} {mem : Mem}
    (k1 : P none (up2 mem 1 2 ((mem 1 2) + 1))) :
    GM E (m_X9_pass 0) P 0 [.ref 1] [] mem := by
  refine G_aload_n dX9_pass_0 rfl ?_
  refine G_dup dX9_pass_1 rfl ?_
  refine G_getI (z := (mem 1 2)) dX9_pass_2 fl_9_19 (by decide) sh_1 rfl ?_
  refine G_iconst (z := 1) dX9_pass_5 rfl ?_
  refine G_iadd dX9_pass_6 ?_
  refine G_putI (mem2 := (up2 mem 1 2 ((mem 1 2) + 1))) dX9_pass_7 fp_9_19 (by decide) sh_1 rfl ?_
  exact G_vret dX9_pass_10 rfl (Nat.zero_le _) (Nat.zero_le _) (Nat.le_refl _) ⟨rfl, k1⟩
set_option maxRecDepth 20000 in
set_option maxHeartbeats 8000000 in
theorem sg_X9_stepBack_0 {E : Nat × (Nat → Int32)} {P : Option Value → Mem → Prop} {mem : Mem}
    (k1 : P none (up2 mem 1 2 ((mem 1 2) - 1))) :
    GM E (m_X9_stepBack 0) P 0 [.ref 1] [] mem := by
  refine G_aload_n dX9_stepBack_0 rfl ?_
  refine G_dup dX9_stepBack_1 rfl ?_
  refine G_getI (z := (mem 1 2)) dX9_stepBack_2 fl_9_19 (by decide) sh_1 rfl ?_
  refine G_iconst (z := 1) dX9_stepBack_5 rfl ?_
  refine G_isub dX9_stepBack_6 ?_
  refine G_putI (mem2 := (up2 mem 1 2 ((mem 1 2) - 1))) dX9_stepBack_7 fp_9_19 (by decide) sh_1 rfl ?_
  exact G_vret dX9_stepBack_10 rfl (Nat.zero_le _) (Nat.zero_le _) (Nat.le_refl _) ⟨rfl, k1⟩
