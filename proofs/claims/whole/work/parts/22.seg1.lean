set_option maxRecDepth 20000 in
set_option maxHeartbeats 8000000 in
theorem sg_X11_tell_0 {E : Nat × (Nat → Int32)} {P : Option Value → Mem → Prop} {mem : Mem} {a1 : Int}
    (k1 : P none (up2 (up2 (up2 mem 0 14 0) 168 0 a1) 0 14 1)) :
    GM E (m_X11_tell 1) P 0 [.ref 0, vl a1, un] [] mem := by
  refine G_aload_n dX11_tell_0 rfl ?_
  refine cb_X11_tell_1 (ic_X11_clearRow ?_)
  refine G_aload_n dX11_tell_4 rfl ?_
  refine G_lload_n dX11_tell_5 rfl ?_
  refine cb_X11_tell_6 (ic_X11_tellMore (z := 0) (z2 := 1) (by simp [up2, upr]) (by decide) rfl ?_)
  exact G_vret dX11_tell_9 rfl (Nat.zero_le _) (Nat.zero_le _) (Nat.le_refl _) ⟨rfl, k1⟩
set_option maxRecDepth 20000 in
set_option maxHeartbeats 8000000 in
theorem sg_X12_heavy_0 {E : Nat × (Nat → Int32)} {P : Option Value → Mem → Prop} {mem : Mem} {a1 : Int} (q1 : 0 ≤ a1 ∧ a1 < 96)
    (k1 : P (some (vi (divI (((mem 178 a1) * (mem 179 3)) * (10 + (mem 179 2))) 10))) mem) :
    GM E (m_X12_heavy 1) P 0 [.ref 169, vi a1] [] mem := by
  refine G_aload_n dX12_heavy_0 rfl ?_
  refine G_aload_n dX12_heavy_1 rfl ?_
  refine G_getR (t := 178) dX12_heavy_2 fl_12_36 (by decide) sh_169 rr_169_12 ?_
  refine G_iload_n dX12_heavy_5 rfl ?_
  refine G_iald (z := (mem 178 a1)) dX12_heavy_6 (by decide) sh_178 (by decide) (q1).1 (q1).2 rfl ?_
  refine G_aload_n dX12_heavy_7 rfl ?_
  refine G_getR (t := 179) dX12_heavy_8 fl_12_39 (by decide) sh_169 rr_169_13 ?_
  refine G_iconst (z := 2) dX12_heavy_11 rfl ?_
  refine G_iald (z := (mem 179 2)) dX12_heavy_12 (by decide) sh_179 (by decide) (by decide) (by decide) rfl ?_
  refine cb_X12_heavy_13 (ic_X12_heavyBy (z := (mem 179 3)) rfl ?_)
  exact G_iret dX12_heavy_16 rfl (Nat.zero_le _) (Nat.zero_le _) (Nat.le_refl _) ⟨rfl, k1⟩
set_option maxRecDepth 20000 in
set_option maxHeartbeats 8000000 in
theorem sg_X12_isDigit_0 {E : Nat × (Nat → Int32)} {P : Option Value → Mem → Prop} {mem : Mem} (w1 : -2147483648 ≤ (mem 169 18) ∧ (mem 169 18) < 2147483648) (w2 : -2147483648 ≤ (mem 169 19) ∧ (mem 169 19) < 2147483648) (q3 : ¬ (mem 169 19) ≤ (mem 169 18) → 0 ≤ (mem 169 18) ∧ (mem 169 18) < 80) (w4 : ¬ (mem 169 19) ≤ (mem 169 18) → -2147483648 ≤ (mem 182 (mem 169 18)) ∧ (mem 182 (mem 169 18)) < 2147483648) (w5 : ¬ (mem 169 19) ≤ (mem 169 18) → -9223372036854775808 ≤ (mem 182 (mem 169 18)) ∧ (mem 182 (mem 169 18)) < 9223372036854775808)
    (k1 : (mem 169 19) ≤ (mem 169 18) → P (some (vi 0)) mem)
    (k2 : ¬ (mem 169 19) ≤ (mem 169 18) → 48 ≤ (mem 182 (mem 169 18)) ∧ (mem 182 (mem 169 18)) ≤ 57 → P (some (vi 1)) mem)
    (k3 : ¬ (mem 169 19) ≤ (mem 169 18) → ¬ (48 ≤ (mem 182 (mem 169 18)) ∧ (mem 182 (mem 169 18)) ≤ 57) → P (some (vi 0)) mem) :
    GM E (m_X12_isDigit 1) P 0 [.ref 169] [] mem := by
  refine G_aload_n dX12_isDigit_0 rfl ?_
  refine G_getI (z := (mem 169 18)) dX12_isDigit_1 fl_12_151 (by decide) sh_169 rfl ?_
  refine G_aload_n dX12_isDigit_4 rfl ?_
  refine G_getI (z := (mem 169 19)) dX12_isDigit_5 fl_12_163 (by decide) sh_169 rfl ?_
  refine G_icmp_ge (tgt := 37) dX12_isDigit_8 (by decide) (w1) (w2) (fun c1 => ?_) (fun c1 => ?_)
  · -- (mem 169 19) ≤ (mem 169 18)
    refine G_iconst (z := 0) dX12_isDigit_37 rfl ?_
    exact G_zret dX12_isDigit_38 rfl (nar_zb (by decide)) (Nat.zero_le _) (Nat.zero_le _) (Nat.le_refl _) ⟨rfl, k1 c1⟩
  · -- ¬ (mem 169 19) ≤ (mem 169 18)
    refine G_aload_n dX12_isDigit_11 rfl ?_
    refine G_getR (t := 182) dX12_isDigit_12 fl_12_48 (by decide) sh_169 rr_169_16 ?_
    refine G_aload_n dX12_isDigit_15 rfl ?_
    refine G_getI (z := (mem 169 18)) dX12_isDigit_16 fl_12_151 (by decide) sh_169 rfl ?_
    refine G_iald (z := (mem 182 (mem 169 18))) dX12_isDigit_19 (by decide) sh_182 (by decide) (q3 c1).1 (q3 c1).2 rfl ?_
    refine G_i2l dX12_isDigit_20 (w4 c1) ?_
    refine G_ldc2 (z := 48) dX12_isDigit_21 kc_12_170 ?_
    refine G_ldc2 (z := 57) dX12_isDigit_24 kc_12_172 ?_
    refine cb_X12_isDigit_27 (ic_X12_in (w5 c1) (by decide) (by decide) (fun c2 => ?_) (fun c3 => ?_))
    · -- 48 ≤ (mem 182 (mem 169 18)) ∧ (mem 182 (mem 169 18)) ≤ 57
      refine G_if_eq (tgt := 37) dX12_isDigit_30 (by decide) (by decide) (fun h => absurd h (by decide)) (fun _ => ?_)
      refine G_iconst (z := 1) dX12_isDigit_33 rfl ?_
      refine G_goto (tgt := 38) dX12_isDigit_34 (by decide) ?_
      exact G_zret dX12_isDigit_38 rfl (nar_zb (by decide)) (Nat.zero_le _) (Nat.zero_le _) (Nat.le_refl _) ⟨rfl, k2 c1 c2⟩
    · -- ¬ (48 ≤ (mem 182 (mem 169 18)) ∧ (mem 182 (mem 169 18)) ≤ 57)
      refine G_if_eq (tgt := 37) dX12_isDigit_30 (by decide) (by decide) (fun _ => ?_) (fun h => absurd h (by decide))
      refine G_iconst (z := 0) dX12_isDigit_37 rfl ?_
      exact G_zret dX12_isDigit_38 rfl (nar_zb (by decide)) (Nat.zero_le _) (Nat.zero_le _) (Nat.le_refl _) ⟨rfl, k3 c1 c3⟩
set_option maxRecDepth 20000 in
set_option maxHeartbeats 8000000 in
theorem sg_X12_isNext_0 {E : Nat × (Nat → Int32)} {P : Option Value → Mem → Prop} {mem : Mem} {a1 : Int} (w1 : -2147483648 ≤ (mem 169 18) ∧ (mem 169 18) < 2147483648) (w2 : -2147483648 ≤ (mem 169 19) ∧ (mem 169 19) < 2147483648) (q3 : ¬ (mem 169 19) ≤ (mem 169 18) → 0 ≤ (mem 169 18) ∧ (mem 169 18) < 80) (w4 : ¬ (mem 169 19) ≤ (mem 169 18) → -2147483648 ≤ (mem 182 (mem 169 18)) ∧ (mem 182 (mem 169 18)) < 2147483648) (w5 : -2147483648 ≤ a1 ∧ a1 < 2147483648)
    (k1 : (mem 169 19) ≤ (mem 169 18) → P (some (vi 0)) (up2 mem 169 18 ((mem 169 18) + 0)))
    (k2 : ¬ (mem 169 19) ≤ (mem 169 18) → (mem 182 (mem 169 18)) ≠ a1 → P (some (vi 0)) (up2 mem 169 18 ((mem 169 18) + 0)))
    (k3 : ¬ (mem 169 19) ≤ (mem 169 18) → (mem 182 (mem 169 18)) = a1 → P (some (vi 1)) (up2 mem 169 18 ((mem 169 18) + 1))) :
    GM E (m_X12_isNext 1) P 0 [.ref 169, vi a1, un] [] mem := by
  refine G_aload_n dX12_isNext_0 rfl ?_
  refine G_getI (z := (mem 169 18)) dX12_isNext_1 fl_12_151 (by decide) sh_169 rfl ?_
  refine G_aload_n dX12_isNext_4 rfl ?_
  refine G_getI (z := (mem 169 19)) dX12_isNext_5 fl_12_163 (by decide) sh_169 rfl ?_
  refine G_icmp_ge (tgt := 28) dX12_isNext_8 (by decide) (w1) (w2) (fun c1 => ?_) (fun c1 => ?_)
  · -- (mem 169 19) ≤ (mem 169 18)
    refine G_iconst (z := 0) dX12_isNext_28 rfl ?_
    refine G_istore_n dX12_isNext_29 rfl (by decide : 2 < 3) rfl ?_
    refine G_aload_n dX12_isNext_30 rfl ?_
    refine G_dup dX12_isNext_31 rfl ?_
    refine G_getI (z := (mem 169 18)) dX12_isNext_32 fl_12_151 (by decide) sh_169 rfl ?_
    refine G_iload_n dX12_isNext_35 rfl ?_
    refine cb_X12_isNext_36 (ic_X12_flagL (by decide) ?_)
    refine G_iadd dX12_isNext_39 ?_
    refine G_putI (mem2 := (up2 mem 169 18 ((mem 169 18) + 0))) dX12_isNext_40 fp_12_151 (by decide) sh_169 rfl ?_
    refine G_iload_n dX12_isNext_43 rfl ?_
    exact G_zret dX12_isNext_44 rfl (nar_zb (by decide)) (Nat.zero_le _) (Nat.zero_le _) (Nat.le_refl _) ⟨rfl, k1 c1⟩
  · -- ¬ (mem 169 19) ≤ (mem 169 18)
    refine G_aload_n dX12_isNext_11 rfl ?_
    refine G_getR (t := 182) dX12_isNext_12 fl_12_48 (by decide) sh_169 rr_169_16 ?_
    refine G_aload_n dX12_isNext_15 rfl ?_
    refine G_getI (z := (mem 169 18)) dX12_isNext_16 fl_12_151 (by decide) sh_169 rfl ?_
    refine G_iald (z := (mem 182 (mem 169 18))) dX12_isNext_19 (by decide) sh_182 (by decide) (q3 c1).1 (q3 c1).2 rfl ?_
    refine G_iload_n dX12_isNext_20 rfl ?_
    refine G_icmp_ne (tgt := 28) dX12_isNext_21 (by decide) (w4 c1) (w5) (fun c2 => ?_) (fun c2 => ?_)
    · -- (mem 182 (mem 169 18)) ≠ a1
      refine G_iconst (z := 0) dX12_isNext_28 rfl ?_
      refine G_istore_n dX12_isNext_29 rfl (by decide : 2 < 3) rfl ?_
      refine G_aload_n dX12_isNext_30 rfl ?_
      refine G_dup dX12_isNext_31 rfl ?_
      refine G_getI (z := (mem 169 18)) dX12_isNext_32 fl_12_151 (by decide) sh_169 rfl ?_
      refine G_iload_n dX12_isNext_35 rfl ?_
      refine cb_X12_isNext_36 (ic_X12_flagL (by decide) ?_)
      refine G_iadd dX12_isNext_39 ?_
      refine G_putI (mem2 := (up2 mem 169 18 ((mem 169 18) + 0))) dX12_isNext_40 fp_12_151 (by decide) sh_169 rfl ?_
      refine G_iload_n dX12_isNext_43 rfl ?_
      exact G_zret dX12_isNext_44 rfl (nar_zb (by decide)) (Nat.zero_le _) (Nat.zero_le _) (Nat.le_refl _) ⟨rfl, k2 c1 c2⟩
    · -- (mem 182 (mem 169 18)) = a1
      refine G_iconst (z := 1) dX12_isNext_24 rfl ?_
      refine G_goto (tgt := 29) dX12_isNext_25 (by decide) ?_
      refine G_istore_n dX12_isNext_29 rfl (by decide : 2 < 3) rfl ?_
      refine G_aload_n dX12_isNext_30 rfl ?_
      refine G_dup dX12_isNext_31 rfl ?_
      refine G_getI (z := (mem 169 18)) dX12_isNext_32 fl_12_151 (by decide) sh_169 rfl ?_
      refine G_iload_n dX12_isNext_35 rfl ?_
      refine cb_X12_isNext_36 (ic_X12_flagL (by decide) ?_)
      refine G_iadd dX12_isNext_39 ?_
      refine G_putI (mem2 := (up2 mem 169 18 ((mem 169 18) + 1))) dX12_isNext_40 fp_12_151 (by decide) sh_169 rfl ?_
      refine G_iload_n dX12_isNext_43 rfl ?_
      exact G_zret dX12_isNext_44 rfl (nar_zb (by decide)) (Nat.zero_le _) (Nat.zero_le _) (Nat.le_refl _) ⟨rfl, k3 c1 c2⟩
set_option maxRecDepth 20000 in
set_option maxHeartbeats 8000000 in
theorem sg_X12_isStreet_0 {E : Nat × (Nat → Int32)} {P : Option Value → Mem → Prop} {mem : Mem} {a1 : Int} (w1 : -2147483648 ≤ a1 ∧ a1 < 2147483648) (w2 : -2147483648 ≤ ((mem 169 3) - 1) ∧ ((mem 169 3) - 1) < 2147483648) (w3 : -9223372036854775808 ≤ a1 ∧ a1 < 9223372036854775808) (w4 : -9223372036854775808 ≤ ((mem 169 3) - 1) ∧ ((mem 169 3) - 1) < 9223372036854775808)
    (k1 : 0 ≤ a1 ∧ a1 ≤ ((mem 169 3) - 1) → P (some (vi 1)) mem)
    (k2 : ¬ (0 ≤ a1 ∧ a1 ≤ ((mem 169 3) - 1)) → P (some (vi 0)) mem) :
    GM E (m_X12_isStreet 1) P 0 [.ref 169, vi a1] [] mem := by
  refine G_iload_n dX12_isStreet_0 rfl ?_
  refine G_i2l dX12_isStreet_1 (w1) ?_
  refine G_lconst (z := 0) dX12_isStreet_2 rfl ?_
  refine G_aload_n dX12_isStreet_3 rfl ?_
  refine G_getI (z := (mem 169 3)) dX12_isStreet_4 fl_12_137 (by decide) sh_169 rfl ?_
  refine G_iconst (z := 1) dX12_isStreet_7 rfl ?_
  refine G_isub dX12_isStreet_8 ?_
  refine G_i2l dX12_isStreet_9 (w2) ?_
  refine cb_X12_isStreet_10 (ic_X12_in (w3) (by decide) (w4) (fun c1 => ?_) (fun c2 => ?_))
  · -- 0 ≤ a1 ∧ a1 ≤ ((mem 169 3) - 1)
    exact G_zret dX12_isStreet_13 rfl (nar_zb (by decide)) (Nat.zero_le _) (Nat.zero_le _) (Nat.le_refl _) ⟨rfl, k1 c1⟩
  · -- ¬ (0 ≤ a1 ∧ a1 ≤ ((mem 169 3) - 1))
    exact G_zret dX12_isStreet_13 rfl (nar_zb (by decide)) (Nat.zero_le _) (Nat.zero_le _) (Nat.le_refl _) ⟨rfl, k2 c2⟩
set_option maxRecDepth 20000 in
set_option maxHeartbeats 8000000 in
theorem sg_X6_heavy_0 {E : Nat × (Nat → Int32)} {P : Option Value → Mem → Prop} {mem : Mem} {a1 : Int} {a2 : Int}
    (k1 : P (some (vi (divI ((a1 * (mem 4 3)) * (10 + a2)) 10))) mem) :
    GM E (m_X6_heavy 1) P 0 [.ref 3, vi a1, vi a2] [] mem := by
  refine G_iload_n dX6_heavy_0 rfl ?_
  refine G_aload_n dX6_heavy_1 rfl ?_
  refine G_iconst (z := 3) dX6_heavy_2 rfl ?_
  refine cb_X6_heavy_3 (ic_X6_get (z := (mem 4 3)) (by decide) rfl ?_)
  refine G_imul dX6_heavy_6 ?_
  refine G_bipush (z := 10) dX6_heavy_7 rfl ?_
  refine G_iload_n dX6_heavy_9 rfl ?_
  refine G_iadd dX6_heavy_10 ?_
  refine G_imul dX6_heavy_11 ?_
  refine G_bipush (z := 10) dX6_heavy_12 rfl ?_
  refine G_idiv (z := (divI ((a1 * (mem 4 3)) * (10 + a2)) 10)) dX6_heavy_14 (iI_ne0 (by decide) (by decide)) (iI_inv _) ?_
  exact G_iret dX6_heavy_15 rfl (Nat.zero_le _) (Nat.zero_le _) (Nat.le_refl _) ⟨rfl, k1⟩
set_option maxRecDepth 20000 in
set_option maxHeartbeats 8000000 in
theorem sg_X8_openFrom_0 {E : Nat × (Nat → Int32)} {P : Option Value → Mem → Prop} {mem : Mem} {o : Nat} {a1 : Int} (ho : o ∈ streetL) (w1 : -2147483648 ≤ (mem o 7) ∧ (mem o 7) < 2147483648) (w2 : -2147483648 ≤ (mem o 8) ∧ (mem o 8) < 2147483648)
    (k1 : 0 ≤ (mem o 7) ∧ (mem o 7) ≤ (divI a1 60) ∧ (divI a1 60) ≤ (mem o 8) → P (some (vi (((mem o 8) + 1) * 60))) mem)
    (k2 : ¬ (0 ≤ (mem o 7) ∧ (mem o 7) ≤ (divI a1 60) ∧ (divI a1 60) ≤ (mem o 8)) → P (some (vi a1)) mem) :
    GM E (m_X8_openFrom 1) P 0 [.ref o, vi a1] [] mem := by
  refine G_aload_n dX8_openFrom_0 rfl ?_
  refine G_iload_n dX8_openFrom_1 rfl ?_
  refine cb_X8_openFrom_2 ho (ic_X8_isBarred (f := (mem o 7)) (t := (mem o 8)) ho rfl rfl (w1) (w2) (fun c1 => ?_) (fun c2 => ?_))
  · -- 0 ≤ (mem o 7) ∧ (mem o 7) ≤ (divI a1 60) ∧ (divI a1 60) ≤ (mem o 8)
    refine G_if_eq (tgt := 20) dX8_openFrom_5 (by decide) (by decide) (fun h => absurd h (by decide)) (fun _ => ?_)
    refine G_aload_n dX8_openFrom_8 rfl ?_
    refine G_getI (z := (mem o 8)) dX8_openFrom_9 fl_8_19 (ltStreet0 ho) (shStreet0 ho) rfl ?_
    refine G_iconst (z := 1) dX8_openFrom_12 rfl ?_
    refine G_iadd dX8_openFrom_13 ?_
    refine G_bipush (z := 60) dX8_openFrom_14 rfl ?_
    refine G_imul dX8_openFrom_16 ?_
    refine G_goto (tgt := 21) dX8_openFrom_17 (by decide) ?_
    exact G_iret dX8_openFrom_21 rfl (Nat.zero_le _) (Nat.zero_le _) (Nat.le_refl _) ⟨rfl, k1 c1⟩
  · -- ¬ (0 ≤ (mem o 7) ∧ (mem o 7) ≤ (divI a1 60) ∧ (divI a1 60) ≤ (mem o 8))
    refine G_if_eq (tgt := 20) dX8_openFrom_5 (by decide) (by decide) (fun _ => ?_) (fun h => absurd h (by decide))
    refine G_iload_n dX8_openFrom_20 rfl ?_
    exact G_iret dX8_openFrom_21 rfl (Nat.zero_le _) (Nat.zero_le _) (Nat.le_refl _) ⟨rfl, k2 c2⟩
set_option maxRecDepth 20000 in
set_option maxHeartbeats 8000000 in
theorem sg_X9_accept_0 {E : Nat × (Nat → Int32)} {P : Option Value → Mem → Prop} {mem : Mem} {a1 : Int} (t1 : TextOK mem) (w2 : -2147483648 ≤ (lookM mem) ∧ (lookM mem) < 2147483648) (w3 : -2147483648 ≤ a1 ∧ a1 < 2147483648)
    (k1 : (lookM mem) = a1 → P (some (vi 1)) (up2 mem 1 2 ((mem 1 2) + 1)))
    (k2 : ¬ (lookM mem) = a1 → P (some (vi 0)) mem) :
    GM E (m_X9_accept 1) P 0 [.ref 1, vi a1] [] mem := by
  refine G_aload_n dX9_accept_0 rfl ?_
  refine cb_X9_accept_1 (ic_X9_look (t1) ?_)
  refine G_iload_n dX9_accept_4 rfl ?_
  refine G_icmp_eq (tgt := 10) dX9_accept_5 (by decide) (w2) (w3) (fun c1 => ?_) (fun c1 => ?_)
  · -- (lookM mem) = a1
    refine G_aload_n dX9_accept_10 rfl ?_
    refine cb_X9_accept_11 (ic_X9_pass (z := (mem 1 2)) rfl ?_)
    refine G_iconst (z := 1) dX9_accept_14 rfl ?_
    exact G_zret dX9_accept_15 rfl (nar_zb (by decide)) (Nat.zero_le _) (Nat.zero_le _) (Nat.le_refl _) ⟨rfl, k1 c1⟩
  · -- ¬ (lookM mem) = a1
    refine G_iconst (z := 0) dX9_accept_8 rfl ?_
    exact G_zret dX9_accept_9 rfl (nar_zb (by decide)) (Nat.zero_le _) (Nat.zero_le _) (Nat.le_refl _) ⟨rfl, k2 c1⟩
set_option maxRecDepth 20000 in
set_option maxHeartbeats 8000000 in
theorem sg_X9_digitBelow_0 {E : Nat × (Nat → Int32)} {P : Option Value → Mem → Prop} {mem : Mem} {a1 : Int} (t1 : TextOK mem) (w2 : -2147483648 ≤ ((lookM mem) - 48) ∧ ((lookM mem) - 48) < 2147483648) (w3 : -2147483648 ≤ a1 ∧ a1 < 2147483648)
    (k1 : ((lookM mem) - 48) < 0 → P (some (vi (-1))) mem)
    (k2 : ¬ ((lookM mem) - 48) < 0 → ((lookM mem) - 48) < a1 → P (some (vi ((lookM mem) - 48))) (up2 mem 1 2 ((mem 1 2) + 1)))
    (k3 : ¬ ((lookM mem) - 48) < 0 → ¬ ((lookM mem) - 48) < a1 → P (some (vi (-1))) mem) :
    GM E (m_X9_digitBelow 1) P 0 [.ref 1, vi a1, un] [] mem := by
  refine G_aload_n dX9_digitBelow_0 rfl ?_
  refine cb_X9_digitBelow_1 (ic_X9_look (t1) ?_)
  refine G_bipush (z := 48) dX9_digitBelow_4 rfl ?_
  refine G_isub dX9_digitBelow_6 ?_
  refine G_istore_n dX9_digitBelow_7 rfl (by decide : 2 < 3) rfl ?_
  refine G_iload_n dX9_digitBelow_8 rfl ?_
  refine G_if_lt (tgt := 17) dX9_digitBelow_9 (by decide) (w2) (fun c1 => ?_) (fun c1 => ?_)
  · -- ((lookM mem) - 48) < 0
    refine G_iconst (z := (-1)) dX9_digitBelow_17 rfl ?_
    exact G_iret dX9_digitBelow_18 rfl (Nat.zero_le _) (Nat.zero_le _) (Nat.le_refl _) ⟨rfl, k1 c1⟩
  · -- ¬ ((lookM mem) - 48) < 0
    refine G_iload_n dX9_digitBelow_12 rfl ?_
    refine G_iload_n dX9_digitBelow_13 rfl ?_
    refine G_icmp_lt (tgt := 19) dX9_digitBelow_14 (by decide) (w2) (w3) (fun c2 => ?_) (fun c2 => ?_)
    · -- ((lookM mem) - 48) < a1
      refine G_aload_n dX9_digitBelow_19 rfl ?_
      refine cb_X9_digitBelow_20 (ic_X9_pass (z := (mem 1 2)) rfl ?_)
      refine G_iload_n dX9_digitBelow_23 rfl ?_
      exact G_iret dX9_digitBelow_24 rfl (Nat.zero_le _) (Nat.zero_le _) (Nat.le_refl _) ⟨rfl, k2 c1 c2⟩
    · -- ¬ ((lookM mem) - 48) < a1
      refine G_iconst (z := (-1)) dX9_digitBelow_17 rfl ?_
      exact G_iret dX9_digitBelow_18 rfl (Nat.zero_le _) (Nat.zero_le _) (Nat.le_refl _) ⟨rfl, k3 c1 c2⟩
