set_option maxRecDepth 20000 in
set_option maxHeartbeats 8000000 in
theorem sg_X0_clear_0 {E : Nat × (Nat → Int32)} {P : Option Value → Mem → Prop} {mem : Mem}
    (k1 : GM E (m_X0_clear 1) P 5 [.ref 147] [vi 0, .ref 148] mem) :
    GM E (m_X0_clear 1) P 0 [.ref 147] [] mem := by
  refine G_aload_n dX0_clear_0 rfl ?_
  refine G_getR (t := 148) dX0_clear_1 fl_0_9 (by decide) sh_147 rr_147_1 ?_
  refine G_iconst (z := 0) dX0_clear_4 rfl ?_
  exact k1
set_option maxRecDepth 20000 in
set_option maxHeartbeats 8000000 in
theorem sg_X0_clear_8 {E : Nat × (Nat → Int32)} {P : Option Value → Mem → Prop} {mem : Mem}
    (k1 : GM E (m_X0_clear 1) P 13 [.ref 147] [vi 0, .ref 149] mem) :
    GM E (m_X0_clear 1) P 8 [.ref 147] [] mem := by
  refine G_aload_n dX0_clear_8 rfl ?_
  refine G_getR (t := 149) dX0_clear_9 fl_0_15 (by decide) sh_147 rr_147_2 ?_
  refine G_iconst (z := 0) dX0_clear_12 rfl ?_
  exact k1
set_option maxRecDepth 20000 in
set_option maxHeartbeats 8000000 in
theorem sg_X0_clear_16 {E : Nat × (Nat → Int32)} {P : Option Value → Mem → Prop} {mem : Mem}
    (k1 : P none mem) :
    GM E (m_X0_clear 1) P 16 [.ref 147] [] mem := by
  exact G_vret dX0_clear_16 rfl (Nat.zero_le _) (Nat.zero_le _) (Nat.le_refl _) ⟨rfl, k1⟩
set_option maxRecDepth 20000 in
set_option maxHeartbeats 8000000 in
theorem sg_X0_put_0 {E : Nat × (Nat → Int32)} {P : Option Value → Mem → Prop} {mem : Mem} {o1 : Nat} {a2 : Int} (ho1 : o1 ∈ streetL) (w1 : -2147483648 ≤ (mem o1 0) ∧ (mem o1 0) < 2147483648) (w2 : ¬ 6 ≤ (mem o1 0) → -2147483648 ≤ (mem o1 6) ∧ (mem o1 6) < 2147483648) (q3 : ¬ 6 ≤ (mem o1 0) → ¬ (mem o1 6) < 0 → ¬ 7 ≤ (mem o1 6) → 0 ≤ (mem o1 0) ∧ (mem o1 0) < 6) (q4 : ¬ 6 ≤ (mem o1 0) → ¬ (mem o1 6) < 0 → ¬ 7 ≤ (mem o1 6) → 0 ≤ ((up2 mem 148 (mem o1 0) a2) o1 6) ∧ ((up2 mem 148 (mem o1 0) a2) o1 6) < 7)
    (k1 : 6 ≤ (mem o1 0) → P none mem)
    (k2 : ¬ 6 ≤ (mem o1 0) → (mem o1 6) < 0 → P none mem)
    (k3 : ¬ 6 ≤ (mem o1 0) → ¬ (mem o1 6) < 0 → 7 ≤ (mem o1 6) → P none mem)
    (k4 : ¬ 6 ≤ (mem o1 0) → ¬ (mem o1 6) < 0 → ¬ 7 ≤ (mem o1 6) → P none (up2 (up2 mem 148 (mem o1 0) a2) 149 ((up2 mem 148 (mem o1 0) a2) o1 6) ((mem 149 ((up2 mem 148 (mem o1 0) a2) o1 6)) + a2))) :
    GM E (m_X0_put 0) P 0 [.ref 147, .ref o1, vi a2] [] mem := by
  refine G_aload_n dX0_put_0 rfl ?_
  refine G_getI (z := (mem o1 0)) dX0_put_1 fl_0_37 (ltStreet0 ho1) (shStreet0 ho1) rfl ?_
  refine G_aload_n dX0_put_4 rfl ?_
  refine G_getR (t := 148) dX0_put_5 fl_0_9 (by decide) sh_147 rr_147_1 ?_
  refine G_alen (z := 6) dX0_put_8 (by decide) sh_148 (by decide) rfl ?_
  refine G_icmp_ge (tgt := 54) dX0_put_9 (by decide) (w1) (by decide) (fun c1 => ?_) (fun c1 => ?_)
  · -- 6 ≤ (mem o1 0)
    exact G_vret dX0_put_54 rfl (Nat.zero_le _) (Nat.zero_le _) (Nat.le_refl _) ⟨rfl, k1 c1⟩
  · -- ¬ 6 ≤ (mem o1 0)
    refine G_aload_n dX0_put_12 rfl ?_
    refine G_getI (z := (mem o1 6)) dX0_put_13 fl_0_43 (ltStreet0 ho1) (shStreet0 ho1) rfl ?_
    refine G_if_lt (tgt := 54) dX0_put_16 (by decide) (w2 c1) (fun c2 => ?_) (fun c2 => ?_)
    · -- (mem o1 6) < 0
      exact G_vret dX0_put_54 rfl (Nat.zero_le _) (Nat.zero_le _) (Nat.le_refl _) ⟨rfl, k2 c1 c2⟩
    · -- ¬ (mem o1 6) < 0
      refine G_aload_n dX0_put_19 rfl ?_
      refine G_getI (z := (mem o1 6)) dX0_put_20 fl_0_43 (ltStreet0 ho1) (shStreet0 ho1) rfl ?_
      refine G_aload_n dX0_put_23 rfl ?_
      refine G_getR (t := 149) dX0_put_24 fl_0_15 (by decide) sh_147 rr_147_2 ?_
      refine G_alen (z := 7) dX0_put_27 (by decide) sh_149 (by decide) rfl ?_
      refine G_icmp_ge (tgt := 54) dX0_put_28 (by decide) (w2 c1) (by decide) (fun c3 => ?_) (fun c3 => ?_)
      · -- 7 ≤ (mem o1 6)
        exact G_vret dX0_put_54 rfl (Nat.zero_le _) (Nat.zero_le _) (Nat.le_refl _) ⟨rfl, k3 c1 c2 c3⟩
      · -- ¬ 7 ≤ (mem o1 6)
        refine G_aload_n dX0_put_31 rfl ?_
        refine G_getR (t := 148) dX0_put_32 fl_0_9 (by decide) sh_147 rr_147_1 ?_
        refine G_aload_n dX0_put_35 rfl ?_
        refine G_getI (z := (mem o1 0)) dX0_put_36 fl_0_37 (ltStreet0 ho1) (shStreet0 ho1) rfl ?_
        refine G_iload_n dX0_put_39 rfl ?_
        refine G_iast (mem2 := (up2 mem 148 (mem o1 0) a2)) dX0_put_40 (by decide) sh_148 (by decide) (q3 c1 c2 c3).1 (q3 c1 c2 c3).2 rfl ?_
        refine G_aload_n dX0_put_41 rfl ?_
        refine G_getR (t := 149) dX0_put_42 fl_0_15 (by decide) sh_147 rr_147_2 ?_
        refine G_aload_n dX0_put_45 rfl ?_
        refine G_getI (z := ((up2 mem 148 (mem o1 0) a2) o1 6)) dX0_put_46 fl_0_43 (ltStreet0 ho1) (shStreet0 ho1) (by simp [up2, upr]) ?_
        refine G_dup2 dX0_put_49 rfl rfl ?_
        refine G_iald (z := (mem 149 ((up2 mem 148 (mem o1 0) a2) o1 6))) dX0_put_50 (by decide) sh_149 (by decide) (q4 c1 c2 c3).1 (q4 c1 c2 c3).2 (by simp [up2, upr]) ?_
        refine G_iload_n dX0_put_51 rfl ?_
        refine G_iadd dX0_put_52 ?_
        refine G_iast (mem2 := (up2 (up2 mem 148 (mem o1 0) a2) 149 ((up2 mem 148 (mem o1 0) a2) o1 6) ((mem 149 ((up2 mem 148 (mem o1 0) a2) o1 6)) + a2))) dX0_put_53 (by decide) sh_149 (by decide) (q4 c1 c2 c3).1 (q4 c1 c2 c3).2 rfl ?_
        exact G_vret dX0_put_54 rfl (Nat.zero_le _) (Nat.zero_le _) (Nat.le_refl _) ⟨rfl, k4 c1 c2 c3⟩
set_option maxRecDepth 20000 in
set_option maxHeartbeats 8000000 in
theorem sg_X0_secondsOf_0 {E : Nat × (Nat → Int32)} {P : Option Value → Mem → Prop} {mem : Mem} {a1 : Int}
    (k1 : GM E (m_X0_secondsOf 0) P 4 [.ref 147, vi a1, vi 0, vi 0] [] mem) :
    GM E (m_X0_secondsOf 0) P 0 [.ref 147, vi a1, un, un] [] mem := by
  refine G_iconst (z := 0) dX0_secondsOf_0 rfl ?_
  refine G_istore_n dX0_secondsOf_1 rfl (by decide : 2 < 4) rfl ?_
  refine G_iconst (z := 0) dX0_secondsOf_2 rfl ?_
  refine G_istore_n dX0_secondsOf_3 rfl (by decide : 3 < 4) rfl ?_
  exact k1
set_option maxRecDepth 20000 in
set_option maxHeartbeats 8000000 in
theorem sg_X0_secondsOf_4 {E : Nat × (Nat → Int32)} {P : Option Value → Mem → Prop} {mem : Mem} {a1 : Int} {a2 : Int} {a3 : Int} (w1 : -2147483648 ≤ a3 ∧ a3 < 2147483648) (q2 : ¬ 6 ≤ a3 → ¬ (bandI (shrI a1 a3) 1) = 0 → 0 ≤ a3 ∧ a3 < 6)
    (k1 : 6 ≤ a3 → P (some (vi a2)) mem)
    (k2 : ¬ 6 ≤ a3 → GM E (m_X0_secondsOf 0) P 4 [.ref 147, vi a1, vi (if (bandI (shrI a1 a3) 1) = 0 then a2 else (a2 + (mem 148 a3))), vi (a3 + 1)] [] mem) :
    GM E (m_X0_secondsOf 0) P 4 [.ref 147, vi a1, vi a2, vi a3] [] mem := by
  refine G_iload_n dX0_secondsOf_4 rfl ?_
  refine G_aload_n dX0_secondsOf_5 rfl ?_
  refine G_getR (t := 148) dX0_secondsOf_6 fl_0_9 (by decide) sh_147 rr_147_1 ?_
  refine G_alen (z := 6) dX0_secondsOf_9 (by decide) sh_148 (by decide) rfl ?_
  refine G_icmp_ge (tgt := 36) dX0_secondsOf_10 (by decide) (w1) (by decide) (fun c1 => ?_) (fun c1 => ?_)
  · -- 6 ≤ a3
    refine G_iload_n dX0_secondsOf_36 rfl ?_
    exact G_iret dX0_secondsOf_37 rfl (Nat.zero_le _) (Nat.zero_le _) (Nat.le_refl _) ⟨rfl, k1 c1⟩
  · -- ¬ 6 ≤ a3
    refine G_iload_n dX0_secondsOf_13 rfl ?_
    refine G_iload_n dX0_secondsOf_14 rfl ?_
    refine G_ishr (z := (shrI a1 a3)) dX0_secondsOf_15 (iI_inv _) ?_
    refine G_iconst (z := 1) dX0_secondsOf_16 rfl ?_
    refine G_iand (z := (bandI (shrI a1 a3) 1)) dX0_secondsOf_17 (iI_inv _) ?_
    have j1 : GM E (m_X0_secondsOf 0) P 30 [.ref 147, vi a1, vi (if (bandI (shrI a1 a3) 1) = 0 then a2 else (a2 + (mem 148 a3))), vi a3] [] mem := by
      refine G_iinc (z := (a3 + 1)) dX0_secondsOf_30 rfl rfl (by decide : 3 < 4) rfl ?_
      refine G_goto (tgt := 4) dX0_secondsOf_33 (by decide) ?_
      exact k2 c1
    refine G_if_eq (tgt := 30) dX0_secondsOf_18 (by decide) (iI_rng _) (fun c2 => ?_) (fun c2 => ?_)
    · -- (bandI (shrI a1 a3) 1) = 0
      have qj1 := j1
      simp only [if_pos c2] at qj1
      exact qj1
    · -- ¬ (bandI (shrI a1 a3) 1) = 0
      refine G_iload_n dX0_secondsOf_21 rfl ?_
      refine G_aload_n dX0_secondsOf_22 rfl ?_
      refine G_getR (t := 148) dX0_secondsOf_23 fl_0_9 (by decide) sh_147 rr_147_1 ?_
      refine G_iload_n dX0_secondsOf_26 rfl ?_
      refine G_iald (z := (mem 148 a3)) dX0_secondsOf_27 (by decide) sh_148 (by decide) (q2 c1 c2).1 (q2 c1 c2).2 rfl ?_
      refine G_iadd dX0_secondsOf_28 ?_
      refine G_istore_n dX0_secondsOf_29 rfl (by decide : 2 < 4) rfl ?_
      have qj1 := j1
      simp only [if_neg c2] at qj1
      exact qj1
set_option maxRecDepth 20000 in
set_option maxHeartbeats 8000000 in
theorem sg_X0_spread_0 {E : Nat × (Nat → Int32)} {P : Option Value → Mem → Prop} {mem : Mem} {a1 : Int} {a2 : Int} {a3 : Int}
    (k1 : GM E (m_X0_spread 201) P 24 [.ref 147, vi a1, vi a2, vi a3] [vi 0, vi 0, .ref 147] (up2 (up2 (up2 (up2 mem 147 8 a1) 147 9 a2) 147 10 a3) 147 7 1000000)) :
    GM E (m_X0_spread 201) P 0 [.ref 147, vi a1, vi a2, vi a3] [] mem := by
  refine G_aload_n dX0_spread_0 rfl ?_
  refine G_iload_n dX0_spread_1 rfl ?_
  refine G_putI (mem2 := (up2 mem 147 8 a1)) dX0_spread_2 fp_0_58 (by decide) sh_147 rfl ?_
  refine G_aload_n dX0_spread_5 rfl ?_
  refine G_iload_n dX0_spread_6 rfl ?_
  refine G_putI (mem2 := (up2 (up2 mem 147 8 a1) 147 9 a2)) dX0_spread_7 fp_0_61 (by decide) sh_147 rfl ?_
  refine G_aload_n dX0_spread_10 rfl ?_
  refine G_iload_n dX0_spread_11 rfl ?_
  refine G_putI (mem2 := (up2 (up2 (up2 mem 147 8 a1) 147 9 a2) 147 10 a3)) dX0_spread_12 fp_0_64 (by decide) sh_147 rfl ?_
  refine G_aload_n dX0_spread_15 rfl ?_
  refine G_ldc (z := 1000000) dX0_spread_16 kc_0_67 ?_
  refine G_putI (mem2 := (up2 (up2 (up2 (up2 mem 147 8 a1) 147 9 a2) 147 10 a3) 147 7 1000000)) dX0_spread_18 fp_0_68 (by decide) sh_147 rfl ?_
  refine G_aload_n dX0_spread_21 rfl ?_
  refine G_iconst (z := 0) dX0_spread_22 rfl ?_
  refine G_iconst (z := 0) dX0_spread_23 rfl ?_
  exact k1
set_option maxRecDepth 20000 in
set_option maxHeartbeats 8000000 in
theorem sg_X0_spread_27 {E : Nat × (Nat → Int32)} {P : Option Value → Mem → Prop} {mem : Mem} {a1 : Int} {a2 : Int} {a3 : Int} (w1 : -2147483648 ≤ (mem 147 7) ∧ (mem 147 7) < 2147483648)
    (k1 : 1000000 ≤ (mem 147 7) → P (some (vi 0)) mem)
    (k2 : ¬ 1000000 ≤ (mem 147 7) → P (some (vi 1)) mem) :
    GM E (m_X0_spread 201) P 27 [.ref 147, vi a1, vi a2, vi a3] [] mem := by
  refine G_aload_n dX0_spread_27 rfl ?_
  refine G_getI (z := (mem 147 7)) dX0_spread_28 fl_0_68 (by decide) sh_147 rfl ?_
  refine G_ldc (z := 1000000) dX0_spread_31 kc_0_67 ?_
  refine G_icmp_ge (tgt := 40) dX0_spread_33 (by decide) (w1) (by decide) (fun c1 => ?_) (fun c1 => ?_)
  · -- 1000000 ≤ (mem 147 7)
    refine G_iconst (z := 0) dX0_spread_40 rfl ?_
    exact G_zret dX0_spread_41 rfl (nar_zb (by decide)) (Nat.zero_le _) (Nat.zero_le _) (Nat.le_refl _) ⟨rfl, k1 c1⟩
  · -- ¬ 1000000 ≤ (mem 147 7)
    refine G_iconst (z := 1) dX0_spread_36 rfl ?_
    refine G_goto (tgt := 41) dX0_spread_37 (by decide) ?_
    exact G_zret dX0_spread_41 rfl (nar_zb (by decide)) (Nat.zero_le _) (Nat.zero_le _) (Nat.le_refl _) ⟨rfl, k2 c1⟩
set_option maxRecDepth 20000 in
set_option maxHeartbeats 8000000 in
theorem sg_X0_spreadFrom_0 {E : Nat × (Nat → Int32)} {d : Nat} (hd : 2 ≤ d) {P : Option Value → Mem → Prop} {mem : Mem} {a1 : Int} {a2 : Int} (w1 : -2147483648 ≤ (a2 + (((mem 147 4) - a1) * (mem 147 8))) ∧ (a2 + (((mem 147 4) - a1) * (mem 147 8))) < 2147483648) (w2 : -2147483648 ≤ (mem 147 7) ∧ (mem 147 7) < 2147483648) (w3 : -2147483648 ≤ a1 ∧ a1 < 2147483648) (w4 : (a2 + (((mem 147 4) - a1) * (mem 147 8))) < (mem 147 7) → -2147483648 ≤ (mem 147 4) ∧ (mem 147 4) < 2147483648) (q5 : (a2 + (((mem 147 4) - a1) * (mem 147 8))) < (mem 147 7) → ¬ (mem 147 4) ≤ a1 → a1 < 6 → 0 ≤ a1 ∧ a1 < 6)
    (k1 : (a2 + (((mem 147 4) - a1) * (mem 147 8))) < (mem 147 7) → (mem 147 4) ≤ a1 → P none (upr (up2 mem 147 7 a2) 152 (cpyR ((up2 mem 147 7 a2) 151) ((up2 mem 147 7 a2) 152) 6)))
    (k2 : (a2 + (((mem 147 4) - a1) * (mem 147 8))) < (mem 147 7) → ¬ (mem 147 4) ≤ a1 → a1 < 6 → GM E (m_X0_spreadFrom d) P 71 [.ref 147, vi a1, vi a2, un, un] [vi (shlI 1 (mem 150 a1)), .ref 147] mem)
    (k3 : (a2 + (((mem 147 4) - a1) * (mem 147 8))) < (mem 147 7) → ¬ (mem 147 4) ≤ a1 → ¬ a1 < 6 → P none (upr (up2 mem 147 7 a2) 152 (cpyR ((up2 mem 147 7 a2) 151) ((up2 mem 147 7 a2) 152) 6)))
    (k4 : ¬ (a2 + (((mem 147 4) - a1) * (mem 147 8))) < (mem 147 7) → P none mem) :
    GM E (m_X0_spreadFrom d) P 0 [.ref 147, vi a1, vi a2, un, un] [] mem := by
  refine G_iload_n dX0_spreadFrom_0 rfl ?_
  refine G_aload_n dX0_spreadFrom_1 rfl ?_
  refine G_getI (z := (mem 147 4)) dX0_spreadFrom_2 fl_0_46 (by decide) sh_147 rfl ?_
  refine G_iload_n dX0_spreadFrom_5 rfl ?_
  refine G_isub dX0_spreadFrom_6 ?_
  refine G_aload_n dX0_spreadFrom_7 rfl ?_
  refine G_getI (z := (mem 147 8)) dX0_spreadFrom_8 fl_0_58 (by decide) sh_147 rfl ?_
  refine G_imul dX0_spreadFrom_11 ?_
  refine G_iadd dX0_spreadFrom_12 ?_
  refine G_aload_n dX0_spreadFrom_13 rfl ?_
  refine G_getI (z := (mem 147 7)) dX0_spreadFrom_14 fl_0_68 (by decide) sh_147 rfl ?_
  refine G_icmp_lt (tgt := 21) dX0_spreadFrom_17 (by decide) (w1) (w2) (fun c1 => ?_) (fun c1 => ?_)
  · -- (a2 + (((mem 147 4) - a1) * (mem 147 8))) < (mem 147 7)
    refine G_iload_n dX0_spreadFrom_21 rfl ?_
    refine G_aload_n dX0_spreadFrom_22 rfl ?_
    refine G_getI (z := (mem 147 4)) dX0_spreadFrom_23 fl_0_46 (by decide) sh_147 rfl ?_
    refine G_icmp_ge (tgt := 38) dX0_spreadFrom_26 (by decide) (w3) (w4 c1) (fun c2 => ?_) (fun c2 => ?_)
    · -- (mem 147 4) ≤ a1
      refine G_aload_n dX0_spreadFrom_38 rfl ?_
      refine G_iload_n dX0_spreadFrom_39 rfl ?_
      refine G_putI (mem2 := (up2 mem 147 7 a2)) dX0_spreadFrom_40 fp_0_68 (by decide) sh_147 rfl ?_
      refine G_aload_n dX0_spreadFrom_43 rfl ?_
      refine G_getR (t := 151) dX0_spreadFrom_44 fl_0_21 (by decide) sh_147 rr_147_5 ?_
      refine G_iconst (z := 0) dX0_spreadFrom_47 rfl ?_
      refine G_aload_n dX0_spreadFrom_48 rfl ?_
      refine G_getR (t := 152) dX0_spreadFrom_49 fl_0_24 (by decide) sh_147 rr_147_6 ?_
      refine G_iconst (z := 0) dX0_spreadFrom_52 rfl ?_
      refine G_aload_n dX0_spreadFrom_53 rfl ?_
      refine G_getR (t := 151) dX0_spreadFrom_54 fl_0_21 (by decide) sh_147 rr_147_5 ?_
      refine G_alen (z := 6) dX0_spreadFrom_57 (by decide) sh_151 (by decide) rfl ?_
      refine G_copy (mem2 := (upr (up2 mem 147 7 a2) 152 (cpyR ((up2 mem 147 7 a2) 151) ((up2 mem 147 7 a2) 152) 6))) dX0_spreadFrom_58 ml_0_75 mw_copy (by decide) sh_151 (by decide) sh_152 (by decide) (by decide) (by decide) (by decide) (by decide) (by decide) ⟨by show 1 ≤ d; first | decide | omega, by show 80 ≤ 40 * d; first | decide | omega⟩ (Nat.le_of_ble_eq_true rfl) (cpy_00 _ _ _ _) ?_
      exact G_vret dX0_spreadFrom_61 rfl (Nat.zero_le _) (Nat.zero_le _) (Nat.le_refl _) ⟨rfl, k1 c1 c2⟩
    · -- ¬ (mem 147 4) ≤ a1
      refine G_iload_n dX0_spreadFrom_29 rfl ?_
      refine G_aload_n dX0_spreadFrom_30 rfl ?_
      refine G_getR (t := 150) dX0_spreadFrom_31 fl_0_18 (by decide) sh_147 rr_147_3 ?_
      refine G_alen (z := 6) dX0_spreadFrom_34 (by decide) sh_150 (by decide) rfl ?_
      refine G_icmp_lt (tgt := 62) dX0_spreadFrom_35 (by decide) (w3) (by decide) (fun c3 => ?_) (fun c3 => ?_)
      · -- a1 < 6
        refine G_aload_n dX0_spreadFrom_62 rfl ?_
        refine G_iconst (z := 1) dX0_spreadFrom_63 rfl ?_
        refine G_aload_n dX0_spreadFrom_64 rfl ?_
        refine G_getR (t := 150) dX0_spreadFrom_65 fl_0_18 (by decide) sh_147 rr_147_3 ?_
        refine G_iload_n dX0_spreadFrom_68 rfl ?_
        refine G_iald (z := (mem 150 a1)) dX0_spreadFrom_69 (by decide) sh_150 (by decide) (q5 c1 c2 c3).1 (q5 c1 c2 c3).2 rfl ?_
        refine G_ishl (z := (shlI 1 (mem 150 a1))) dX0_spreadFrom_70 (iI_inv _) ?_
        exact k2 c1 c2 c3
      · -- ¬ a1 < 6
        refine G_aload_n dX0_spreadFrom_38 rfl ?_
        refine G_iload_n dX0_spreadFrom_39 rfl ?_
        refine G_putI (mem2 := (up2 mem 147 7 a2)) dX0_spreadFrom_40 fp_0_68 (by decide) sh_147 rfl ?_
        refine G_aload_n dX0_spreadFrom_43 rfl ?_
        refine G_getR (t := 151) dX0_spreadFrom_44 fl_0_21 (by decide) sh_147 rr_147_5 ?_
        refine G_iconst (z := 0) dX0_spreadFrom_47 rfl ?_
        refine G_aload_n dX0_spreadFrom_48 rfl ?_
        refine G_getR (t := 152) dX0_spreadFrom_49 fl_0_24 (by decide) sh_147 rr_147_6 ?_
        refine G_iconst (z := 0) dX0_spreadFrom_52 rfl ?_
        refine G_aload_n dX0_spreadFrom_53 rfl ?_
        refine G_getR (t := 151) dX0_spreadFrom_54 fl_0_21 (by decide) sh_147 rr_147_5 ?_
        refine G_alen (z := 6) dX0_spreadFrom_57 (by decide) sh_151 (by decide) rfl ?_
        refine G_copy (mem2 := (upr (up2 mem 147 7 a2) 152 (cpyR ((up2 mem 147 7 a2) 151) ((up2 mem 147 7 a2) 152) 6))) dX0_spreadFrom_58 ml_0_75 mw_copy (by decide) sh_151 (by decide) sh_152 (by decide) (by decide) (by decide) (by decide) (by decide) (by decide) ⟨by show 1 ≤ d; first | decide | omega, by show 80 ≤ 40 * d; first | decide | omega⟩ (Nat.le_of_ble_eq_true rfl) (cpy_00 _ _ _ _) ?_
        exact G_vret dX0_spreadFrom_61 rfl (Nat.zero_le _) (Nat.zero_le _) (Nat.le_refl _) ⟨rfl, k3 c1 c2 c3⟩
  · -- ¬ (a2 + (((mem 147 4) - a1) * (mem 147 8))) < (mem 147 7)
    exact G_vret dX0_spreadFrom_20 rfl (Nat.zero_le _) (Nat.zero_le _) (Nat.le_refl _) ⟨rfl, k4 c1⟩
set_option maxRecDepth 20000 in
set_option maxHeartbeats 8000000 in
theorem sg_X0_spreadFrom_74 {E : Nat × (Nat → Int32)} {d : Nat} (hd : 1 ≤ d) {P : Option Value → Mem → Prop} {mem : Mem} {a1 : Int} {a2 : Int} {s0 : Int} (w1 : -2147483648 ≤ (mem 147 8) ∧ (mem 147 8) < 2147483648)
    (k1 : GM E (m_X0_spreadFrom d) P 85 [.ref 147, vi a1, vi a2, vi s0, vi (max 0 (mem 147 8))] [] mem) :
    GM E (m_X0_spreadFrom d) P 74 [.ref 147, vi a1, vi a2, un, un] [vi s0] mem := by
  refine G_istore_n dX0_spreadFrom_74 rfl (by decide : 3 < 5) rfl ?_
  refine G_iconst (z := 0) dX0_spreadFrom_75 rfl ?_
  refine G_aload_n dX0_spreadFrom_76 rfl ?_
  refine G_getI (z := (mem 147 8)) dX0_spreadFrom_77 fl_0_58 (by decide) sh_147 rfl ?_
  refine G_max (z := (max 0 (mem 147 8))) dX0_spreadFrom_80 ml_0_85 mw_max (by decide) (w1) ⟨by show 1 ≤ d; first | decide | omega, by show 21 ≤ 40 * d; first | decide | omega, Nat.zero_le _, Nat.zero_le _⟩ (Nat.le_of_ble_eq_true rfl) rfl ?_
  refine G_istore dX0_spreadFrom_83 (by decide : 4 < 5) rfl ?_
  exact k1
set_option maxRecDepth 20000 in
set_option maxHeartbeats 8000000 in
theorem sg_X0_spreadFrom_85 {E : Nat × (Nat → Int32)} {d : Nat} {P : Option Value → Mem → Prop} {mem : Mem} {a1 : Int} {a2 : Int} {a3 : Int} {a4 : Int} (w1 : -2147483648 ≤ a4 ∧ a4 < 2147483648) (w2 : -2147483648 ≤ (mem 147 9) ∧ (mem 147 9) < 2147483648) (q3 : ¬ (mem 147 9) < a4 → ¬ 7 ≤ a4 → 0 ≤ a4 ∧ a4 < 7) (w4 : ¬ (mem 147 9) < a4 → ¬ 7 ≤ a4 → -2147483648 ≤ ((mem 149 a4) + a3) ∧ ((mem 149 a4) + a3) < 2147483648) (w5 : ¬ (mem 147 9) < a4 → ¬ 7 ≤ a4 → -2147483648 ≤ (mem 147 10) ∧ (mem 147 10) < 2147483648) (q6 : ¬ (mem 147 9) < a4 → ¬ 7 ≤ a4 → ¬ (mem 147 10) < ((mem 149 a4) + a3) → 0 ≤ a1 ∧ a1 < 6)
    (k1 : (mem 147 9) < a4 → P none mem)
    (k2 : ¬ (mem 147 9) < a4 → 7 ≤ a4 → P none mem)
    (k3 : ¬ (mem 147 9) < a4 → ¬ 7 ≤ a4 → (mem 147 10) < ((mem 149 a4) + a3) → GM E (m_X0_spreadFrom d) P 85 [.ref 147, vi a1, vi a2, vi a3, vi (a4 + 1)] [] mem)
    (k4 : ¬ (mem 147 9) < a4 → ¬ 7 ≤ a4 → ¬ (mem 147 10) < ((mem 149 a4) + a3) → GM E (m_X0_spreadFrom d) P 147 [.ref 147, vi a1, vi a2, vi a3, vi a4] [vi (a2 + a4), vi (a1 + 1), .ref 147] (up2 (up2 mem 149 a4 ((mem 149 a4) + a3)) 151 a1 a4)) :
    GM E (m_X0_spreadFrom d) P 85 [.ref 147, vi a1, vi a2, vi a3, vi a4] [] mem := by
  refine G_iload dX0_spreadFrom_85 rfl ?_
  refine G_aload_n dX0_spreadFrom_87 rfl ?_
  refine G_getI (z := (mem 147 9)) dX0_spreadFrom_88 fl_0_61 (by decide) sh_147 rfl ?_
  refine G_icmp_gt (tgt := 167) dX0_spreadFrom_91 (by decide) (w1) (w2) (fun c1 => ?_) (fun c1 => ?_)
  · -- (mem 147 9) < a4
    exact G_vret dX0_spreadFrom_167 rfl (Nat.zero_le _) (Nat.zero_le _) (Nat.le_refl _) ⟨rfl, k1 c1⟩
  · -- ¬ (mem 147 9) < a4
    refine G_iload dX0_spreadFrom_94 rfl ?_
    refine G_aload_n dX0_spreadFrom_96 rfl ?_
    refine G_getR (t := 149) dX0_spreadFrom_97 fl_0_15 (by decide) sh_147 rr_147_2 ?_
    refine G_alen (z := 7) dX0_spreadFrom_100 (by decide) sh_149 (by decide) rfl ?_
    refine G_icmp_ge (tgt := 167) dX0_spreadFrom_101 (by decide) (w1) (by decide) (fun c2 => ?_) (fun c2 => ?_)
    · -- 7 ≤ a4
      exact G_vret dX0_spreadFrom_167 rfl (Nat.zero_le _) (Nat.zero_le _) (Nat.le_refl _) ⟨rfl, k2 c1 c2⟩
    · -- ¬ 7 ≤ a4
      refine G_aload_n dX0_spreadFrom_104 rfl ?_
      refine G_getR (t := 149) dX0_spreadFrom_105 fl_0_15 (by decide) sh_147 rr_147_2 ?_
      refine G_iload dX0_spreadFrom_108 rfl ?_
      refine G_iald (z := (mem 149 a4)) dX0_spreadFrom_110 (by decide) sh_149 (by decide) (q3 c1 c2).1 (q3 c1 c2).2 rfl ?_
      refine G_iload_n dX0_spreadFrom_111 rfl ?_
      refine G_iadd dX0_spreadFrom_112 ?_
      refine G_aload_n dX0_spreadFrom_113 rfl ?_
      refine G_getI (z := (mem 147 10)) dX0_spreadFrom_114 fl_0_64 (by decide) sh_147 rfl ?_
      refine G_icmp_gt (tgt := 161) dX0_spreadFrom_117 (by decide) (w4 c1 c2) (w5 c1 c2) (fun c3 => ?_) (fun c3 => ?_)
      · -- (mem 147 10) < ((mem 149 a4) + a3)
        refine G_iinc (z := (a4 + 1)) dX0_spreadFrom_161 rfl rfl (by decide : 4 < 5) rfl ?_
        refine G_goto (tgt := 85) dX0_spreadFrom_164 (by decide) ?_
        exact k3 c1 c2 c3
      · -- ¬ (mem 147 10) < ((mem 149 a4) + a3)
        refine G_aload_n dX0_spreadFrom_120 rfl ?_
        refine G_getR (t := 149) dX0_spreadFrom_121 fl_0_15 (by decide) sh_147 rr_147_2 ?_
        refine G_iload dX0_spreadFrom_124 rfl ?_
        refine G_dup2 dX0_spreadFrom_126 rfl rfl ?_
        refine G_iald (z := (mem 149 a4)) dX0_spreadFrom_127 (by decide) sh_149 (by decide) (q3 c1 c2).1 (q3 c1 c2).2 rfl ?_
        refine G_iload_n dX0_spreadFrom_128 rfl ?_
        refine G_iadd dX0_spreadFrom_129 ?_
        refine G_iast (mem2 := (up2 mem 149 a4 ((mem 149 a4) + a3))) dX0_spreadFrom_130 (by decide) sh_149 (by decide) (q3 c1 c2).1 (q3 c1 c2).2 rfl ?_
        refine G_aload_n dX0_spreadFrom_131 rfl ?_
        refine G_getR (t := 151) dX0_spreadFrom_132 fl_0_21 (by decide) sh_147 rr_147_5 ?_
        refine G_iload_n dX0_spreadFrom_135 rfl ?_
        refine G_iload dX0_spreadFrom_136 rfl ?_
        refine G_iast (mem2 := (up2 (up2 mem 149 a4 ((mem 149 a4) + a3)) 151 a1 a4)) dX0_spreadFrom_138 (by decide) sh_151 (by decide) (q6 c1 c2 c3).1 (q6 c1 c2 c3).2 rfl ?_
        refine G_aload_n dX0_spreadFrom_139 rfl ?_
        refine G_iload_n dX0_spreadFrom_140 rfl ?_
        refine G_iconst (z := 1) dX0_spreadFrom_141 rfl ?_
        refine G_iadd dX0_spreadFrom_142 ?_
        refine G_iload_n dX0_spreadFrom_143 rfl ?_
        refine G_iload dX0_spreadFrom_144 rfl ?_
        refine G_iadd dX0_spreadFrom_146 ?_
        exact k4 c1 c2 c3
set_option maxRecDepth 20000 in
set_option maxHeartbeats 8000000 in
theorem sg_X0_spreadFrom_150 {E : Nat × (Nat → Int32)} {d : Nat} {P : Option Value → Mem → Prop} {mem : Mem} {a1 : Int} {a2 : Int} {a3 : Int} {a4 : Int} (q1 : 0 ≤ a4 ∧ a4 < 7)
    (k1 : GM E (m_X0_spreadFrom d) P 85 [.ref 147, vi a1, vi a2, vi a3, vi (a4 + 1)] [] (up2 mem 149 a4 ((mem 149 a4) - a3))) :
    GM E (m_X0_spreadFrom d) P 150 [.ref 147, vi a1, vi a2, vi a3, vi a4] [] mem := by
  refine G_aload_n dX0_spreadFrom_150 rfl ?_
  refine G_getR (t := 149) dX0_spreadFrom_151 fl_0_15 (by decide) sh_147 rr_147_2 ?_
  refine G_iload dX0_spreadFrom_154 rfl ?_
  refine G_dup2 dX0_spreadFrom_156 rfl rfl ?_
  refine G_iald (z := (mem 149 a4)) dX0_spreadFrom_157 (by decide) sh_149 (by decide) (q1).1 (q1).2 rfl ?_
  refine G_iload_n dX0_spreadFrom_158 rfl ?_
  refine G_isub dX0_spreadFrom_159 ?_
  refine G_iast (mem2 := (up2 mem 149 a4 ((mem 149 a4) - a3))) dX0_spreadFrom_160 (by decide) sh_149 (by decide) (q1).1 (q1).2 rfl ?_
  refine G_iinc (z := (a4 + 1)) dX0_spreadFrom_161 rfl rfl (by decide : 4 < 5) rfl ?_
  refine G_goto (tgt := 85) dX0_spreadFrom_164 (by decide) ?_
  exact k1
set_option maxRecDepth 20000 in
set_option maxHeartbeats 8000000 in
theorem sg_X0_takeOff_0 {E : Nat × (Nat → Int32)} {P : Option Value → Mem → Prop} {mem : Mem} {a1 : Int}
    (k1 : GM E (m_X0_takeOff 1) P 7 [.ref 147, vi a1, vi 0, un] [] (up2 mem 147 4 0)) :
    GM E (m_X0_takeOff 1) P 0 [.ref 147, vi a1, un, un] [] mem := by
  refine G_aload_n dX0_takeOff_0 rfl ?_
  refine G_iconst (z := 0) dX0_takeOff_1 rfl ?_
  refine G_putI (mem2 := (up2 mem 147 4 0)) dX0_takeOff_2 fp_0_46 (by decide) sh_147 rfl ?_
  refine G_iconst (z := 0) dX0_takeOff_5 rfl ?_
  refine G_istore_n dX0_takeOff_6 rfl (by decide : 2 < 4) rfl ?_
  exact k1
set_option maxRecDepth 20000 in
set_option maxHeartbeats 8000000 in
theorem sg_X0_takeOff_7 {E : Nat × (Nat → Int32)} {P : Option Value → Mem → Prop} {mem : Mem} {a1 : Int} {a2 : Int} (w1 : -2147483648 ≤ a2 ∧ a2 < 2147483648) (w2 : -2147483648 ≤ (mem 9 1) ∧ (mem 9 1) < 2147483648) (q3 : ¬ (mem 9 1) ≤ a2 → ¬ 6 ≤ a2 → 0 ≤ (mem 9 1) ∧ (mem 9 1) ≤ 6) (w4 : ¬ (mem 9 1) ≤ a2 → ¬ 6 ≤ a2 → 0 ≤ a2 ∧ a2 < (mem 9 1) → -2147483648 ≤ (mem (11 + 2 * (a2).toNat) 6) ∧ (mem (11 + 2 * (a2).toNat) 6) < 2147483648) (w5 : -2147483648 ≤ a1 ∧ a1 < 2147483648) (w6 : ¬ (mem 9 1) ≤ a2 → ¬ 6 ≤ a2 → 0 ≤ a2 ∧ a2 < (mem 9 1) → (mem (11 + 2 * (a2).toNat) 6) = a1 → -2147483648 ≤ (mem 147 4) ∧ (mem 147 4) < 2147483648) (q7 : ¬ (mem 9 1) ≤ a2 → ¬ 6 ≤ a2 → 0 ≤ a2 ∧ a2 < (mem 9 1) → (mem (11 + 2 * (a2).toNat) 6) = a1 → ¬ 6 ≤ (mem 147 4) → 0 ≤ (mem 147 4) ∧ (mem 147 4) < 6)
    (k1 : (mem 9 1) ≤ a2 → P (some (vi (mem 147 4))) mem)
    (k2 : ¬ (mem 9 1) ≤ a2 → 6 ≤ a2 → P (some (vi (mem 147 4))) mem)
    (k3 : ¬ (mem 9 1) ≤ a2 → ¬ 6 ≤ a2 → 0 ≤ a2 ∧ a2 < (mem 9 1) → (mem (11 + 2 * (a2).toNat) 6) ≠ a1 → GM E (m_X0_takeOff 1) P 7 [.ref 147, vi a1, vi (a2 + 1), un] [] mem)
    (k4 : ¬ (mem 9 1) ≤ a2 → ¬ 6 ≤ a2 → 0 ≤ a2 ∧ a2 < (mem 9 1) → (mem (11 + 2 * (a2).toNat) 6) = a1 → 6 ≤ (mem 147 4) → GM E (m_X0_takeOff 1) P 7 [.ref 147, vi a1, vi (a2 + 1), un] [] mem)
    (k5 : ¬ (mem 9 1) ≤ a2 → ¬ 6 ≤ a2 → 0 ≤ a2 ∧ a2 < (mem 9 1) → (mem (11 + 2 * (a2).toNat) 6) = a1 → ¬ 6 ≤ (mem 147 4) → GM E (m_X0_takeOff 1) P 7 [.ref 147, vi a1, vi (a2 + 1), un] [] (up2 (up2 mem 150 (mem 147 4) a2) 147 4 ((mem 147 4) + 1)))
    (k6 : ¬ (mem 9 1) ≤ a2 → ¬ 6 ≤ a2 → ¬ (0 ≤ a2 ∧ a2 < (mem 9 1)) → GM E (m_X0_takeOff 1) P 7 [.ref 147, vi a1, vi (a2 + 1), un] [] mem) :
    GM E (m_X0_takeOff 1) P 7 [.ref 147, vi a1, vi a2, un] [] mem := by
  refine G_iload_n dX0_takeOff_7 rfl ?_
  refine G_aload_n dX0_takeOff_8 rfl ?_
  refine G_getR (t := 9) dX0_takeOff_9 fl_0_27 (by decide) sh_147 rr_147_0 ?_
  refine G_getI (z := (mem 9 1)) dX0_takeOff_12 fl_0_49 (by decide) sh_9 rfl ?_
  refine G_icmp_ge (tgt := 86) dX0_takeOff_15 (by decide) (w1) (w2) (fun c1 => ?_) (fun c1 => ?_)
  · -- (mem 9 1) ≤ a2
    refine G_aload_n dX0_takeOff_86 rfl ?_
    refine G_getI (z := (mem 147 4)) dX0_takeOff_87 fl_0_46 (by decide) sh_147 rfl ?_
    exact G_iret dX0_takeOff_90 rfl (Nat.zero_le _) (Nat.zero_le _) (Nat.le_refl _) ⟨rfl, k1 c1⟩
  · -- ¬ (mem 9 1) ≤ a2
    refine G_iload_n dX0_takeOff_18 rfl ?_
    refine G_aload_n dX0_takeOff_19 rfl ?_
    refine G_getR (t := 150) dX0_takeOff_20 fl_0_18 (by decide) sh_147 rr_147_3 ?_
    refine G_alen (z := 6) dX0_takeOff_23 (by decide) sh_150 (by decide) rfl ?_
    refine G_icmp_ge (tgt := 86) dX0_takeOff_24 (by decide) (w1) (by decide) (fun c2 => ?_) (fun c2 => ?_)
    · -- 6 ≤ a2
      refine G_aload_n dX0_takeOff_86 rfl ?_
      refine G_getI (z := (mem 147 4)) dX0_takeOff_87 fl_0_46 (by decide) sh_147 rfl ?_
      exact G_iret dX0_takeOff_90 rfl (Nat.zero_le _) (Nat.zero_le _) (Nat.le_refl _) ⟨rfl, k2 c1 c2⟩
    · -- ¬ 6 ≤ a2
      refine G_aload_n dX0_takeOff_27 rfl ?_
      refine G_getR (t := 9) dX0_takeOff_28 fl_0_27 (by decide) sh_147 rr_147_0 ?_
      refine G_iload_n dX0_takeOff_31 rfl ?_
      refine cb_X0_takeOff_32 (ic_X10_at (z := (mem 9 1)) rfl (q3 c1 c2) (w1) (fun c3 => ?_) (fun c4 => ?_))
      · -- 0 ≤ a2 ∧ a2 < (mem 9 1)
        refine G_astore_n dX0_takeOff_35 rfl (by decide : 3 < 4) rfl ?_
        refine G_aload_n dX0_takeOff_36 rfl ?_
        refine G_ifnull dX0_takeOff_37 ?_
        refine G_aload_n dX0_takeOff_40 rfl ?_
        refine G_getI (z := (mem (11 + 2 * (a2).toNat) 6)) dX0_takeOff_41 fl_0_43 (ltStreet0 (streetL_of c3.1 (Int.lt_of_lt_of_le c3.2 (q3 c1 c2).2))) (shStreet0 (streetL_of c3.1 (Int.lt_of_lt_of_le c3.2 (q3 c1 c2).2))) rfl ?_
        refine G_iload_n dX0_takeOff_44 rfl ?_
        refine G_icmp_ne (tgt := 80) dX0_takeOff_45 (by decide) (w4 c1 c2 c3) (w5) (fun c5 => ?_) (fun c5 => ?_)
        · -- (mem (11 + 2 * (a2).toNat) 6) ≠ a1
          refine G_iinc (z := (a2 + 1)) dX0_takeOff_80 rfl rfl (by decide : 2 < 4) rfl ?_
          refine G_goto (tgt := 7) dX0_takeOff_83 (by decide) ?_
          refine G_weak (lv2 := [.ref 147, vi a1, vi (a2 + 1), un]) ⟨Or.inr rfl, Or.inr rfl, Or.inr rfl, Or.inl rfl, trivial⟩ ?_
          exact k3 c1 c2 c3 c5
        · -- (mem (11 + 2 * (a2).toNat) 6) = a1
          refine G_aload_n dX0_takeOff_48 rfl ?_
          refine G_getI (z := (mem 147 4)) dX0_takeOff_49 fl_0_46 (by decide) sh_147 rfl ?_
          refine G_aload_n dX0_takeOff_52 rfl ?_
          refine G_getR (t := 150) dX0_takeOff_53 fl_0_18 (by decide) sh_147 rr_147_3 ?_
          refine G_alen (z := 6) dX0_takeOff_56 (by decide) sh_150 (by decide) rfl ?_
          refine G_icmp_ge (tgt := 80) dX0_takeOff_57 (by decide) (w6 c1 c2 c3 c5) (by decide) (fun c6 => ?_) (fun c6 => ?_)
          · -- 6 ≤ (mem 147 4)
            refine G_iinc (z := (a2 + 1)) dX0_takeOff_80 rfl rfl (by decide : 2 < 4) rfl ?_
            refine G_goto (tgt := 7) dX0_takeOff_83 (by decide) ?_
            refine G_weak (lv2 := [.ref 147, vi a1, vi (a2 + 1), un]) ⟨Or.inr rfl, Or.inr rfl, Or.inr rfl, Or.inl rfl, trivial⟩ ?_
            exact k4 c1 c2 c3 c5 c6
          · -- ¬ 6 ≤ (mem 147 4)
            refine G_aload_n dX0_takeOff_60 rfl ?_
            refine G_getR (t := 150) dX0_takeOff_61 fl_0_18 (by decide) sh_147 rr_147_3 ?_
            refine G_aload_n dX0_takeOff_64 rfl ?_
            refine G_getI (z := (mem 147 4)) dX0_takeOff_65 fl_0_46 (by decide) sh_147 rfl ?_
            refine G_iload_n dX0_takeOff_68 rfl ?_
            refine G_iast (mem2 := (up2 mem 150 (mem 147 4) a2)) dX0_takeOff_69 (by decide) sh_150 (by decide) (q7 c1 c2 c3 c5 c6).1 (q7 c1 c2 c3 c5 c6).2 rfl ?_
            refine G_aload_n dX0_takeOff_70 rfl ?_
            refine G_dup dX0_takeOff_71 rfl ?_
            refine G_getI (z := (mem 147 4)) dX0_takeOff_72 fl_0_46 (by decide) sh_147 (by simp [up2, upr]) ?_
            refine G_iconst (z := 1) dX0_takeOff_75 rfl ?_
            refine G_iadd dX0_takeOff_76 ?_
            refine G_putI (mem2 := (up2 (up2 mem 150 (mem 147 4) a2) 147 4 ((mem 147 4) + 1))) dX0_takeOff_77 fp_0_46 (by decide) sh_147 rfl ?_
            refine G_iinc (z := (a2 + 1)) dX0_takeOff_80 rfl rfl (by decide : 2 < 4) rfl ?_
            refine G_goto (tgt := 7) dX0_takeOff_83 (by decide) ?_
            refine G_weak (lv2 := [.ref 147, vi a1, vi (a2 + 1), un]) ⟨Or.inr rfl, Or.inr rfl, Or.inr rfl, Or.inl rfl, trivial⟩ ?_
            exact k5 c1 c2 c3 c5 c6
      · -- ¬ (0 ≤ a2 ∧ a2 < (mem 9 1))
        refine G_astoreNull_n dX0_takeOff_35 rfl (by decide : 3 < 4) rfl ?_
        refine G_aloadNull_n dX0_takeOff_36 rfl ?_
        refine G_ifnullZ (tgt := 80) dX0_takeOff_37 (by decide) ?_
        refine G_iinc (z := (a2 + 1)) dX0_takeOff_80 rfl rfl (by decide : 2 < 4) rfl ?_
        refine G_goto (tgt := 7) dX0_takeOff_83 (by decide) ?_
        refine G_weak (lv2 := [.ref 147, vi a1, vi (a2 + 1), un]) ⟨Or.inr rfl, Or.inr rfl, Or.inr rfl, Or.inl rfl, trivial⟩ ?_
        exact k6 c1 c2 c4
set_option maxRecDepth 20000 in
set_option maxHeartbeats 8000000 in
theorem sg_X2_byHand_0 {E : Nat × (Nat → Int32)} {P : Option Value → Mem → Prop} {mem : Mem} {o : Nat} {o1 : Nat} {a2 : Int} {a3 : Int} (ho : o ∈ jobL) (ho1 : o1 ∈ streetL) (q1 : 0 ≤ a2 ∧ a2 < 16)
    (k1 : GM E (m_X2_byHand 3) P 107 [.ref o, .ref o1, vi a2, vi a3] [.ref (o + 1), .ref 5] (up2 (up2 (up2 (up2 (up2 (up2 (up2 (up2 mem (o + 1) 0 (divI (((mem (o1 + 1) a2) * (mem 4 3)) * (10 + (mem 4 2))) 10)) (o + 1) 1 (remI a2 8)) (o + 1) 2 (divI a2 8)) (o + 1) 3 (mem o 8)) (o + 1) 4 (mem o 7)) (o + 1) 5 ((up2 (up2 (up2 (up2 (up2 mem (o + 1) 0 (divI (((mem (o1 + 1) a2) * (mem 4 3)) * (10 + (mem 4 2))) 10)) (o + 1) 1 (remI a2 8)) (o + 1) 2 (divI a2 8)) (o + 1) 3 (mem o 8)) (o + 1) 4 (mem o 7)) 4 2)) (o + 1) 6 a3) (o + 1) 7 ((up2 (up2 (up2 (up2 (up2 (up2 (up2 mem (o + 1) 0 (divI (((mem (o1 + 1) a2) * (mem 4 3)) * (10 + (mem 4 2))) 10)) (o + 1) 1 (remI a2 8)) (o + 1) 2 (divI a2 8)) (o + 1) 3 (mem o 8)) (o + 1) 4 (mem o 7)) (o + 1) 5 ((up2 (up2 (up2 (up2 (up2 mem (o + 1) 0 (divI (((mem (o1 + 1) a2) * (mem 4 3)) * (10 + (mem 4 2))) 10)) (o + 1) 1 (remI a2 8)) (o + 1) 2 (divI a2 8)) (o + 1) 3 (mem o 8)) (o + 1) 4 (mem o 7)) 4 2)) (o + 1) 6 a3) o1 0))) :
    GM E (m_X2_byHand 3) P 0 [.ref o, .ref o1, vi a2, vi a3] [] mem := by
  refine G_aload_n dX2_byHand_0 rfl ?_
  refine G_getR (t := (o + 1)) dX2_byHand_1 fl_2_11 (ltJob0 ho) (shJob0 ho) (rrJob_2 ho) ?_
  refine G_iconst (z := 0) dX2_byHand_4 rfl ?_
  refine G_aload_n dX2_byHand_5 rfl ?_
  refine G_getR (t := 3) dX2_byHand_6 fl_2_31 (ltJob0 ho) (shJob0 ho) (rrJob_0 ho) ?_
  refine G_aload_n dX2_byHand_9 rfl ?_
  refine G_iload_n dX2_byHand_10 rfl ?_
  refine cb_X2_byHand_11 ho1 (ic_X8_weightAt (z := (mem (o1 + 1) a2)) ho1 ⟨(q1).1, (q1).2⟩ rfl ?_)
  refine G_aload_n dX2_byHand_14 rfl ?_
  refine G_getR (t := 3) dX2_byHand_15 fl_2_31 (ltJob0 ho) (shJob0 ho) (rrJob_0 ho) ?_
  refine G_iconst (z := 2) dX2_byHand_18 rfl ?_
  refine cb_X2_byHand_19 (ic_X6_get (z := (mem 4 2)) (by decide) rfl ?_)
  refine cb_X2_byHand_22 (ic_X6_heavy (z := (mem 4 3)) rfl ?_)
  refine G_iast (mem2 := (up2 mem (o + 1) 0 (divI (((mem (o1 + 1) a2) * (mem 4 3)) * (10 + (mem 4 2))) 10))) dX2_byHand_25 (ltJob1 ho) (shJob1 ho) (by decide) (by decide) (by decide) rfl ?_
  refine G_aload_n dX2_byHand_26 rfl ?_
  refine G_getR (t := (o + 1)) dX2_byHand_27 fl_2_11 (ltJob0 ho) (shJob0 ho) (rrJob_2 ho) ?_
  refine G_iconst (z := 1) dX2_byHand_30 rfl ?_
  refine G_iload_n dX2_byHand_31 rfl ?_
  refine G_bipush (z := 8) dX2_byHand_32 rfl ?_
  refine G_irem (z := (remI a2 8)) dX2_byHand_34 (iI_ne0 (by decide) (by decide)) (iI_inv _) ?_
  refine G_iast (mem2 := (up2 (up2 mem (o + 1) 0 (divI (((mem (o1 + 1) a2) * (mem 4 3)) * (10 + (mem 4 2))) 10)) (o + 1) 1 (remI a2 8))) dX2_byHand_35 (ltJob1 ho) (shJob1 ho) (by decide) (by decide) (by decide) rfl ?_
  refine G_aload_n dX2_byHand_36 rfl ?_
  refine G_getR (t := (o + 1)) dX2_byHand_37 fl_2_11 (ltJob0 ho) (shJob0 ho) (rrJob_2 ho) ?_
  refine G_iconst (z := 2) dX2_byHand_40 rfl ?_
  refine G_iload_n dX2_byHand_41 rfl ?_
  refine G_bipush (z := 8) dX2_byHand_42 rfl ?_
  refine G_idiv (z := (divI a2 8)) dX2_byHand_44 (iI_ne0 (by decide) (by decide)) (iI_inv _) ?_
  refine G_iast (mem2 := (up2 (up2 (up2 mem (o + 1) 0 (divI (((mem (o1 + 1) a2) * (mem 4 3)) * (10 + (mem 4 2))) 10)) (o + 1) 1 (remI a2 8)) (o + 1) 2 (divI a2 8))) dX2_byHand_45 (ltJob1 ho) (shJob1 ho) (by decide) (by decide) (by decide) rfl ?_
  refine G_aload_n dX2_byHand_46 rfl ?_
  refine G_getR (t := (o + 1)) dX2_byHand_47 fl_2_11 (ltJob0 ho) (shJob0 ho) (rrJob_2 ho) ?_
  refine G_iconst (z := 3) dX2_byHand_50 rfl ?_
  refine G_aload_n dX2_byHand_51 rfl ?_
  refine G_getI (z := (mem o 8)) dX2_byHand_52 fl_2_45 (ltJob0 ho) (shJob0 ho) (by simp [up2, upr]) ?_
  refine G_iast (mem2 := (up2 (up2 (up2 (up2 mem (o + 1) 0 (divI (((mem (o1 + 1) a2) * (mem 4 3)) * (10 + (mem 4 2))) 10)) (o + 1) 1 (remI a2 8)) (o + 1) 2 (divI a2 8)) (o + 1) 3 (mem o 8))) dX2_byHand_55 (ltJob1 ho) (shJob1 ho) (by decide) (by decide) (by decide) rfl ?_
  refine G_aload_n dX2_byHand_56 rfl ?_
  refine G_getR (t := (o + 1)) dX2_byHand_57 fl_2_11 (ltJob0 ho) (shJob0 ho) (rrJob_2 ho) ?_
  refine G_iconst (z := 4) dX2_byHand_60 rfl ?_
  refine G_aload_n dX2_byHand_61 rfl ?_
  refine G_getI (z := (mem o 7)) dX2_byHand_62 fl_2_27 (ltJob0 ho) (shJob0 ho) (by simp [up2, upr]) ?_
  refine G_iast (mem2 := (up2 (up2 (up2 (up2 (up2 mem (o + 1) 0 (divI (((mem (o1 + 1) a2) * (mem 4 3)) * (10 + (mem 4 2))) 10)) (o + 1) 1 (remI a2 8)) (o + 1) 2 (divI a2 8)) (o + 1) 3 (mem o 8)) (o + 1) 4 (mem o 7))) dX2_byHand_65 (ltJob1 ho) (shJob1 ho) (by decide) (by decide) (by decide) rfl ?_
  refine G_aload_n dX2_byHand_66 rfl ?_
  refine G_getR (t := (o + 1)) dX2_byHand_67 fl_2_11 (ltJob0 ho) (shJob0 ho) (rrJob_2 ho) ?_
  refine G_iconst (z := 5) dX2_byHand_70 rfl ?_
  refine G_aload_n dX2_byHand_71 rfl ?_
  refine G_getR (t := 3) dX2_byHand_72 fl_2_31 (ltJob0 ho) (shJob0 ho) (rrJob_0 ho) ?_
  refine G_iconst (z := 2) dX2_byHand_75 rfl ?_
  refine cb_X2_byHand_76 (ic_X6_get (z := ((up2 (up2 (up2 (up2 (up2 mem (o + 1) 0 (divI (((mem (o1 + 1) a2) * (mem 4 3)) * (10 + (mem 4 2))) 10)) (o + 1) 1 (remI a2 8)) (o + 1) 2 (divI a2 8)) (o + 1) 3 (mem o 8)) (o + 1) 4 (mem o 7)) 4 2)) (by decide) (by simp [up2, upr]) ?_)
  refine G_iast (mem2 := (up2 (up2 (up2 (up2 (up2 (up2 mem (o + 1) 0 (divI (((mem (o1 + 1) a2) * (mem 4 3)) * (10 + (mem 4 2))) 10)) (o + 1) 1 (remI a2 8)) (o + 1) 2 (divI a2 8)) (o + 1) 3 (mem o 8)) (o + 1) 4 (mem o 7)) (o + 1) 5 ((up2 (up2 (up2 (up2 (up2 mem (o + 1) 0 (divI (((mem (o1 + 1) a2) * (mem 4 3)) * (10 + (mem 4 2))) 10)) (o + 1) 1 (remI a2 8)) (o + 1) 2 (divI a2 8)) (o + 1) 3 (mem o 8)) (o + 1) 4 (mem o 7)) 4 2))) dX2_byHand_79 (ltJob1 ho) (shJob1 ho) (by decide) (by decide) (by decide) rfl ?_
  refine G_aload_n dX2_byHand_80 rfl ?_
  refine G_getR (t := (o + 1)) dX2_byHand_81 fl_2_11 (ltJob0 ho) (shJob0 ho) (rrJob_2 ho) ?_
  refine G_bipush (z := 6) dX2_byHand_84 rfl ?_
  refine G_iload_n dX2_byHand_86 rfl ?_
  refine G_iast (mem2 := (up2 (up2 (up2 (up2 (up2 (up2 (up2 mem (o + 1) 0 (divI (((mem (o1 + 1) a2) * (mem 4 3)) * (10 + (mem 4 2))) 10)) (o + 1) 1 (remI a2 8)) (o + 1) 2 (divI a2 8)) (o + 1) 3 (mem o 8)) (o + 1) 4 (mem o 7)) (o + 1) 5 ((up2 (up2 (up2 (up2 (up2 mem (o + 1) 0 (divI (((mem (o1 + 1) a2) * (mem 4 3)) * (10 + (mem 4 2))) 10)) (o + 1) 1 (remI a2 8)) (o + 1) 2 (divI a2 8)) (o + 1) 3 (mem o 8)) (o + 1) 4 (mem o 7)) 4 2)) (o + 1) 6 a3)) dX2_byHand_87 (ltJob1 ho) (shJob1 ho) (by decide) (by decide) (by decide) rfl ?_
  refine G_aload_n dX2_byHand_88 rfl ?_
  refine G_getR (t := (o + 1)) dX2_byHand_89 fl_2_11 (ltJob0 ho) (shJob0 ho) (rrJob_2 ho) ?_
  refine G_bipush (z := 7) dX2_byHand_92 rfl ?_
  refine G_aload_n dX2_byHand_94 rfl ?_
  refine G_getI (z := ((up2 (up2 (up2 (up2 (up2 (up2 (up2 mem (o + 1) 0 (divI (((mem (o1 + 1) a2) * (mem 4 3)) * (10 + (mem 4 2))) 10)) (o + 1) 1 (remI a2 8)) (o + 1) 2 (divI a2 8)) (o + 1) 3 (mem o 8)) (o + 1) 4 (mem o 7)) (o + 1) 5 ((up2 (up2 (up2 (up2 (up2 mem (o + 1) 0 (divI (((mem (o1 + 1) a2) * (mem 4 3)) * (10 + (mem 4 2))) 10)) (o + 1) 1 (remI a2 8)) (o + 1) 2 (divI a2 8)) (o + 1) 3 (mem o 8)) (o + 1) 4 (mem o 7)) 4 2)) (o + 1) 6 a3) o1 0)) dX2_byHand_95 fl_2_88 (ltStreet0 ho1) (shStreet0 ho1) (by simp [up2, upr]) ?_
  refine G_iast (mem2 := (up2 (up2 (up2 (up2 (up2 (up2 (up2 (up2 mem (o + 1) 0 (divI (((mem (o1 + 1) a2) * (mem 4 3)) * (10 + (mem 4 2))) 10)) (o + 1) 1 (remI a2 8)) (o + 1) 2 (divI a2 8)) (o + 1) 3 (mem o 8)) (o + 1) 4 (mem o 7)) (o + 1) 5 ((up2 (up2 (up2 (up2 (up2 mem (o + 1) 0 (divI (((mem (o1 + 1) a2) * (mem 4 3)) * (10 + (mem 4 2))) 10)) (o + 1) 1 (remI a2 8)) (o + 1) 2 (divI a2 8)) (o + 1) 3 (mem o 8)) (o + 1) 4 (mem o 7)) 4 2)) (o + 1) 6 a3) (o + 1) 7 ((up2 (up2 (up2 (up2 (up2 (up2 (up2 mem (o + 1) 0 (divI (((mem (o1 + 1) a2) * (mem 4 3)) * (10 + (mem 4 2))) 10)) (o + 1) 1 (remI a2 8)) (o + 1) 2 (divI a2 8)) (o + 1) 3 (mem o 8)) (o + 1) 4 (mem o 7)) (o + 1) 5 ((up2 (up2 (up2 (up2 (up2 mem (o + 1) 0 (divI (((mem (o1 + 1) a2) * (mem 4 3)) * (10 + (mem 4 2))) 10)) (o + 1) 1 (remI a2 8)) (o + 1) 2 (divI a2 8)) (o + 1) 3 (mem o 8)) (o + 1) 4 (mem o 7)) 4 2)) (o + 1) 6 a3) o1 0))) dX2_byHand_98 (ltJob1 ho) (shJob1 ho) (by decide) (by decide) (by decide) rfl ?_
  refine G_aload_n dX2_byHand_99 rfl ?_
  refine G_getR (t := 5) dX2_byHand_100 fl_2_35 (ltJob0 ho) (shJob0 ho) (rrJob_1 ho) ?_
  refine G_aload_n dX2_byHand_103 rfl ?_
  refine G_getR (t := (o + 1)) dX2_byHand_104 fl_2_11 (ltJob0 ho) (shJob0 ho) (rrJob_2 ho) ?_
  exact k1
set_option maxRecDepth 20000 in
set_option maxHeartbeats 8000000 in
theorem sg_X2_byHand_110 {E : Nat × (Nat → Int32)} {P : Option Value → Mem → Prop} {mem : Mem} {o : Nat} {o1 : Nat} {a2 : Int} {a3 : Int} {s0 : Int} (ho : o ∈ jobL) (ho1 : o1 ∈ streetL)
    (k1 : P (some (vi s0)) mem) :
    GM E (m_X2_byHand 3) P 110 [.ref o, .ref o1, vi a2, vi a3] [vi s0] mem := by
  exact G_iret dX2_byHand_110 rfl (Nat.zero_le _) (Nat.zero_le _) (Nat.le_refl _) ⟨rfl, k1⟩
set_option maxRecDepth 20000 in
set_option maxHeartbeats 8000000 in
theorem sg_X2_chooseHow_0 {E : Nat × (Nat → Int32)} {P : Option Value → Mem → Prop} {mem : Mem} {o : Nat} {o1 : Nat} {a2 : Int} (ho : o ∈ jobL) (ho1 : o1 ∈ streetL)
    (k1 : GM E (m_X2_chooseHow 5) P 7 [.ref o, .ref o1, vi a2, vi 0] [] (up2 mem o 13 0)) :
    GM E (m_X2_chooseHow 5) P 0 [.ref o, .ref o1, vi a2, un] [] mem := by
  refine G_aload_n dX2_chooseHow_0 rfl ?_
  refine G_iconst (z := 0) dX2_chooseHow_1 rfl ?_
  refine G_putI (mem2 := (up2 mem o 13 0)) dX2_chooseHow_2 fp_2_116 (ltJob0 ho) (shJob0 ho) rfl ?_
  refine G_iconst (z := 0) dX2_chooseHow_5 rfl ?_
  refine G_istore_n dX2_chooseHow_6 rfl (by decide : 3 < 4) rfl ?_
  exact k1
set_option maxRecDepth 20000 in
set_option maxHeartbeats 8000000 in
theorem sg_X2_chooseHow_7 {E : Nat × (Nat → Int32)} {P : Option Value → Mem → Prop} {mem : Mem} {o : Nat} {o1 : Nat} {a2 : Int} {a3 : Int} (ho : o ∈ jobL) (ho1 : o1 ∈ streetL) (w1 : -2147483648 ≤ a3 ∧ a3 < 2147483648)
    (k1 : 3 ≤ a3 → P (some (vi (mem o 13))) mem)
    (k2 : ¬ 3 ≤ a3 → GM E (m_X2_chooseHow 5) P 20 [.ref o, .ref o1, vi a2, vi a3] [vi a2, vi a3, .ref o1, .ref o] mem) :
    GM E (m_X2_chooseHow 5) P 7 [.ref o, .ref o1, vi a2, vi a3] [] mem := by
  refine G_iload_n dX2_chooseHow_7 rfl ?_
  refine G_aload_n dX2_chooseHow_8 rfl ?_
  refine G_getR (t := (o + 5)) dX2_chooseHow_9 fl_2_24 (ltJob0 ho) (shJob0 ho) (rrJob_6 ho) ?_
  refine G_alen (z := 3) dX2_chooseHow_12 (ltJob5 ho) (shJob5 ho) (by decide) rfl ?_
  refine G_icmp_ge (tgt := 69) dX2_chooseHow_13 (by decide) (w1) (by decide) (fun c1 => ?_) (fun c1 => ?_)
  · -- 3 ≤ a3
    refine G_aload_n dX2_chooseHow_69 rfl ?_
    refine G_getI (z := (mem o 13)) dX2_chooseHow_70 fl_2_116 (ltJob0 ho) (shJob0 ho) rfl ?_
    exact G_iret dX2_chooseHow_73 rfl (Nat.zero_le _) (Nat.zero_le _) (Nat.le_refl _) ⟨rfl, k1 c1⟩
  · -- ¬ 3 ≤ a3
    refine G_aload_n dX2_chooseHow_16 rfl ?_
    refine G_aload_n dX2_chooseHow_17 rfl ?_
    refine G_iload_n dX2_chooseHow_18 rfl ?_
    refine G_iload_n dX2_chooseHow_19 rfl ?_
    exact k2 c1
set_option maxRecDepth 20000 in
set_option maxHeartbeats 8000000 in
theorem sg_X2_chooseHow_23 {E : Nat × (Nat → Int32)} {P : Option Value → Mem → Prop} {mem : Mem} {o : Nat} {o1 : Nat} {a2 : Int} {a3 : Int} (ho : o ∈ jobL) (ho1 : o1 ∈ streetL)
    (k1 : GM E (m_X2_chooseHow 5) P 27 [.ref o, .ref o1, vi a2, vi a3] [vi 1000000, vi 0, .ref o] mem) :
    GM E (m_X2_chooseHow 5) P 23 [.ref o, .ref o1, vi a2, vi a3] [] mem := by
  refine G_aload_n dX2_chooseHow_23 rfl ?_
  refine G_iconst (z := 0) dX2_chooseHow_24 rfl ?_
  refine G_ldc (z := 1000000) dX2_chooseHow_25 kc_2_123 ?_
  exact k1
set_option maxRecDepth 20000 in
set_option maxHeartbeats 8000000 in
theorem sg_X2_chooseHow_30 {E : Nat × (Nat → Int32)} {P : Option Value → Mem → Prop} {mem : Mem} {o : Nat} {o1 : Nat} {a2 : Int} {a3 : Int} (ho : o ∈ jobL) (ho1 : o1 ∈ streetL) (q1 : 0 ≤ a3 ∧ a3 < 3) (q2 : 0 ≤ (mem o 13) ∧ (mem o 13) < 3) (w3 : -2147483648 ≤ ((mem o 18) + (mem o 11)) ∧ ((mem o 18) + (mem o 11)) < 2147483648) (w4 : -2147483648 ≤ ((up2 mem (o + 5) a3 ((mem o 18) + (mem o 11))) (o + 5) (mem o 13)) ∧ ((up2 mem (o + 5) a3 ((mem o 18) + (mem o 11))) (o + 5) (mem o 13)) < 2147483648)
    (k1 : ((up2 mem (o + 5) a3 ((mem o 18) + (mem o 11))) (o + 5) (mem o 13)) ≤ ((mem o 18) + (mem o 11)) → GM E (m_X2_chooseHow 5) P 7 [.ref o, .ref o1, vi a2, vi (a3 + 1)] [] (up2 mem (o + 5) a3 ((mem o 18) + (mem o 11))))
    (k2 : ¬ ((up2 mem (o + 5) a3 ((mem o 18) + (mem o 11))) (o + 5) (mem o 13)) ≤ ((mem o 18) + (mem o 11)) → GM E (m_X2_chooseHow 5) P 7 [.ref o, .ref o1, vi a2, vi (a3 + 1)] [] (up2 (up2 mem (o + 5) a3 ((mem o 18) + (mem o 11))) o 13 a3)) :
    GM E (m_X2_chooseHow 5) P 30 [.ref o, .ref o1, vi a2, vi a3] [] mem := by
  refine G_aload_n dX2_chooseHow_30 rfl ?_
  refine G_getR (t := (o + 5)) dX2_chooseHow_31 fl_2_24 (ltJob0 ho) (shJob0 ho) (rrJob_6 ho) ?_
  refine G_iload_n dX2_chooseHow_34 rfl ?_
  refine G_aload_n dX2_chooseHow_35 rfl ?_
  refine cb_X2_chooseHow_36 ho (ic_X2_seconds (a := (mem o 18)) (b := (mem o 11)) ho rfl rfl ?_)
  refine G_iast (mem2 := (up2 mem (o + 5) a3 ((mem o 18) + (mem o 11)))) dX2_chooseHow_39 (ltJob5 ho) (shJob5 ho) (by decide) (q1).1 (q1).2 rfl ?_
  refine G_aload_n dX2_chooseHow_40 rfl ?_
  refine G_getR (t := (o + 5)) dX2_chooseHow_41 fl_2_24 (ltJob0 ho) (shJob0 ho) (rrJob_6 ho) ?_
  refine G_iload_n dX2_chooseHow_44 rfl ?_
  refine G_iald (z := ((mem o 18) + (mem o 11))) dX2_chooseHow_45 (ltJob5 ho) (shJob5 ho) (by decide) (q1).1 (q1).2 (by simp [up2, upr]) ?_
  refine G_aload_n dX2_chooseHow_46 rfl ?_
  refine G_getR (t := (o + 5)) dX2_chooseHow_47 fl_2_24 (ltJob0 ho) (shJob0 ho) (rrJob_6 ho) ?_
  refine G_aload_n dX2_chooseHow_50 rfl ?_
  refine G_getI (z := (mem o 13)) dX2_chooseHow_51 fl_2_116 (ltJob0 ho) (shJob0 ho) (by simp [up2, upr]) ?_
  refine G_iald (z := ((up2 mem (o + 5) a3 ((mem o 18) + (mem o 11))) (o + 5) (mem o 13))) dX2_chooseHow_54 (ltJob5 ho) (shJob5 ho) (by decide) (q2).1 (q2).2 (by simp [up2, upr]) ?_
  refine G_icmp_ge (tgt := 63) dX2_chooseHow_55 (by decide) (w3) (w4) (fun c1 => ?_) (fun c1 => ?_)
  · -- ((up2 mem (o + 5) a3 ((mem o 18) + (mem o 11))) (o + 5) (mem o 13)) ≤ ((mem o 18) + (mem o 11))
    refine G_iinc (z := (a3 + 1)) dX2_chooseHow_63 rfl rfl (by decide : 3 < 4) rfl ?_
    refine G_goto (tgt := 7) dX2_chooseHow_66 (by decide) ?_
    exact k1 c1
  · -- ¬ ((up2 mem (o + 5) a3 ((mem o 18) + (mem o 11))) (o + 5) (mem o 13)) ≤ ((mem o 18) + (mem o 11))
    refine G_aload_n dX2_chooseHow_58 rfl ?_
    refine G_iload_n dX2_chooseHow_59 rfl ?_
    refine G_putI (mem2 := (up2 (up2 mem (o + 5) a3 ((mem o 18) + (mem o 11))) o 13 a3)) dX2_chooseHow_60 fp_2_116 (ltJob0 ho) (shJob0 ho) rfl ?_
    refine G_iinc (z := (a3 + 1)) dX2_chooseHow_63 rfl rfl (by decide : 3 < 4) rfl ?_
    refine G_goto (tgt := 7) dX2_chooseHow_66 (by decide) ?_
    exact k2 c1
set_option maxRecDepth 20000 in
set_option maxHeartbeats 8000000 in
theorem sg_X2_go_0 {E : Nat × (Nat → Int32)} {P : Option Value → Mem → Prop} {mem : Mem} {o : Nat} {a1 : Int} {a2 : Int} (ho : o ∈ jobL)
    (k1 : GM E (m_X2_go 0) P 23 [.ref o, vi a1, vi a2, vi 0, vi 0, vi 0, un] [] (up2 (up2 (up2 mem o 14 0) o 15 0) o 16 0)) :
    GM E (m_X2_go 0) P 0 [.ref o, vi a1, vi a2, un, un, un, un] [] mem := by
  refine G_aload_n dX2_go_0 rfl ?_
  refine G_iconst (z := 0) dX2_go_1 rfl ?_
  refine G_putI (mem2 := (up2 mem o 14 0)) dX2_go_2 fp_2_101 (ltJob0 ho) (shJob0 ho) rfl ?_
  refine G_aload_n dX2_go_5 rfl ?_
  refine G_iconst (z := 0) dX2_go_6 rfl ?_
  refine G_putI (mem2 := (up2 (up2 mem o 14 0) o 15 0)) dX2_go_7 fp_2_104 (ltJob0 ho) (shJob0 ho) rfl ?_
  refine G_aload_n dX2_go_10 rfl ?_
  refine G_iconst (z := 0) dX2_go_11 rfl ?_
  refine G_putI (mem2 := (up2 (up2 (up2 mem o 14 0) o 15 0) o 16 0)) dX2_go_12 fp_2_107 (ltJob0 ho) (shJob0 ho) rfl ?_
  refine G_iconst (z := 0) dX2_go_15 rfl ?_
  refine G_istore_n dX2_go_16 rfl (by decide : 3 < 7) rfl ?_
  refine G_iconst (z := 0) dX2_go_17 rfl ?_
  refine G_istore dX2_go_18 (by decide : 4 < 7) rfl ?_
  refine G_iconst (z := 0) dX2_go_20 rfl ?_
  refine G_istore dX2_go_21 (by decide : 5 < 7) rfl ?_
  exact k1
set_option maxRecDepth 20000 in
set_option maxHeartbeats 8000000 in
theorem sg_X2_go_23 {E : Nat × (Nat → Int32)} {P : Option Value → Mem → Prop} {mem : Mem} {o : Nat} {a1 : Int} {a2 : Int} {a3 : Int} {a4 : Int} {a5 : Int} (ho : o ∈ jobL) (w1 : -2147483648 ≤ a5 ∧ a5 < 2147483648) (w2 : -2147483648 ≤ (mem o 10) ∧ (mem o 10) < 2147483648) (w3 : (mem o 10) ≤ a5 → -2147483648 ≤ (mem o 7) ∧ (mem o 7) < 2147483648) (z4 : (mem o 10) ≤ a5 → 1 ≤ (mem o 7) → (mem o 7) ≠ 0) (w5 : ¬ (mem o 10) ≤ a5 → 16 ≤ a5 → -2147483648 ≤ (mem o 7) ∧ (mem o 7) < 2147483648) (z6 : ¬ (mem o 10) ≤ a5 → 16 ≤ a5 → 1 ≤ (mem o 7) → (mem o 7) ≠ 0) (q7 : ¬ (mem o 10) ≤ a5 → ¬ 16 ≤ a5 → 0 ≤ a5 ∧ a5 < 16) (w8 : ¬ (mem o 10) ≤ a5 → ¬ 16 ≤ a5 → -2147483648 ≤ (mem (o + 3) a5) ∧ (mem (o + 3) a5) < 2147483648) (w9 : ¬ (mem o 10) ≤ a5 → ¬ 16 ≤ a5 → -2147483648 ≤ (mem o 9) ∧ (mem o 9) < 2147483648) (w10 : ¬ (mem o 10) ≤ a5 → ¬ 16 ≤ a5 → (mem (o + 3) a5) ≤ (mem o 9) → -2147483648 ≤ ((a1 + (mem o 16)) + (mem (o + 3) a5)) ∧ ((a1 + (mem o 16)) + (mem (o + 3) a5)) < 2147483648) (w11 : -2147483648 ≤ a2 ∧ a2 < 2147483648) (w12 : ¬ (mem o 10) ≤ a5 → ¬ 16 ≤ a5 → (mem (o + 3) a5) ≤ (mem o 9) → ¬ ((a1 + (mem o 16)) + (mem (o + 3) a5)) ≤ a2 → -2147483648 ≤ (mem o 7) ∧ (mem o 7) < 2147483648) (z13 : ¬ (mem o 10) ≤ a5 → ¬ 16 ≤ a5 → (mem (o + 3) a5) ≤ (mem o 9) → ¬ ((a1 + (mem o 16)) + (mem (o + 3) a5)) ≤ a2 → 1 ≤ (mem o 7) → (mem o 7) ≠ 0)
    (k1 : (mem o 10) ≤ a5 → P none (up2 (up2 mem o 17 ((mem o 10) - a4)) o 18 (if 1 ≤ (mem o 7) then (divI ((a3 + (mem o 7)) - 1) (mem o 7)) else a3)))
    (k2 : ¬ (mem o 10) ≤ a5 → 16 ≤ a5 → P none (up2 (up2 mem o 17 ((mem o 10) - a4)) o 18 (if 1 ≤ (mem o 7) then (divI ((a3 + (mem o 7)) - 1) (mem o 7)) else a3)))
    (k3 : ¬ (mem o 10) ≤ a5 → ¬ 16 ≤ a5 → (mem (o + 3) a5) ≤ (mem o 9) → ((a1 + (mem o 16)) + (mem (o + 3) a5)) ≤ a2 → GM E (m_X2_go 0) P 23 [.ref o, vi a1, vi a2, vi (a3 + (mem (o + 4) a5)), vi (a4 + 1), vi (a5 + 1), un] [] (up2 (up2 mem o 14 (borI (mem o 14) (shlI 1 (mem (o + 2) a5)))) o 16 ((mem o 16) + (mem (o + 3) a5))))
    (k4 : ¬ (mem o 10) ≤ a5 → ¬ 16 ≤ a5 → (mem (o + 3) a5) ≤ (mem o 9) → ¬ ((a1 + (mem o 16)) + (mem (o + 3) a5)) ≤ a2 → P none (up2 (up2 mem o 17 ((mem o 10) - a4)) o 18 (if 1 ≤ (mem o 7) then (divI ((a3 + (mem o 7)) - 1) (mem o 7)) else a3)))
    (k5 : ¬ (mem o 10) ≤ a5 → ¬ 16 ≤ a5 → ¬ (mem (o + 3) a5) ≤ (mem o 9) → GM E (m_X2_go 0) P 23 [.ref o, vi a1, vi a2, vi (a3 + (mem (o + 4) a5)), vi (a4 + 1), vi (a5 + 1), un] [] (up2 mem o 15 (borI (mem o 15) (shlI 1 (mem (o + 2) a5))))) :
    GM E (m_X2_go 0) P 23 [.ref o, vi a1, vi a2, vi a3, vi a4, vi a5, un] [] mem := by
  refine G_iload dX2_go_23 rfl ?_
  refine G_aload_n dX2_go_25 rfl ?_
  refine G_getI (z := (mem o 10)) dX2_go_26 fl_2_48 (ltJob0 ho) (shJob0 ho) rfl ?_
  refine G_icmp_ge (tgt := 168) dX2_go_29 (by decide) (w1) (w2) (fun c1 => ?_) (fun c1 => ?_)
  · -- (mem o 10) ≤ a5
    refine G_aload_n dX2_go_168 rfl ?_
    refine G_aload_n dX2_go_169 rfl ?_
    refine G_getI (z := (mem o 10)) dX2_go_170 fl_2_48 (ltJob0 ho) (shJob0 ho) rfl ?_
    refine G_iload dX2_go_173 rfl ?_
    refine G_isub dX2_go_175 ?_
    refine G_putI (mem2 := (up2 mem o 17 ((mem o 10) - a4))) dX2_go_176 fp_2_110 (ltJob0 ho) (shJob0 ho) rfl ?_
    refine G_aload_n dX2_go_179 rfl ?_
    refine G_aload_n dX2_go_180 rfl ?_
    refine G_getI (z := (mem o 7)) dX2_go_181 fl_2_27 (ltJob0 ho) (shJob0 ho) (by simp [up2, upr]) ?_
    refine G_iconst (z := 1) dX2_go_184 rfl ?_
    have j1 : GM E (m_X2_go 0) P 205 [.ref o, vi a1, vi a2, vi a3, vi a4, vi a5, un] [vi (if 1 ≤ (mem o 7) then (divI ((a3 + (mem o 7)) - 1) (mem o 7)) else a3), .ref o] (up2 mem o 17 ((mem o 10) - a4)) := by
      refine G_putI (mem2 := (up2 (up2 mem o 17 ((mem o 10) - a4)) o 18 (if 1 ≤ (mem o 7) then (divI ((a3 + (mem o 7)) - 1) (mem o 7)) else a3))) dX2_go_205 fp_2_113 (ltJob0 ho) (shJob0 ho) rfl ?_
      exact G_vret dX2_go_208 rfl (Nat.zero_le _) (Nat.zero_le _) (Nat.le_refl _) ⟨rfl, k1 c1⟩
    refine G_icmp_ge (tgt := 192) dX2_go_185 (by decide) (w3 c1) (by decide) (fun c2 => ?_) (fun c2 => ?_)
    · -- 1 ≤ (mem o 7)
      refine G_iload_n dX2_go_192 rfl ?_
      refine G_aload_n dX2_go_193 rfl ?_
      refine G_getI (z := (mem o 7)) dX2_go_194 fl_2_27 (ltJob0 ho) (shJob0 ho) (by simp [up2, upr]) ?_
      refine G_iadd dX2_go_197 ?_
      refine G_iconst (z := 1) dX2_go_198 rfl ?_
      refine G_isub dX2_go_199 ?_
      refine G_aload_n dX2_go_200 rfl ?_
      refine G_getI (z := (mem o 7)) dX2_go_201 fl_2_27 (ltJob0 ho) (shJob0 ho) (by simp [up2, upr]) ?_
      refine G_idiv (z := (divI ((a3 + (mem o 7)) - 1) (mem o 7))) dX2_go_204 (iI_ne0 (w3 c1) (z4 c1 c2)) (iI_inv _) ?_
      have qj1 := j1
      simp only [if_pos c2] at qj1
      exact qj1
    · -- ¬ 1 ≤ (mem o 7)
      refine G_iload_n dX2_go_188 rfl ?_
      refine G_goto (tgt := 205) dX2_go_189 (by decide) ?_
      have qj1 := j1
      simp only [if_neg c2] at qj1
      exact qj1
  · -- ¬ (mem o 10) ≤ a5
    refine G_iload dX2_go_32 rfl ?_
    refine G_aload_n dX2_go_34 rfl ?_
    refine G_getR (t := (o + 2)) dX2_go_35 fl_2_15 (ltJob0 ho) (shJob0 ho) (rrJob_3 ho) ?_
    refine G_alen (z := 16) dX2_go_38 (ltJob2 ho) (shJob2 ho) (by decide) rfl ?_
    refine G_icmp_ge (tgt := 168) dX2_go_39 (by decide) (w1) (by decide) (fun c3 => ?_) (fun c3 => ?_)
    · -- 16 ≤ a5
      refine G_aload_n dX2_go_168 rfl ?_
      refine G_aload_n dX2_go_169 rfl ?_
      refine G_getI (z := (mem o 10)) dX2_go_170 fl_2_48 (ltJob0 ho) (shJob0 ho) rfl ?_
      refine G_iload dX2_go_173 rfl ?_
      refine G_isub dX2_go_175 ?_
      refine G_putI (mem2 := (up2 mem o 17 ((mem o 10) - a4))) dX2_go_176 fp_2_110 (ltJob0 ho) (shJob0 ho) rfl ?_
      refine G_aload_n dX2_go_179 rfl ?_
      refine G_aload_n dX2_go_180 rfl ?_
      refine G_getI (z := (mem o 7)) dX2_go_181 fl_2_27 (ltJob0 ho) (shJob0 ho) (by simp [up2, upr]) ?_
      refine G_iconst (z := 1) dX2_go_184 rfl ?_
      have j2 : GM E (m_X2_go 0) P 205 [.ref o, vi a1, vi a2, vi a3, vi a4, vi a5, un] [vi (if 1 ≤ (mem o 7) then (divI ((a3 + (mem o 7)) - 1) (mem o 7)) else a3), .ref o] (up2 mem o 17 ((mem o 10) - a4)) := by
        refine G_putI (mem2 := (up2 (up2 mem o 17 ((mem o 10) - a4)) o 18 (if 1 ≤ (mem o 7) then (divI ((a3 + (mem o 7)) - 1) (mem o 7)) else a3))) dX2_go_205 fp_2_113 (ltJob0 ho) (shJob0 ho) rfl ?_
        exact G_vret dX2_go_208 rfl (Nat.zero_le _) (Nat.zero_le _) (Nat.le_refl _) ⟨rfl, k2 c1 c3⟩
      refine G_icmp_ge (tgt := 192) dX2_go_185 (by decide) (w5 c1 c3) (by decide) (fun c4 => ?_) (fun c4 => ?_)
      · -- 1 ≤ (mem o 7)
        refine G_iload_n dX2_go_192 rfl ?_
        refine G_aload_n dX2_go_193 rfl ?_
        refine G_getI (z := (mem o 7)) dX2_go_194 fl_2_27 (ltJob0 ho) (shJob0 ho) (by simp [up2, upr]) ?_
        refine G_iadd dX2_go_197 ?_
        refine G_iconst (z := 1) dX2_go_198 rfl ?_
        refine G_isub dX2_go_199 ?_
        refine G_aload_n dX2_go_200 rfl ?_
        refine G_getI (z := (mem o 7)) dX2_go_201 fl_2_27 (ltJob0 ho) (shJob0 ho) (by simp [up2, upr]) ?_
        refine G_idiv (z := (divI ((a3 + (mem o 7)) - 1) (mem o 7))) dX2_go_204 (iI_ne0 (w5 c1 c3) (z6 c1 c3 c4)) (iI_inv _) ?_
        have qj2 := j2
        simp only [if_pos c4] at qj2
        exact qj2
      · -- ¬ 1 ≤ (mem o 7)
        refine G_iload_n dX2_go_188 rfl ?_
        refine G_goto (tgt := 205) dX2_go_189 (by decide) ?_
        have qj2 := j2
        simp only [if_neg c4] at qj2
        exact qj2
    · -- ¬ 16 ≤ a5
      refine G_aload_n dX2_go_42 rfl ?_
      refine G_getR (t := (o + 3)) dX2_go_43 fl_2_18 (ltJob0 ho) (shJob0 ho) (rrJob_4 ho) ?_
      refine G_iload dX2_go_46 rfl ?_
      refine G_iald (z := (mem (o + 3) a5)) dX2_go_48 (ltJob3 ho) (shJob3 ho) (by decide) (q7 c1 c3).1 (q7 c1 c3).2 rfl ?_
      refine G_aload_n dX2_go_49 rfl ?_
      refine G_getI (z := (mem o 9)) dX2_go_50 fl_2_60 (ltJob0 ho) (shJob0 ho) rfl ?_
      refine G_icmp_le (tgt := 60) dX2_go_53 (by decide) (w8 c1 c3) (w9 c1 c3) (fun c5 => ?_) (fun c5 => ?_)
      · -- (mem (o + 3) a5) ≤ (mem o 9)
        refine G_iconst (z := 0) dX2_go_60 rfl ?_
        refine G_istore dX2_go_61 (by decide : 6 < 7) rfl ?_
        refine G_iload dX2_go_63 rfl ?_
        refine G_if_ne (tgt := 89) dX2_go_65 (by decide) (by decide) (fun h => absurd h (by decide)) (fun _ => ?_)
        refine G_iload_n dX2_go_68 rfl ?_
        refine G_aload_n dX2_go_69 rfl ?_
        refine G_getI (z := (mem o 16)) dX2_go_70 fl_2_107 (ltJob0 ho) (shJob0 ho) rfl ?_
        refine G_iadd dX2_go_73 ?_
        refine G_aload_n dX2_go_74 rfl ?_
        refine G_getR (t := (o + 3)) dX2_go_75 fl_2_18 (ltJob0 ho) (shJob0 ho) (rrJob_4 ho) ?_
        refine G_iload dX2_go_78 rfl ?_
        refine G_iald (z := (mem (o + 3) a5)) dX2_go_80 (ltJob3 ho) (shJob3 ho) (by decide) (q7 c1 c3).1 (q7 c1 c3).2 rfl ?_
        refine G_iadd dX2_go_81 ?_
        refine G_iload_n dX2_go_82 rfl ?_
        refine G_icmp_le (tgt := 89) dX2_go_83 (by decide) (w10 c1 c3 c5) (w11) (fun c6 => ?_) (fun c6 => ?_)
        · -- ((a1 + (mem o 16)) + (mem (o + 3) a5)) ≤ a2
          refine G_iload dX2_go_89 rfl ?_
          refine G_if_eq (tgt := 115) dX2_go_91 (by decide) (by decide) (fun _ => ?_) (fun h => absurd h (by decide))
          refine G_aload_n dX2_go_115 rfl ?_
          refine G_dup dX2_go_116 rfl ?_
          refine G_getI (z := (mem o 14)) dX2_go_117 fl_2_101 (ltJob0 ho) (shJob0 ho) rfl ?_
          refine G_iconst (z := 1) dX2_go_120 rfl ?_
          refine G_aload_n dX2_go_121 rfl ?_
          refine G_getR (t := (o + 2)) dX2_go_122 fl_2_15 (ltJob0 ho) (shJob0 ho) (rrJob_3 ho) ?_
          refine G_iload dX2_go_125 rfl ?_
          refine G_iald (z := (mem (o + 2) a5)) dX2_go_127 (ltJob2 ho) (shJob2 ho) (by decide) (q7 c1 c3).1 (q7 c1 c3).2 rfl ?_
          refine G_ishl (z := (shlI 1 (mem (o + 2) a5))) dX2_go_128 (iI_inv _) ?_
          refine G_ior (z := (borI (mem o 14) (shlI 1 (mem (o + 2) a5)))) dX2_go_129 (iI_inv _) ?_
          refine G_putI (mem2 := (up2 mem o 14 (borI (mem o 14) (shlI 1 (mem (o + 2) a5))))) dX2_go_130 fp_2_101 (ltJob0 ho) (shJob0 ho) rfl ?_
          refine G_aload_n dX2_go_133 rfl ?_
          refine G_dup dX2_go_134 rfl ?_
          refine G_getI (z := (mem o 16)) dX2_go_135 fl_2_107 (ltJob0 ho) (shJob0 ho) (by simp [up2, upr]) ?_
          refine G_aload_n dX2_go_138 rfl ?_
          refine G_getR (t := (o + 3)) dX2_go_139 fl_2_18 (ltJob0 ho) (shJob0 ho) (rrJob_4 ho) ?_
          refine G_iload dX2_go_142 rfl ?_
          refine G_iald (z := (mem (o + 3) a5)) dX2_go_144 (ltJob3 ho) (shJob3 ho) (by decide) (q7 c1 c3).1 (q7 c1 c3).2 (by simp [up2, upr]) ?_
          refine G_iadd dX2_go_145 ?_
          refine G_putI (mem2 := (up2 (up2 mem o 14 (borI (mem o 14) (shlI 1 (mem (o + 2) a5)))) o 16 ((mem o 16) + (mem (o + 3) a5)))) dX2_go_146 fp_2_107 (ltJob0 ho) (shJob0 ho) rfl ?_
          refine G_iload_n dX2_go_149 rfl ?_
          refine G_aload_n dX2_go_150 rfl ?_
          refine G_getR (t := (o + 4)) dX2_go_151 fl_2_21 (ltJob0 ho) (shJob0 ho) (rrJob_5 ho) ?_
          refine G_iload dX2_go_154 rfl ?_
          refine G_iald (z := (mem (o + 4) a5)) dX2_go_156 (ltJob4 ho) (shJob4 ho) (by decide) (q7 c1 c3).1 (q7 c1 c3).2 (by simp [up2, upr]) ?_
          refine G_iadd dX2_go_157 ?_
          refine G_istore_n dX2_go_158 rfl (by decide : 3 < 7) rfl ?_
          refine G_iinc (z := (a4 + 1)) dX2_go_159 rfl rfl (by decide : 4 < 7) rfl ?_
          refine G_iinc (z := (a5 + 1)) dX2_go_162 rfl rfl (by decide : 5 < 7) rfl ?_
          refine G_goto (tgt := 23) dX2_go_165 (by decide) ?_
          refine G_weak (lv2 := [.ref o, vi a1, vi a2, vi (a3 + (mem (o + 4) a5)), vi (a4 + 1), vi (a5 + 1), un]) ⟨Or.inr rfl, Or.inr rfl, Or.inr rfl, Or.inr rfl, Or.inr rfl, Or.inr rfl, Or.inl rfl, trivial⟩ ?_
          exact k3 c1 c3 c5 c6
        · -- ¬ ((a1 + (mem o 16)) + (mem (o + 3) a5)) ≤ a2
          refine G_goto (tgt := 168) dX2_go_86 (by decide) ?_
          refine G_aload_n dX2_go_168 rfl ?_
          refine G_aload_n dX2_go_169 rfl ?_
          refine G_getI (z := (mem o 10)) dX2_go_170 fl_2_48 (ltJob0 ho) (shJob0 ho) rfl ?_
          refine G_iload dX2_go_173 rfl ?_
          refine G_isub dX2_go_175 ?_
          refine G_putI (mem2 := (up2 mem o 17 ((mem o 10) - a4))) dX2_go_176 fp_2_110 (ltJob0 ho) (shJob0 ho) rfl ?_
          refine G_aload_n dX2_go_179 rfl ?_
          refine G_aload_n dX2_go_180 rfl ?_
          refine G_getI (z := (mem o 7)) dX2_go_181 fl_2_27 (ltJob0 ho) (shJob0 ho) (by simp [up2, upr]) ?_
          refine G_iconst (z := 1) dX2_go_184 rfl ?_
          have j3 : GM E (m_X2_go 0) P 205 [.ref o, vi a1, vi a2, vi a3, vi a4, vi a5, vi 0] [vi (if 1 ≤ (mem o 7) then (divI ((a3 + (mem o 7)) - 1) (mem o 7)) else a3), .ref o] (up2 mem o 17 ((mem o 10) - a4)) := by
            refine G_putI (mem2 := (up2 (up2 mem o 17 ((mem o 10) - a4)) o 18 (if 1 ≤ (mem o 7) then (divI ((a3 + (mem o 7)) - 1) (mem o 7)) else a3))) dX2_go_205 fp_2_113 (ltJob0 ho) (shJob0 ho) rfl ?_
            exact G_vret dX2_go_208 rfl (Nat.zero_le _) (Nat.zero_le _) (Nat.le_refl _) ⟨rfl, k4 c1 c3 c5 c6⟩
          refine G_icmp_ge (tgt := 192) dX2_go_185 (by decide) (w12 c1 c3 c5 c6) (by decide) (fun c7 => ?_) (fun c7 => ?_)
          · -- 1 ≤ (mem o 7)
            refine G_iload_n dX2_go_192 rfl ?_
            refine G_aload_n dX2_go_193 rfl ?_
            refine G_getI (z := (mem o 7)) dX2_go_194 fl_2_27 (ltJob0 ho) (shJob0 ho) (by simp [up2, upr]) ?_
            refine G_iadd dX2_go_197 ?_
            refine G_iconst (z := 1) dX2_go_198 rfl ?_
            refine G_isub dX2_go_199 ?_
            refine G_aload_n dX2_go_200 rfl ?_
            refine G_getI (z := (mem o 7)) dX2_go_201 fl_2_27 (ltJob0 ho) (shJob0 ho) (by simp [up2, upr]) ?_
            refine G_idiv (z := (divI ((a3 + (mem o 7)) - 1) (mem o 7))) dX2_go_204 (iI_ne0 (w12 c1 c3 c5 c6) (z13 c1 c3 c5 c6 c7)) (iI_inv _) ?_
            have qj3 := j3
            simp only [if_pos c7] at qj3
            exact qj3
          · -- ¬ 1 ≤ (mem o 7)
            refine G_iload_n dX2_go_188 rfl ?_
            refine G_goto (tgt := 205) dX2_go_189 (by decide) ?_
            have qj3 := j3
            simp only [if_neg c7] at qj3
            exact qj3
      · -- ¬ (mem (o + 3) a5) ≤ (mem o 9)
        refine G_iconst (z := 1) dX2_go_56 rfl ?_
        refine G_goto (tgt := 61) dX2_go_57 (by decide) ?_
        refine G_istore dX2_go_61 (by decide : 6 < 7) rfl ?_
        refine G_iload dX2_go_63 rfl ?_
        refine G_if_ne (tgt := 89) dX2_go_65 (by decide) (by decide) (fun _ => ?_) (fun h => absurd h (by decide))
        refine G_iload dX2_go_89 rfl ?_
        refine G_if_eq (tgt := 115) dX2_go_91 (by decide) (by decide) (fun h => absurd h (by decide)) (fun _ => ?_)
        refine G_aload_n dX2_go_94 rfl ?_
        refine G_dup dX2_go_95 rfl ?_
        refine G_getI (z := (mem o 15)) dX2_go_96 fl_2_104 (ltJob0 ho) (shJob0 ho) rfl ?_
        refine G_iconst (z := 1) dX2_go_99 rfl ?_
        refine G_aload_n dX2_go_100 rfl ?_
        refine G_getR (t := (o + 2)) dX2_go_101 fl_2_15 (ltJob0 ho) (shJob0 ho) (rrJob_3 ho) ?_
        refine G_iload dX2_go_104 rfl ?_
        refine G_iald (z := (mem (o + 2) a5)) dX2_go_106 (ltJob2 ho) (shJob2 ho) (by decide) (q7 c1 c3).1 (q7 c1 c3).2 rfl ?_
        refine G_ishl (z := (shlI 1 (mem (o + 2) a5))) dX2_go_107 (iI_inv _) ?_
        refine G_ior (z := (borI (mem o 15) (shlI 1 (mem (o + 2) a5)))) dX2_go_108 (iI_inv _) ?_
        refine G_putI (mem2 := (up2 mem o 15 (borI (mem o 15) (shlI 1 (mem (o + 2) a5))))) dX2_go_109 fp_2_104 (ltJob0 ho) (shJob0 ho) rfl ?_
        refine G_goto (tgt := 149) dX2_go_112 (by decide) ?_
        refine G_iload_n dX2_go_149 rfl ?_
        refine G_aload_n dX2_go_150 rfl ?_
        refine G_getR (t := (o + 4)) dX2_go_151 fl_2_21 (ltJob0 ho) (shJob0 ho) (rrJob_5 ho) ?_
        refine G_iload dX2_go_154 rfl ?_
        refine G_iald (z := (mem (o + 4) a5)) dX2_go_156 (ltJob4 ho) (shJob4 ho) (by decide) (q7 c1 c3).1 (q7 c1 c3).2 (by simp [up2, upr]) ?_
        refine G_iadd dX2_go_157 ?_
        refine G_istore_n dX2_go_158 rfl (by decide : 3 < 7) rfl ?_
        refine G_iinc (z := (a4 + 1)) dX2_go_159 rfl rfl (by decide : 4 < 7) rfl ?_
        refine G_iinc (z := (a5 + 1)) dX2_go_162 rfl rfl (by decide : 5 < 7) rfl ?_
        refine G_goto (tgt := 23) dX2_go_165 (by decide) ?_
        refine G_weak (lv2 := [.ref o, vi a1, vi a2, vi (a3 + (mem (o + 4) a5)), vi (a4 + 1), vi (a5 + 1), un]) ⟨Or.inr rfl, Or.inr rfl, Or.inr rfl, Or.inr rfl, Or.inr rfl, Or.inr rfl, Or.inl rfl, trivial⟩ ?_
        exact k5 c1 c3 c5
set_option maxRecDepth 20000 in
set_option maxHeartbeats 8000000 in
theorem sg_X2_houseAt_0 {E : Nat × (Nat → Int32)} {P : Option Value → Mem → Prop} {mem : Mem} {o0 : Nat} {a1 : Int} {a2 : Int} (ho0 : o0 ∈ streetL) (w1 : -2147483648 ≤ a2 ∧ a2 < 2147483648) (w2 : -2147483648 ≤ ((2 * (mem o0 3)) - 1) ∧ ((2 * (mem o0 3)) - 1) < 2147483648) (w3 : -2147483648 ≤ a1 ∧ a1 < 2147483648) (w4 : a2 ≤ ((2 * (mem o0 3)) - 1) → a1 = 0 → -2147483648 ≤ (mem o0 3) ∧ (mem o0 3) < 2147483648)
    (k1 : a2 ≤ ((2 * (mem o0 3)) - 1) → a1 = 0 → P (some (vi (if (mem o0 3) ≤ a2 then ((8 + ((2 * (mem o0 3)) - 1)) - a2) else a2))) mem)
    (k2 : a2 ≤ ((2 * (mem o0 3)) - 1) → ¬ a1 = 0 → P (some (vi (((remI a2 2) * 8) + (divI a2 2)))) mem)
    (k3 : ¬ a2 ≤ ((2 * (mem o0 3)) - 1) → P (some (vi (-1))) mem) :
    GM E (m_X2_houseAt 0) P 0 [.ref o0, vi a1, vi a2, un] [] mem := by
  refine G_iconst (z := 2) dX2_houseAt_0 rfl ?_
  refine G_aload_n dX2_houseAt_1 rfl ?_
  refine G_getI (z := (mem o0 3)) dX2_houseAt_2 fl_2_85 (ltStreet0 ho0) (shStreet0 ho0) rfl ?_
  refine G_imul dX2_houseAt_5 ?_
  refine G_iconst (z := 1) dX2_houseAt_6 rfl ?_
  refine G_isub dX2_houseAt_7 ?_
  refine G_istore_n dX2_houseAt_8 rfl (by decide : 3 < 4) rfl ?_
  refine G_iload_n dX2_houseAt_9 rfl ?_
  refine G_iload_n dX2_houseAt_10 rfl ?_
  refine G_icmp_le (tgt := 16) dX2_houseAt_11 (by decide) (w1) (w2) (fun c1 => ?_) (fun c1 => ?_)
  · -- a2 ≤ ((2 * (mem o0 3)) - 1)
    refine G_iload_n dX2_houseAt_16 rfl ?_
    refine G_if_eq (tgt := 31) dX2_houseAt_17 (by decide) (w3) (fun c2 => ?_) (fun c2 => ?_)
    · -- a1 = 0
      refine G_iload_n dX2_houseAt_31 rfl ?_
      refine G_aload_n dX2_houseAt_32 rfl ?_
      refine G_getI (z := (mem o0 3)) dX2_houseAt_33 fl_2_85 (ltStreet0 ho0) (shStreet0 ho0) rfl ?_
      have j1 : GM E (m_X2_houseAt 0) P 49 [.ref o0, vi a1, vi a2, vi ((2 * (mem o0 3)) - 1)] [vi (if (mem o0 3) ≤ a2 then ((8 + ((2 * (mem o0 3)) - 1)) - a2) else a2)] mem := by
        exact G_iret dX2_houseAt_49 rfl (Nat.zero_le _) (Nat.zero_le _) (Nat.le_refl _) ⟨rfl, k1 c1 c2⟩
      refine G_icmp_ge (tgt := 43) dX2_houseAt_36 (by decide) (w1) (w4 c1 c2) (fun c3 => ?_) (fun c3 => ?_)
      · -- (mem o0 3) ≤ a2
        refine G_bipush (z := 8) dX2_houseAt_43 rfl ?_
        refine G_iload_n dX2_houseAt_45 rfl ?_
        refine G_iadd dX2_houseAt_46 ?_
        refine G_iload_n dX2_houseAt_47 rfl ?_
        refine G_isub dX2_houseAt_48 ?_
        have qj1 := j1
        simp only [if_pos c3] at qj1
        exact qj1
      · -- ¬ (mem o0 3) ≤ a2
        refine G_iload_n dX2_houseAt_39 rfl ?_
        refine G_goto (tgt := 49) dX2_houseAt_40 (by decide) ?_
        have qj1 := j1
        simp only [if_neg c3] at qj1
        exact qj1
    · -- ¬ a1 = 0
      refine G_iload_n dX2_houseAt_20 rfl ?_
      refine G_iconst (z := 2) dX2_houseAt_21 rfl ?_
      refine G_irem (z := (remI a2 2)) dX2_houseAt_22 (iI_ne0 (by decide) (by decide)) (iI_inv _) ?_
      refine G_bipush (z := 8) dX2_houseAt_23 rfl ?_
      refine G_imul dX2_houseAt_25 ?_
      refine G_iload_n dX2_houseAt_26 rfl ?_
      refine G_iconst (z := 2) dX2_houseAt_27 rfl ?_
      refine G_idiv (z := (divI a2 2)) dX2_houseAt_28 (iI_ne0 (by decide) (by decide)) (iI_inv _) ?_
      refine G_iadd dX2_houseAt_29 ?_
      exact G_iret dX2_houseAt_30 rfl (Nat.zero_le _) (Nat.zero_le _) (Nat.le_refl _) ⟨rfl, k2 c1 c2⟩
  · -- ¬ a2 ≤ ((2 * (mem o0 3)) - 1)
    refine G_iconst (z := (-1)) dX2_houseAt_14 rfl ?_
    exact G_iret dX2_houseAt_15 rfl (Nat.zero_le _) (Nat.zero_le _) (Nat.le_refl _) ⟨rfl, k3 c1⟩
set_option maxRecDepth 20000 in
set_option maxHeartbeats 8000000 in
theorem sg_X2_lay_0 {E : Nat × (Nat → Int32)} {P : Option Value → Mem → Prop} {mem : Mem} {o : Nat} {o1 : Nat} {a2 : Int} {a3 : Int} (ho : o ∈ jobL) (ho1 : o1 ∈ streetL)
    (k1 : GM E (m_X2_lay 4) P 25 [.ref o, .ref o1, vi a2, vi a3, vi 0, un, un, un, un] [] (up2 (up2 (up2 mem o 10 0) o 12 0) o 9 ((up2 (up2 mem o 10 0) o 12 0) 4 4))) :
    GM E (m_X2_lay 4) P 0 [.ref o, .ref o1, vi a2, vi a3, un, un, un, un, un] [] mem := by
  refine G_aload_n dX2_lay_0 rfl ?_
  refine G_iconst (z := 0) dX2_lay_1 rfl ?_
  refine G_putI (mem2 := (up2 mem o 10 0)) dX2_lay_2 fp_2_48 (ltJob0 ho) (shJob0 ho) rfl ?_
  refine G_aload_n dX2_lay_5 rfl ?_
  refine G_iconst (z := 0) dX2_lay_6 rfl ?_
  refine G_putI (mem2 := (up2 (up2 mem o 10 0) o 12 0)) dX2_lay_7 fp_2_51 (ltJob0 ho) (shJob0 ho) rfl ?_
  refine G_aload_n dX2_lay_10 rfl ?_
  refine G_aload_n dX2_lay_11 rfl ?_
  refine G_getR (t := 3) dX2_lay_12 fl_2_31 (ltJob0 ho) (shJob0 ho) (rrJob_0 ho) ?_
  refine G_iconst (z := 4) dX2_lay_15 rfl ?_
  refine cb_X2_lay_16 (ic_X6_get (z := ((up2 (up2 mem o 10 0) o 12 0) 4 4)) (by decide) (by simp [up2, upr]) ?_)
  refine G_putI (mem2 := (up2 (up2 (up2 mem o 10 0) o 12 0) o 9 ((up2 (up2 mem o 10 0) o 12 0) 4 4))) dX2_lay_19 fp_2_60 (ltJob0 ho) (shJob0 ho) rfl ?_
  refine G_iconst (z := 0) dX2_lay_22 rfl ?_
  refine G_istore dX2_lay_23 (by decide : 4 < 9) rfl ?_
  exact k1
set_option maxRecDepth 20000 in
set_option maxHeartbeats 8000000 in
theorem sg_X2_lay_25 {E : Nat × (Nat → Int32)} {P : Option Value → Mem → Prop} {mem : Mem} {o : Nat} {o1 : Nat} {a2 : Int} {a3 : Int} {a4 : Int} (ho : o ∈ jobL) (ho1 : o1 ∈ streetL) (w1 : -2147483648 ≤ a4 ∧ a4 < 2147483648)
    (k1 : 16 ≤ a4 → GM E (m_X2_lay 4) P 229 [.ref o, .ref o1, vi a2, vi a3, vi a4, un, un, un, un] [vi a2, .ref o1, .ref o] mem)
    (k2 : ¬ 16 ≤ a4 → GM E (m_X2_lay 4) P 36 [.ref o, .ref o1, vi a2, vi a3, vi a4, un, un, un, un] [vi a4, vi a2, .ref o1] mem) :
    GM E (m_X2_lay 4) P 25 [.ref o, .ref o1, vi a2, vi a3, vi a4, un, un, un, un] [] mem := by
  refine G_iload dX2_lay_25 rfl ?_
  refine G_bipush (z := 16) dX2_lay_27 rfl ?_
  refine G_icmp_ge (tgt := 226) dX2_lay_29 (by decide) (w1) (by decide) (fun c1 => ?_) (fun c1 => ?_)
  · -- 16 ≤ a4
    refine G_aload_n dX2_lay_226 rfl ?_
    refine G_aload_n dX2_lay_227 rfl ?_
    refine G_iload_n dX2_lay_228 rfl ?_
    exact k1 c1
  · -- ¬ 16 ≤ a4
    refine G_aload_n dX2_lay_32 rfl ?_
    refine G_iload_n dX2_lay_33 rfl ?_
    refine G_iload dX2_lay_34 rfl ?_
    exact k2 c1
set_option maxRecDepth 20000 in
set_option maxHeartbeats 8000000 in
theorem sg_X2_lay_39 {E : Nat × (Nat → Int32)} {P : Option Value → Mem → Prop} {mem : Mem} {o : Nat} {o1 : Nat} {a2 : Int} {a3 : Int} {a4 : Int} {s0 : Int} (ho : o ∈ jobL) (ho1 : o1 ∈ streetL) (w1 : -2147483648 ≤ s0 ∧ s0 < 2147483648) (w2 : ¬ s0 < 0 → ¬ (bandI (shrI a3 s0) 1) = 0 → -2147483648 ≤ (mem o 10) ∧ (mem o 10) < 2147483648) (q3 : ¬ s0 < 0 → ¬ (bandI (shrI a3 s0) 1) = 0 → ¬ 16 ≤ (mem o 10) → 0 ≤ s0 ∧ s0 < 16) (w4 : -2147483648 ≤ a2 ∧ a2 < 2147483648) (q5 : ¬ s0 < 0 → ¬ (bandI (shrI a3 s0) 1) = 0 → ¬ 16 ≤ (mem o 10) → 0 ≤ (mem o 10) ∧ (mem o 10) < 16) (w6 : ¬ s0 < 0 → ¬ (bandI (shrI a3 s0) 1) = 0 → ¬ 16 ≤ (mem o 10) → -2147483648 ≤ (mem o 9) ∧ (mem o 9) < 2147483648)
    (k1 : s0 < 0 → GM E (m_X2_lay 4) P 25 [.ref o, .ref o1, vi a2, vi a3, vi (a4 + 1), un, un, un, un] [] mem)
    (k2 : ¬ s0 < 0 → (bandI (shrI a3 s0) 1) = 0 → GM E (m_X2_lay 4) P 25 [.ref o, .ref o1, vi a2, vi a3, vi (a4 + 1), un, un, un, un] [] mem)
    (k3 : ¬ s0 < 0 → ¬ (bandI (shrI a3 s0) 1) = 0 → 16 ≤ (mem o 10) → GM E (m_X2_lay 4) P 25 [.ref o, .ref o1, vi a2, vi a3, vi (a4 + 1), un, un, un, un] [] mem)
    (k4 : ¬ s0 < 0 → ¬ (bandI (shrI a3 s0) 1) = 0 → ¬ 16 ≤ (mem o 10) → (divI (((mem (o1 + 1) s0) * (mem 4 3)) * (10 + (mem 4 2))) 10) ≤ (mem o 9) → GM E (m_X2_lay 4) P 174 [.ref o, .ref o1, vi a2, vi a3, vi a4, vi s0, vi (divI (((mem (o1 + 1) s0) * (mem 4 3)) * (10 + (mem 4 2))) 10), vi (if a2 ≠ 2 then (0 : Int) else ((remI s0 8) + 1)), vi (if a2 ≠ 1 then (0 : Int) else (if s0 < 8 then (0 : Int) else (11 : Int)))] [vi (if a2 ≠ 2 then (0 : Int) else ((remI s0 8) + 1)), vi s0, .ref o1, .ref o, vi (mem o 10), .ref (o + 4)] (up2 (up2 mem (o + 2) (mem o 10) s0) (o + 3) (mem o 10) (divI (((mem (o1 + 1) s0) * (mem 4 3)) * (10 + (mem 4 2))) 10)))
    (k5 : ¬ s0 < 0 → ¬ (bandI (shrI a3 s0) 1) = 0 → ¬ 16 ≤ (mem o 10) → ¬ (divI (((mem (o1 + 1) s0) * (mem 4 3)) * (10 + (mem 4 2))) 10) ≤ (mem o 9) → GM E (m_X2_lay 4) P 25 [.ref o, .ref o1, vi a2, vi a3, vi (a4 + 1), un, un, un, un] [] (up2 (up2 (up2 (up2 (up2 mem (o + 2) (mem o 10) s0) (o + 3) (mem o 10) (divI (((mem (o1 + 1) s0) * (mem 4 3)) * (10 + (mem 4 2))) 10)) (o + 4) (mem o 10) 3) o 12 ((mem o 12) + (if (divI (((mem (o1 + 1) s0) * (mem 4 3)) * (10 + (mem 4 2))) 10) ≤ (mem o 9) then (divI (((mem (o1 + 1) s0) * (mem 4 3)) * (10 + (mem 4 2))) 10) else (0 : Int)))) o 10 ((mem o 10) + 1))) :
    GM E (m_X2_lay 4) P 39 [.ref o, .ref o1, vi a2, vi a3, vi a4, un, un, un, un] [vi s0] mem := by
  refine G_istore dX2_lay_39 (by decide : 5 < 9) rfl ?_
  refine G_iload dX2_lay_41 rfl ?_
  refine G_if_lt (tgt := 220) dX2_lay_43 (by decide) (w1) (fun c1 => ?_) (fun c1 => ?_)
  · -- s0 < 0
    refine G_iinc (z := (a4 + 1)) dX2_lay_220 rfl rfl (by decide : 4 < 9) rfl ?_
    refine G_goto (tgt := 25) dX2_lay_223 (by decide) ?_
    refine G_weak (lv2 := [.ref o, .ref o1, vi a2, vi a3, vi (a4 + 1), un, un, un, un]) ⟨Or.inr rfl, Or.inr rfl, Or.inr rfl, Or.inr rfl, Or.inr rfl, Or.inl rfl, Or.inr rfl, Or.inr rfl, Or.inr rfl, trivial⟩ ?_
    exact k1 c1
  · -- ¬ s0 < 0
    refine G_iload_n dX2_lay_46 rfl ?_
    refine G_iload dX2_lay_47 rfl ?_
    refine G_ishr (z := (shrI a3 s0)) dX2_lay_49 (iI_inv _) ?_
    refine G_iconst (z := 1) dX2_lay_50 rfl ?_
    refine G_iand (z := (bandI (shrI a3 s0) 1)) dX2_lay_51 (iI_inv _) ?_
    refine G_if_eq (tgt := 220) dX2_lay_52 (by decide) (iI_rng _) (fun c2 => ?_) (fun c2 => ?_)
    · -- (bandI (shrI a3 s0) 1) = 0
      refine G_iinc (z := (a4 + 1)) dX2_lay_220 rfl rfl (by decide : 4 < 9) rfl ?_
      refine G_goto (tgt := 25) dX2_lay_223 (by decide) ?_
      refine G_weak (lv2 := [.ref o, .ref o1, vi a2, vi a3, vi (a4 + 1), un, un, un, un]) ⟨Or.inr rfl, Or.inr rfl, Or.inr rfl, Or.inr rfl, Or.inr rfl, Or.inl rfl, Or.inr rfl, Or.inr rfl, Or.inr rfl, trivial⟩ ?_
      exact k2 c1 c2
    · -- ¬ (bandI (shrI a3 s0) 1) = 0
      refine G_aload_n dX2_lay_55 rfl ?_
      refine G_getI (z := (mem o 10)) dX2_lay_56 fl_2_48 (ltJob0 ho) (shJob0 ho) rfl ?_
      refine G_bipush (z := 16) dX2_lay_59 rfl ?_
      refine G_icmp_ge (tgt := 220) dX2_lay_61 (by decide) (w2 c1 c2) (by decide) (fun c3 => ?_) (fun c3 => ?_)
      · -- 16 ≤ (mem o 10)
        refine G_iinc (z := (a4 + 1)) dX2_lay_220 rfl rfl (by decide : 4 < 9) rfl ?_
        refine G_goto (tgt := 25) dX2_lay_223 (by decide) ?_
        refine G_weak (lv2 := [.ref o, .ref o1, vi a2, vi a3, vi (a4 + 1), un, un, un, un]) ⟨Or.inr rfl, Or.inr rfl, Or.inr rfl, Or.inr rfl, Or.inr rfl, Or.inl rfl, Or.inr rfl, Or.inr rfl, Or.inr rfl, trivial⟩ ?_
        exact k3 c1 c2 c3
      · -- ¬ 16 ≤ (mem o 10)
        refine G_aload_n dX2_lay_64 rfl ?_
        refine G_getR (t := 3) dX2_lay_65 fl_2_31 (ltJob0 ho) (shJob0 ho) (rrJob_0 ho) ?_
        refine G_aload_n dX2_lay_68 rfl ?_
        refine G_iload dX2_lay_69 rfl ?_
        refine cb_X2_lay_71 ho1 (ic_X8_weightAt (z := (mem (o1 + 1) s0)) ho1 ⟨(q3 c1 c2 c3).1, (q3 c1 c2 c3).2⟩ rfl ?_)
        refine G_aload_n dX2_lay_74 rfl ?_
        refine G_getR (t := 3) dX2_lay_75 fl_2_31 (ltJob0 ho) (shJob0 ho) (rrJob_0 ho) ?_
        refine G_iconst (z := 2) dX2_lay_78 rfl ?_
        refine cb_X2_lay_79 (ic_X6_get (z := (mem 4 2)) (by decide) rfl ?_)
        refine cb_X2_lay_82 (ic_X6_heavy (z := (mem 4 3)) rfl ?_)
        refine G_istore dX2_lay_85 (by decide : 6 < 9) rfl ?_
        refine G_iload_n dX2_lay_87 rfl ?_
        refine G_iconst (z := 2) dX2_lay_88 rfl ?_
        have j1 : GM E (m_X2_lay 4) P 103 [.ref o, .ref o1, vi a2, vi a3, vi a4, vi s0, vi (divI (((mem (o1 + 1) s0) * (mem 4 3)) * (10 + (mem 4 2))) 10), un, un] [vi (if a2 ≠ 2 then (0 : Int) else ((remI s0 8) + 1))] mem := by
          refine G_istore dX2_lay_103 (by decide : 7 < 9) rfl ?_
          refine G_iload_n dX2_lay_105 rfl ?_
          refine G_iconst (z := 1) dX2_lay_106 rfl ?_
          have j2 : GM E (m_X2_lay 4) P 123 [.ref o, .ref o1, vi a2, vi a3, vi a4, vi s0, vi (divI (((mem (o1 + 1) s0) * (mem 4 3)) * (10 + (mem 4 2))) 10), vi (if a2 ≠ 2 then (0 : Int) else ((remI s0 8) + 1)), un] [vi (if a2 ≠ 1 then (0 : Int) else (if s0 < 8 then (0 : Int) else (11 : Int)))] mem := by
            refine G_istore dX2_lay_123 (by decide : 8 < 9) rfl ?_
            refine G_aload_n dX2_lay_125 rfl ?_
            refine G_getR (t := (o + 2)) dX2_lay_126 fl_2_15 (ltJob0 ho) (shJob0 ho) (rrJob_3 ho) ?_
            refine G_aload_n dX2_lay_129 rfl ?_
            refine G_getI (z := (mem o 10)) dX2_lay_130 fl_2_48 (ltJob0 ho) (shJob0 ho) rfl ?_
            refine G_iload dX2_lay_133 rfl ?_
            refine G_iast (mem2 := (up2 mem (o + 2) (mem o 10) s0)) dX2_lay_135 (ltJob2 ho) (shJob2 ho) (by decide) (q5 c1 c2 c3).1 (q5 c1 c2 c3).2 rfl ?_
            refine G_aload_n dX2_lay_136 rfl ?_
            refine G_getR (t := (o + 3)) dX2_lay_137 fl_2_18 (ltJob0 ho) (shJob0 ho) (rrJob_4 ho) ?_
            refine G_aload_n dX2_lay_140 rfl ?_
            refine G_getI (z := (mem o 10)) dX2_lay_141 fl_2_48 (ltJob0 ho) (shJob0 ho) (by simp [up2, upr]) ?_
            refine G_iload dX2_lay_144 rfl ?_
            refine G_iast (mem2 := (up2 (up2 mem (o + 2) (mem o 10) s0) (o + 3) (mem o 10) (divI (((mem (o1 + 1) s0) * (mem 4 3)) * (10 + (mem 4 2))) 10))) dX2_lay_146 (ltJob3 ho) (shJob3 ho) (by decide) (q5 c1 c2 c3).1 (q5 c1 c2 c3).2 rfl ?_
            refine G_aload_n dX2_lay_147 rfl ?_
            refine G_getR (t := (o + 4)) dX2_lay_148 fl_2_21 (ltJob0 ho) (shJob0 ho) (rrJob_5 ho) ?_
            refine G_aload_n dX2_lay_151 rfl ?_
            refine G_getI (z := (mem o 10)) dX2_lay_152 fl_2_48 (ltJob0 ho) (shJob0 ho) (by simp [up2, upr]) ?_
            refine G_iload dX2_lay_155 rfl ?_
            refine G_aload_n dX2_lay_157 rfl ?_
            refine G_getI (z := (mem o 9)) dX2_lay_158 fl_2_60 (ltJob0 ho) (shJob0 ho) (by simp [up2, upr]) ?_
            refine G_icmp_le (tgt := 168) dX2_lay_161 (by decide) (iI_rng _) (w6 c1 c2 c3) (fun c7 => ?_) (fun c7 => ?_)
            · -- (divI (((mem (o1 + 1) s0) * (mem 4 3)) * (10 + (mem 4 2))) 10) ≤ (mem o 9)
              refine G_aload_n dX2_lay_168 rfl ?_
              refine G_aload_n dX2_lay_169 rfl ?_
              refine G_iload dX2_lay_170 rfl ?_
              refine G_iload dX2_lay_172 rfl ?_
              exact k4 c1 c2 c3 c7
            · -- ¬ (divI (((mem (o1 + 1) s0) * (mem 4 3)) * (10 + (mem 4 2))) 10) ≤ (mem o 9)
              refine G_iconst (z := 3) dX2_lay_164 rfl ?_
              refine G_goto (tgt := 185) dX2_lay_165 (by decide) ?_
              refine G_iast (mem2 := (up2 (up2 (up2 mem (o + 2) (mem o 10) s0) (o + 3) (mem o 10) (divI (((mem (o1 + 1) s0) * (mem 4 3)) * (10 + (mem 4 2))) 10)) (o + 4) (mem o 10) 3)) dX2_lay_185 (ltJob4 ho) (shJob4 ho) (by decide) (q5 c1 c2 c3).1 (q5 c1 c2 c3).2 rfl ?_
              refine G_aload_n dX2_lay_186 rfl ?_
              refine G_dup dX2_lay_187 rfl ?_
              refine G_getI (z := (mem o 12)) dX2_lay_188 fl_2_51 (ltJob0 ho) (shJob0 ho) (by simp [up2, upr]) ?_
              refine G_iload dX2_lay_191 rfl ?_
              refine G_aload_n dX2_lay_193 rfl ?_
              refine G_getI (z := (mem o 9)) dX2_lay_194 fl_2_60 (ltJob0 ho) (shJob0 ho) (by simp [up2, upr]) ?_
              have j4 : GM E (m_X2_lay 4) P 206 [.ref o, .ref o1, vi a2, vi a3, vi a4, vi s0, vi (divI (((mem (o1 + 1) s0) * (mem 4 3)) * (10 + (mem 4 2))) 10), vi (if a2 ≠ 2 then (0 : Int) else ((remI s0 8) + 1)), vi (if a2 ≠ 1 then (0 : Int) else (if s0 < 8 then (0 : Int) else (11 : Int)))] [vi (if (divI (((mem (o1 + 1) s0) * (mem 4 3)) * (10 + (mem 4 2))) 10) ≤ (mem o 9) then (divI (((mem (o1 + 1) s0) * (mem 4 3)) * (10 + (mem 4 2))) 10) else (0 : Int)), vi (mem o 12), .ref o] (up2 (up2 (up2 mem (o + 2) (mem o 10) s0) (o + 3) (mem o 10) (divI (((mem (o1 + 1) s0) * (mem 4 3)) * (10 + (mem 4 2))) 10)) (o + 4) (mem o 10) 3) := by
                refine G_iadd dX2_lay_206 ?_
                refine G_putI (mem2 := (up2 (up2 (up2 (up2 mem (o + 2) (mem o 10) s0) (o + 3) (mem o 10) (divI (((mem (o1 + 1) s0) * (mem 4 3)) * (10 + (mem 4 2))) 10)) (o + 4) (mem o 10) 3) o 12 ((mem o 12) + (if (divI (((mem (o1 + 1) s0) * (mem 4 3)) * (10 + (mem 4 2))) 10) ≤ (mem o 9) then (divI (((mem (o1 + 1) s0) * (mem 4 3)) * (10 + (mem 4 2))) 10) else (0 : Int))))) dX2_lay_207 fp_2_51 (ltJob0 ho) (shJob0 ho) rfl ?_
                refine G_aload_n dX2_lay_210 rfl ?_
                refine G_dup dX2_lay_211 rfl ?_
                refine G_getI (z := (mem o 10)) dX2_lay_212 fl_2_48 (ltJob0 ho) (shJob0 ho) (by simp [up2, upr]) ?_
                refine G_iconst (z := 1) dX2_lay_215 rfl ?_
                refine G_iadd dX2_lay_216 ?_
                refine G_putI (mem2 := (up2 (up2 (up2 (up2 (up2 mem (o + 2) (mem o 10) s0) (o + 3) (mem o 10) (divI (((mem (o1 + 1) s0) * (mem 4 3)) * (10 + (mem 4 2))) 10)) (o + 4) (mem o 10) 3) o 12 ((mem o 12) + (if (divI (((mem (o1 + 1) s0) * (mem 4 3)) * (10 + (mem 4 2))) 10) ≤ (mem o 9) then (divI (((mem (o1 + 1) s0) * (mem 4 3)) * (10 + (mem 4 2))) 10) else (0 : Int)))) o 10 ((mem o 10) + 1))) dX2_lay_217 fp_2_48 (ltJob0 ho) (shJob0 ho) rfl ?_
                refine G_iinc (z := (a4 + 1)) dX2_lay_220 rfl rfl (by decide : 4 < 9) rfl ?_
                refine G_goto (tgt := 25) dX2_lay_223 (by decide) ?_
                refine G_weak (lv2 := [.ref o, .ref o1, vi a2, vi a3, vi (a4 + 1), un, un, un, un]) ⟨Or.inr rfl, Or.inr rfl, Or.inr rfl, Or.inr rfl, Or.inr rfl, Or.inl rfl, Or.inl rfl, Or.inl rfl, Or.inl rfl, trivial⟩ ?_
                exact k5 c1 c2 c3 c7
              refine G_icmp_le (tgt := 204) dX2_lay_197 (by decide) (iI_rng _) (w6 c1 c2 c3) (fun c8 => ?_) (fun c8 => ?_)
              · -- (divI (((mem (o1 + 1) s0) * (mem 4 3)) * (10 + (mem 4 2))) 10) ≤ (mem o 9)
                refine G_iload dX2_lay_204 rfl ?_
                have qj4 := j4
                simp only [if_pos c8] at qj4
                exact qj4
              · -- ¬ (divI (((mem (o1 + 1) s0) * (mem 4 3)) * (10 + (mem 4 2))) 10) ≤ (mem o 9)
                refine G_iconst (z := 0) dX2_lay_200 rfl ?_
                refine G_goto (tgt := 206) dX2_lay_201 (by decide) ?_
                have qj4 := j4
                simp only [if_neg c8] at qj4
                exact qj4
          refine G_icmp_ne (tgt := 122) dX2_lay_107 (by decide) (w4) (by decide) (fun c5 => ?_) (fun c5 => ?_)
          · -- a2 ≠ 1
            refine G_iconst (z := 0) dX2_lay_122 rfl ?_
            have qj2 := j2
            simp only [if_pos c5] at qj2
            exact qj2
          · -- a2 = 1
            refine G_iload dX2_lay_110 rfl ?_
            refine G_bipush (z := 8) dX2_lay_112 rfl ?_
            have j3 : GM E (m_X2_lay 4) P 123 [.ref o, .ref o1, vi a2, vi a3, vi a4, vi s0, vi (divI (((mem (o1 + 1) s0) * (mem 4 3)) * (10 + (mem 4 2))) 10), vi (if a2 ≠ 2 then (0 : Int) else ((remI s0 8) + 1)), un] [vi (if s0 < 8 then (0 : Int) else (11 : Int))] mem := by
              have qj2 := j2
              simp only [if_neg (show ¬ (a2 ≠ 1) from fun q => q c5)] at qj2
              exact qj2
            refine G_icmp_lt (tgt := 122) dX2_lay_114 (by decide) (w1) (by decide) (fun c6 => ?_) (fun c6 => ?_)
            · -- s0 < 8
              refine G_iconst (z := 0) dX2_lay_122 rfl ?_
              have qj3 := j3
              simp only [if_pos c6] at qj3
              exact qj3
            · -- ¬ s0 < 8
              refine G_bipush (z := 11) dX2_lay_117 rfl ?_
              refine G_goto (tgt := 123) dX2_lay_119 (by decide) ?_
              have qj3 := j3
              simp only [if_neg c6] at qj3
              exact qj3
        refine G_icmp_ne (tgt := 102) dX2_lay_89 (by decide) (w4) (by decide) (fun c4 => ?_) (fun c4 => ?_)
        · -- a2 ≠ 2
          refine G_iconst (z := 0) dX2_lay_102 rfl ?_
          have qj1 := j1
          simp only [if_pos c4] at qj1
          exact qj1
        · -- a2 = 2
          refine G_iload dX2_lay_92 rfl ?_
          refine G_bipush (z := 8) dX2_lay_94 rfl ?_
          refine G_irem (z := (remI s0 8)) dX2_lay_96 (iI_ne0 (by decide) (by decide)) (iI_inv _) ?_
          refine G_iconst (z := 1) dX2_lay_97 rfl ?_
          refine G_iadd dX2_lay_98 ?_
          refine G_goto (tgt := 103) dX2_lay_99 (by decide) ?_
          have qj1 := j1
          simp only [if_neg (show ¬ (a2 ≠ 2) from fun q => q c4)] at qj1
          exact qj1
set_option maxRecDepth 20000 in
set_option maxHeartbeats 8000000 in
theorem sg_X2_lay_177 {E : Nat × (Nat → Int32)} {P : Option Value → Mem → Prop} {mem : Mem} {o : Nat} {o1 : Nat} {a2 : Int} {a3 : Int} {a4 : Int} {a5 : Int} {a6 : Int} {a7 : Int} {a8 : Int} {s0 : Int} {s1 : Int} {rs2 : Nat} (ho : o ∈ jobL) (ho1 : o1 ∈ streetL) (hlrs2 : rs2 < 209) (hsrs2 : SH[rs2]? = some (.inr (0, 16))) (q1 : 0 ≤ s1 ∧ s1 < 16) (w2 : -2147483648 ≤ a6 ∧ a6 < 2147483648) (w3 : -2147483648 ≤ ((up2 mem rs2 s1 ((s0 + (4 * a7)) + a8)) o 9) ∧ ((up2 mem rs2 s1 ((s0 + (4 * a7)) + a8)) o 9) < 2147483648)
    (k1 : GM E (m_X2_lay 4) P 25 [.ref o, .ref o1, vi a2, vi a3, vi (a4 + 1), un, un, un, un] [] (up2 (up2 (up2 mem rs2 s1 ((s0 + (4 * a7)) + a8)) o 12 (((up2 mem rs2 s1 ((s0 + (4 * a7)) + a8)) o 12) + (if a6 ≤ ((up2 mem rs2 s1 ((s0 + (4 * a7)) + a8)) o 9) then a6 else (0 : Int)))) o 10 (((up2 mem rs2 s1 ((s0 + (4 * a7)) + a8)) o 10) + 1))) :
    GM E (m_X2_lay 4) P 177 [.ref o, .ref o1, vi a2, vi a3, vi a4, vi a5, vi a6, vi a7, vi a8] [vi s0, vi s1, .ref rs2] mem := by
  refine G_iconst (z := 4) dX2_lay_177 rfl ?_
  refine G_iload dX2_lay_178 rfl ?_
  refine G_imul dX2_lay_180 ?_
  refine G_iadd dX2_lay_181 ?_
  refine G_iload dX2_lay_182 rfl ?_
  refine G_iadd dX2_lay_184 ?_
  refine G_iast (mem2 := (up2 mem rs2 s1 ((s0 + (4 * a7)) + a8))) dX2_lay_185 hlrs2 hsrs2 (by decide) (q1).1 (q1).2 rfl ?_
  refine G_aload_n dX2_lay_186 rfl ?_
  refine G_dup dX2_lay_187 rfl ?_
  refine G_getI (z := ((up2 mem rs2 s1 ((s0 + (4 * a7)) + a8)) o 12)) dX2_lay_188 fl_2_51 (ltJob0 ho) (shJob0 ho) (by simp [up2, upr]) ?_
  refine G_iload dX2_lay_191 rfl ?_
  refine G_aload_n dX2_lay_193 rfl ?_
  refine G_getI (z := ((up2 mem rs2 s1 ((s0 + (4 * a7)) + a8)) o 9)) dX2_lay_194 fl_2_60 (ltJob0 ho) (shJob0 ho) (by simp [up2, upr]) ?_
  have j1 : GM E (m_X2_lay 4) P 206 [.ref o, .ref o1, vi a2, vi a3, vi a4, vi a5, vi a6, vi a7, vi a8] [vi (if a6 ≤ ((up2 mem rs2 s1 ((s0 + (4 * a7)) + a8)) o 9) then a6 else (0 : Int)), vi ((up2 mem rs2 s1 ((s0 + (4 * a7)) + a8)) o 12), .ref o] (up2 mem rs2 s1 ((s0 + (4 * a7)) + a8)) := by
    refine G_iadd dX2_lay_206 ?_
    refine G_putI (mem2 := (up2 (up2 mem rs2 s1 ((s0 + (4 * a7)) + a8)) o 12 (((up2 mem rs2 s1 ((s0 + (4 * a7)) + a8)) o 12) + (if a6 ≤ ((up2 mem rs2 s1 ((s0 + (4 * a7)) + a8)) o 9) then a6 else (0 : Int))))) dX2_lay_207 fp_2_51 (ltJob0 ho) (shJob0 ho) rfl ?_
    refine G_aload_n dX2_lay_210 rfl ?_
    refine G_dup dX2_lay_211 rfl ?_
    refine G_getI (z := ((up2 mem rs2 s1 ((s0 + (4 * a7)) + a8)) o 10)) dX2_lay_212 fl_2_48 (ltJob0 ho) (shJob0 ho) (by simp [up2, upr]) ?_
    refine G_iconst (z := 1) dX2_lay_215 rfl ?_
    refine G_iadd dX2_lay_216 ?_
    refine G_putI (mem2 := (up2 (up2 (up2 mem rs2 s1 ((s0 + (4 * a7)) + a8)) o 12 (((up2 mem rs2 s1 ((s0 + (4 * a7)) + a8)) o 12) + (if a6 ≤ ((up2 mem rs2 s1 ((s0 + (4 * a7)) + a8)) o 9) then a6 else (0 : Int)))) o 10 (((up2 mem rs2 s1 ((s0 + (4 * a7)) + a8)) o 10) + 1))) dX2_lay_217 fp_2_48 (ltJob0 ho) (shJob0 ho) rfl ?_
    refine G_iinc (z := (a4 + 1)) dX2_lay_220 rfl rfl (by decide : 4 < 9) rfl ?_
    refine G_goto (tgt := 25) dX2_lay_223 (by decide) ?_
    refine G_weak (lv2 := [.ref o, .ref o1, vi a2, vi a3, vi (a4 + 1), un, un, un, un]) ⟨Or.inr rfl, Or.inr rfl, Or.inr rfl, Or.inr rfl, Or.inr rfl, Or.inl rfl, Or.inl rfl, Or.inl rfl, Or.inl rfl, trivial⟩ ?_
    exact k1
  refine G_icmp_le (tgt := 204) dX2_lay_197 (by decide) (w2) (w3) (fun c1 => ?_) (fun c1 => ?_)
  · -- a6 ≤ ((up2 mem rs2 s1 ((s0 + (4 * a7)) + a8)) o 9)
    refine G_iload dX2_lay_204 rfl ?_
    have qj1 := j1
    simp only [if_pos c1] at qj1
    exact qj1
  · -- ¬ a6 ≤ ((up2 mem rs2 s1 ((s0 + (4 * a7)) + a8)) o 9)
    refine G_iconst (z := 0) dX2_lay_200 rfl ?_
    refine G_goto (tgt := 206) dX2_lay_201 (by decide) ?_
    have qj1 := j1
    simp only [if_neg c1] at qj1
    exact qj1
set_option maxRecDepth 20000 in
set_option maxHeartbeats 8000000 in
theorem sg_X2_lay_232 {E : Nat × (Nat → Int32)} {P : Option Value → Mem → Prop} {mem : Mem} {o : Nat} {o1 : Nat} {a2 : Int} {a3 : Int} {a4 : Int} {s0 : Int} (ho : o ∈ jobL) (ho1 : o1 ∈ streetL)
    (k1 : P none (up2 mem o 11 s0)) :
    GM E (m_X2_lay 4) P 232 [.ref o, .ref o1, vi a2, vi a3, vi a4, un, un, un, un] [vi s0, .ref o] mem := by
  refine G_putI (mem2 := (up2 mem o 11 s0)) dX2_lay_232 fp_2_82 (ltJob0 ho) (shJob0 ho) rfl ?_
  exact G_vret dX2_lay_235 rfl (Nat.zero_le _) (Nat.zero_le _) (Nat.le_refl _) ⟨rfl, k1⟩
set_option maxRecDepth 20000 in
set_option maxHeartbeats 8000000 in
theorem sg_X2_movesOf_0 {E : Nat × (Nat → Int32)} {P : Option Value → Mem → Prop} {mem : Mem} {o0 : Nat} {a1 : Int} (ho0 : o0 ∈ streetL) (w1 : -2147483648 ≤ a1 ∧ a1 < 2147483648) (w2 : a1 ≠ 0 → a1 = 1 → -2147483648 ≤ (mem o0 5) ∧ (mem o0 5) < 2147483648)
    (k1 : a1 ≠ 0 → a1 ≠ 1 → P (some (vi 0)) mem)
    (k2 : a1 ≠ 0 → a1 = 1 → P (some (vi ((5 + (if (mem o0 5) = 0 then (0 : Int) else (9 : Int))) * (mem o0 3)))) mem)
    (k3 : a1 = 0 → P (some (vi (10 * (mem o0 3)))) mem) :
    GM E (m_X2_movesOf 0) P 0 [.ref o0, vi a1] [] mem := by
  refine G_iload_n dX2_movesOf_0 rfl ?_
  refine G_if_ne (tgt := 12) dX2_movesOf_1 (by decide) (w1) (fun c1 => ?_) (fun c1 => ?_)
  · -- a1 ≠ 0
    refine G_iload_n dX2_movesOf_12 rfl ?_
    refine G_iconst (z := 1) dX2_movesOf_13 rfl ?_
    refine G_icmp_ne (tgt := 38) dX2_movesOf_14 (by decide) (w1) (by decide) (fun c2 => ?_) (fun c2 => ?_)
    · -- a1 ≠ 1
      refine G_iconst (z := 0) dX2_movesOf_38 rfl ?_
      exact G_iret dX2_movesOf_39 rfl (Nat.zero_le _) (Nat.zero_le _) (Nat.le_refl _) ⟨rfl, k1 c1 c2⟩
    · -- a1 = 1
      refine G_iconst (z := 5) dX2_movesOf_17 rfl ?_
      refine G_aload_n dX2_movesOf_18 rfl ?_
      refine G_getI (z := (mem o0 5)) dX2_movesOf_19 fl_2_97 (ltStreet0 ho0) (shStreet0 ho0) rfl ?_
      have j1 : GM E (m_X2_movesOf 0) P 31 [.ref o0, vi a1] [vi (if (mem o0 5) = 0 then (0 : Int) else (9 : Int)), vi 5] mem := by
        refine G_iadd dX2_movesOf_31 ?_
        refine G_aload_n dX2_movesOf_32 rfl ?_
        refine G_getI (z := (mem o0 3)) dX2_movesOf_33 fl_2_85 (ltStreet0 ho0) (shStreet0 ho0) rfl ?_
        refine G_imul dX2_movesOf_36 ?_
        exact G_iret dX2_movesOf_37 rfl (Nat.zero_le _) (Nat.zero_le _) (Nat.le_refl _) ⟨rfl, k2 c1 c2⟩
      refine G_if_eq (tgt := 30) dX2_movesOf_22 (by decide) (w2 c1 c2) (fun c3 => ?_) (fun c3 => ?_)
      · -- (mem o0 5) = 0
        refine G_iconst (z := 0) dX2_movesOf_30 rfl ?_
        have qj1 := j1
        simp only [if_pos c3] at qj1
        exact qj1
      · -- ¬ (mem o0 5) = 0
        refine G_bipush (z := 9) dX2_movesOf_25 rfl ?_
        refine G_goto (tgt := 31) dX2_movesOf_27 (by decide) ?_
        have qj1 := j1
        simp only [if_neg c3] at qj1
        exact qj1
  · -- a1 = 0
    refine G_bipush (z := 10) dX2_movesOf_4 rfl ?_
    refine G_aload_n dX2_movesOf_6 rfl ?_
    refine G_getI (z := (mem o0 3)) dX2_movesOf_7 fl_2_85 (ltStreet0 ho0) (shStreet0 ho0) rfl ?_
    refine G_imul dX2_movesOf_10 ?_
    exact G_iret dX2_movesOf_11 rfl (Nat.zero_le _) (Nat.zero_le _) (Nat.le_refl _) ⟨rfl, k3 c1⟩
set_option maxRecDepth 20000 in
set_option maxHeartbeats 8000000 in
theorem sg_X3_add_0 {E : Nat × (Nat → Int32)} {P : Option Value → Mem → Prop} {mem : Mem} {a1 : Int} {a2 : Int} (w1 : -2147483648 ≤ (mem 93 4) ∧ (mem 93 4) < 2147483648)
    (k1 : (mem 93 4) < 0 → P (some (vi 0)) mem)
    (k2 : ¬ (mem 93 4) < 0 → (mem 93 4) < 10 → P (some (vi 1)) (up2 (up2 (up2 mem 94 (mem 93 4) a1) 95 (mem 93 4) a2) 93 4 ((mem 93 4) + 1)))
    (k3 : ¬ (mem 93 4) < 0 → ¬ (mem 93 4) < 10 → P (some (vi 0)) mem) :
    GM E (m_X3_add 0) P 0 [.ref 93, vi a1, vi a2] [] mem := by
  refine G_aload_n dX3_add_0 rfl ?_
  refine G_getI (z := (mem 93 4)) dX3_add_1 fl_3_38 (by decide) sh_93 rfl ?_
  refine G_if_lt (tgt := 16) dX3_add_4 (by decide) (w1) (fun c1 => ?_) (fun c1 => ?_)
  · -- (mem 93 4) < 0
    refine G_iconst (z := 0) dX3_add_16 rfl ?_
    exact G_zret dX3_add_17 rfl (nar_zb (by decide)) (Nat.zero_le _) (Nat.zero_le _) (Nat.le_refl _) ⟨rfl, k1 c1⟩
  · -- ¬ (mem 93 4) < 0
    refine G_aload_n dX3_add_7 rfl ?_
    refine G_getI (z := (mem 93 4)) dX3_add_8 fl_3_38 (by decide) sh_93 rfl ?_
    refine G_bipush (z := 10) dX3_add_11 rfl ?_
    refine G_icmp_lt (tgt := 18) dX3_add_13 (by decide) (w1) (by decide) (fun c2 => ?_) (fun c2 => ?_)
    · -- (mem 93 4) < 10
      refine G_aload_n dX3_add_18 rfl ?_
      refine G_getR (t := 94) dX3_add_19 fl_3_11 (by decide) sh_93 rr_93_2 ?_
      refine G_aload_n dX3_add_22 rfl ?_
      refine G_getI (z := (mem 93 4)) dX3_add_23 fl_3_38 (by decide) sh_93 rfl ?_
      refine G_iload_n dX3_add_26 rfl ?_
      refine G_iast (mem2 := (up2 mem 94 (mem 93 4) a1)) dX3_add_27 (by decide) sh_94 (by decide) (by omega) (by omega) rfl ?_
      refine G_aload_n dX3_add_28 rfl ?_
      refine G_getR (t := 95) dX3_add_29 fl_3_15 (by decide) sh_93 rr_93_3 ?_
      refine G_aload_n dX3_add_32 rfl ?_
      refine G_getI (z := (mem 93 4)) dX3_add_33 fl_3_38 (by decide) sh_93 (by simp [up2, upr]) ?_
      refine G_iload_n dX3_add_36 rfl ?_
      refine G_iast (mem2 := (up2 (up2 mem 94 (mem 93 4) a1) 95 (mem 93 4) a2)) dX3_add_37 (by decide) sh_95 (by decide) (by omega) (by omega) rfl ?_
      refine G_aload_n dX3_add_38 rfl ?_
      refine G_dup dX3_add_39 rfl ?_
      refine G_getI (z := (mem 93 4)) dX3_add_40 fl_3_38 (by decide) sh_93 (by simp [up2, upr]) ?_
      refine G_iconst (z := 1) dX3_add_43 rfl ?_
      refine G_iadd dX3_add_44 ?_
      refine G_putI (mem2 := (up2 (up2 (up2 mem 94 (mem 93 4) a1) 95 (mem 93 4) a2) 93 4 ((mem 93 4) + 1))) dX3_add_45 fp_3_38 (by decide) sh_93 rfl ?_
      refine G_iconst (z := 1) dX3_add_48 rfl ?_
      exact G_zret dX3_add_49 rfl (nar_zb (by decide)) (Nat.zero_le _) (Nat.zero_le _) (Nat.le_refl _) ⟨rfl, k2 c1 c2⟩
    · -- ¬ (mem 93 4) < 10
      refine G_iconst (z := 0) dX3_add_16 rfl ?_
      exact G_zret dX3_add_17 rfl (nar_zb (by decide)) (Nat.zero_le _) (Nat.zero_le _) (Nat.le_refl _) ⟨rfl, k3 c1 c2⟩
set_option maxRecDepth 20000 in
set_option maxHeartbeats 8000000 in
theorem sg_X3_findPairs_0 {E : Nat × (Nat → Int32)} {P : Option Value → Mem → Prop} {mem : Mem} {a1 : Int}
    (k1 : GM E (m_X3_findPairs 1) P 8 [.ref 93, vi a1, vi 1, vi 99, vi 0] [] mem) :
    GM E (m_X3_findPairs 1) P 0 [.ref 93, vi a1, un, un, un] [] mem := by
  refine G_iconst (z := 1) dX3_findPairs_0 rfl ?_
  refine G_istore_n dX3_findPairs_1 rfl (by decide : 2 < 5) rfl ?_
  refine G_bipush (z := 99) dX3_findPairs_2 rfl ?_
  refine G_istore_n dX3_findPairs_4 rfl (by decide : 3 < 5) rfl ?_
  refine G_iconst (z := 0) dX3_findPairs_5 rfl ?_
  refine G_istore dX3_findPairs_6 (by decide : 4 < 5) rfl ?_
  exact k1
set_option maxRecDepth 20000 in
set_option maxHeartbeats 8000000 in
theorem sg_X3_findPairs_8 {E : Nat × (Nat → Int32)} {P : Option Value → Mem → Prop} {mem : Mem} {a1 : Int} {a2 : Int} {a3 : Int} {a4 : Int} (w1 : -2147483648 ≤ a4 ∧ a4 < 2147483648) (w2 : -2147483648 ≤ (mem 93 4) ∧ (mem 93 4) < 2147483648) (q3 : (mem 93 4) ≤ a4 → 0 ≤ (mem 9 1) ∧ (mem 9 1) ≤ 6) (w4 : -2147483648 ≤ a1 ∧ a1 < 2147483648) (w5 : -2147483648 ≤ a3 ∧ a3 < 2147483648) (w6 : -2147483648 ≤ a2 ∧ a2 < 2147483648) (q7 : (mem 93 4) ≤ a4 → 0 ≤ a1 ∧ a1 < (mem 9 1) → ¬ a3 < a2 → a1 < 6 → 0 ≤ a1 ∧ a1 < 6) (q8 : ¬ (mem 93 4) ≤ a4 → 10 ≤ a4 → 0 ≤ (mem 9 1) ∧ (mem 9 1) ≤ 6) (q9 : ¬ (mem 93 4) ≤ a4 → 10 ≤ a4 → 0 ≤ a1 ∧ a1 < (mem 9 1) → ¬ a3 < a2 → a1 < 6 → 0 ≤ a1 ∧ a1 < 6) (q10 : ¬ (mem 93 4) ≤ a4 → ¬ 10 ≤ a4 → 0 ≤ a4 ∧ a4 < 10) (w11 : ¬ (mem 93 4) ≤ a4 → ¬ 10 ≤ a4 → (bandI (shrI (mem 94 a4) a1) 1) = 0 → -2147483648 ≤ (mem 97 a4) ∧ (mem 97 a4) < 2147483648) (w12 : ¬ (mem 93 4) ≤ a4 → ¬ 10 ≤ a4 → ¬ (bandI (shrI (mem 94 a4) a1) 1) = 0 → -2147483648 ≤ (mem 97 a4) ∧ (mem 97 a4) < 2147483648)
    (k1 : (mem 93 4) ≤ a4 → 0 ≤ a1 ∧ a1 < (mem 9 1) → a3 < a2 → P (some (vi 0)) mem)
    (k2 : (mem 93 4) ≤ a4 → 0 ≤ a1 ∧ a1 < (mem 9 1) → ¬ a3 < a2 → a1 < 6 → P (some (vi ((2 * ((up2 mem 99 a1 a2) (11 + 2 * (a1).toNat) 3)) * ((a3 - a2) + 1)))) (up2 mem 99 a1 a2))
    (k3 : (mem 93 4) ≤ a4 → 0 ≤ a1 ∧ a1 < (mem 9 1) → ¬ a3 < a2 → ¬ a1 < 6 → P (some (vi 0)) mem)
    (k4 : (mem 93 4) ≤ a4 → ¬ (0 ≤ a1 ∧ a1 < (mem 9 1)) → P (some (vi 0)) mem)
    (k5 : ¬ (mem 93 4) ≤ a4 → 10 ≤ a4 → 0 ≤ a1 ∧ a1 < (mem 9 1) → a3 < a2 → P (some (vi 0)) mem)
    (k6 : ¬ (mem 93 4) ≤ a4 → 10 ≤ a4 → 0 ≤ a1 ∧ a1 < (mem 9 1) → ¬ a3 < a2 → a1 < 6 → P (some (vi ((2 * ((up2 mem 99 a1 a2) (11 + 2 * (a1).toNat) 3)) * ((a3 - a2) + 1)))) (up2 mem 99 a1 a2))
    (k7 : ¬ (mem 93 4) ≤ a4 → 10 ≤ a4 → 0 ≤ a1 ∧ a1 < (mem 9 1) → ¬ a3 < a2 → ¬ a1 < 6 → P (some (vi 0)) mem)
    (k8 : ¬ (mem 93 4) ≤ a4 → 10 ≤ a4 → ¬ (0 ≤ a1 ∧ a1 < (mem 9 1)) → P (some (vi 0)) mem)
    (k9 : ¬ (mem 93 4) ≤ a4 → ¬ 10 ≤ a4 → (bandI (shrI (mem 94 a4) a1) 1) = 0 → (mem 97 a4) = 0 → GM E (m_X3_findPairs 1) P 8 [.ref 93, vi a1, vi a2, vi a3, vi (a4 + 1)] [] mem)
    (k10 : ¬ (mem 93 4) ≤ a4 → ¬ 10 ≤ a4 → (bandI (shrI (mem 94 a4) a1) 1) = 0 → ¬ (mem 97 a4) = 0 → P (some (vi 0)) mem)
    (k11 : ¬ (mem 93 4) ≤ a4 → ¬ 10 ≤ a4 → ¬ (bandI (shrI (mem 94 a4) a1) 1) = 0 → GM E (m_X3_findPairs 1) P 8 [.ref 93, vi a1, vi (max a2 (mem 97 a4)), vi (min a3 (mem 97 a4)), vi (a4 + 1)] [] mem) :
    GM E (m_X3_findPairs 1) P 8 [.ref 93, vi a1, vi a2, vi a3, vi a4] [] mem := by
  refine G_iload dX3_findPairs_8 rfl ?_
  refine G_aload_n dX3_findPairs_10 rfl ?_
  refine G_getI (z := (mem 93 4)) dX3_findPairs_11 fl_3_38 (by decide) sh_93 rfl ?_
  refine G_icmp_ge (tgt := 83) dX3_findPairs_14 (by decide) (w1) (w2) (fun c1 => ?_) (fun c1 => ?_)
  · -- (mem 93 4) ≤ a4
    refine G_aload_n dX3_findPairs_83 rfl ?_
    refine G_getR (t := 9) dX3_findPairs_84 fl_3_30 (by decide) sh_93 rr_93_0 ?_
    refine G_iload_n dX3_findPairs_87 rfl ?_
    refine cb_X3_findPairs_88 (ic_X10_at (z := (mem 9 1)) rfl (q3 c1) (w4) (fun c2 => ?_) (fun c3 => ?_))
    · -- 0 ≤ a1 ∧ a1 < (mem 9 1)
      refine G_astore dX3_findPairs_91 (by decide : 4 < 5) rfl ?_
      refine G_aload dX3_findPairs_93 rfl ?_
      refine G_ifnull dX3_findPairs_95 ?_
      refine G_iload_n dX3_findPairs_98 rfl ?_
      refine G_iload_n dX3_findPairs_99 rfl ?_
      refine G_icmp_lt (tgt := 112) dX3_findPairs_100 (by decide) (w5) (w6) (fun c4 => ?_) (fun c4 => ?_)
      · -- a3 < a2
        refine G_iconst (z := 0) dX3_findPairs_112 rfl ?_
        exact G_iret dX3_findPairs_113 rfl (Nat.zero_le _) (Nat.zero_le _) (Nat.le_refl _) ⟨rfl, k1 c1 c2 c4⟩
      · -- ¬ a3 < a2
        refine G_iload_n dX3_findPairs_103 rfl ?_
        refine G_aload_n dX3_findPairs_104 rfl ?_
        refine G_getR (t := 99) dX3_findPairs_105 fl_3_27 (by decide) sh_93 rr_93_8 ?_
        refine G_alen (z := 6) dX3_findPairs_108 (by decide) sh_99 (by decide) rfl ?_
        refine G_icmp_lt (tgt := 114) dX3_findPairs_109 (by decide) (w4) (by decide) (fun c5 => ?_) (fun c5 => ?_)
        · -- a1 < 6
          refine G_aload_n dX3_findPairs_114 rfl ?_
          refine G_getR (t := 99) dX3_findPairs_115 fl_3_27 (by decide) sh_93 rr_93_8 ?_
          refine G_iload_n dX3_findPairs_118 rfl ?_
          refine G_iload_n dX3_findPairs_119 rfl ?_
          refine G_iast (mem2 := (up2 mem 99 a1 a2)) dX3_findPairs_120 (by decide) sh_99 (by decide) (q7 c1 c2 c4 c5).1 (q7 c1 c2 c4 c5).2 rfl ?_
          refine G_iconst (z := 2) dX3_findPairs_121 rfl ?_
          refine G_aload dX3_findPairs_122 rfl ?_
          refine G_getI (z := ((up2 mem 99 a1 a2) (11 + 2 * (a1).toNat) 3)) dX3_findPairs_124 fl_3_83 (ltStreet0 (streetL_of c2.1 (Int.lt_of_lt_of_le c2.2 (q3 c1).2))) (shStreet0 (streetL_of c2.1 (Int.lt_of_lt_of_le c2.2 (q3 c1).2))) (by simp [up2, upr]) ?_
          refine G_imul dX3_findPairs_127 ?_
          refine G_iload_n dX3_findPairs_128 rfl ?_
          refine G_iload_n dX3_findPairs_129 rfl ?_
          refine G_isub dX3_findPairs_130 ?_
          refine G_iconst (z := 1) dX3_findPairs_131 rfl ?_
          refine G_iadd dX3_findPairs_132 ?_
          refine G_imul dX3_findPairs_133 ?_
          exact G_iret dX3_findPairs_134 rfl (Nat.zero_le _) (Nat.zero_le _) (Nat.le_refl _) ⟨rfl, k2 c1 c2 c4 c5⟩
        · -- ¬ a1 < 6
          refine G_iconst (z := 0) dX3_findPairs_112 rfl ?_
          exact G_iret dX3_findPairs_113 rfl (Nat.zero_le _) (Nat.zero_le _) (Nat.le_refl _) ⟨rfl, k3 c1 c2 c4 c5⟩
    · -- ¬ (0 ≤ a1 ∧ a1 < (mem 9 1))
      refine G_astoreNull dX3_findPairs_91 (by decide : 4 < 5) rfl ?_
      refine G_aloadNull dX3_findPairs_93 rfl ?_
      refine G_ifnullZ (tgt := 112) dX3_findPairs_95 (by decide) ?_
      refine G_iconst (z := 0) dX3_findPairs_112 rfl ?_
      exact G_iret dX3_findPairs_113 rfl (Nat.zero_le _) (Nat.zero_le _) (Nat.le_refl _) ⟨rfl, k4 c1 c3⟩
  · -- ¬ (mem 93 4) ≤ a4
    refine G_iload dX3_findPairs_17 rfl ?_
    refine G_bipush (z := 10) dX3_findPairs_19 rfl ?_
    refine G_icmp_ge (tgt := 83) dX3_findPairs_21 (by decide) (w1) (by decide) (fun c6 => ?_) (fun c6 => ?_)
    · -- 10 ≤ a4
      refine G_aload_n dX3_findPairs_83 rfl ?_
      refine G_getR (t := 9) dX3_findPairs_84 fl_3_30 (by decide) sh_93 rr_93_0 ?_
      refine G_iload_n dX3_findPairs_87 rfl ?_
      refine cb_X3_findPairs_88 (ic_X10_at (z := (mem 9 1)) rfl (q8 c1 c6) (w4) (fun c7 => ?_) (fun c8 => ?_))
      · -- 0 ≤ a1 ∧ a1 < (mem 9 1)
        refine G_astore dX3_findPairs_91 (by decide : 4 < 5) rfl ?_
        refine G_aload dX3_findPairs_93 rfl ?_
        refine G_ifnull dX3_findPairs_95 ?_
        refine G_iload_n dX3_findPairs_98 rfl ?_
        refine G_iload_n dX3_findPairs_99 rfl ?_
        refine G_icmp_lt (tgt := 112) dX3_findPairs_100 (by decide) (w5) (w6) (fun c9 => ?_) (fun c9 => ?_)
        · -- a3 < a2
          refine G_iconst (z := 0) dX3_findPairs_112 rfl ?_
          exact G_iret dX3_findPairs_113 rfl (Nat.zero_le _) (Nat.zero_le _) (Nat.le_refl _) ⟨rfl, k5 c1 c6 c7 c9⟩
        · -- ¬ a3 < a2
          refine G_iload_n dX3_findPairs_103 rfl ?_
          refine G_aload_n dX3_findPairs_104 rfl ?_
          refine G_getR (t := 99) dX3_findPairs_105 fl_3_27 (by decide) sh_93 rr_93_8 ?_
          refine G_alen (z := 6) dX3_findPairs_108 (by decide) sh_99 (by decide) rfl ?_
          refine G_icmp_lt (tgt := 114) dX3_findPairs_109 (by decide) (w4) (by decide) (fun c10 => ?_) (fun c10 => ?_)
          · -- a1 < 6
            refine G_aload_n dX3_findPairs_114 rfl ?_
            refine G_getR (t := 99) dX3_findPairs_115 fl_3_27 (by decide) sh_93 rr_93_8 ?_
            refine G_iload_n dX3_findPairs_118 rfl ?_
            refine G_iload_n dX3_findPairs_119 rfl ?_
            refine G_iast (mem2 := (up2 mem 99 a1 a2)) dX3_findPairs_120 (by decide) sh_99 (by decide) (q9 c1 c6 c7 c9 c10).1 (q9 c1 c6 c7 c9 c10).2 rfl ?_
            refine G_iconst (z := 2) dX3_findPairs_121 rfl ?_
            refine G_aload dX3_findPairs_122 rfl ?_
            refine G_getI (z := ((up2 mem 99 a1 a2) (11 + 2 * (a1).toNat) 3)) dX3_findPairs_124 fl_3_83 (ltStreet0 (streetL_of c7.1 (Int.lt_of_lt_of_le c7.2 (q8 c1 c6).2))) (shStreet0 (streetL_of c7.1 (Int.lt_of_lt_of_le c7.2 (q8 c1 c6).2))) (by simp [up2, upr]) ?_
            refine G_imul dX3_findPairs_127 ?_
            refine G_iload_n dX3_findPairs_128 rfl ?_
            refine G_iload_n dX3_findPairs_129 rfl ?_
            refine G_isub dX3_findPairs_130 ?_
            refine G_iconst (z := 1) dX3_findPairs_131 rfl ?_
            refine G_iadd dX3_findPairs_132 ?_
            refine G_imul dX3_findPairs_133 ?_
            exact G_iret dX3_findPairs_134 rfl (Nat.zero_le _) (Nat.zero_le _) (Nat.le_refl _) ⟨rfl, k6 c1 c6 c7 c9 c10⟩
          · -- ¬ a1 < 6
            refine G_iconst (z := 0) dX3_findPairs_112 rfl ?_
            exact G_iret dX3_findPairs_113 rfl (Nat.zero_le _) (Nat.zero_le _) (Nat.le_refl _) ⟨rfl, k7 c1 c6 c7 c9 c10⟩
      · -- ¬ (0 ≤ a1 ∧ a1 < (mem 9 1))
        refine G_astoreNull dX3_findPairs_91 (by decide : 4 < 5) rfl ?_
        refine G_aloadNull dX3_findPairs_93 rfl ?_
        refine G_ifnullZ (tgt := 112) dX3_findPairs_95 (by decide) ?_
        refine G_iconst (z := 0) dX3_findPairs_112 rfl ?_
        exact G_iret dX3_findPairs_113 rfl (Nat.zero_le _) (Nat.zero_le _) (Nat.le_refl _) ⟨rfl, k8 c1 c6 c8⟩
    · -- ¬ 10 ≤ a4
      refine G_aload_n dX3_findPairs_24 rfl ?_
      refine G_getR (t := 94) dX3_findPairs_25 fl_3_11 (by decide) sh_93 rr_93_2 ?_
      refine G_iload dX3_findPairs_28 rfl ?_
      refine G_iald (z := (mem 94 a4)) dX3_findPairs_30 (by decide) sh_94 (by decide) (q10 c1 c6).1 (q10 c1 c6).2 rfl ?_
      refine G_iload_n dX3_findPairs_31 rfl ?_
      refine G_ishr (z := (shrI (mem 94 a4) a1)) dX3_findPairs_32 (iI_inv _) ?_
      refine G_iconst (z := 1) dX3_findPairs_33 rfl ?_
      refine G_iand (z := (bandI (shrI (mem 94 a4) a1) 1)) dX3_findPairs_34 (iI_inv _) ?_
      refine G_if_eq (tgt := 65) dX3_findPairs_35 (by decide) (iI_rng _) (fun c11 => ?_) (fun c11 => ?_)
      · -- (bandI (shrI (mem 94 a4) a1) 1) = 0
        refine G_aload_n dX3_findPairs_65 rfl ?_
        refine G_getR (t := 97) dX3_findPairs_66 fl_3_21 (by decide) sh_93 rr_93_6 ?_
        refine G_iload dX3_findPairs_69 rfl ?_
        refine G_iald (z := (mem 97 a4)) dX3_findPairs_71 (by decide) sh_97 (by decide) (q10 c1 c6).1 (q10 c1 c6).2 rfl ?_
        refine G_if_eq (tgt := 77) dX3_findPairs_72 (by decide) (w11 c1 c6 c11) (fun c12 => ?_) (fun c12 => ?_)
        · -- (mem 97 a4) = 0
          refine G_iinc (z := (a4 + 1)) dX3_findPairs_77 rfl rfl (by decide : 4 < 5) rfl ?_
          refine G_goto (tgt := 8) dX3_findPairs_80 (by decide) ?_
          exact k9 c1 c6 c11 c12
        · -- ¬ (mem 97 a4) = 0
          refine G_iconst (z := 0) dX3_findPairs_75 rfl ?_
          exact G_iret dX3_findPairs_76 rfl (Nat.zero_le _) (Nat.zero_le _) (Nat.le_refl _) ⟨rfl, k10 c1 c6 c11 c12⟩
      · -- ¬ (bandI (shrI (mem 94 a4) a1) 1) = 0
        refine G_iload_n dX3_findPairs_38 rfl ?_
        refine G_aload_n dX3_findPairs_39 rfl ?_
        refine G_getR (t := 97) dX3_findPairs_40 fl_3_21 (by decide) sh_93 rr_93_6 ?_
        refine G_iload dX3_findPairs_43 rfl ?_
        refine G_iald (z := (mem 97 a4)) dX3_findPairs_45 (by decide) sh_97 (by decide) (q10 c1 c6).1 (q10 c1 c6).2 rfl ?_
        refine G_max (z := (max a2 (mem 97 a4))) dX3_findPairs_46 ml_3_74 mw_max (w6) (w12 c1 c6 c11) ⟨by show 1 ≤ 1; first | decide | omega, by show 21 ≤ 40 * 1; first | decide | omega, Nat.zero_le _, Nat.zero_le _⟩ (Nat.le_of_ble_eq_true rfl) rfl ?_
        refine G_istore_n dX3_findPairs_49 rfl (by decide : 2 < 5) rfl ?_
        refine G_iload_n dX3_findPairs_50 rfl ?_
        refine G_aload_n dX3_findPairs_51 rfl ?_
        refine G_getR (t := 97) dX3_findPairs_52 fl_3_21 (by decide) sh_93 rr_93_6 ?_
        refine G_iload dX3_findPairs_55 rfl ?_
        refine G_iald (z := (mem 97 a4)) dX3_findPairs_57 (by decide) sh_97 (by decide) (q10 c1 c6).1 (q10 c1 c6).2 rfl ?_
        refine G_min (z := (min a3 (mem 97 a4))) dX3_findPairs_58 ml_3_80 mw_min (w5) (w12 c1 c6 c11) ⟨by show 1 ≤ 1; first | decide | omega, by show 21 ≤ 40 * 1; first | decide | omega, Nat.zero_le _, Nat.zero_le _⟩ (Nat.le_of_ble_eq_true rfl) rfl ?_
        refine G_istore_n dX3_findPairs_61 rfl (by decide : 3 < 5) rfl ?_
        refine G_goto (tgt := 77) dX3_findPairs_62 (by decide) ?_
        refine G_iinc (z := (a4 + 1)) dX3_findPairs_77 rfl rfl (by decide : 4 < 5) rfl ?_
        refine G_goto (tgt := 8) dX3_findPairs_80 (by decide) ?_
        exact k11 c1 c6 c11
set_option maxRecDepth 20000 in
set_option maxHeartbeats 8000000 in
theorem sg_X3_heavyOf_0 {E : Nat × (Nat → Int32)} {P : Option Value → Mem → Prop} {mem : Mem} {a1 : Int}
    (k1 : GM E (m_X3_heavyOf 0) P 4 [.ref 93, vi a1, vi 0, vi 0] [] mem) :
    GM E (m_X3_heavyOf 0) P 0 [.ref 93, vi a1, un, un] [] mem := by
  refine G_iconst (z := 0) dX3_heavyOf_0 rfl ?_
  refine G_istore_n dX3_heavyOf_1 rfl (by decide : 2 < 4) rfl ?_
  refine G_iconst (z := 0) dX3_heavyOf_2 rfl ?_
  refine G_istore_n dX3_heavyOf_3 rfl (by decide : 3 < 4) rfl ?_
  exact k1
set_option maxRecDepth 20000 in
set_option maxHeartbeats 8000000 in
theorem sg_X3_heavyOf_4 {E : Nat × (Nat → Int32)} {P : Option Value → Mem → Prop} {mem : Mem} {a1 : Int} {a2 : Int} {a3 : Int} (w1 : -2147483648 ≤ a3 ∧ a3 < 2147483648) (q2 : ¬ 6 ≤ a3 → ¬ (bandI (shrI a1 a3) 1) = 0 → 0 ≤ a3 ∧ a3 < 6)
    (k1 : 6 ≤ a3 → P (some (vi a2)) mem)
    (k2 : ¬ 6 ≤ a3 → GM E (m_X3_heavyOf 0) P 4 [.ref 93, vi a1, vi (if (bandI (shrI a1 a3) 1) = 0 then a2 else (a2 + (mem 96 a3))), vi (a3 + 1)] [] mem) :
    GM E (m_X3_heavyOf 0) P 4 [.ref 93, vi a1, vi a2, vi a3] [] mem := by
  refine G_iload_n dX3_heavyOf_4 rfl ?_
  refine G_aload_n dX3_heavyOf_5 rfl ?_
  refine G_getR (t := 96) dX3_heavyOf_6 fl_3_18 (by decide) sh_93 rr_93_5 ?_
  refine G_alen (z := 6) dX3_heavyOf_9 (by decide) sh_96 (by decide) rfl ?_
  refine G_icmp_ge (tgt := 36) dX3_heavyOf_10 (by decide) (w1) (by decide) (fun c1 => ?_) (fun c1 => ?_)
  · -- 6 ≤ a3
    refine G_iload_n dX3_heavyOf_36 rfl ?_
    exact G_iret dX3_heavyOf_37 rfl (Nat.zero_le _) (Nat.zero_le _) (Nat.le_refl _) ⟨rfl, k1 c1⟩
  · -- ¬ 6 ≤ a3
    refine G_iload_n dX3_heavyOf_13 rfl ?_
    refine G_iload_n dX3_heavyOf_14 rfl ?_
    refine G_ishr (z := (shrI a1 a3)) dX3_heavyOf_15 (iI_inv _) ?_
    refine G_iconst (z := 1) dX3_heavyOf_16 rfl ?_
    refine G_iand (z := (bandI (shrI a1 a3) 1)) dX3_heavyOf_17 (iI_inv _) ?_
    have j1 : GM E (m_X3_heavyOf 0) P 30 [.ref 93, vi a1, vi (if (bandI (shrI a1 a3) 1) = 0 then a2 else (a2 + (mem 96 a3))), vi a3] [] mem := by
      refine G_iinc (z := (a3 + 1)) dX3_heavyOf_30 rfl rfl (by decide : 3 < 4) rfl ?_
      refine G_goto (tgt := 4) dX3_heavyOf_33 (by decide) ?_
      exact k2 c1
    refine G_if_eq (tgt := 30) dX3_heavyOf_18 (by decide) (iI_rng _) (fun c2 => ?_) (fun c2 => ?_)
    · -- (bandI (shrI a1 a3) 1) = 0
      have qj1 := j1
      simp only [if_pos c2] at qj1
      exact qj1
    · -- ¬ (bandI (shrI a1 a3) 1) = 0
      refine G_iload_n dX3_heavyOf_21 rfl ?_
      refine G_aload_n dX3_heavyOf_22 rfl ?_
      refine G_getR (t := 96) dX3_heavyOf_23 fl_3_18 (by decide) sh_93 rr_93_5 ?_
      refine G_iload_n dX3_heavyOf_26 rfl ?_
      refine G_iald (z := (mem 96 a3)) dX3_heavyOf_27 (by decide) sh_96 (by decide) (q2 c1 c2).1 (q2 c1 c2).2 rfl ?_
      refine G_iadd dX3_heavyOf_28 ?_
      refine G_istore_n dX3_heavyOf_29 rfl (by decide : 2 < 4) rfl ?_
      have qj1 := j1
      simp only [if_neg c2] at qj1
      exact qj1
set_option maxRecDepth 20000 in
set_option maxHeartbeats 8000000 in
theorem sg_X3_pairsIn_0 {E : Nat × (Nat → Int32)} {P : Option Value → Mem → Prop} {mem : Mem} {a1 : Int}
    (k1 : GM E (m_X3_pairsIn 0) P 4 [.ref 93, vi a1, vi 0, vi 0] [] mem) :
    GM E (m_X3_pairsIn 0) P 0 [.ref 93, vi a1, un, un] [] mem := by
  refine G_iconst (z := 0) dX3_pairsIn_0 rfl ?_
  refine G_istore_n dX3_pairsIn_1 rfl (by decide : 2 < 4) rfl ?_
  refine G_iconst (z := 0) dX3_pairsIn_2 rfl ?_
  refine G_istore_n dX3_pairsIn_3 rfl (by decide : 3 < 4) rfl ?_
  exact k1
set_option maxRecDepth 20000 in
set_option maxHeartbeats 8000000 in
theorem sg_X3_pairsIn_4 {E : Nat × (Nat → Int32)} {P : Option Value → Mem → Prop} {mem : Mem} {a1 : Int} {a2 : Int} {a3 : Int} (w1 : -2147483648 ≤ a3 ∧ a3 < 2147483648) (q2 : ¬ 6 ≤ a3 → ¬ (bandI (shrI a1 a3) 1) = 0 → 0 ≤ a3 ∧ a3 < 6)
    (k1 : 6 ≤ a3 → P (some (vi a2)) mem)
    (k2 : ¬ 6 ≤ a3 → GM E (m_X3_pairsIn 0) P 4 [.ref 93, vi a1, vi (if (bandI (shrI a1 a3) 1) = 0 then a2 else (a2 + (mem 98 a3))), vi (a3 + 1)] [] mem) :
    GM E (m_X3_pairsIn 0) P 4 [.ref 93, vi a1, vi a2, vi a3] [] mem := by
  refine G_iload_n dX3_pairsIn_4 rfl ?_
  refine G_aload_n dX3_pairsIn_5 rfl ?_
  refine G_getR (t := 98) dX3_pairsIn_6 fl_3_24 (by decide) sh_93 rr_93_7 ?_
  refine G_alen (z := 6) dX3_pairsIn_9 (by decide) sh_98 (by decide) rfl ?_
  refine G_icmp_ge (tgt := 36) dX3_pairsIn_10 (by decide) (w1) (by decide) (fun c1 => ?_) (fun c1 => ?_)
  · -- 6 ≤ a3
    refine G_iload_n dX3_pairsIn_36 rfl ?_
    exact G_iret dX3_pairsIn_37 rfl (Nat.zero_le _) (Nat.zero_le _) (Nat.le_refl _) ⟨rfl, k1 c1⟩
  · -- ¬ 6 ≤ a3
    refine G_iload_n dX3_pairsIn_13 rfl ?_
    refine G_iload_n dX3_pairsIn_14 rfl ?_
    refine G_ishr (z := (shrI a1 a3)) dX3_pairsIn_15 (iI_inv _) ?_
    refine G_iconst (z := 1) dX3_pairsIn_16 rfl ?_
    refine G_iand (z := (bandI (shrI a1 a3) 1)) dX3_pairsIn_17 (iI_inv _) ?_
    have j1 : GM E (m_X3_pairsIn 0) P 30 [.ref 93, vi a1, vi (if (bandI (shrI a1 a3) 1) = 0 then a2 else (a2 + (mem 98 a3))), vi a3] [] mem := by
      refine G_iinc (z := (a3 + 1)) dX3_pairsIn_30 rfl rfl (by decide : 3 < 4) rfl ?_
      refine G_goto (tgt := 4) dX3_pairsIn_33 (by decide) ?_
      exact k2 c1
    refine G_if_eq (tgt := 30) dX3_pairsIn_18 (by decide) (iI_rng _) (fun c2 => ?_) (fun c2 => ?_)
    · -- (bandI (shrI a1 a3) 1) = 0
      have qj1 := j1
      simp only [if_pos c2] at qj1
      exact qj1
    · -- ¬ (bandI (shrI a1 a3) 1) = 0
      refine G_iload_n dX3_pairsIn_21 rfl ?_
      refine G_aload_n dX3_pairsIn_22 rfl ?_
      refine G_getR (t := 98) dX3_pairsIn_23 fl_3_24 (by decide) sh_93 rr_93_7 ?_
      refine G_iload_n dX3_pairsIn_26 rfl ?_
      refine G_iald (z := (mem 98 a3)) dX3_pairsIn_27 (by decide) sh_98 (by decide) (q2 c1 c2).1 (q2 c1 c2).2 rfl ?_
      refine G_iadd dX3_pairsIn_28 ?_
      refine G_istore_n dX3_pairsIn_29 rfl (by decide : 2 < 4) rfl ?_
      have qj1 := j1
      simp only [if_neg c2] at qj1
      exact qj1
set_option maxRecDepth 20000 in
set_option maxHeartbeats 8000000 in
theorem sg_X3_study_0 {E : Nat × (Nat → Int32)} {P : Option Value → Mem → Prop} {mem : Mem}
    (k1 : GM E (m_X3_study 3) P 2 [.ref 93, vi 0, un] [] mem) :
    GM E (m_X3_study 3) P 0 [.ref 93, un, un] [] mem := by
  refine G_iconst (z := 0) dX3_study_0 rfl ?_
  refine G_istore_n dX3_study_1 rfl (by decide : 1 < 3) rfl ?_
  exact k1
set_option maxRecDepth 20000 in
set_option maxHeartbeats 8000000 in
theorem sg_X3_study_2 {E : Nat × (Nat → Int32)} {P : Option Value → Mem → Prop} {mem : Mem} {a1 : Int} (w1 : -2147483648 ≤ a1 ∧ a1 < 2147483648) (q2 : ¬ 6 ≤ a1 → 0 ≤ (mem 9 1) ∧ (mem 9 1) ≤ 6) (q3 : ¬ 6 ≤ a1 → ¬ (0 ≤ a1 ∧ a1 < (mem 9 1)) → 0 ≤ a1 ∧ a1 < 6)
    (k1 : 6 ≤ a1 → GM E (m_X3_study 3) P 67 [.ref 93, vi 0, un] [] (up2 mem 93 9 1))
    (k2 : ¬ 6 ≤ a1 → 0 ≤ a1 ∧ a1 < (mem 9 1) → GM E (m_X3_study 3) P 39 [.ref 93, vi a1, .ref (11 + 2 * (a1).toNat)] [.ref (11 + 2 * (a1).toNat), .ref (11 + 2 * (a1).toNat), .ref 3, vi a1, .ref 96] mem)
    (k3 : ¬ 6 ≤ a1 → ¬ (0 ≤ a1 ∧ a1 < (mem 9 1)) → GM E (m_X3_study 3) P 2 [.ref 93, vi (a1 + 1), un] [] (up2 mem 96 a1 0)) :
    GM E (m_X3_study 3) P 2 [.ref 93, vi a1, un] [] mem := by
  refine G_iload_n dX3_study_2 rfl ?_
  refine G_aload_n dX3_study_3 rfl ?_
  refine G_getR (t := 96) dX3_study_4 fl_3_18 (by decide) sh_93 rr_93_5 ?_
  refine G_alen (z := 6) dX3_study_7 (by decide) sh_96 (by decide) rfl ?_
  refine G_icmp_ge (tgt := 60) dX3_study_8 (by decide) (w1) (by decide) (fun c1 => ?_) (fun c1 => ?_)
  · -- 6 ≤ a1
    refine G_aload_n dX3_study_60 rfl ?_
    refine G_iconst (z := 1) dX3_study_61 rfl ?_
    refine G_putZ (mem2 := (up2 mem 93 9 1)) (by decide) dX3_study_62 fp_3_64 (by decide) sh_93 rfl ?_
    refine G_iconst (z := 0) dX3_study_65 rfl ?_
    refine G_istore_n dX3_study_66 rfl (by decide : 1 < 3) rfl ?_
    exact k1 c1
  · -- ¬ 6 ≤ a1
    refine G_aload_n dX3_study_11 rfl ?_
    refine G_getR (t := 9) dX3_study_12 fl_3_30 (by decide) sh_93 rr_93_0 ?_
    refine G_iload_n dX3_study_15 rfl ?_
    refine cb_X3_study_16 (ic_X10_at (z := (mem 9 1)) rfl (q2 c1) (w1) (fun c2 => ?_) (fun c3 => ?_))
    · -- 0 ≤ a1 ∧ a1 < (mem 9 1)
      refine G_astore_n dX3_study_19 rfl (by decide : 2 < 3) rfl ?_
      refine G_aload_n dX3_study_20 rfl ?_
      refine G_getR (t := 96) dX3_study_21 fl_3_18 (by decide) sh_93 rr_93_5 ?_
      refine G_iload_n dX3_study_24 rfl ?_
      refine G_aload_n dX3_study_25 rfl ?_
      refine G_ifnonnull (tgt := 33) dX3_study_26 (by decide) ?_
      refine G_aload_n dX3_study_33 rfl ?_
      refine G_getR (t := 3) dX3_study_34 fl_3_34 (by decide) sh_93 rr_93_1 ?_
      refine G_aload_n dX3_study_37 rfl ?_
      refine G_aload_n dX3_study_38 rfl ?_
      exact k2 c1 c2
    · -- ¬ (0 ≤ a1 ∧ a1 < (mem 9 1))
      refine G_astoreNull_n dX3_study_19 rfl (by decide : 2 < 3) rfl ?_
      refine G_aload_n dX3_study_20 rfl ?_
      refine G_getR (t := 96) dX3_study_21 fl_3_18 (by decide) sh_93 rr_93_5 ?_
      refine G_iload_n dX3_study_24 rfl ?_
      refine G_aloadNull_n dX3_study_25 rfl ?_
      refine G_ifnonnullZ dX3_study_26 ?_
      refine G_iconst (z := 0) dX3_study_29 rfl ?_
      refine G_goto (tgt := 53) dX3_study_30 (by decide) ?_
      refine G_iast (mem2 := (up2 mem 96 a1 0)) dX3_study_53 (by decide) sh_96 (by decide) (q3 c1 c3).1 (q3 c1 c3).2 rfl ?_
      refine G_iinc (z := (a1 + 1)) dX3_study_54 rfl rfl (by decide : 1 < 3) rfl ?_
      refine G_goto (tgt := 2) dX3_study_57 (by decide) ?_
      refine G_weak (lv2 := [.ref 93, vi (a1 + 1), un]) ⟨Or.inr rfl, Or.inr rfl, Or.inl rfl, trivial⟩ ?_
      exact k3 c1 c3
set_option maxRecDepth 20000 in
set_option maxHeartbeats 8000000 in
theorem sg_X3_study_42 {E : Nat × (Nat → Int32)} {P : Option Value → Mem → Prop} {mem : Mem} {a1 : Int} {o2 : Nat} {s0 : Int} {s3 : Int} (ho2 : o2 ∈ streetL)
    (k1 : GM E (m_X3_study 3) P 50 [.ref 93, vi a1, .ref o2] [vi (mem 4 2), vi s0, .ref o2, .ref 3, vi s3, .ref 96] mem) :
    GM E (m_X3_study 3) P 42 [.ref 93, vi a1, .ref o2] [vi s0, .ref o2, .ref 3, vi s3, .ref 96] mem := by
  refine G_aload_n dX3_study_42 rfl ?_
  refine G_getR (t := 3) dX3_study_43 fl_3_34 (by decide) sh_93 rr_93_1 ?_
  refine G_iconst (z := 2) dX3_study_46 rfl ?_
  refine cb_X3_study_47 (ic_X6_get (z := (mem 4 2)) (by decide) rfl ?_)
  exact k1
set_option maxRecDepth 20000 in
set_option maxHeartbeats 8000000 in
theorem sg_X3_study_53 {E : Nat × (Nat → Int32)} {P : Option Value → Mem → Prop} {mem : Mem} {a1 : Int} {o2 : Nat} {s0 : Int} {s1 : Int} (ho2 : o2 ∈ streetL) (q1 : 0 ≤ s1 ∧ s1 < 6)
    (k1 : GM E (m_X3_study 3) P 2 [.ref 93, vi (a1 + 1), un] [] (up2 mem 96 s1 s0)) :
    GM E (m_X3_study 3) P 53 [.ref 93, vi a1, .ref o2] [vi s0, vi s1, .ref 96] mem := by
  refine G_iast (mem2 := (up2 mem 96 s1 s0)) dX3_study_53 (by decide) sh_96 (by decide) (q1).1 (q1).2 rfl ?_
  refine G_iinc (z := (a1 + 1)) dX3_study_54 rfl rfl (by decide : 1 < 3) rfl ?_
  refine G_goto (tgt := 2) dX3_study_57 (by decide) ?_
  refine G_weak (lv2 := [.ref 93, vi (a1 + 1), un]) ⟨Or.inr rfl, Or.inr rfl, Or.inl rfl, trivial⟩ ?_
  exact k1
set_option maxRecDepth 20000 in
set_option maxHeartbeats 8000000 in
theorem sg_X3_study_67 {E : Nat × (Nat → Int32)} {P : Option Value → Mem → Prop} {mem : Mem} {a1 : Int} (w1 : -2147483648 ≤ a1 ∧ a1 < 2147483648) (w2 : -2147483648 ≤ (mem 93 4) ∧ (mem 93 4) < 2147483648) (q3 : ¬ (mem 93 4) ≤ a1 → ¬ 10 ≤ a1 → 0 ≤ a1 ∧ a1 < 10)
    (k1 : (mem 93 4) ≤ a1 → GM E (m_X3_study 3) P 137 [.ref 93, vi 0, un] [] mem)
    (k2 : ¬ (mem 93 4) ≤ a1 → 10 ≤ a1 → GM E (m_X3_study 3) P 137 [.ref 93, vi 0, un] [] mem)
    (k3 : ¬ (mem 93 4) ≤ a1 → ¬ 10 ≤ a1 → GM E (m_X3_study 3) P 99 [.ref 93, vi a1, un] [vi (mem 94 a1), .ref 93, vi (mem 95 a1), vi a1, .ref 97] mem) :
    GM E (m_X3_study 3) P 67 [.ref 93, vi a1, un] [] mem := by
  refine G_iload_n dX3_study_67 rfl ?_
  refine G_aload_n dX3_study_68 rfl ?_
  refine G_getI (z := (mem 93 4)) dX3_study_69 fl_3_38 (by decide) sh_93 rfl ?_
  refine G_icmp_ge (tgt := 135) dX3_study_72 (by decide) (w1) (w2) (fun c1 => ?_) (fun c1 => ?_)
  · -- (mem 93 4) ≤ a1
    refine G_iconst (z := 0) dX3_study_135 rfl ?_
    refine G_istore_n dX3_study_136 rfl (by decide : 1 < 3) rfl ?_
    exact k1 c1
  · -- ¬ (mem 93 4) ≤ a1
    refine G_iload_n dX3_study_75 rfl ?_
    refine G_bipush (z := 10) dX3_study_76 rfl ?_
    refine G_icmp_ge (tgt := 135) dX3_study_78 (by decide) (w1) (by decide) (fun c2 => ?_) (fun c2 => ?_)
    · -- 10 ≤ a1
      refine G_iconst (z := 0) dX3_study_135 rfl ?_
      refine G_istore_n dX3_study_136 rfl (by decide : 1 < 3) rfl ?_
      exact k2 c1 c2
    · -- ¬ 10 ≤ a1
      refine G_aload_n dX3_study_81 rfl ?_
      refine G_getR (t := 97) dX3_study_82 fl_3_21 (by decide) sh_93 rr_93_6 ?_
      refine G_iload_n dX3_study_85 rfl ?_
      refine G_aload_n dX3_study_86 rfl ?_
      refine G_getR (t := 95) dX3_study_87 fl_3_15 (by decide) sh_93 rr_93_3 ?_
      refine G_iload_n dX3_study_90 rfl ?_
      refine G_iald (z := (mem 95 a1)) dX3_study_91 (by decide) sh_95 (by decide) (q3 c1 c2).1 (q3 c1 c2).2 rfl ?_
      refine G_aload_n dX3_study_92 rfl ?_
      refine G_aload_n dX3_study_93 rfl ?_
      refine G_getR (t := 94) dX3_study_94 fl_3_11 (by decide) sh_93 rr_93_2 ?_
      refine G_iload_n dX3_study_97 rfl ?_
      refine G_iald (z := (mem 94 a1)) dX3_study_98 (by decide) sh_94 (by decide) (q3 c1 c2).1 (q3 c1 c2).2 rfl ?_
      exact k3 c1 c2
set_option maxRecDepth 20000 in
set_option maxHeartbeats 8000000 in
theorem sg_X3_study_102 {E : Nat × (Nat → Int32)} {P : Option Value → Mem → Prop} {mem : Mem} {a1 : Int} {s0 : Int} {s1 : Int} {s2 : Int} (q1 : 0 ≤ s2 ∧ s2 < 10) (w2 : -2147483648 ≤ (mem 93 9) ∧ (mem 93 9) < 2147483648) (q3 : ¬ (mem 93 9) = 0 → 0 ≤ a1 ∧ a1 < 10) (w4 : ¬ (mem 93 9) = 0 → -2147483648 ≤ ((up2 mem 97 s2 (s1 - s0)) 97 a1) ∧ ((up2 mem 97 s2 (s1 - s0)) 97 a1) < 2147483648)
    (k1 : (mem 93 9) = 0 → GM E (m_X3_study 3) P 67 [.ref 93, vi (a1 + 1), un] [] (up2 (up2 mem 97 s2 (s1 - s0)) 93 9 0))
    (k2 : ¬ (mem 93 9) = 0 → ((up2 mem 97 s2 (s1 - s0)) 97 a1) ≠ 0 → GM E (m_X3_study 3) P 67 [.ref 93, vi (a1 + 1), un] [] (up2 (up2 mem 97 s2 (s1 - s0)) 93 9 0))
    (k3 : ¬ (mem 93 9) = 0 → ((up2 mem 97 s2 (s1 - s0)) 97 a1) = 0 → GM E (m_X3_study 3) P 67 [.ref 93, vi (a1 + 1), un] [] (up2 (up2 mem 97 s2 (s1 - s0)) 93 9 1)) :
    GM E (m_X3_study 3) P 102 [.ref 93, vi a1, un] [vi s0, vi s1, vi s2, .ref 97] mem := by
  refine G_isub dX3_study_102 ?_
  refine G_iast (mem2 := (up2 mem 97 s2 (s1 - s0))) dX3_study_103 (by decide) sh_97 (by decide) (q1).1 (q1).2 rfl ?_
  refine G_aload_n dX3_study_104 rfl ?_
  refine G_aload_n dX3_study_105 rfl ?_
  refine G_getI (z := (mem 93 9)) dX3_study_106 fl_3_64 (by decide) sh_93 (by simp [up2, upr]) ?_
  refine G_if_eq (tgt := 125) dX3_study_109 (by decide) (w2) (fun c1 => ?_) (fun c1 => ?_)
  · -- (mem 93 9) = 0
    refine G_iconst (z := 0) dX3_study_125 rfl ?_
    refine G_putZ (mem2 := (up2 (up2 mem 97 s2 (s1 - s0)) 93 9 0)) (by decide) dX3_study_126 fp_3_64 (by decide) sh_93 rfl ?_
    refine G_iinc (z := (a1 + 1)) dX3_study_129 rfl rfl (by decide : 1 < 3) rfl ?_
    refine G_goto (tgt := 67) dX3_study_132 (by decide) ?_
    exact k1 c1
  · -- ¬ (mem 93 9) = 0
    refine G_aload_n dX3_study_112 rfl ?_
    refine G_getR (t := 97) dX3_study_113 fl_3_21 (by decide) sh_93 rr_93_6 ?_
    refine G_iload_n dX3_study_116 rfl ?_
    refine G_iald (z := ((up2 mem 97 s2 (s1 - s0)) 97 a1)) dX3_study_117 (by decide) sh_97 (by decide) (q3 c1).1 (q3 c1).2 (by simp [up2, upr]) ?_
    refine G_if_ne (tgt := 125) dX3_study_118 (by decide) (w4 c1) (fun c2 => ?_) (fun c2 => ?_)
    · -- ((up2 mem 97 s2 (s1 - s0)) 97 a1) ≠ 0
      refine G_iconst (z := 0) dX3_study_125 rfl ?_
      refine G_putZ (mem2 := (up2 (up2 mem 97 s2 (s1 - s0)) 93 9 0)) (by decide) dX3_study_126 fp_3_64 (by decide) sh_93 rfl ?_
      refine G_iinc (z := (a1 + 1)) dX3_study_129 rfl rfl (by decide : 1 < 3) rfl ?_
      refine G_goto (tgt := 67) dX3_study_132 (by decide) ?_
      exact k2 c1 c2
    · -- ((up2 mem 97 s2 (s1 - s0)) 97 a1) = 0
      refine G_iconst (z := 1) dX3_study_121 rfl ?_
      refine G_goto (tgt := 126) dX3_study_122 (by decide) ?_
      refine G_putZ (mem2 := (up2 (up2 mem 97 s2 (s1 - s0)) 93 9 1)) (by decide) dX3_study_126 fp_3_64 (by decide) sh_93 rfl ?_
      refine G_iinc (z := (a1 + 1)) dX3_study_129 rfl rfl (by decide : 1 < 3) rfl ?_
      refine G_goto (tgt := 67) dX3_study_132 (by decide) ?_
      exact k3 c1 c2
set_option maxRecDepth 20000 in
set_option maxHeartbeats 8000000 in
theorem sg_X3_study_137 {E : Nat × (Nat → Int32)} {P : Option Value → Mem → Prop} {mem : Mem} {a1 : Int} (w1 : -2147483648 ≤ a1 ∧ a1 < 2147483648)
    (k1 : 6 ≤ a1 → P none mem)
    (k2 : ¬ 6 ≤ a1 → GM E (m_X3_study 3) P 153 [.ref 93, vi a1, un] [vi a1, .ref 93, vi a1, .ref 98] mem) :
    GM E (m_X3_study 3) P 137 [.ref 93, vi a1, un] [] mem := by
  refine G_iload_n dX3_study_137 rfl ?_
  refine G_aload_n dX3_study_138 rfl ?_
  refine G_getR (t := 98) dX3_study_139 fl_3_24 (by decide) sh_93 rr_93_7 ?_
  refine G_alen (z := 6) dX3_study_142 (by decide) sh_98 (by decide) rfl ?_
  refine G_icmp_ge (tgt := 163) dX3_study_143 (by decide) (w1) (by decide) (fun c1 => ?_) (fun c1 => ?_)
  · -- 6 ≤ a1
    exact G_vret dX3_study_163 rfl (Nat.zero_le _) (Nat.zero_le _) (Nat.le_refl _) ⟨rfl, k1 c1⟩
  · -- ¬ 6 ≤ a1
    refine G_aload_n dX3_study_146 rfl ?_
    refine G_getR (t := 98) dX3_study_147 fl_3_24 (by decide) sh_93 rr_93_7 ?_
    refine G_iload_n dX3_study_150 rfl ?_
    refine G_aload_n dX3_study_151 rfl ?_
    refine G_iload_n dX3_study_152 rfl ?_
    exact k2 c1
set_option maxRecDepth 20000 in
set_option maxHeartbeats 8000000 in
theorem sg_X3_study_156 {E : Nat × (Nat → Int32)} {P : Option Value → Mem → Prop} {mem : Mem} {a1 : Int} {s0 : Int} {s1 : Int} (q1 : 0 ≤ s1 ∧ s1 < 6)
    (k1 : GM E (m_X3_study 3) P 137 [.ref 93, vi (a1 + 1), un] [] (up2 mem 98 s1 s0)) :
    GM E (m_X3_study 3) P 156 [.ref 93, vi a1, un] [vi s0, vi s1, .ref 98] mem := by
  refine G_iast (mem2 := (up2 mem 98 s1 s0)) dX3_study_156 (by decide) sh_98 (by decide) (q1).1 (q1).2 rfl ?_
  refine G_iinc (z := (a1 + 1)) dX3_study_157 rfl rfl (by decide : 1 < 3) rfl ?_
  refine G_goto (tgt := 137) dX3_study_160 (by decide) ?_
  exact k1
set_option maxRecDepth 20000 in
set_option maxHeartbeats 8000000 in
theorem sg_X4_explore_0 {E : Nat × (Nat → Int32)} {d : Nat} {P : Option Value → Mem → Prop} {mem : Mem} {a1 : Int} {a2 : Int}
    (k1 : GM E (m_X4_explore d) P 3 [.ref 106, vi a1, vi a2, un, un, un, un] [vi a2, vi a1, .ref 106] mem) :
    GM E (m_X4_explore d) P 0 [.ref 106, vi a1, vi a2, un, un, un, un] [] mem := by
  refine G_aload_n dX4_explore_0 rfl ?_
  refine G_iload_n dX4_explore_1 rfl ?_
  refine G_iload_n dX4_explore_2 rfl ?_
  exact k1
set_option maxRecDepth 20000 in
set_option maxHeartbeats 8000000 in
theorem sg_X4_explore_6 {E : Nat × (Nat → Int32)} {d : Nat} {P : Option Value → Mem → Prop} {mem : Mem} {a1 : Int} {a2 : Int} (w1 : -2147483648 ≤ a1 ∧ a1 < 2147483648)
    (k1 : a1 < 6 → GM E (m_X4_explore d) P 36 [.ref 106, vi a1, vi a2, vi (mem 106 6), vi (mem 106 7), vi (mem 106 8), vi 0] [] mem)
    (k2 : ¬ a1 < 6 → P none mem) :
    GM E (m_X4_explore d) P 6 [.ref 106, vi a1, vi a2, un, un, un, un] [] mem := by
  refine G_iload_n dX4_explore_6 rfl ?_
  refine G_aload_n dX4_explore_7 rfl ?_
  refine G_getR (t := 109) dX4_explore_8 fl_4_21 (by decide) sh_106 rr_106_4 ?_
  refine G_alen (z := 6) dX4_explore_11 (by decide) sh_109 (by decide) rfl ?_
  refine G_icmp_lt (tgt := 16) dX4_explore_12 (by decide) (w1) (by decide) (fun c1 => ?_) (fun c1 => ?_)
  · -- a1 < 6
    refine G_aload_n dX4_explore_16 rfl ?_
    refine G_getI (z := (mem 106 6)) dX4_explore_17 fl_4_100 (by decide) sh_106 rfl ?_
    refine G_istore_n dX4_explore_20 rfl (by decide : 3 < 7) rfl ?_
    refine G_aload_n dX4_explore_21 rfl ?_
    refine G_getI (z := (mem 106 7)) dX4_explore_22 fl_4_103 (by decide) sh_106 rfl ?_
    refine G_istore dX4_explore_25 (by decide : 4 < 7) rfl ?_
    refine G_aload_n dX4_explore_27 rfl ?_
    refine G_getI (z := (mem 106 8)) dX4_explore_28 fl_4_106 (by decide) sh_106 rfl ?_
    refine G_istore dX4_explore_31 (by decide : 5 < 7) rfl ?_
    refine G_iconst (z := 0) dX4_explore_33 rfl ?_
    refine G_istore dX4_explore_34 (by decide : 6 < 7) rfl ?_
    exact k1 c1
  · -- ¬ a1 < 6
    exact G_vret dX4_explore_15 rfl (Nat.zero_le _) (Nat.zero_le _) (Nat.le_refl _) ⟨rfl, k2 c1⟩
set_option maxRecDepth 20000 in
set_option maxHeartbeats 8000000 in
theorem sg_X4_explore_36 {E : Nat × (Nat → Int32)} {d : Nat} {P : Option Value → Mem → Prop} {mem : Mem} {a1 : Int} {a2 : Int} {a3 : Int} {a4 : Int} {a5 : Int} {a6 : Int} (w1 : -2147483648 ≤ a6 ∧ a6 < 2147483648) (w2 : -2147483648 ≤ (mem 9 1) ∧ (mem 9 1) < 2147483648)
    (k1 : (mem 9 1) ≤ a6 → P none mem)
    (k2 : ¬ (mem 9 1) ≤ a6 → (bandI (bandI (mem 106 14) (bxorI a2 (-1))) (shlI 1 a6)) = 0 → GM E (m_X4_explore d) P 36 [.ref 106, vi a1, vi a2, vi a3, vi a4, vi a5, vi (a6 + 1)] [] (up2 (up2 (up2 mem 106 6 a3) 106 7 a4) 106 8 a5))
    (k3 : ¬ (mem 9 1) ≤ a6 → ¬ (bandI (bandI (mem 106 14) (bxorI a2 (-1))) (shlI 1 a6)) = 0 → GM E (m_X4_explore d) P 67 [.ref 106, vi a1, vi a2, vi a3, vi a4, vi a5, vi a6] [vi a6, .ref 106] mem) :
    GM E (m_X4_explore d) P 36 [.ref 106, vi a1, vi a2, vi a3, vi a4, vi a5, vi a6] [] mem := by
  refine G_iload dX4_explore_36 rfl ?_
  refine G_aload_n dX4_explore_38 rfl ?_
  refine G_getR (t := 9) dX4_explore_39 fl_4_27 (by decide) sh_106 rr_106_0 ?_
  refine G_getI (z := (mem 9 1)) dX4_explore_42 fl_4_68 (by decide) sh_9 rfl ?_
  refine G_icmp_ge (tgt := 117) dX4_explore_45 (by decide) (w1) (w2) (fun c1 => ?_) (fun c1 => ?_)
  · -- (mem 9 1) ≤ a6
    exact G_vret dX4_explore_117 rfl (Nat.zero_le _) (Nat.zero_le _) (Nat.le_refl _) ⟨rfl, k1 c1⟩
  · -- ¬ (mem 9 1) ≤ a6
    refine G_aload_n dX4_explore_48 rfl ?_
    refine G_getI (z := (mem 106 14)) dX4_explore_49 fl_4_142 (by decide) sh_106 rfl ?_
    refine G_iload_n dX4_explore_52 rfl ?_
    refine G_iconst (z := (-1)) dX4_explore_53 rfl ?_
    refine G_ixor (z := (bxorI a2 (-1))) dX4_explore_54 (iI_inv _) ?_
    refine G_iand (z := (bandI (mem 106 14) (bxorI a2 (-1)))) dX4_explore_55 (iI_inv _) ?_
    refine G_iconst (z := 1) dX4_explore_56 rfl ?_
    refine G_iload dX4_explore_57 rfl ?_
    refine G_ishl (z := (shlI 1 a6)) dX4_explore_59 (iI_inv _) ?_
    refine G_iand (z := (bandI (bandI (mem 106 14) (bxorI a2 (-1))) (shlI 1 a6))) dX4_explore_60 (iI_inv _) ?_
    refine G_if_eq (tgt := 94) dX4_explore_61 (by decide) (iI_rng _) (fun c2 => ?_) (fun c2 => ?_)
    · -- (bandI (bandI (mem 106 14) (bxorI a2 (-1))) (shlI 1 a6)) = 0
      refine G_aload_n dX4_explore_94 rfl ?_
      refine G_iload_n dX4_explore_95 rfl ?_
      refine G_putI (mem2 := (up2 mem 106 6 a3)) dX4_explore_96 fp_4_100 (by decide) sh_106 rfl ?_
      refine G_aload_n dX4_explore_99 rfl ?_
      refine G_iload dX4_explore_100 rfl ?_
      refine G_putI (mem2 := (up2 (up2 mem 106 6 a3) 106 7 a4)) dX4_explore_102 fp_4_103 (by decide) sh_106 rfl ?_
      refine G_aload_n dX4_explore_105 rfl ?_
      refine G_iload dX4_explore_106 rfl ?_
      refine G_putI (mem2 := (up2 (up2 (up2 mem 106 6 a3) 106 7 a4) 106 8 a5)) dX4_explore_108 fp_4_106 (by decide) sh_106 rfl ?_
      refine G_iinc (z := (a6 + 1)) dX4_explore_111 rfl rfl (by decide : 6 < 7) rfl ?_
      refine G_goto (tgt := 36) dX4_explore_114 (by decide) ?_
      exact k2 c1 c2
    · -- ¬ (bandI (bandI (mem 106 14) (bxorI a2 (-1))) (shlI 1 a6)) = 0
      refine G_aload_n dX4_explore_64 rfl ?_
      refine G_iload dX4_explore_65 rfl ?_
      exact k3 c1 c2
set_option maxRecDepth 20000 in
set_option maxHeartbeats 8000000 in
theorem sg_X4_explore_70 {E : Nat × (Nat → Int32)} {d : Nat} {P : Option Value → Mem → Prop} {mem : Mem} {a1 : Int} {a2 : Int} {a3 : Int} {a4 : Int} {a5 : Int} {a6 : Int} {s0 : Int} (w1 : -2147483648 ≤ s0 ∧ s0 < 2147483648) (q2 : ¬ s0 = 0 → 0 ≤ a1 ∧ a1 < 6)
    (k1 : s0 = 0 → GM E (m_X4_explore d) P 36 [.ref 106, vi a1, vi a2, vi a3, vi a4, vi a5, vi (a6 + 1)] [] (up2 (up2 (up2 mem 106 6 a3) 106 7 a4) 106 8 a5))
    (k2 : ¬ s0 = 0 → GM E (m_X4_explore d) P 91 [.ref 106, vi a1, vi a2, vi a3, vi a4, vi a5, vi a6] [vi (borI a2 (shlI 1 a6)), vi (a1 + 1), .ref 106] (up2 mem 109 a1 a6)) :
    GM E (m_X4_explore d) P 70 [.ref 106, vi a1, vi a2, vi a3, vi a4, vi a5, vi a6] [vi s0] mem := by
  refine G_if_eq (tgt := 94) dX4_explore_70 (by decide) (w1) (fun c1 => ?_) (fun c1 => ?_)
  · -- s0 = 0
    refine G_aload_n dX4_explore_94 rfl ?_
    refine G_iload_n dX4_explore_95 rfl ?_
    refine G_putI (mem2 := (up2 mem 106 6 a3)) dX4_explore_96 fp_4_100 (by decide) sh_106 rfl ?_
    refine G_aload_n dX4_explore_99 rfl ?_
    refine G_iload dX4_explore_100 rfl ?_
    refine G_putI (mem2 := (up2 (up2 mem 106 6 a3) 106 7 a4)) dX4_explore_102 fp_4_103 (by decide) sh_106 rfl ?_
    refine G_aload_n dX4_explore_105 rfl ?_
    refine G_iload dX4_explore_106 rfl ?_
    refine G_putI (mem2 := (up2 (up2 (up2 mem 106 6 a3) 106 7 a4) 106 8 a5)) dX4_explore_108 fp_4_106 (by decide) sh_106 rfl ?_
    refine G_iinc (z := (a6 + 1)) dX4_explore_111 rfl rfl (by decide : 6 < 7) rfl ?_
    refine G_goto (tgt := 36) dX4_explore_114 (by decide) ?_
    exact k1 c1
  · -- ¬ s0 = 0
    refine G_aload_n dX4_explore_73 rfl ?_
    refine G_getR (t := 109) dX4_explore_74 fl_4_21 (by decide) sh_106 rr_106_4 ?_
    refine G_iload_n dX4_explore_77 rfl ?_
    refine G_iload dX4_explore_78 rfl ?_
    refine G_iast (mem2 := (up2 mem 109 a1 a6)) dX4_explore_80 (by decide) sh_109 (by decide) (q2 c1).1 (q2 c1).2 rfl ?_
    refine G_aload_n dX4_explore_81 rfl ?_
    refine G_iload_n dX4_explore_82 rfl ?_
    refine G_iconst (z := 1) dX4_explore_83 rfl ?_
    refine G_iadd dX4_explore_84 ?_
    refine G_iload_n dX4_explore_85 rfl ?_
    refine G_iconst (z := 1) dX4_explore_86 rfl ?_
    refine G_iload dX4_explore_87 rfl ?_
    refine G_ishl (z := (shlI 1 a6)) dX4_explore_89 (iI_inv _) ?_
    refine G_ior (z := (borI a2 (shlI 1 a6))) dX4_explore_90 (iI_inv _) ?_
    exact k2 c1
set_option maxRecDepth 20000 in
set_option maxHeartbeats 8000000 in
theorem sg_X4_explore_94 {E : Nat × (Nat → Int32)} {d : Nat} {P : Option Value → Mem → Prop} {mem : Mem} {a1 : Int} {a2 : Int} {a3 : Int} {a4 : Int} {a5 : Int} {a6 : Int}
    (k1 : GM E (m_X4_explore d) P 36 [.ref 106, vi a1, vi a2, vi a3, vi a4, vi a5, vi (a6 + 1)] [] (up2 (up2 (up2 mem 106 6 a3) 106 7 a4) 106 8 a5)) :
    GM E (m_X4_explore d) P 94 [.ref 106, vi a1, vi a2, vi a3, vi a4, vi a5, vi a6] [] mem := by
  refine G_aload_n dX4_explore_94 rfl ?_
  refine G_iload_n dX4_explore_95 rfl ?_
  refine G_putI (mem2 := (up2 mem 106 6 a3)) dX4_explore_96 fp_4_100 (by decide) sh_106 rfl ?_
  refine G_aload_n dX4_explore_99 rfl ?_
  refine G_iload dX4_explore_100 rfl ?_
  refine G_putI (mem2 := (up2 (up2 mem 106 6 a3) 106 7 a4)) dX4_explore_102 fp_4_103 (by decide) sh_106 rfl ?_
  refine G_aload_n dX4_explore_105 rfl ?_
  refine G_iload dX4_explore_106 rfl ?_
  refine G_putI (mem2 := (up2 (up2 (up2 mem 106 6 a3) 106 7 a4) 106 8 a5)) dX4_explore_108 fp_4_106 (by decide) sh_106 rfl ?_
  refine G_iinc (z := (a6 + 1)) dX4_explore_111 rfl rfl (by decide : 6 < 7) rfl ?_
  refine G_goto (tgt := 36) dX4_explore_114 (by decide) ?_
  exact k1
set_option maxRecDepth 20000 in
set_option maxHeartbeats 8000000 in
theorem sg_X4_followPath_0 {E : Nat × (Nat → Int32)} {P : Option Value → Mem → Prop} {mem : Mem}
    (k1 : GM E (m_X4_followPath 4) P 2 [.ref 106, vi 0] [] mem) :
    GM E (m_X4_followPath 4) P 0 [.ref 106, un] [] mem := by
  refine G_iconst (z := 0) dX4_followPath_0 rfl ?_
  refine G_istore_n dX4_followPath_1 rfl (by decide : 1 < 2) rfl ?_
  exact k1
set_option maxRecDepth 20000 in
set_option maxHeartbeats 8000000 in
theorem sg_X4_followPath_2 {E : Nat × (Nat → Int32)} {P : Option Value → Mem → Prop} {mem : Mem} {a1 : Int} (w1 : -2147483648 ≤ a1 ∧ a1 < 2147483648) (w2 : -2147483648 ≤ (mem 106 5) ∧ (mem 106 5) < 2147483648) (q3 : ¬ (mem 106 5) ≤ a1 → ¬ 6 ≤ a1 → 0 ≤ a1 ∧ a1 < 6)
    (k1 : (mem 106 5) ≤ a1 → GM E (m_X4_followPath 4) P 41 [.ref 106, vi a1] [.ref 106] mem)
    (k2 : ¬ (mem 106 5) ≤ a1 → 6 ≤ a1 → GM E (m_X4_followPath 4) P 41 [.ref 106, vi a1] [.ref 106] mem)
    (k3 : ¬ (mem 106 5) ≤ a1 → ¬ 6 ≤ a1 → GM E (m_X4_followPath 4) P 26 [.ref 106, vi a1] [vi (mem 109 a1), .ref 106] mem) :
    GM E (m_X4_followPath 4) P 2 [.ref 106, vi a1] [] mem := by
  refine G_iload_n dX4_followPath_2 rfl ?_
  refine G_aload_n dX4_followPath_3 rfl ?_
  refine G_getI (z := (mem 106 5)) dX4_followPath_4 fl_4_44 (by decide) sh_106 rfl ?_
  refine G_icmp_ge (tgt := 40) dX4_followPath_7 (by decide) (w1) (w2) (fun c1 => ?_) (fun c1 => ?_)
  · -- (mem 106 5) ≤ a1
    refine G_aload_n dX4_followPath_40 rfl ?_
    exact k1 c1
  · -- ¬ (mem 106 5) ≤ a1
    refine G_iload_n dX4_followPath_10 rfl ?_
    refine G_aload_n dX4_followPath_11 rfl ?_
    refine G_getR (t := 109) dX4_followPath_12 fl_4_21 (by decide) sh_106 rr_106_4 ?_
    refine G_alen (z := 6) dX4_followPath_15 (by decide) sh_109 (by decide) rfl ?_
    refine G_icmp_ge (tgt := 40) dX4_followPath_16 (by decide) (w1) (by decide) (fun c2 => ?_) (fun c2 => ?_)
    · -- 6 ≤ a1
      refine G_aload_n dX4_followPath_40 rfl ?_
      exact k2 c1 c2
    · -- ¬ 6 ≤ a1
      refine G_aload_n dX4_followPath_19 rfl ?_
      refine G_aload_n dX4_followPath_20 rfl ?_
      refine G_getR (t := 109) dX4_followPath_21 fl_4_21 (by decide) sh_106 rr_106_4 ?_
      refine G_iload_n dX4_followPath_24 rfl ?_
      refine G_iald (z := (mem 109 a1)) dX4_followPath_25 (by decide) sh_109 (by decide) (q3 c1 c2).1 (q3 c1 c2).2 rfl ?_
      exact k3 c1 c2
set_option maxRecDepth 20000 in
set_option maxHeartbeats 8000000 in
theorem sg_X4_followPath_29 {E : Nat × (Nat → Int32)} {P : Option Value → Mem → Prop} {mem : Mem} {a1 : Int} {s0 : Int} (w1 : -2147483648 ≤ s0 ∧ s0 < 2147483648)
    (k1 : s0 ≠ 0 → GM E (m_X4_followPath 4) P 2 [.ref 106, vi (a1 + 1)] [] mem)
    (k2 : s0 = 0 → P (some (vi 0)) mem) :
    GM E (m_X4_followPath 4) P 29 [.ref 106, vi a1] [vi s0] mem := by
  refine G_if_ne (tgt := 34) dX4_followPath_29 (by decide) (w1) (fun c1 => ?_) (fun c1 => ?_)
  · -- s0 ≠ 0
    refine G_iinc (z := (a1 + 1)) dX4_followPath_34 rfl rfl (by decide : 1 < 2) rfl ?_
    refine G_goto (tgt := 2) dX4_followPath_37 (by decide) ?_
    exact k1 c1
  · -- s0 = 0
    refine G_iconst (z := 0) dX4_followPath_32 rfl ?_
    exact G_zret dX4_followPath_33 rfl (nar_zb (by decide)) (Nat.zero_le _) (Nat.zero_le _) (Nat.le_refl _) ⟨rfl, k2 c1⟩
set_option maxRecDepth 20000 in
set_option maxHeartbeats 8000000 in
theorem sg_X4_followPath_44 {E : Nat × (Nat → Int32)} {P : Option Value → Mem → Prop} {mem : Mem} {a1 : Int} {s0 : Int} (b1 : s0 = 0 ∨ s0 = 1)
    (k1 : P (some (vi s0)) mem) :
    GM E (m_X4_followPath 4) P 44 [.ref 106, vi a1] [vi s0] mem := by
  exact G_zret dX4_followPath_44 rfl (nar_zb (b1)) (Nat.zero_le _) (Nat.zero_le _) (Nat.le_refl _) ⟨rfl, k1⟩
set_option maxRecDepth 20000 in
set_option maxHeartbeats 8000000 in
theorem sg_X4_goTip_0 {E : Nat × (Nat → Int32)} {P : Option Value → Mem → Prop} {mem : Mem} (w1 : -2147483648 ≤ ((mem 106 7) - (mem 4 5)) ∧ ((mem 106 7) - (mem 4 5)) < 2147483648) (w2 : -2147483648 ≤ (mem 4 6) ∧ (mem 4 6) < 2147483648)
    (k1 : (divI ((mem 106 8) + (10 * (if 0 ≤ ((mem 106 7) - (mem 4 5)) then ((mem 106 7) - (mem 4 5)) else -((mem 106 7) - (mem 4 5))))) 60) ≤ (mem 4 6) → P (some (vi 1)) (up2 (up2 (up2 (up2 mem 106 8 (((mem 106 8) + (10 * (if 0 ≤ ((mem 106 7) - (mem 4 5)) then ((mem 106 7) - (mem 4 5)) else -((mem 106 7) - (mem 4 5))))) + 300)) 106 7 (mem 4 5)) 106 6 0) 106 9 ((mem 106 9) + 1)))
    (k2 : ¬ (divI ((mem 106 8) + (10 * (if 0 ≤ ((mem 106 7) - (mem 4 5)) then ((mem 106 7) - (mem 4 5)) else -((mem 106 7) - (mem 4 5))))) 60) ≤ (mem 4 6) → P (some (vi 0)) mem) :
    GM E (m_X4_goTip 2) P 0 [.ref 106, un] [] mem := by
  refine G_aload_n dX4_goTip_0 rfl ?_
  refine G_getI (z := (mem 106 8)) dX4_goTip_1 fl_4_106 (by decide) sh_106 rfl ?_
  refine G_aload_n dX4_goTip_4 rfl ?_
  refine G_getI (z := (mem 106 7)) dX4_goTip_5 fl_4_103 (by decide) sh_106 rfl ?_
  refine G_aload_n dX4_goTip_8 rfl ?_
  refine G_getR (t := 3) dX4_goTip_9 fl_4_31 (by decide) sh_106 rr_106_1 ?_
  refine G_iconst (z := 5) dX4_goTip_12 rfl ?_
  refine cb_X4_goTip_13 (ic_X6_get (z := (mem 4 5)) (by decide) rfl ?_)
  refine cb_X4_goTip_16 (ic_X11_driving (w1) ?_)
  refine G_iadd dX4_goTip_19 ?_
  refine G_istore_n dX4_goTip_20 rfl (by decide : 1 < 2) rfl ?_
  refine G_iload_n dX4_goTip_21 rfl ?_
  refine G_bipush (z := 60) dX4_goTip_22 rfl ?_
  refine G_idiv (z := (divI ((mem 106 8) + (10 * (if 0 ≤ ((mem 106 7) - (mem 4 5)) then ((mem 106 7) - (mem 4 5)) else -((mem 106 7) - (mem 4 5))))) 60)) dX4_goTip_24 (iI_ne0 (by decide) (by decide)) (iI_inv _) ?_
  refine G_aload_n dX4_goTip_25 rfl ?_
  refine G_getR (t := 3) dX4_goTip_26 fl_4_31 (by decide) sh_106 rr_106_1 ?_
  refine G_bipush (z := 6) dX4_goTip_29 rfl ?_
  refine cb_X4_goTip_31 (ic_X6_get (z := (mem 4 6)) (by decide) rfl ?_)
  refine G_icmp_le (tgt := 39) dX4_goTip_34 (by decide) (iI_rng _) (w2) (fun c1 => ?_) (fun c1 => ?_)
  · -- (divI ((mem 106 8) + (10 * (if 0 ≤ ((mem 106 7) - (mem 4 5)) then ((mem 106 7) - (mem 4 5)) else -((mem 106 7) - (mem 4 5))))) 60) ≤ (mem 4 6)
    refine G_aload_n dX4_goTip_39 rfl ?_
    refine G_iload_n dX4_goTip_40 rfl ?_
    refine G_sipush (z := 300) dX4_goTip_41 rfl ?_
    refine G_iadd dX4_goTip_44 ?_
    refine G_putI (mem2 := (up2 mem 106 8 (((mem 106 8) + (10 * (if 0 ≤ ((mem 106 7) - (mem 4 5)) then ((mem 106 7) - (mem 4 5)) else -((mem 106 7) - (mem 4 5))))) + 300))) dX4_goTip_45 fp_4_106 (by decide) sh_106 rfl ?_
    refine G_aload_n dX4_goTip_48 rfl ?_
    refine G_aload_n dX4_goTip_49 rfl ?_
    refine G_getR (t := 3) dX4_goTip_50 fl_4_31 (by decide) sh_106 rr_106_1 ?_
    refine G_iconst (z := 5) dX4_goTip_53 rfl ?_
    refine cb_X4_goTip_54 (ic_X6_get (z := (mem 4 5)) (by decide) (by simp [up2, upr]) ?_)
    refine G_putI (mem2 := (up2 (up2 mem 106 8 (((mem 106 8) + (10 * (if 0 ≤ ((mem 106 7) - (mem 4 5)) then ((mem 106 7) - (mem 4 5)) else -((mem 106 7) - (mem 4 5))))) + 300)) 106 7 (mem 4 5))) dX4_goTip_57 fp_4_103 (by decide) sh_106 rfl ?_
    refine G_aload_n dX4_goTip_60 rfl ?_
    refine G_iconst (z := 0) dX4_goTip_61 rfl ?_
    refine G_putI (mem2 := (up2 (up2 (up2 mem 106 8 (((mem 106 8) + (10 * (if 0 ≤ ((mem 106 7) - (mem 4 5)) then ((mem 106 7) - (mem 4 5)) else -((mem 106 7) - (mem 4 5))))) + 300)) 106 7 (mem 4 5)) 106 6 0)) dX4_goTip_62 fp_4_100 (by decide) sh_106 rfl ?_
    refine G_aload_n dX4_goTip_65 rfl ?_
    refine G_dup dX4_goTip_66 rfl ?_
    refine G_getI (z := (mem 106 9)) dX4_goTip_67 fl_4_109 (by decide) sh_106 (by simp [up2, upr]) ?_
    refine G_iconst (z := 1) dX4_goTip_70 rfl ?_
    refine G_iadd dX4_goTip_71 ?_
    refine G_putI (mem2 := (up2 (up2 (up2 (up2 mem 106 8 (((mem 106 8) + (10 * (if 0 ≤ ((mem 106 7) - (mem 4 5)) then ((mem 106 7) - (mem 4 5)) else -((mem 106 7) - (mem 4 5))))) + 300)) 106 7 (mem 4 5)) 106 6 0) 106 9 ((mem 106 9) + 1))) dX4_goTip_72 fp_4_109 (by decide) sh_106 rfl ?_
    refine G_iconst (z := 1) dX4_goTip_75 rfl ?_
    exact G_zret dX4_goTip_76 rfl (nar_zb (by decide)) (Nat.zero_le _) (Nat.zero_le _) (Nat.le_refl _) ⟨rfl, k1 c1⟩
  · -- ¬ (divI ((mem 106 8) + (10 * (if 0 ≤ ((mem 106 7) - (mem 4 5)) then ((mem 106 7) - (mem 4 5)) else -((mem 106 7) - (mem 4 5))))) 60) ≤ (mem 4 6)
    refine G_iconst (z := 0) dX4_goTip_37 rfl ?_
    exact G_zret dX4_goTip_38 rfl (nar_zb (by decide)) (Nat.zero_le _) (Nat.zero_le _) (Nat.le_refl _) ⟨rfl, k2 c1⟩
set_option maxRecDepth 20000 in
set_option maxHeartbeats 8000000 in
theorem sg_X4_judge_0 {E : Nat × (Nat → Int32)} {P : Option Value → Mem → Prop} {mem : Mem} {a1 : Int} {a2 : Int} (w1 : -2147483648 ≤ ((mem 106 7) - (mem 4 5)) ∧ ((mem 106 7) - (mem 4 5)) < 2147483648) (w2 : -2147483648 ≤ a2 ∧ a2 < 2147483648) (w3 : ¬ a2 = 0 → -2147483648 ≤ (mem 4 6) ∧ (mem 4 6) < 2147483648) (w4 : ¬ a2 = 0 → (divI ((mem 106 8) + (10 * (if 0 ≤ ((mem 106 7) - (mem 4 5)) then ((mem 106 7) - (mem 4 5)) else -((mem 106 7) - (mem 4 5))))) 60) ≤ (mem 4 6) → -2147483648 ≤ (mem 106 14) ∧ (mem 106 14) < 2147483648) (w5 : ¬ a2 = 0 → (divI ((mem 106 8) + (10 * (if 0 ≤ ((mem 106 7) - (mem 4 5)) then ((mem 106 7) - (mem 4 5)) else -((mem 106 7) - (mem 4 5))))) 60) ≤ (mem 4 6) → a2 = (mem 106 14) → -2147483648 ≤ (mem 106 12) ∧ (mem 106 12) < 2147483648) (w6 : -2147483648 ≤ a1 ∧ a1 < 2147483648) (q7 : ¬ a2 = 0 → (divI ((mem 106 8) + (10 * (if 0 ≤ ((mem 106 7) - (mem 4 5)) then ((mem 106 7) - (mem 4 5)) else -((mem 106 7) - (mem 4 5))))) 60) ≤ (mem 4 6) → a2 = (mem 106 14) → (mem 106 12) < 0 → 0 ≤ (min a1 6) ∧ (min a1 6) ≤ 6 ∧ (min a1 6) ≤ 6) (w8 : ¬ a2 = 0 → (divI ((mem 106 8) + (10 * (if 0 ≤ ((mem 106 7) - (mem 4 5)) then ((mem 106 7) - (mem 4 5)) else -((mem 106 7) - (mem 4 5))))) 60) ≤ (mem 4 6) → a2 = (mem 106 14) → ¬ (mem 106 12) < 0 → -2147483648 ≤ (((mem 106 8) + (10 * (if 0 ≤ ((mem 106 7) - (mem 4 5)) then ((mem 106 7) - (mem 4 5)) else -((mem 106 7) - (mem 4 5))))) + 300) ∧ (((mem 106 8) + (10 * (if 0 ≤ ((mem 106 7) - (mem 4 5)) then ((mem 106 7) - (mem 4 5)) else -((mem 106 7) - (mem 4 5))))) + 300) < 2147483648) (q9 : ¬ a2 = 0 → (divI ((mem 106 8) + (10 * (if 0 ≤ ((mem 106 7) - (mem 4 5)) then ((mem 106 7) - (mem 4 5)) else -((mem 106 7) - (mem 4 5))))) 60) ≤ (mem 4 6) → a2 = (mem 106 14) → ¬ (mem 106 12) < 0 → ¬ (mem 106 12) ≤ (((mem 106 8) + (10 * (if 0 ≤ ((mem 106 7) - (mem 4 5)) then ((mem 106 7) - (mem 4 5)) else -((mem 106 7) - (mem 4 5))))) + 300) → 0 ≤ (min a1 6) ∧ (min a1 6) ≤ 6 ∧ (min a1 6) ≤ 6)
    (k1 : a2 = 0 → P none mem)
    (k2 : ¬ a2 = 0 → (divI ((mem 106 8) + (10 * (if 0 ≤ ((mem 106 7) - (mem 4 5)) then ((mem 106 7) - (mem 4 5)) else -((mem 106 7) - (mem 4 5))))) 60) ≤ (mem 4 6) → a2 ≠ (mem 106 14) → GM E (m_X4_judge 2) P 102 [.ref 106, vi a1, vi a2, vi ((mem 106 8) + (10 * (if 0 ≤ ((mem 106 7) - (mem 4 5)) then ((mem 106 7) - (mem 4 5)) else -((mem 106 7) - (mem 4 5))))), vi (((mem 106 8) + (10 * (if 0 ≤ ((mem 106 7) - (mem 4 5)) then ((mem 106 7) - (mem 4 5)) else -((mem 106 7) - (mem 4 5))))) + 300), un] [vi a2] mem)
    (k3 : ¬ a2 = 0 → (divI ((mem 106 8) + (10 * (if 0 ≤ ((mem 106 7) - (mem 4 5)) then ((mem 106 7) - (mem 4 5)) else -((mem 106 7) - (mem 4 5))))) 60) ≤ (mem 4 6) → a2 = (mem 106 14) → (mem 106 12) < 0 → GM E (m_X4_judge 2) P 102 [.ref 106, vi a1, vi a2, vi ((mem 106 8) + (10 * (if 0 ≤ ((mem 106 7) - (mem 4 5)) then ((mem 106 7) - (mem 4 5)) else -((mem 106 7) - (mem 4 5))))), vi (((mem 106 8) + (10 * (if 0 ≤ ((mem 106 7) - (mem 4 5)) then ((mem 106 7) - (mem 4 5)) else -((mem 106 7) - (mem 4 5))))) + 300), un] [vi a2] (upr (up2 mem 106 12 (((mem 106 8) + (10 * (if 0 ≤ ((mem 106 7) - (mem 4 5)) then ((mem 106 7) - (mem 4 5)) else -((mem 106 7) - (mem 4 5))))) + 300)) 110 (cpyR ((up2 mem 106 12 (((mem 106 8) + (10 * (if 0 ≤ ((mem 106 7) - (mem 4 5)) then ((mem 106 7) - (mem 4 5)) else -((mem 106 7) - (mem 4 5))))) + 300)) 109) ((up2 mem 106 12 (((mem 106 8) + (10 * (if 0 ≤ ((mem 106 7) - (mem 4 5)) then ((mem 106 7) - (mem 4 5)) else -((mem 106 7) - (mem 4 5))))) + 300)) 110) (min a1 6))))
    (k4 : ¬ a2 = 0 → (divI ((mem 106 8) + (10 * (if 0 ≤ ((mem 106 7) - (mem 4 5)) then ((mem 106 7) - (mem 4 5)) else -((mem 106 7) - (mem 4 5))))) 60) ≤ (mem 4 6) → a2 = (mem 106 14) → ¬ (mem 106 12) < 0 → (mem 106 12) ≤ (((mem 106 8) + (10 * (if 0 ≤ ((mem 106 7) - (mem 4 5)) then ((mem 106 7) - (mem 4 5)) else -((mem 106 7) - (mem 4 5))))) + 300) → GM E (m_X4_judge 2) P 102 [.ref 106, vi a1, vi a2, vi ((mem 106 8) + (10 * (if 0 ≤ ((mem 106 7) - (mem 4 5)) then ((mem 106 7) - (mem 4 5)) else -((mem 106 7) - (mem 4 5))))), vi (((mem 106 8) + (10 * (if 0 ≤ ((mem 106 7) - (mem 4 5)) then ((mem 106 7) - (mem 4 5)) else -((mem 106 7) - (mem 4 5))))) + 300), un] [vi a2] mem)
    (k5 : ¬ a2 = 0 → (divI ((mem 106 8) + (10 * (if 0 ≤ ((mem 106 7) - (mem 4 5)) then ((mem 106 7) - (mem 4 5)) else -((mem 106 7) - (mem 4 5))))) 60) ≤ (mem 4 6) → a2 = (mem 106 14) → ¬ (mem 106 12) < 0 → ¬ (mem 106 12) ≤ (((mem 106 8) + (10 * (if 0 ≤ ((mem 106 7) - (mem 4 5)) then ((mem 106 7) - (mem 4 5)) else -((mem 106 7) - (mem 4 5))))) + 300) → GM E (m_X4_judge 2) P 102 [.ref 106, vi a1, vi a2, vi ((mem 106 8) + (10 * (if 0 ≤ ((mem 106 7) - (mem 4 5)) then ((mem 106 7) - (mem 4 5)) else -((mem 106 7) - (mem 4 5))))), vi (((mem 106 8) + (10 * (if 0 ≤ ((mem 106 7) - (mem 4 5)) then ((mem 106 7) - (mem 4 5)) else -((mem 106 7) - (mem 4 5))))) + 300), un] [vi a2] (upr (up2 mem 106 12 (((mem 106 8) + (10 * (if 0 ≤ ((mem 106 7) - (mem 4 5)) then ((mem 106 7) - (mem 4 5)) else -((mem 106 7) - (mem 4 5))))) + 300)) 110 (cpyR ((up2 mem 106 12 (((mem 106 8) + (10 * (if 0 ≤ ((mem 106 7) - (mem 4 5)) then ((mem 106 7) - (mem 4 5)) else -((mem 106 7) - (mem 4 5))))) + 300)) 109) ((up2 mem 106 12 (((mem 106 8) + (10 * (if 0 ≤ ((mem 106 7) - (mem 4 5)) then ((mem 106 7) - (mem 4 5)) else -((mem 106 7) - (mem 4 5))))) + 300)) 110) (min a1 6))))
    (k6 : ¬ a2 = 0 → ¬ (divI ((mem 106 8) + (10 * (if 0 ≤ ((mem 106 7) - (mem 4 5)) then ((mem 106 7) - (mem 4 5)) else -((mem 106 7) - (mem 4 5))))) 60) ≤ (mem 4 6) → P none mem) :
    GM E (m_X4_judge 2) P 0 [.ref 106, vi a1, vi a2, un, un, un] [] mem := by
  refine G_aload_n dX4_judge_0 rfl ?_
  refine G_getI (z := (mem 106 8)) dX4_judge_1 fl_4_106 (by decide) sh_106 rfl ?_
  refine G_aload_n dX4_judge_4 rfl ?_
  refine G_getI (z := (mem 106 7)) dX4_judge_5 fl_4_103 (by decide) sh_106 rfl ?_
  refine G_aload_n dX4_judge_8 rfl ?_
  refine G_getR (t := 3) dX4_judge_9 fl_4_31 (by decide) sh_106 rr_106_1 ?_
  refine G_iconst (z := 5) dX4_judge_12 rfl ?_
  refine cb_X4_judge_13 (ic_X6_get (z := (mem 4 5)) (by decide) rfl ?_)
  refine cb_X4_judge_16 (ic_X11_driving (w1) ?_)
  refine G_iadd dX4_judge_19 ?_
  refine G_istore_n dX4_judge_20 rfl (by decide : 3 < 6) rfl ?_
  refine G_iload_n dX4_judge_21 rfl ?_
  refine G_if_eq (tgt := 41) dX4_judge_22 (by decide) (w2) (fun c1 => ?_) (fun c1 => ?_)
  · -- a2 = 0
    exact G_vret dX4_judge_41 rfl (Nat.zero_le _) (Nat.zero_le _) (Nat.le_refl _) ⟨rfl, k1 c1⟩
  · -- ¬ a2 = 0
    refine G_iload_n dX4_judge_25 rfl ?_
    refine G_bipush (z := 60) dX4_judge_26 rfl ?_
    refine G_idiv (z := (divI ((mem 106 8) + (10 * (if 0 ≤ ((mem 106 7) - (mem 4 5)) then ((mem 106 7) - (mem 4 5)) else -((mem 106 7) - (mem 4 5))))) 60)) dX4_judge_28 (iI_ne0 (by decide) (by decide)) (iI_inv _) ?_
    refine G_aload_n dX4_judge_29 rfl ?_
    refine G_getR (t := 3) dX4_judge_30 fl_4_31 (by decide) sh_106 rr_106_1 ?_
    refine G_bipush (z := 6) dX4_judge_33 rfl ?_
    refine cb_X4_judge_35 (ic_X6_get (z := (mem 4 6)) (by decide) rfl ?_)
    refine G_icmp_le (tgt := 42) dX4_judge_38 (by decide) (iI_rng _) (w3 c1) (fun c2 => ?_) (fun c2 => ?_)
    · -- (divI ((mem 106 8) + (10 * (if 0 ≤ ((mem 106 7) - (mem 4 5)) then ((mem 106 7) - (mem 4 5)) else -((mem 106 7) - (mem 4 5))))) 60) ≤ (mem 4 6)
      refine G_iload_n dX4_judge_42 rfl ?_
      refine G_sipush (z := 300) dX4_judge_43 rfl ?_
      refine G_iadd dX4_judge_46 ?_
      refine G_istore dX4_judge_47 (by decide : 4 < 6) rfl ?_
      refine G_iload_n dX4_judge_49 rfl ?_
      refine G_aload_n dX4_judge_50 rfl ?_
      refine G_getI (z := (mem 106 14)) dX4_judge_51 fl_4_142 (by decide) sh_106 rfl ?_
      refine G_icmp_ne (tgt := 101) dX4_judge_54 (by decide) (w2) (w4 c1 c2) (fun c3 => ?_) (fun c3 => ?_)
      · -- a2 ≠ (mem 106 14)
        refine G_iload_n dX4_judge_101 rfl ?_
        exact k2 c1 c2 c3
      · -- a2 = (mem 106 14)
        refine G_aload_n dX4_judge_57 rfl ?_
        refine G_getI (z := (mem 106 12)) dX4_judge_58 fl_4_148 (by decide) sh_106 rfl ?_
        refine G_if_lt (tgt := 73) dX4_judge_61 (by decide) (w5 c1 c2 c3) (fun c4 => ?_) (fun c4 => ?_)
        · -- (mem 106 12) < 0
          refine G_aload_n dX4_judge_73 rfl ?_
          refine G_iload dX4_judge_74 rfl ?_
          refine G_putI (mem2 := (up2 mem 106 12 (((mem 106 8) + (10 * (if 0 ≤ ((mem 106 7) - (mem 4 5)) then ((mem 106 7) - (mem 4 5)) else -((mem 106 7) - (mem 4 5))))) + 300))) dX4_judge_76 fp_4_148 (by decide) sh_106 rfl ?_
          refine G_aload_n dX4_judge_79 rfl ?_
          refine G_getR (t := 109) dX4_judge_80 fl_4_21 (by decide) sh_106 rr_106_4 ?_
          refine G_iconst (z := 0) dX4_judge_83 rfl ?_
          refine G_aload_n dX4_judge_84 rfl ?_
          refine G_getR (t := 110) dX4_judge_85 fl_4_24 (by decide) sh_106 rr_106_11 ?_
          refine G_iconst (z := 0) dX4_judge_88 rfl ?_
          refine G_iload_n dX4_judge_89 rfl ?_
          refine G_aload_n dX4_judge_90 rfl ?_
          refine G_getR (t := 109) dX4_judge_91 fl_4_21 (by decide) sh_106 rr_106_4 ?_
          refine G_alen (z := 6) dX4_judge_94 (by decide) sh_109 (by decide) rfl ?_
          refine G_min (z := (min a1 6)) dX4_judge_95 ml_4_94 mw_min (w6) (by decide) ⟨by show 1 ≤ 2; first | decide | omega, by show 21 ≤ 40 * 2; first | decide | omega, Nat.zero_le _, Nat.zero_le _⟩ (Nat.le_of_ble_eq_true rfl) rfl ?_
          refine G_copy (mem2 := (upr (up2 mem 106 12 (((mem 106 8) + (10 * (if 0 ≤ ((mem 106 7) - (mem 4 5)) then ((mem 106 7) - (mem 4 5)) else -((mem 106 7) - (mem 4 5))))) + 300)) 110 (cpyR ((up2 mem 106 12 (((mem 106 8) + (10 * (if 0 ≤ ((mem 106 7) - (mem 4 5)) then ((mem 106 7) - (mem 4 5)) else -((mem 106 7) - (mem 4 5))))) + 300)) 109) ((up2 mem 106 12 (((mem 106 8) + (10 * (if 0 ≤ ((mem 106 7) - (mem 4 5)) then ((mem 106 7) - (mem 4 5)) else -((mem 106 7) - (mem 4 5))))) + 300)) 110) (min a1 6)))) dX4_judge_98 ml_4_160 mw_copy (by decide) sh_109 (by decide) sh_110 (by decide) (by decide) (by decide) ((q7 c1 c2 c3 c4).1) (by have := q7 c1 c2 c3 c4; omega) (by have := q7 c1 c2 c3 c4; omega) ⟨by show 1 ≤ 2; first | decide | omega, by show 80 ≤ 40 * 2; first | decide | omega⟩ (Nat.le_of_ble_eq_true rfl) (cpy_00 _ _ _ _) ?_
          refine G_iload_n dX4_judge_101 rfl ?_
          exact k3 c1 c2 c3 c4
        · -- ¬ (mem 106 12) < 0
          refine G_iload dX4_judge_64 rfl ?_
          refine G_aload_n dX4_judge_66 rfl ?_
          refine G_getI (z := (mem 106 12)) dX4_judge_67 fl_4_148 (by decide) sh_106 rfl ?_
          refine G_icmp_ge (tgt := 101) dX4_judge_70 (by decide) (w8 c1 c2 c3 c4) (w5 c1 c2 c3) (fun c5 => ?_) (fun c5 => ?_)
          · -- (mem 106 12) ≤ (((mem 106 8) + (10 * (if 0 ≤ ((mem 106 7) - (mem 4 5)) then ((mem 106 7) - (mem 4 5)) else -((mem 106 7) - (mem 4 5))))) + 300)
            refine G_iload_n dX4_judge_101 rfl ?_
            exact k4 c1 c2 c3 c4 c5
          · -- ¬ (mem 106 12) ≤ (((mem 106 8) + (10 * (if 0 ≤ ((mem 106 7) - (mem 4 5)) then ((mem 106 7) - (mem 4 5)) else -((mem 106 7) - (mem 4 5))))) + 300)
            refine G_aload_n dX4_judge_73 rfl ?_
            refine G_iload dX4_judge_74 rfl ?_
            refine G_putI (mem2 := (up2 mem 106 12 (((mem 106 8) + (10 * (if 0 ≤ ((mem 106 7) - (mem 4 5)) then ((mem 106 7) - (mem 4 5)) else -((mem 106 7) - (mem 4 5))))) + 300))) dX4_judge_76 fp_4_148 (by decide) sh_106 rfl ?_
            refine G_aload_n dX4_judge_79 rfl ?_
            refine G_getR (t := 109) dX4_judge_80 fl_4_21 (by decide) sh_106 rr_106_4 ?_
            refine G_iconst (z := 0) dX4_judge_83 rfl ?_
            refine G_aload_n dX4_judge_84 rfl ?_
            refine G_getR (t := 110) dX4_judge_85 fl_4_24 (by decide) sh_106 rr_106_11 ?_
            refine G_iconst (z := 0) dX4_judge_88 rfl ?_
            refine G_iload_n dX4_judge_89 rfl ?_
            refine G_aload_n dX4_judge_90 rfl ?_
            refine G_getR (t := 109) dX4_judge_91 fl_4_21 (by decide) sh_106 rr_106_4 ?_
            refine G_alen (z := 6) dX4_judge_94 (by decide) sh_109 (by decide) rfl ?_
            refine G_min (z := (min a1 6)) dX4_judge_95 ml_4_94 mw_min (w6) (by decide) ⟨by show 1 ≤ 2; first | decide | omega, by show 21 ≤ 40 * 2; first | decide | omega, Nat.zero_le _, Nat.zero_le _⟩ (Nat.le_of_ble_eq_true rfl) rfl ?_
            refine G_copy (mem2 := (upr (up2 mem 106 12 (((mem 106 8) + (10 * (if 0 ≤ ((mem 106 7) - (mem 4 5)) then ((mem 106 7) - (mem 4 5)) else -((mem 106 7) - (mem 4 5))))) + 300)) 110 (cpyR ((up2 mem 106 12 (((mem 106 8) + (10 * (if 0 ≤ ((mem 106 7) - (mem 4 5)) then ((mem 106 7) - (mem 4 5)) else -((mem 106 7) - (mem 4 5))))) + 300)) 109) ((up2 mem 106 12 (((mem 106 8) + (10 * (if 0 ≤ ((mem 106 7) - (mem 4 5)) then ((mem 106 7) - (mem 4 5)) else -((mem 106 7) - (mem 4 5))))) + 300)) 110) (min a1 6)))) dX4_judge_98 ml_4_160 mw_copy (by decide) sh_109 (by decide) sh_110 (by decide) (by decide) (by decide) ((q9 c1 c2 c3 c4 c5).1) (by have := q9 c1 c2 c3 c4 c5; omega) (by have := q9 c1 c2 c3 c4 c5; omega) ⟨by show 1 ≤ 2; first | decide | omega, by show 80 ≤ 40 * 2; first | decide | omega⟩ (Nat.le_of_ble_eq_true rfl) (cpy_00 _ _ _ _) ?_
            refine G_iload_n dX4_judge_101 rfl ?_
            exact k5 c1 c2 c3 c4 c5
    · -- ¬ (divI ((mem 106 8) + (10 * (if 0 ≤ ((mem 106 7) - (mem 4 5)) then ((mem 106 7) - (mem 4 5)) else -((mem 106 7) - (mem 4 5))))) 60) ≤ (mem 4 6)
      exact G_vret dX4_judge_41 rfl (Nat.zero_le _) (Nat.zero_le _) (Nat.le_refl _) ⟨rfl, k6 c1 c2⟩
set_option maxRecDepth 20000 in
set_option maxHeartbeats 8000000 in
theorem sg_X4_judge_105 {E : Nat × (Nat → Int32)} {P : Option Value → Mem → Prop} {mem : Mem} {a1 : Int} {a2 : Int} {a3 : Int} {a4 : Int} {s0 : Int}
    (k1 : GM E (m_X4_judge 2) P 109 [.ref 106, vi a1, vi a2, vi a3, vi a4, un] [vi (mem 106 13), vi s0] mem) :
    GM E (m_X4_judge 2) P 105 [.ref 106, vi a1, vi a2, vi a3, vi a4, un] [vi s0] mem := by
  refine G_aload_n dX4_judge_105 rfl ?_
  refine G_getI (z := (mem 106 13)) dX4_judge_106 fl_4_151 (by decide) sh_106 rfl ?_
  exact k1
set_option maxRecDepth 20000 in
set_option maxHeartbeats 8000000 in
theorem sg_X4_judge_112 {E : Nat × (Nat → Int32)} {P : Option Value → Mem → Prop} {mem : Mem} {a1 : Int} {a2 : Int} {a3 : Int} {a4 : Int} {s0 : Int} {s1 : Int} (w1 : -2147483648 ≤ a4 ∧ a4 < 2147483648) (w2 : -2147483648 ≤ (mem 106 15) ∧ (mem 106 15) < 2147483648) (w3 : ¬ (mem 106 15) < a4 → -2147483648 ≤ (s1 - s0) ∧ (s1 - s0) < 2147483648) (w4 : -2147483648 ≤ a2 ∧ a2 < 2147483648) (w5 : ¬ (mem 106 15) < a4 → ¬ 0 < (s1 - s0) → (s1 - s0) = 0 → -2147483648 ≤ (mem 106 13) ∧ (mem 106 13) < 2147483648)
    (k1 : (mem 106 15) < a4 → P none mem)
    (k2 : ¬ (mem 106 15) < a4 → 0 < (s1 - s0) → P none (up2 mem 106 13 a2))
    (k3 : ¬ (mem 106 15) < a4 → ¬ 0 < (s1 - s0) → (s1 - s0) ≠ 0 → P none mem)
    (k4 : ¬ (mem 106 15) < a4 → ¬ 0 < (s1 - s0) → (s1 - s0) = 0 → (mem 106 13) ≤ a2 → P none mem)
    (k5 : ¬ (mem 106 15) < a4 → ¬ 0 < (s1 - s0) → (s1 - s0) = 0 → ¬ (mem 106 13) ≤ a2 → P none (up2 mem 106 13 a2)) :
    GM E (m_X4_judge 2) P 112 [.ref 106, vi a1, vi a2, vi a3, vi a4, un] [vi s0, vi s1] mem := by
  refine G_isub dX4_judge_112 ?_
  refine G_istore dX4_judge_113 (by decide : 5 < 6) rfl ?_
  refine G_iload dX4_judge_115 rfl ?_
  refine G_aload_n dX4_judge_117 rfl ?_
  refine G_getI (z := (mem 106 15)) dX4_judge_118 fl_4_145 (by decide) sh_106 rfl ?_
  refine G_icmp_gt (tgt := 147) dX4_judge_121 (by decide) (w1) (w2) (fun c1 => ?_) (fun c1 => ?_)
  · -- (mem 106 15) < a4
    exact G_vret dX4_judge_147 rfl (Nat.zero_le _) (Nat.zero_le _) (Nat.le_refl _) ⟨rfl, k1 c1⟩
  · -- ¬ (mem 106 15) < a4
    refine G_iload dX4_judge_124 rfl ?_
    refine G_if_gt (tgt := 142) dX4_judge_126 (by decide) (w3 c1) (fun c2 => ?_) (fun c2 => ?_)
    · -- 0 < (s1 - s0)
      refine G_aload_n dX4_judge_142 rfl ?_
      refine G_iload_n dX4_judge_143 rfl ?_
      refine G_putI (mem2 := (up2 mem 106 13 a2)) dX4_judge_144 fp_4_151 (by decide) sh_106 rfl ?_
      exact G_vret dX4_judge_147 rfl (Nat.zero_le _) (Nat.zero_le _) (Nat.le_refl _) ⟨rfl, k2 c1 c2⟩
    · -- ¬ 0 < (s1 - s0)
      refine G_iload dX4_judge_129 rfl ?_
      refine G_if_ne (tgt := 147) dX4_judge_131 (by decide) (w3 c1) (fun c3 => ?_) (fun c3 => ?_)
      · -- (s1 - s0) ≠ 0
        exact G_vret dX4_judge_147 rfl (Nat.zero_le _) (Nat.zero_le _) (Nat.le_refl _) ⟨rfl, k3 c1 c2 c3⟩
      · -- (s1 - s0) = 0
        refine G_iload_n dX4_judge_134 rfl ?_
        refine G_aload_n dX4_judge_135 rfl ?_
        refine G_getI (z := (mem 106 13)) dX4_judge_136 fl_4_151 (by decide) sh_106 rfl ?_
        refine G_icmp_ge (tgt := 147) dX4_judge_139 (by decide) (w4) (w5 c1 c2 c3) (fun c4 => ?_) (fun c4 => ?_)
        · -- (mem 106 13) ≤ a2
          exact G_vret dX4_judge_147 rfl (Nat.zero_le _) (Nat.zero_le _) (Nat.le_refl _) ⟨rfl, k4 c1 c2 c3 c4⟩
        · -- ¬ (mem 106 13) ≤ a2
          refine G_aload_n dX4_judge_142 rfl ?_
          refine G_iload_n dX4_judge_143 rfl ?_
          refine G_putI (mem2 := (up2 mem 106 13 a2)) dX4_judge_144 fp_4_151 (by decide) sh_106 rfl ?_
          exact G_vret dX4_judge_147 rfl (Nat.zero_le _) (Nat.zero_le _) (Nat.le_refl _) ⟨rfl, k5 c1 c2 c3 c4⟩
set_option maxRecDepth 20000 in
set_option maxHeartbeats 8000000 in
theorem sg_X4_pathToAll_0 {E : Nat × (Nat → Int32)} {P : Option Value → Mem → Prop} {mem : Mem} (w1 : -2147483648 ≤ (mem 9 1) ∧ (mem 9 1) < 2147483648)
    (k1 : GM E (m_X4_pathToAll 1) P 21 [.ref 106, vi 0] [] (up2 mem 106 5 (min (mem 9 1) 6))) :
    GM E (m_X4_pathToAll 1) P 0 [.ref 106, un] [] mem := by
  refine G_aload_n dX4_pathToAll_0 rfl ?_
  refine G_aload_n dX4_pathToAll_1 rfl ?_
  refine G_getR (t := 9) dX4_pathToAll_2 fl_4_27 (by decide) sh_106 rr_106_0 ?_
  refine G_getI (z := (mem 9 1)) dX4_pathToAll_5 fl_4_68 (by decide) sh_9 rfl ?_
  refine G_aload_n dX4_pathToAll_8 rfl ?_
  refine G_getR (t := 109) dX4_pathToAll_9 fl_4_21 (by decide) sh_106 rr_106_4 ?_
  refine G_alen (z := 6) dX4_pathToAll_12 (by decide) sh_109 (by decide) rfl ?_
  refine G_min (z := (min (mem 9 1) 6)) dX4_pathToAll_13 ml_4_94 mw_min (w1) (by decide) ⟨by show 1 ≤ 1; first | decide | omega, by show 21 ≤ 40 * 1; first | decide | omega, Nat.zero_le _, Nat.zero_le _⟩ (Nat.le_of_ble_eq_true rfl) rfl ?_
  refine G_putI (mem2 := (up2 mem 106 5 (min (mem 9 1) 6))) dX4_pathToAll_16 fp_4_44 (by decide) sh_106 rfl ?_
  refine G_iconst (z := 0) dX4_pathToAll_19 rfl ?_
  refine G_istore_n dX4_pathToAll_20 rfl (by decide : 1 < 2) rfl ?_
  exact k1
set_option maxRecDepth 20000 in
set_option maxHeartbeats 8000000 in
theorem sg_X4_pathToAll_21 {E : Nat × (Nat → Int32)} {P : Option Value → Mem → Prop} {mem : Mem} {a1 : Int} (w1 : -2147483648 ≤ a1 ∧ a1 < 2147483648) (w2 : -2147483648 ≤ (mem 106 5) ∧ (mem 106 5) < 2147483648) (q3 : ¬ (mem 106 5) ≤ a1 → 0 ≤ a1 ∧ a1 < 6)
    (k1 : (mem 106 5) ≤ a1 → P none mem)
    (k2 : ¬ (mem 106 5) ≤ a1 → GM E (m_X4_pathToAll 1) P 21 [.ref 106, vi (a1 + 1)] [] (up2 mem 109 a1 a1)) :
    GM E (m_X4_pathToAll 1) P 21 [.ref 106, vi a1] [] mem := by
  refine G_iload_n dX4_pathToAll_21 rfl ?_
  refine G_aload_n dX4_pathToAll_22 rfl ?_
  refine G_getI (z := (mem 106 5)) dX4_pathToAll_23 fl_4_44 (by decide) sh_106 rfl ?_
  refine G_icmp_ge (tgt := 42) dX4_pathToAll_26 (by decide) (w1) (w2) (fun c1 => ?_) (fun c1 => ?_)
  · -- (mem 106 5) ≤ a1
    exact G_vret dX4_pathToAll_42 rfl (Nat.zero_le _) (Nat.zero_le _) (Nat.le_refl _) ⟨rfl, k1 c1⟩
  · -- ¬ (mem 106 5) ≤ a1
    refine G_aload_n dX4_pathToAll_29 rfl ?_
    refine G_getR (t := 109) dX4_pathToAll_30 fl_4_21 (by decide) sh_106 rr_106_4 ?_
    refine G_iload_n dX4_pathToAll_33 rfl ?_
    refine G_iload_n dX4_pathToAll_34 rfl ?_
    refine G_iast (mem2 := (up2 mem 109 a1 a1)) dX4_pathToAll_35 (by decide) sh_109 (by decide) (q3 c1).1 (q3 c1).2 rfl ?_
    refine G_iinc (z := (a1 + 1)) dX4_pathToAll_36 rfl rfl (by decide : 1 < 2) rfl ?_
    refine G_goto (tgt := 21) dX4_pathToAll_39 (by decide) ?_
    exact k2 c1
set_option maxRecDepth 20000 in
set_option maxHeartbeats 8000000 in
theorem sg_X4_prepare_0 {E : Nat × (Nat → Int32)} {P : Option Value → Mem → Prop} {mem : Mem} {r1 : Nat} (hl1 : r1 < 209) (hs1 : SH[r1]? = some (.inr (0, 6)))
    (k1 : GM E (m_X4_prepare 6) P 2 [.ref 106, .ref r1, vi 0, un, un] [] mem) :
    GM E (m_X4_prepare 6) P 0 [.ref 106, .ref r1, un, un, un] [] mem := by
  refine G_iconst (z := 0) dX4_prepare_0 rfl ?_
  refine G_istore_n dX4_prepare_1 rfl (by decide : 2 < 5) rfl ?_
  exact k1
set_option maxRecDepth 20000 in
set_option maxHeartbeats 8000000 in
theorem sg_X4_prepare_2 {E : Nat × (Nat → Int32)} {P : Option Value → Mem → Prop} {mem : Mem} {r1 : Nat} {a2 : Int} (hl1 : r1 < 209) (hs1 : SH[r1]? = some (.inr (0, 6))) (w1 : -2147483648 ≤ a2 ∧ a2 < 2147483648) (w2 : -2147483648 ≤ (mem 9 1) ∧ (mem 9 1) < 2147483648) (q3 : ¬ (mem 9 1) ≤ a2 → ¬ 6 ≤ a2 → ¬ 6 ≤ a2 → 0 ≤ (mem 9 1) ∧ (mem 9 1) ≤ 6) (q4 : ¬ (mem 9 1) ≤ a2 → ¬ 6 ≤ a2 → ¬ 6 ≤ a2 → 0 ≤ a2 ∧ a2 < (mem 9 1) → 0 ≤ a2 ∧ a2 < 6) (w5 : ¬ (mem 9 1) ≤ a2 → ¬ 6 ≤ a2 → ¬ 6 ≤ a2 → 0 ≤ a2 ∧ a2 < (mem 9 1) → -2147483648 ≤ (mem 4 1) ∧ (mem 4 1) < 2147483648)
    (k1 : (mem 9 1) ≤ a2 → P none mem)
    (k2 : ¬ (mem 9 1) ≤ a2 → 6 ≤ a2 → P none mem)
    (k3 : ¬ (mem 9 1) ≤ a2 → ¬ 6 ≤ a2 → 6 ≤ a2 → P none mem)
    (k4 : ¬ (mem 9 1) ≤ a2 → ¬ 6 ≤ a2 → ¬ 6 ≤ a2 → 0 ≤ a2 ∧ a2 < (mem 9 1) → GM E (m_X4_prepare 6) P 75 [.ref 106, .ref r1, vi a2, .ref (11 + 2 * (a2).toNat), .ref (111 + 6 * (a2).toNat)] [vi ((up2 (up2 mem (111 + 6 * (a2).toNat) 7 (max 1 (mem 4 1))) (111 + 6 * (a2).toNat) 8 (mem (11 + 2 * (a2).toNat) 4)) r1 a2), .ref (11 + 2 * (a2).toNat), .ref (111 + 6 * (a2).toNat), .ref (11 + 2 * (a2).toNat), .ref (111 + 6 * (a2).toNat)] (up2 (up2 mem (111 + 6 * (a2).toNat) 7 (max 1 (mem 4 1))) (111 + 6 * (a2).toNat) 8 (mem (11 + 2 * (a2).toNat) 4)))
    (k5 : ¬ (mem 9 1) ≤ a2 → ¬ 6 ≤ a2 → ¬ 6 ≤ a2 → ¬ (0 ≤ a2 ∧ a2 < (mem 9 1)) → GM E (m_X4_prepare 6) P 2 [.ref 106, .ref r1, vi (a2 + 1), un, un] [] mem) :
    GM E (m_X4_prepare 6) P 2 [.ref 106, .ref r1, vi a2, un, un] [] mem := by
  refine G_iload_n dX4_prepare_2 rfl ?_
  refine G_aload_n dX4_prepare_3 rfl ?_
  refine G_getR (t := 9) dX4_prepare_4 fl_4_27 (by decide) sh_106 rr_106_0 ?_
  refine G_getI (z := (mem 9 1)) dX4_prepare_7 fl_4_68 (by decide) sh_9 rfl ?_
  refine G_icmp_ge (tgt := 90) dX4_prepare_10 (by decide) (w1) (w2) (fun c1 => ?_) (fun c1 => ?_)
  · -- (mem 9 1) ≤ a2
    exact G_vret dX4_prepare_90 rfl (Nat.zero_le _) (Nat.zero_le _) (Nat.le_refl _) ⟨rfl, k1 c1⟩
  · -- ¬ (mem 9 1) ≤ a2
    refine G_iload_n dX4_prepare_13 rfl ?_
    refine G_aload_n dX4_prepare_14 rfl ?_
    refine G_getR (t := 107) dX4_prepare_15 fl_4_11 (by decide) sh_106 rr_106_2 ?_
    refine G_alen (z := 6) dX4_prepare_18 (by decide) sh_107 (by decide) rfl ?_
    refine G_icmp_ge (tgt := 90) dX4_prepare_19 (by decide) (w1) (by decide) (fun c2 => ?_) (fun c2 => ?_)
    · -- 6 ≤ a2
      exact G_vret dX4_prepare_90 rfl (Nat.zero_le _) (Nat.zero_le _) (Nat.le_refl _) ⟨rfl, k2 c1 c2⟩
    · -- ¬ 6 ≤ a2
      refine G_iload_n dX4_prepare_22 rfl ?_
      refine G_aload_n dX4_prepare_23 rfl ?_
      refine G_alen (z := 6) dX4_prepare_24 hl1 hs1 (by decide) rfl ?_
      refine G_icmp_ge (tgt := 90) dX4_prepare_25 (by decide) (w1) (by decide) (fun c3 => ?_) (fun c3 => ?_)
      · -- 6 ≤ a2
        exact G_vret dX4_prepare_90 rfl (Nat.zero_le _) (Nat.zero_le _) (Nat.le_refl _) ⟨rfl, k3 c1 c2 c3⟩
      · -- ¬ 6 ≤ a2
        refine G_aload_n dX4_prepare_28 rfl ?_
        refine G_getR (t := 9) dX4_prepare_29 fl_4_27 (by decide) sh_106 rr_106_0 ?_
        refine G_iload_n dX4_prepare_32 rfl ?_
        refine cb_X4_prepare_33 (ic_X10_at (z := (mem 9 1)) rfl (q3 c1 c2 c3) (w1) (fun c4 => ?_) (fun c5 => ?_))
        · -- 0 ≤ a2 ∧ a2 < (mem 9 1)
          refine G_astore_n dX4_prepare_36 rfl (by decide : 3 < 5) rfl ?_
          refine G_aload_n dX4_prepare_37 rfl ?_
          refine G_ifnull dX4_prepare_38 ?_
          refine G_aload_n dX4_prepare_41 rfl ?_
          refine G_getR (t := 107) dX4_prepare_42 fl_4_11 (by decide) sh_106 rr_106_2 ?_
          refine G_iload_n dX4_prepare_45 rfl ?_
          refine G_aald5S (t := (111 + 6 * (a2).toNat)) dX4_prepare_46 (by decide) sh_107 (by decide) (q4 c1 c2 c3 c4).1 (q4 c1 c2 c3 c4).2 (rr_jobs (q4 c1 c2 c3 c4).1 (q4 c1 c2 c3 c4).2) ?_
          refine G_astore dX4_prepare_47 (by decide : 4 < 5) rfl ?_
          refine G_aload dX4_prepare_49 rfl ?_
          refine G_aload_n dX4_prepare_51 rfl ?_
          refine G_getR (t := 3) dX4_prepare_52 fl_4_31 (by decide) sh_106 rr_106_1 ?_
          refine G_iconst (z := 1) dX4_prepare_55 rfl ?_
          refine cb_X4_prepare_56 (ic_X6_get (z := (mem 4 1)) (by decide) rfl ?_)
          refine G_aload_n dX4_prepare_59 rfl ?_
          refine G_getI (z := (mem (11 + 2 * (a2).toNat) 4)) dX4_prepare_60 fl_4_77 (ltStreet0 (streetL_of c4.1 (Int.lt_of_lt_of_le c4.2 (q3 c1 c2 c3).2))) (shStreet0 (streetL_of c4.1 (Int.lt_of_lt_of_le c4.2 (q3 c1 c2 c3).2))) rfl ?_
          refine cb_X4_prepare_63 (jobL_of (q4 c1 c2 c3 c4).1 (q4 c1 c2 c3 c4).2) (ic_X2_think (jobL_of (q4 c1 c2 c3 c4).1 (q4 c1 c2 c3 c4).2) (w5 c1 c2 c3 c4) ?_)
          refine G_aload dX4_prepare_66 rfl ?_
          refine G_aload_n dX4_prepare_68 rfl ?_
          refine G_aload dX4_prepare_69 rfl ?_
          refine G_aload_n dX4_prepare_71 rfl ?_
          refine G_aload_n dX4_prepare_72 rfl ?_
          refine G_iload_n dX4_prepare_73 rfl ?_
          refine G_iald (z := ((up2 (up2 mem (111 + 6 * (a2).toNat) 7 (max 1 (mem 4 1))) (111 + 6 * (a2).toNat) 8 (mem (11 + 2 * (a2).toNat) 4)) r1 a2)) dX4_prepare_74 hl1 hs1 (by decide) (q4 c1 c2 c3 c4).1 (q4 c1 c2 c3 c4).2 (by simp [up2, upr]) ?_
          exact k4 c1 c2 c3 c4
        · -- ¬ (0 ≤ a2 ∧ a2 < (mem 9 1))
          refine G_astoreNull_n dX4_prepare_36 rfl (by decide : 3 < 5) rfl ?_
          refine G_aloadNull_n dX4_prepare_37 rfl ?_
          refine G_ifnullZ (tgt := 84) dX4_prepare_38 (by decide) ?_
          refine G_iinc (z := (a2 + 1)) dX4_prepare_84 rfl rfl (by decide : 2 < 5) rfl ?_
          refine G_goto (tgt := 2) dX4_prepare_87 (by decide) ?_
          refine G_weak (lv2 := [.ref 106, .ref r1, vi (a2 + 1), un, un]) ⟨Or.inr rfl, Or.inr rfl, Or.inr rfl, Or.inl rfl, Or.inr rfl, trivial⟩ ?_
          exact k5 c1 c2 c3 c5
set_option maxRecDepth 20000 in
set_option maxHeartbeats 8000000 in
theorem sg_X4_prepare_78 {E : Nat × (Nat → Int32)} {P : Option Value → Mem → Prop} {mem : Mem} {r1 : Nat} {a2 : Int} {o3 : Nat} {o4 : Nat} {s0 : Int} (hl1 : r1 < 209) (hs1 : SH[r1]? = some (.inr (0, 6))) (ho3 : o3 ∈ streetL) (ho4 : o4 ∈ jobL) (q1 : 0 ≤ a2 ∧ a2 < 6)
    (k1 : GM E (m_X4_prepare 6) P 81 [.ref 106, .ref r1, vi a2, .ref o3, .ref o4] [vi (mem r1 a2), vi s0, .ref o3, .ref o4] mem) :
    GM E (m_X4_prepare 6) P 78 [.ref 106, .ref r1, vi a2, .ref o3, .ref o4] [vi s0, .ref o3, .ref o4] mem := by
  refine G_aload_n dX4_prepare_78 rfl ?_
  refine G_iload_n dX4_prepare_79 rfl ?_
  refine G_iald (z := (mem r1 a2)) dX4_prepare_80 hl1 hs1 (by decide) (q1).1 (q1).2 rfl ?_
  exact k1
set_option maxRecDepth 20000 in
set_option maxHeartbeats 8000000 in
theorem sg_X4_prepare_84 {E : Nat × (Nat → Int32)} {P : Option Value → Mem → Prop} {mem : Mem} {r1 : Nat} {a2 : Int} {o3 : Nat} {o4 : Nat} (hl1 : r1 < 209) (hs1 : SH[r1]? = some (.inr (0, 6))) (ho3 : o3 ∈ streetL) (ho4 : o4 ∈ jobL)
    (k1 : GM E (m_X4_prepare 6) P 2 [.ref 106, .ref r1, vi (a2 + 1), un, un] [] mem) :
    GM E (m_X4_prepare 6) P 84 [.ref 106, .ref r1, vi a2, .ref o3, .ref o4] [] mem := by
  refine G_iinc (z := (a2 + 1)) dX4_prepare_84 rfl rfl (by decide : 2 < 5) rfl ?_
  refine G_goto (tgt := 2) dX4_prepare_87 (by decide) ?_
  refine G_weak (lv2 := [.ref 106, .ref r1, vi (a2 + 1), un, un]) ⟨Or.inr rfl, Or.inr rfl, Or.inr rfl, Or.inl rfl, Or.inl rfl, trivial⟩ ?_
  exact k1
set_option maxRecDepth 20000 in
set_option maxHeartbeats 8000000 in
theorem sg_X4_readPath_0 {E : Nat × (Nat → Int32)} {P : Option Value → Mem → Prop} {mem : Mem} (w1 : -2147483648 ≤ (mem 1 1) ∧ (mem 1 1) < 2147483648)
    (k1 : GM E (m_X4_readPath 2) P 15 [.ref 106, .ref 1, vi 0, vi 0, un] [] (up2 (up2 (up2 mem 1 2 0) 1 3 (min (mem 1 1) 80)) 106 5 0)) :
    GM E (m_X4_readPath 2) P 0 [.ref 106, .ref 1, un, un, un] [] mem := by
  refine G_aload_n dX4_readPath_0 rfl ?_
  refine G_bipush (z := 80) dX4_readPath_1 rfl ?_
  refine cb_X4_readPath_3 (ic_X9_begin (z := (mem 1 1)) rfl (w1) (by decide) ?_)
  refine G_aload_n dX4_readPath_6 rfl ?_
  refine G_iconst (z := 0) dX4_readPath_7 rfl ?_
  refine G_putI (mem2 := (up2 (up2 (up2 mem 1 2 0) 1 3 (min (mem 1 1) 80)) 106 5 0)) dX4_readPath_8 fp_4_44 (by decide) sh_106 rfl ?_
  refine G_iconst (z := 0) dX4_readPath_11 rfl ?_
  refine G_istore_n dX4_readPath_12 rfl (by decide : 2 < 5) rfl ?_
  refine G_iconst (z := 0) dX4_readPath_13 rfl ?_
  refine G_istore_n dX4_readPath_14 rfl (by decide : 3 < 5) rfl ?_
  exact k1
set_option maxRecDepth 20000 in
set_option maxHeartbeats 8000000 in
theorem sg_X4_readPath_15 {E : Nat × (Nat → Int32)} {P : Option Value → Mem → Prop} {mem : Mem} {a2 : Int} {a3 : Int} (w1 : -2147483648 ≤ a3 ∧ a3 < 2147483648) (t2 : ¬ 6 ≤ a3 → TextOK mem) (q3 : ¬ 6 ≤ a3 → 0 ≤ (mem 9 1) ∧ (mem 9 1) ≤ 6) (w4 : ¬ 6 ≤ a3 → -2147483648 ≤ ((lookM mem) - 48) ∧ ((lookM mem) - 48) < 2147483648) (q5 : ¬ 6 ≤ a3 → 0 ≤ ((lookM mem) - 48) ∧ ((lookM mem) - 48) < (mem 9 1) → (bandI (shrI a2 ((lookM mem) - 48)) 1) = 0 → 0 ≤ a3 ∧ a3 < 6) (w6 : ¬ 6 ≤ a3 → 0 ≤ ((lookM mem) - 48) ∧ ((lookM mem) - 48) < (mem 9 1) → (bandI (shrI a2 ((lookM mem) - 48)) 1) = 0 → -2147483648 ≤ ((mem 1 2) + 1) ∧ ((mem 1 2) + 1) < 2147483648) (w7 : ¬ 6 ≤ a3 → 0 ≤ ((lookM mem) - 48) ∧ ((lookM mem) - 48) < (mem 9 1) → (bandI (shrI a2 ((lookM mem) - 48)) 1) = 0 → -2147483648 ≤ (mem 1 1) ∧ (mem 1 1) < 2147483648)
    (k1 : 6 ≤ a3 → P (some (vi ((-1) - (mem 1 2)))) mem)
    (k2 : ¬ 6 ≤ a3 → 0 ≤ ((lookM mem) - 48) ∧ ((lookM mem) - 48) < (mem 9 1) → (bandI (shrI a2 ((lookM mem) - 48)) 1) = 0 → (mem 1 1) ≤ ((mem 1 2) + 1) → P (some (vi 0)) (up2 (up2 (up2 mem 1 2 ((mem 1 2) + 1)) 109 a3 ((lookM mem) - 48)) 106 5 (a3 + 1)))
    (k3 : ¬ 6 ≤ a3 → 0 ≤ ((lookM mem) - 48) ∧ ((lookM mem) - 48) < (mem 9 1) → (bandI (shrI a2 ((lookM mem) - 48)) 1) = 0 → ¬ (mem 1 1) ≤ ((mem 1 2) + 1) → GM E (m_X4_readPath 2) P 15 [.ref 106, .ref 1, vi (borI a2 (shlI 1 ((lookM mem) - 48))), vi (a3 + 1), un] [] (up2 (up2 (up2 mem 1 2 ((mem 1 2) + 1)) 109 a3 ((lookM mem) - 48)) 106 5 (a3 + 1)))
    (k4 : ¬ 6 ≤ a3 → 0 ≤ ((lookM mem) - 48) ∧ ((lookM mem) - 48) < (mem 9 1) → ¬ (bandI (shrI a2 ((lookM mem) - 48)) 1) = 0 → P (some (vi ((-1) - (mem 1 2)))) mem)
    (k5 : ¬ 6 ≤ a3 → ¬ (0 ≤ ((lookM mem) - 48) ∧ ((lookM mem) - 48) < (mem 9 1)) → P (some (vi ((-1) - (mem 1 2)))) mem) :
    GM E (m_X4_readPath 2) P 15 [.ref 106, .ref 1, vi a2, vi a3, un] [] mem := by
  refine G_iload_n dX4_readPath_15 rfl ?_
  refine G_aload_n dX4_readPath_16 rfl ?_
  refine G_getR (t := 109) dX4_readPath_17 fl_4_21 (by decide) sh_106 rr_106_4 ?_
  refine G_alen (z := 6) dX4_readPath_20 (by decide) sh_109 (by decide) rfl ?_
  refine G_icmp_ge (tgt := 100) dX4_readPath_21 (by decide) (w1) (by decide) (fun c1 => ?_) (fun c1 => ?_)
  · -- 6 ≤ a3
    refine G_aload_n dX4_readPath_100 rfl ?_
    refine cb_X4_readPath_101 (ic_X9_fault (z := (mem 1 2)) rfl ?_)
    exact G_iret dX4_readPath_104 rfl (Nat.zero_le _) (Nat.zero_le _) (Nat.le_refl _) ⟨rfl, k1 c1⟩
  · -- ¬ 6 ≤ a3
    refine G_aload_n dX4_readPath_24 rfl ?_
    refine cb_X4_readPath_25 (ic_X9_look (t2 c1) ?_)
    refine G_bipush (z := 48) dX4_readPath_28 rfl ?_
    refine G_isub dX4_readPath_30 ?_
    refine G_istore dX4_readPath_31 (by decide : 4 < 5) rfl ?_
    refine G_aload_n dX4_readPath_33 rfl ?_
    refine G_getR (t := 9) dX4_readPath_34 fl_4_27 (by decide) sh_106 rr_106_0 ?_
    refine G_iload dX4_readPath_37 rfl ?_
    refine cb_X4_readPath_39 (ic_X10_at (z := (mem 9 1)) rfl (q3 c1) (w4 c1) (fun c2 => ?_) (fun c3 => ?_))
    · -- 0 ≤ ((lookM mem) - 48) ∧ ((lookM mem) - 48) < (mem 9 1)
      refine G_ifnull dX4_readPath_42 ?_
      refine G_iload_n dX4_readPath_45 rfl ?_
      refine G_iload dX4_readPath_46 rfl ?_
      refine G_ishr (z := (shrI a2 ((lookM mem) - 48))) dX4_readPath_48 (iI_inv _) ?_
      refine G_iconst (z := 1) dX4_readPath_49 rfl ?_
      refine G_iand (z := (bandI (shrI a2 ((lookM mem) - 48)) 1)) dX4_readPath_50 (iI_inv _) ?_
      refine G_if_eq (tgt := 59) dX4_readPath_51 (by decide) (iI_rng _) (fun c4 => ?_) (fun c4 => ?_)
      · -- (bandI (shrI a2 ((lookM mem) - 48)) 1) = 0
        refine G_aload_n dX4_readPath_59 rfl ?_
        refine cb_X4_readPath_60 (ic_X9_pass (z := (mem 1 2)) rfl ?_)
        refine G_iload_n dX4_readPath_63 rfl ?_
        refine G_iconst (z := 1) dX4_readPath_64 rfl ?_
        refine G_iload dX4_readPath_65 rfl ?_
        refine G_ishl (z := (shlI 1 ((lookM mem) - 48))) dX4_readPath_67 (iI_inv _) ?_
        refine G_ior (z := (borI a2 (shlI 1 ((lookM mem) - 48)))) dX4_readPath_68 (iI_inv _) ?_
        refine G_istore_n dX4_readPath_69 rfl (by decide : 2 < 5) rfl ?_
        refine G_aload_n dX4_readPath_70 rfl ?_
        refine G_getR (t := 109) dX4_readPath_71 fl_4_21 (by decide) sh_106 rr_106_4 ?_
        refine G_iload_n dX4_readPath_74 rfl ?_
        refine G_iload dX4_readPath_75 rfl ?_
        refine G_iast (mem2 := (up2 (up2 mem 1 2 ((mem 1 2) + 1)) 109 a3 ((lookM mem) - 48))) dX4_readPath_77 (by decide) sh_109 (by decide) (q5 c1 c2 c4).1 (q5 c1 c2 c4).2 rfl ?_
        refine G_aload_n dX4_readPath_78 rfl ?_
        refine G_iload_n dX4_readPath_79 rfl ?_
        refine G_iconst (z := 1) dX4_readPath_80 rfl ?_
        refine G_iadd dX4_readPath_81 ?_
        refine G_putI (mem2 := (up2 (up2 (up2 mem 1 2 ((mem 1 2) + 1)) 109 a3 ((lookM mem) - 48)) 106 5 (a3 + 1))) dX4_readPath_82 fp_4_44 (by decide) sh_106 rfl ?_
        refine G_aload_n dX4_readPath_85 rfl ?_
        refine cb_X4_readPath_86 (ic_X9_isRead (a := ((mem 1 2) + 1)) (b := (mem 1 1)) (by simp [up2, upr]) (by simp [up2, upr]) (w6 c1 c2 c4) (w7 c1 c2 c4) (fun c5 => ?_) (fun c6 => ?_))
        · -- (mem 1 1) ≤ ((mem 1 2) + 1)
          refine G_if_eq (tgt := 94) dX4_readPath_89 (by decide) (by decide) (fun h => absurd h (by decide)) (fun _ => ?_)
          refine G_iconst (z := 0) dX4_readPath_92 rfl ?_
          exact G_iret dX4_readPath_93 rfl (Nat.zero_le _) (Nat.zero_le _) (Nat.le_refl _) ⟨rfl, k2 c1 c2 c4 c5⟩
        · -- ¬ (mem 1 1) ≤ ((mem 1 2) + 1)
          refine G_if_eq (tgt := 94) dX4_readPath_89 (by decide) (by decide) (fun _ => ?_) (fun h => absurd h (by decide))
          refine G_iinc (z := (a3 + 1)) dX4_readPath_94 rfl rfl (by decide : 3 < 5) rfl ?_
          refine G_goto (tgt := 15) dX4_readPath_97 (by decide) ?_
          refine G_weak (lv2 := [.ref 106, .ref 1, vi (borI a2 (shlI 1 ((lookM mem) - 48))), vi (a3 + 1), un]) ⟨Or.inr rfl, Or.inr rfl, Or.inr rfl, Or.inr rfl, Or.inl rfl, trivial⟩ ?_
          exact k3 c1 c2 c4 c6
      · -- ¬ (bandI (shrI a2 ((lookM mem) - 48)) 1) = 0
        refine G_aload_n dX4_readPath_54 rfl ?_
        refine cb_X4_readPath_55 (ic_X9_fault (z := (mem 1 2)) rfl ?_)
        exact G_iret dX4_readPath_58 rfl (Nat.zero_le _) (Nat.zero_le _) (Nat.le_refl _) ⟨rfl, k4 c1 c2 c4⟩
    · -- ¬ (0 ≤ ((lookM mem) - 48) ∧ ((lookM mem) - 48) < (mem 9 1))
      refine G_ifnullZ (tgt := 54) dX4_readPath_42 (by decide) ?_
      refine G_aload_n dX4_readPath_54 rfl ?_
      refine cb_X4_readPath_55 (ic_X9_fault (z := (mem 1 2)) rfl ?_)
      exact G_iret dX4_readPath_58 rfl (Nat.zero_le _) (Nat.zero_le _) (Nat.le_refl _) ⟨rfl, k5 c1 c3⟩
set_option maxRecDepth 20000 in
set_option maxHeartbeats 8000000 in
theorem sg_X4_search_0 {E : Nat × (Nat → Int32)} {P : Option Value → Mem → Prop} {mem : Mem} {a1 : Int} {a2 : Int}
    (k1 : GM E (m_X4_search 201) P 23 [.ref 106, vi a1, vi a2] [vi 0, vi 0, .ref 106] (up2 (up2 (up2 (up2 mem 106 14 a1) 106 15 a2) 106 12 (-1)) 106 13 0)) :
    GM E (m_X4_search 201) P 0 [.ref 106, vi a1, vi a2] [] mem := by
  refine G_aload_n dX4_search_0 rfl ?_
  refine G_iload_n dX4_search_1 rfl ?_
  refine G_putI (mem2 := (up2 mem 106 14 a1)) dX4_search_2 fp_4_142 (by decide) sh_106 rfl ?_
  refine G_aload_n dX4_search_5 rfl ?_
  refine G_iload_n dX4_search_6 rfl ?_
  refine G_putI (mem2 := (up2 (up2 mem 106 14 a1) 106 15 a2)) dX4_search_7 fp_4_145 (by decide) sh_106 rfl ?_
  refine G_aload_n dX4_search_10 rfl ?_
  refine G_iconst (z := (-1)) dX4_search_11 rfl ?_
  refine G_putI (mem2 := (up2 (up2 (up2 mem 106 14 a1) 106 15 a2) 106 12 (-1))) dX4_search_12 fp_4_148 (by decide) sh_106 rfl ?_
  refine G_aload_n dX4_search_15 rfl ?_
  refine G_iconst (z := 0) dX4_search_16 rfl ?_
  refine G_putI (mem2 := (up2 (up2 (up2 (up2 mem 106 14 a1) 106 15 a2) 106 12 (-1)) 106 13 0)) dX4_search_17 fp_4_151 (by decide) sh_106 rfl ?_
  refine G_aload_n dX4_search_20 rfl ?_
  refine G_iconst (z := 0) dX4_search_21 rfl ?_
  refine G_iconst (z := 0) dX4_search_22 rfl ?_
  exact k1
set_option maxRecDepth 20000 in
set_option maxHeartbeats 8000000 in
theorem sg_X4_search_26 {E : Nat × (Nat → Int32)} {P : Option Value → Mem → Prop} {mem : Mem} {a1 : Int} {a2 : Int}
    (k1 : P none mem) :
    GM E (m_X4_search 201) P 26 [.ref 106, vi a1, vi a2] [] mem := by
  exact G_vret dX4_search_26 rfl (Nat.zero_le _) (Nat.zero_le _) (Nat.le_refl _) ⟨rfl, k1⟩
set_option maxRecDepth 20000 in
set_option maxHeartbeats 8000000 in
theorem sg_X4_visit_0 {E : Nat × (Nat → Int32)} {P : Option Value → Mem → Prop} {mem : Mem} {a1 : Int} (q1 : 0 ≤ (mem 9 1) ∧ (mem 9 1) ≤ 6) (w2 : -2147483648 ≤ a1 ∧ a1 < 2147483648) (q3 : 0 ≤ a1 ∧ a1 < (mem 9 1) → a1 < 6 → 0 ≤ a1 ∧ a1 < 6) (w4 : 0 ≤ a1 ∧ a1 < (mem 9 1) → a1 < 6 → -2147483648 ≤ (mem 106 6) ∧ (mem 106 6) < 2147483648) (w5 : 0 ≤ a1 ∧ a1 < (mem 9 1) → a1 < 6 → (mem 106 6) = 0 → -2147483648 ≤ ((mem 106 7) - (mem (11 + 2 * (a1).toNat) 2)) ∧ ((mem 106 7) - (mem (11 + 2 * (a1).toNat) 2)) < 2147483648) (w6 : 0 ≤ a1 ∧ a1 < (mem 9 1) → a1 < 6 → (mem 106 6) = 0 → -2147483648 ≤ (mem (11 + 2 * (a1).toNat) 7) ∧ (mem (11 + 2 * (a1).toNat) 7) < 2147483648) (w7 : 0 ≤ a1 ∧ a1 < (mem 9 1) → a1 < 6 → (mem 106 6) = 0 → -2147483648 ≤ (mem (11 + 2 * (a1).toNat) 8) ∧ (mem (11 + 2 * (a1).toNat) 8) < 2147483648) (w8 : 0 ≤ a1 ∧ a1 < (mem 9 1) → a1 < 6 → ¬ (mem 106 6) = 0 → -2147483648 ≤ ((mem 106 6) + (mem (111 + 6 * (a1).toNat) 12)) ∧ ((mem 106 6) + (mem (111 + 6 * (a1).toNat) 12)) < 2147483648) (w9 : 0 ≤ a1 ∧ a1 < (mem 9 1) → a1 < 6 → ¬ (mem 106 6) = 0 → -2147483648 ≤ (mem 4 0) ∧ (mem 4 0) < 2147483648) (w10 : 0 ≤ a1 ∧ a1 < (mem 9 1) → a1 < 6 → ¬ (mem 106 6) = 0 → ((mem 106 6) + (mem (111 + 6 * (a1).toNat) 12)) ≤ (mem 4 0) → -2147483648 ≤ ((mem 106 7) - (mem (11 + 2 * (a1).toNat) 2)) ∧ ((mem 106 7) - (mem (11 + 2 * (a1).toNat) 2)) < 2147483648) (w11 : 0 ≤ a1 ∧ a1 < (mem 9 1) → a1 < 6 → ¬ (mem 106 6) = 0 → ((mem 106 6) + (mem (111 + 6 * (a1).toNat) 12)) ≤ (mem 4 0) → -2147483648 ≤ (mem (11 + 2 * (a1).toNat) 7) ∧ (mem (11 + 2 * (a1).toNat) 7) < 2147483648) (w12 : 0 ≤ a1 ∧ a1 < (mem 9 1) → a1 < 6 → ¬ (mem 106 6) = 0 → ((mem 106 6) + (mem (111 + 6 * (a1).toNat) 12)) ≤ (mem 4 0) → -2147483648 ≤ (mem (11 + 2 * (a1).toNat) 8) ∧ (mem (11 + 2 * (a1).toNat) 8) < 2147483648)
    (k1 : 0 ≤ a1 ∧ a1 < (mem 9 1) → a1 < 6 → (mem 106 6) = 0 → 0 ≤ (mem (11 + 2 * (a1).toNat) 7) ∧ (mem (11 + 2 * (a1).toNat) 7) ≤ (divI ((mem 106 8) + (10 * (if 0 ≤ ((mem 106 7) - (mem (11 + 2 * (a1).toNat) 2)) then ((mem 106 7) - (mem (11 + 2 * (a1).toNat) 2)) else -((mem 106 7) - (mem (11 + 2 * (a1).toNat) 2))))) 60) ∧ (divI ((mem 106 8) + (10 * (if 0 ≤ ((mem 106 7) - (mem (11 + 2 * (a1).toNat) 2)) then ((mem 106 7) - (mem (11 + 2 * (a1).toNat) 2)) else -((mem 106 7) - (mem (11 + 2 * (a1).toNat) 2))))) 60) ≤ (mem (11 + 2 * (a1).toNat) 8) → GM E (m_X4_visit 3) P 112 [.ref 106, vi a1, .ref (11 + 2 * (a1).toNat), .ref (111 + 6 * (a1).toNat)] [vi (mem 4 0), vi (mem 106 6), .ref (111 + 6 * (a1).toNat)] (up2 (up2 mem 106 8 (((mem (11 + 2 * (a1).toNat) 8) + 1) * 60)) 106 7 ((up2 mem 106 8 (((mem (11 + 2 * (a1).toNat) 8) + 1) * 60)) (11 + 2 * (a1).toNat) 2)))
    (k2 : 0 ≤ a1 ∧ a1 < (mem 9 1) → a1 < 6 → (mem 106 6) = 0 → ¬ (0 ≤ (mem (11 + 2 * (a1).toNat) 7) ∧ (mem (11 + 2 * (a1).toNat) 7) ≤ (divI ((mem 106 8) + (10 * (if 0 ≤ ((mem 106 7) - (mem (11 + 2 * (a1).toNat) 2)) then ((mem 106 7) - (mem (11 + 2 * (a1).toNat) 2)) else -((mem 106 7) - (mem (11 + 2 * (a1).toNat) 2))))) 60) ∧ (divI ((mem 106 8) + (10 * (if 0 ≤ ((mem 106 7) - (mem (11 + 2 * (a1).toNat) 2)) then ((mem 106 7) - (mem (11 + 2 * (a1).toNat) 2)) else -((mem 106 7) - (mem (11 + 2 * (a1).toNat) 2))))) 60) ≤ (mem (11 + 2 * (a1).toNat) 8)) → GM E (m_X4_visit 3) P 112 [.ref 106, vi a1, .ref (11 + 2 * (a1).toNat), .ref (111 + 6 * (a1).toNat)] [vi (mem 4 0), vi (mem 106 6), .ref (111 + 6 * (a1).toNat)] (up2 (up2 mem 106 8 ((mem 106 8) + (10 * (if 0 ≤ ((mem 106 7) - (mem (11 + 2 * (a1).toNat) 2)) then ((mem 106 7) - (mem (11 + 2 * (a1).toNat) 2)) else -((mem 106 7) - (mem (11 + 2 * (a1).toNat) 2)))))) 106 7 ((up2 mem 106 8 ((mem 106 8) + (10 * (if 0 ≤ ((mem 106 7) - (mem (11 + 2 * (a1).toNat) 2)) then ((mem 106 7) - (mem (11 + 2 * (a1).toNat) 2)) else -((mem 106 7) - (mem (11 + 2 * (a1).toNat) 2)))))) (11 + 2 * (a1).toNat) 2)))
    (k3 : 0 ≤ a1 ∧ a1 < (mem 9 1) → a1 < 6 → ¬ (mem 106 6) = 0 → ((mem 106 6) + (mem (111 + 6 * (a1).toNat) 12)) ≤ (mem 4 0) → 0 ≤ (mem (11 + 2 * (a1).toNat) 7) ∧ (mem (11 + 2 * (a1).toNat) 7) ≤ (divI ((mem 106 8) + (10 * (if 0 ≤ ((mem 106 7) - (mem (11 + 2 * (a1).toNat) 2)) then ((mem 106 7) - (mem (11 + 2 * (a1).toNat) 2)) else -((mem 106 7) - (mem (11 + 2 * (a1).toNat) 2))))) 60) ∧ (divI ((mem 106 8) + (10 * (if 0 ≤ ((mem 106 7) - (mem (11 + 2 * (a1).toNat) 2)) then ((mem 106 7) - (mem (11 + 2 * (a1).toNat) 2)) else -((mem 106 7) - (mem (11 + 2 * (a1).toNat) 2))))) 60) ≤ (mem (11 + 2 * (a1).toNat) 8) → GM E (m_X4_visit 3) P 112 [.ref 106, vi a1, .ref (11 + 2 * (a1).toNat), .ref (111 + 6 * (a1).toNat)] [vi (mem 4 0), vi (mem 106 6), .ref (111 + 6 * (a1).toNat)] (up2 (up2 mem 106 8 (((mem (11 + 2 * (a1).toNat) 8) + 1) * 60)) 106 7 ((up2 mem 106 8 (((mem (11 + 2 * (a1).toNat) 8) + 1) * 60)) (11 + 2 * (a1).toNat) 2)))
    (k4 : 0 ≤ a1 ∧ a1 < (mem 9 1) → a1 < 6 → ¬ (mem 106 6) = 0 → ((mem 106 6) + (mem (111 + 6 * (a1).toNat) 12)) ≤ (mem 4 0) → ¬ (0 ≤ (mem (11 + 2 * (a1).toNat) 7) ∧ (mem (11 + 2 * (a1).toNat) 7) ≤ (divI ((mem 106 8) + (10 * (if 0 ≤ ((mem 106 7) - (mem (11 + 2 * (a1).toNat) 2)) then ((mem 106 7) - (mem (11 + 2 * (a1).toNat) 2)) else -((mem 106 7) - (mem (11 + 2 * (a1).toNat) 2))))) 60) ∧ (divI ((mem 106 8) + (10 * (if 0 ≤ ((mem 106 7) - (mem (11 + 2 * (a1).toNat) 2)) then ((mem 106 7) - (mem (11 + 2 * (a1).toNat) 2)) else -((mem 106 7) - (mem (11 + 2 * (a1).toNat) 2))))) 60) ≤ (mem (11 + 2 * (a1).toNat) 8)) → GM E (m_X4_visit 3) P 112 [.ref 106, vi a1, .ref (11 + 2 * (a1).toNat), .ref (111 + 6 * (a1).toNat)] [vi (mem 4 0), vi (mem 106 6), .ref (111 + 6 * (a1).toNat)] (up2 (up2 mem 106 8 ((mem 106 8) + (10 * (if 0 ≤ ((mem 106 7) - (mem (11 + 2 * (a1).toNat) 2)) then ((mem 106 7) - (mem (11 + 2 * (a1).toNat) 2)) else -((mem 106 7) - (mem (11 + 2 * (a1).toNat) 2)))))) 106 7 ((up2 mem 106 8 ((mem 106 8) + (10 * (if 0 ≤ ((mem 106 7) - (mem (11 + 2 * (a1).toNat) 2)) then ((mem 106 7) - (mem (11 + 2 * (a1).toNat) 2)) else -((mem 106 7) - (mem (11 + 2 * (a1).toNat) 2)))))) (11 + 2 * (a1).toNat) 2)))
    (k5 : 0 ≤ a1 ∧ a1 < (mem 9 1) → a1 < 6 → ¬ (mem 106 6) = 0 → ¬ ((mem 106 6) + (mem (111 + 6 * (a1).toNat) 12)) ≤ (mem 4 0) → GM E (m_X4_visit 3) P 59 [.ref 106, vi a1, .ref (11 + 2 * (a1).toNat), .ref (111 + 6 * (a1).toNat)] [.ref 106] mem)
    (k6 : 0 ≤ a1 ∧ a1 < (mem 9 1) → ¬ a1 < 6 → P (some (vi 0)) mem)
    (k7 : ¬ (0 ≤ a1 ∧ a1 < (mem 9 1)) → P (some (vi 0)) mem) :
    GM E (m_X4_visit 3) P 0 [.ref 106, vi a1, un, un] [] mem := by
  refine G_aload_n dX4_visit_0 rfl ?_
  refine G_getR (t := 9) dX4_visit_1 fl_4_27 (by decide) sh_106 rr_106_0 ?_
  refine G_iload_n dX4_visit_4 rfl ?_
  refine cb_X4_visit_5 (ic_X10_at (z := (mem 9 1)) rfl (q1) (w2) (fun c1 => ?_) (fun c2 => ?_))
  · -- 0 ≤ a1 ∧ a1 < (mem 9 1)
    refine G_astore_n dX4_visit_8 rfl (by decide : 2 < 4) rfl ?_
    refine G_aload_n dX4_visit_9 rfl ?_
    refine G_ifnull dX4_visit_10 ?_
    refine G_iload_n dX4_visit_13 rfl ?_
    refine G_aload_n dX4_visit_14 rfl ?_
    refine G_getR (t := 107) dX4_visit_15 fl_4_11 (by decide) sh_106 rr_106_2 ?_
    refine G_alen (z := 6) dX4_visit_18 (by decide) sh_107 (by decide) rfl ?_
    refine G_icmp_lt (tgt := 24) dX4_visit_19 (by decide) (w2) (by decide) (fun c3 => ?_) (fun c3 => ?_)
    · -- a1 < 6
      refine G_aload_n dX4_visit_24 rfl ?_
      refine G_getR (t := 107) dX4_visit_25 fl_4_11 (by decide) sh_106 rr_106_2 ?_
      refine G_iload_n dX4_visit_28 rfl ?_
      refine G_aald5S (t := (111 + 6 * (a1).toNat)) dX4_visit_29 (by decide) sh_107 (by decide) (q3 c1 c3).1 (q3 c1 c3).2 (rr_jobs (q3 c1 c3).1 (q3 c1 c3).2) ?_
      refine G_astore_n dX4_visit_30 rfl (by decide : 3 < 4) rfl ?_
      refine G_aload_n dX4_visit_31 rfl ?_
      refine G_getI (z := (mem 106 6)) dX4_visit_32 fl_4_100 (by decide) sh_106 rfl ?_
      refine G_if_eq (tgt := 67) dX4_visit_35 (by decide) (w4 c1 c3) (fun c4 => ?_) (fun c4 => ?_)
      · -- (mem 106 6) = 0
        refine G_aload_n dX4_visit_67 rfl ?_
        refine G_aload_n dX4_visit_68 rfl ?_
        refine G_aload_n dX4_visit_69 rfl ?_
        refine G_getI (z := (mem 106 8)) dX4_visit_70 fl_4_106 (by decide) sh_106 rfl ?_
        refine G_aload_n dX4_visit_73 rfl ?_
        refine G_getI (z := (mem 106 7)) dX4_visit_74 fl_4_103 (by decide) sh_106 rfl ?_
        refine G_aload_n dX4_visit_77 rfl ?_
        refine G_getI (z := (mem (11 + 2 * (a1).toNat) 2)) dX4_visit_78 fl_4_125 (ltStreet0 (streetL_of c1.1 (Int.lt_of_lt_of_le c1.2 (q1).2))) (shStreet0 (streetL_of c1.1 (Int.lt_of_lt_of_le c1.2 (q1).2))) rfl ?_
        refine cb_X4_visit_81 (ic_X11_driving (w5 c1 c3 c4) ?_)
        refine G_iadd dX4_visit_84 ?_
        refine cb_X4_visit_85 (streetL_of c1.1 (Int.lt_of_lt_of_le c1.2 (q1).2)) (ic_X8_openFrom (f := (mem (11 + 2 * (a1).toNat) 7)) (t := (mem (11 + 2 * (a1).toNat) 8)) (streetL_of c1.1 (Int.lt_of_lt_of_le c1.2 (q1).2)) rfl rfl (w6 c1 c3 c4) (w7 c1 c3 c4) (fun c5 => ?_) (fun c6 => ?_))
        · -- 0 ≤ (mem (11 + 2 * (a1).toNat) 7) ∧ (mem (11 + 2 * (a1).toNat) 7) ≤ (divI ((mem 106 8) + (10 * (if 0 ≤ ((mem 106 7) - (mem (11 + 2 * (a1).toNat) 2)) then ((mem 106 7) - (mem (11 + 2 * (a1).toNat) 2)) else -((mem 106 7) - (mem (11 + 2 * (a1).toNat) 2))))) 60) ∧ (divI ((mem 106 8) + (10 * (if 0 ≤ ((mem 106 7) - (mem (11 + 2 * (a1).toNat) 2)) then ((mem 106 7) - (mem (11 + 2 * (a1).toNat) 2)) else -((mem 106 7) - (mem (11 + 2 * (a1).toNat) 2))))) 60) ≤ (mem (11 + 2 * (a1).toNat) 8)
          refine G_putI (mem2 := (up2 mem 106 8 (((mem (11 + 2 * (a1).toNat) 8) + 1) * 60))) dX4_visit_88 fp_4_106 (by decide) sh_106 rfl ?_
          refine G_aload_n dX4_visit_91 rfl ?_
          refine G_aload_n dX4_visit_92 rfl ?_
          refine G_getI (z := ((up2 mem 106 8 (((mem (11 + 2 * (a1).toNat) 8) + 1) * 60)) (11 + 2 * (a1).toNat) 2)) dX4_visit_93 fl_4_125 (ltStreet0 (streetL_of c1.1 (Int.lt_of_lt_of_le c1.2 (q1).2))) (shStreet0 (streetL_of c1.1 (Int.lt_of_lt_of_le c1.2 (q1).2))) (by simp [up2, upr]) ?_
          refine G_putI (mem2 := (up2 (up2 mem 106 8 (((mem (11 + 2 * (a1).toNat) 8) + 1) * 60)) 106 7 ((up2 mem 106 8 (((mem (11 + 2 * (a1).toNat) 8) + 1) * 60)) (11 + 2 * (a1).toNat) 2))) dX4_visit_96 fp_4_103 (by decide) sh_106 rfl ?_
          refine G_aload_n dX4_visit_99 rfl ?_
          refine G_aload_n dX4_visit_100 rfl ?_
          refine G_getI (z := (mem 106 6)) dX4_visit_101 fl_4_100 (by decide) sh_106 (by simp [up2, upr]) ?_
          refine G_aload_n dX4_visit_104 rfl ?_
          refine G_getR (t := 3) dX4_visit_105 fl_4_31 (by decide) sh_106 rr_106_1 ?_
          refine G_iconst (z := 0) dX4_visit_108 rfl ?_
          refine cb_X4_visit_109 (ic_X6_get (z := (mem 4 0)) (by decide) (by simp [up2, upr]) ?_)
          exact k1 c1 c3 c4 c5
        · -- ¬ (0 ≤ (mem (11 + 2 * (a1).toNat) 7) ∧ (mem (11 + 2 * (a1).toNat) 7) ≤ (divI ((mem 106 8) + (10 * (if 0 ≤ ((mem 106 7) - (mem (11 + 2 * (a1).toNat) 2)) then ((mem 106 7) - (mem (11 + 2 * (a1).toNat) 2)) else -((mem 106 7) - (mem (11 + 2 * (a1).toNat) 2))))) 60) ∧ (divI ((mem 106 8) + (10 * (if 0 ≤ ((mem 106 7) - (mem (11 + 2 * (a1).toNat) 2)) then ((mem 106 7) - (mem (11 + 2 * (a1).toNat) 2)) else -((mem 106 7) - (mem (11 + 2 * (a1).toNat) 2))))) 60) ≤ (mem (11 + 2 * (a1).toNat) 8))
          refine G_putI (mem2 := (up2 mem 106 8 ((mem 106 8) + (10 * (if 0 ≤ ((mem 106 7) - (mem (11 + 2 * (a1).toNat) 2)) then ((mem 106 7) - (mem (11 + 2 * (a1).toNat) 2)) else -((mem 106 7) - (mem (11 + 2 * (a1).toNat) 2))))))) dX4_visit_88 fp_4_106 (by decide) sh_106 rfl ?_
          refine G_aload_n dX4_visit_91 rfl ?_
          refine G_aload_n dX4_visit_92 rfl ?_
          refine G_getI (z := ((up2 mem 106 8 ((mem 106 8) + (10 * (if 0 ≤ ((mem 106 7) - (mem (11 + 2 * (a1).toNat) 2)) then ((mem 106 7) - (mem (11 + 2 * (a1).toNat) 2)) else -((mem 106 7) - (mem (11 + 2 * (a1).toNat) 2)))))) (11 + 2 * (a1).toNat) 2)) dX4_visit_93 fl_4_125 (ltStreet0 (streetL_of c1.1 (Int.lt_of_lt_of_le c1.2 (q1).2))) (shStreet0 (streetL_of c1.1 (Int.lt_of_lt_of_le c1.2 (q1).2))) (by simp [up2, upr]) ?_
          refine G_putI (mem2 := (up2 (up2 mem 106 8 ((mem 106 8) + (10 * (if 0 ≤ ((mem 106 7) - (mem (11 + 2 * (a1).toNat) 2)) then ((mem 106 7) - (mem (11 + 2 * (a1).toNat) 2)) else -((mem 106 7) - (mem (11 + 2 * (a1).toNat) 2)))))) 106 7 ((up2 mem 106 8 ((mem 106 8) + (10 * (if 0 ≤ ((mem 106 7) - (mem (11 + 2 * (a1).toNat) 2)) then ((mem 106 7) - (mem (11 + 2 * (a1).toNat) 2)) else -((mem 106 7) - (mem (11 + 2 * (a1).toNat) 2)))))) (11 + 2 * (a1).toNat) 2))) dX4_visit_96 fp_4_103 (by decide) sh_106 rfl ?_
          refine G_aload_n dX4_visit_99 rfl ?_
          refine G_aload_n dX4_visit_100 rfl ?_
          refine G_getI (z := (mem 106 6)) dX4_visit_101 fl_4_100 (by decide) sh_106 (by simp [up2, upr]) ?_
          refine G_aload_n dX4_visit_104 rfl ?_
          refine G_getR (t := 3) dX4_visit_105 fl_4_31 (by decide) sh_106 rr_106_1 ?_
          refine G_iconst (z := 0) dX4_visit_108 rfl ?_
          refine cb_X4_visit_109 (ic_X6_get (z := (mem 4 0)) (by decide) (by simp [up2, upr]) ?_)
          exact k2 c1 c3 c4 c6
      · -- ¬ (mem 106 6) = 0
        refine G_aload_n dX4_visit_38 rfl ?_
        refine G_getI (z := (mem 106 6)) dX4_visit_39 fl_4_100 (by decide) sh_106 rfl ?_
        refine G_aload_n dX4_visit_42 rfl ?_
        refine G_getI (z := (mem (111 + 6 * (a1).toNat) 12)) dX4_visit_43 fl_4_122 (ltJob0 (jobL_of (q3 c1 c3).1 (q3 c1 c3).2)) (shJob0 (jobL_of (q3 c1 c3).1 (q3 c1 c3).2)) rfl ?_
        refine G_iadd dX4_visit_46 ?_
        refine G_aload_n dX4_visit_47 rfl ?_
        refine G_getR (t := 3) dX4_visit_48 fl_4_31 (by decide) sh_106 rr_106_1 ?_
        refine G_iconst (z := 0) dX4_visit_51 rfl ?_
        refine cb_X4_visit_52 (ic_X6_get (z := (mem 4 0)) (by decide) rfl ?_)
        refine G_icmp_le (tgt := 67) dX4_visit_55 (by decide) (w8 c1 c3 c4) (w9 c1 c3 c4) (fun c7 => ?_) (fun c7 => ?_)
        · -- ((mem 106 6) + (mem (111 + 6 * (a1).toNat) 12)) ≤ (mem 4 0)
          refine G_aload_n dX4_visit_67 rfl ?_
          refine G_aload_n dX4_visit_68 rfl ?_
          refine G_aload_n dX4_visit_69 rfl ?_
          refine G_getI (z := (mem 106 8)) dX4_visit_70 fl_4_106 (by decide) sh_106 rfl ?_
          refine G_aload_n dX4_visit_73 rfl ?_
          refine G_getI (z := (mem 106 7)) dX4_visit_74 fl_4_103 (by decide) sh_106 rfl ?_
          refine G_aload_n dX4_visit_77 rfl ?_
          refine G_getI (z := (mem (11 + 2 * (a1).toNat) 2)) dX4_visit_78 fl_4_125 (ltStreet0 (streetL_of c1.1 (Int.lt_of_lt_of_le c1.2 (q1).2))) (shStreet0 (streetL_of c1.1 (Int.lt_of_lt_of_le c1.2 (q1).2))) rfl ?_
          refine cb_X4_visit_81 (ic_X11_driving (w10 c1 c3 c4 c7) ?_)
          refine G_iadd dX4_visit_84 ?_
          refine cb_X4_visit_85 (streetL_of c1.1 (Int.lt_of_lt_of_le c1.2 (q1).2)) (ic_X8_openFrom (f := (mem (11 + 2 * (a1).toNat) 7)) (t := (mem (11 + 2 * (a1).toNat) 8)) (streetL_of c1.1 (Int.lt_of_lt_of_le c1.2 (q1).2)) rfl rfl (w11 c1 c3 c4 c7) (w12 c1 c3 c4 c7) (fun c8 => ?_) (fun c9 => ?_))
          · -- 0 ≤ (mem (11 + 2 * (a1).toNat) 7) ∧ (mem (11 + 2 * (a1).toNat) 7) ≤ (divI ((mem 106 8) + (10 * (if 0 ≤ ((mem 106 7) - (mem (11 + 2 * (a1).toNat) 2)) then ((mem 106 7) - (mem (11 + 2 * (a1).toNat) 2)) else -((mem 106 7) - (mem (11 + 2 * (a1).toNat) 2))))) 60) ∧ (divI ((mem 106 8) + (10 * (if 0 ≤ ((mem 106 7) - (mem (11 + 2 * (a1).toNat) 2)) then ((mem 106 7) - (mem (11 + 2 * (a1).toNat) 2)) else -((mem 106 7) - (mem (11 + 2 * (a1).toNat) 2))))) 60) ≤ (mem (11 + 2 * (a1).toNat) 8)
            refine G_putI (mem2 := (up2 mem 106 8 (((mem (11 + 2 * (a1).toNat) 8) + 1) * 60))) dX4_visit_88 fp_4_106 (by decide) sh_106 rfl ?_
            refine G_aload_n dX4_visit_91 rfl ?_
            refine G_aload_n dX4_visit_92 rfl ?_
            refine G_getI (z := ((up2 mem 106 8 (((mem (11 + 2 * (a1).toNat) 8) + 1) * 60)) (11 + 2 * (a1).toNat) 2)) dX4_visit_93 fl_4_125 (ltStreet0 (streetL_of c1.1 (Int.lt_of_lt_of_le c1.2 (q1).2))) (shStreet0 (streetL_of c1.1 (Int.lt_of_lt_of_le c1.2 (q1).2))) (by simp [up2, upr]) ?_
            refine G_putI (mem2 := (up2 (up2 mem 106 8 (((mem (11 + 2 * (a1).toNat) 8) + 1) * 60)) 106 7 ((up2 mem 106 8 (((mem (11 + 2 * (a1).toNat) 8) + 1) * 60)) (11 + 2 * (a1).toNat) 2))) dX4_visit_96 fp_4_103 (by decide) sh_106 rfl ?_
            refine G_aload_n dX4_visit_99 rfl ?_
            refine G_aload_n dX4_visit_100 rfl ?_
            refine G_getI (z := (mem 106 6)) dX4_visit_101 fl_4_100 (by decide) sh_106 (by simp [up2, upr]) ?_
            refine G_aload_n dX4_visit_104 rfl ?_
            refine G_getR (t := 3) dX4_visit_105 fl_4_31 (by decide) sh_106 rr_106_1 ?_
            refine G_iconst (z := 0) dX4_visit_108 rfl ?_
            refine cb_X4_visit_109 (ic_X6_get (z := (mem 4 0)) (by decide) (by simp [up2, upr]) ?_)
            exact k3 c1 c3 c4 c7 c8
          · -- ¬ (0 ≤ (mem (11 + 2 * (a1).toNat) 7) ∧ (mem (11 + 2 * (a1).toNat) 7) ≤ (divI ((mem 106 8) + (10 * (if 0 ≤ ((mem 106 7) - (mem (11 + 2 * (a1).toNat) 2)) then ((mem 106 7) - (mem (11 + 2 * (a1).toNat) 2)) else -((mem 106 7) - (mem (11 + 2 * (a1).toNat) 2))))) 60) ∧ (divI ((mem 106 8) + (10 * (if 0 ≤ ((mem 106 7) - (mem (11 + 2 * (a1).toNat) 2)) then ((mem 106 7) - (mem (11 + 2 * (a1).toNat) 2)) else -((mem 106 7) - (mem (11 + 2 * (a1).toNat) 2))))) 60) ≤ (mem (11 + 2 * (a1).toNat) 8))
            refine G_putI (mem2 := (up2 mem 106 8 ((mem 106 8) + (10 * (if 0 ≤ ((mem 106 7) - (mem (11 + 2 * (a1).toNat) 2)) then ((mem 106 7) - (mem (11 + 2 * (a1).toNat) 2)) else -((mem 106 7) - (mem (11 + 2 * (a1).toNat) 2))))))) dX4_visit_88 fp_4_106 (by decide) sh_106 rfl ?_
            refine G_aload_n dX4_visit_91 rfl ?_
            refine G_aload_n dX4_visit_92 rfl ?_
            refine G_getI (z := ((up2 mem 106 8 ((mem 106 8) + (10 * (if 0 ≤ ((mem 106 7) - (mem (11 + 2 * (a1).toNat) 2)) then ((mem 106 7) - (mem (11 + 2 * (a1).toNat) 2)) else -((mem 106 7) - (mem (11 + 2 * (a1).toNat) 2)))))) (11 + 2 * (a1).toNat) 2)) dX4_visit_93 fl_4_125 (ltStreet0 (streetL_of c1.1 (Int.lt_of_lt_of_le c1.2 (q1).2))) (shStreet0 (streetL_of c1.1 (Int.lt_of_lt_of_le c1.2 (q1).2))) (by simp [up2, upr]) ?_
            refine G_putI (mem2 := (up2 (up2 mem 106 8 ((mem 106 8) + (10 * (if 0 ≤ ((mem 106 7) - (mem (11 + 2 * (a1).toNat) 2)) then ((mem 106 7) - (mem (11 + 2 * (a1).toNat) 2)) else -((mem 106 7) - (mem (11 + 2 * (a1).toNat) 2)))))) 106 7 ((up2 mem 106 8 ((mem 106 8) + (10 * (if 0 ≤ ((mem 106 7) - (mem (11 + 2 * (a1).toNat) 2)) then ((mem 106 7) - (mem (11 + 2 * (a1).toNat) 2)) else -((mem 106 7) - (mem (11 + 2 * (a1).toNat) 2)))))) (11 + 2 * (a1).toNat) 2))) dX4_visit_96 fp_4_103 (by decide) sh_106 rfl ?_
            refine G_aload_n dX4_visit_99 rfl ?_
            refine G_aload_n dX4_visit_100 rfl ?_
            refine G_getI (z := (mem 106 6)) dX4_visit_101 fl_4_100 (by decide) sh_106 (by simp [up2, upr]) ?_
            refine G_aload_n dX4_visit_104 rfl ?_
            refine G_getR (t := 3) dX4_visit_105 fl_4_31 (by decide) sh_106 rr_106_1 ?_
            refine G_iconst (z := 0) dX4_visit_108 rfl ?_
            refine cb_X4_visit_109 (ic_X6_get (z := (mem 4 0)) (by decide) (by simp [up2, upr]) ?_)
            exact k4 c1 c3 c4 c7 c9
        · -- ¬ ((mem 106 6) + (mem (111 + 6 * (a1).toNat) 12)) ≤ (mem 4 0)
          refine G_aload_n dX4_visit_58 rfl ?_
          exact k5 c1 c3 c4 c7
    · -- ¬ a1 < 6
      refine G_iconst (z := 0) dX4_visit_22 rfl ?_
      exact G_zret dX4_visit_23 rfl (nar_zb (by decide)) (Nat.zero_le _) (Nat.zero_le _) (Nat.le_refl _) ⟨rfl, k6 c1 c3⟩
  · -- ¬ (0 ≤ a1 ∧ a1 < (mem 9 1))
    refine G_astoreNull_n dX4_visit_8 rfl (by decide : 2 < 4) rfl ?_
    refine G_aloadNull_n dX4_visit_9 rfl ?_
    refine G_ifnullZ (tgt := 22) dX4_visit_10 (by decide) ?_
    refine G_iconst (z := 0) dX4_visit_22 rfl ?_
    exact G_zret dX4_visit_23 rfl (nar_zb (by decide)) (Nat.zero_le _) (Nat.zero_le _) (Nat.le_refl _) ⟨rfl, k7 c2⟩
set_option maxRecDepth 20000 in
set_option maxHeartbeats 8000000 in
theorem sg_X4_visit_62 {E : Nat × (Nat → Int32)} {P : Option Value → Mem → Prop} {mem : Mem} {a1 : Int} {o2 : Nat} {o3 : Nat} {s0 : Int} (ho2 : o2 ∈ streetL) (ho3 : o3 ∈ jobL) (w1 : -2147483648 ≤ s0 ∧ s0 < 2147483648) (w2 : s0 ≠ 0 → -2147483648 ≤ ((mem 106 7) - (mem o2 2)) ∧ ((mem 106 7) - (mem o2 2)) < 2147483648) (w3 : s0 ≠ 0 → -2147483648 ≤ (mem o2 7) ∧ (mem o2 7) < 2147483648) (w4 : s0 ≠ 0 → -2147483648 ≤ (mem o2 8) ∧ (mem o2 8) < 2147483648)
    (k1 : s0 ≠ 0 → 0 ≤ (mem o2 7) ∧ (mem o2 7) ≤ (divI ((mem 106 8) + (10 * (if 0 ≤ ((mem 106 7) - (mem o2 2)) then ((mem 106 7) - (mem o2 2)) else -((mem 106 7) - (mem o2 2))))) 60) ∧ (divI ((mem 106 8) + (10 * (if 0 ≤ ((mem 106 7) - (mem o2 2)) then ((mem 106 7) - (mem o2 2)) else -((mem 106 7) - (mem o2 2))))) 60) ≤ (mem o2 8) → GM E (m_X4_visit 3) P 112 [.ref 106, vi a1, .ref o2, .ref o3] [vi (mem 4 0), vi (mem 106 6), .ref o3] (up2 (up2 mem 106 8 (((mem o2 8) + 1) * 60)) 106 7 ((up2 mem 106 8 (((mem o2 8) + 1) * 60)) o2 2)))
    (k2 : s0 ≠ 0 → ¬ (0 ≤ (mem o2 7) ∧ (mem o2 7) ≤ (divI ((mem 106 8) + (10 * (if 0 ≤ ((mem 106 7) - (mem o2 2)) then ((mem 106 7) - (mem o2 2)) else -((mem 106 7) - (mem o2 2))))) 60) ∧ (divI ((mem 106 8) + (10 * (if 0 ≤ ((mem 106 7) - (mem o2 2)) then ((mem 106 7) - (mem o2 2)) else -((mem 106 7) - (mem o2 2))))) 60) ≤ (mem o2 8)) → GM E (m_X4_visit 3) P 112 [.ref 106, vi a1, .ref o2, .ref o3] [vi (mem 4 0), vi (mem 106 6), .ref o3] (up2 (up2 mem 106 8 ((mem 106 8) + (10 * (if 0 ≤ ((mem 106 7) - (mem o2 2)) then ((mem 106 7) - (mem o2 2)) else -((mem 106 7) - (mem o2 2)))))) 106 7 ((up2 mem 106 8 ((mem 106 8) + (10 * (if 0 ≤ ((mem 106 7) - (mem o2 2)) then ((mem 106 7) - (mem o2 2)) else -((mem 106 7) - (mem o2 2)))))) o2 2)))
    (k3 : s0 = 0 → P (some (vi 0)) mem) :
    GM E (m_X4_visit 3) P 62 [.ref 106, vi a1, .ref o2, .ref o3] [vi s0] mem := by
  refine G_if_ne (tgt := 67) dX4_visit_62 (by decide) (w1) (fun c1 => ?_) (fun c1 => ?_)
  · -- s0 ≠ 0
    refine G_aload_n dX4_visit_67 rfl ?_
    refine G_aload_n dX4_visit_68 rfl ?_
    refine G_aload_n dX4_visit_69 rfl ?_
    refine G_getI (z := (mem 106 8)) dX4_visit_70 fl_4_106 (by decide) sh_106 rfl ?_
    refine G_aload_n dX4_visit_73 rfl ?_
    refine G_getI (z := (mem 106 7)) dX4_visit_74 fl_4_103 (by decide) sh_106 rfl ?_
    refine G_aload_n dX4_visit_77 rfl ?_
    refine G_getI (z := (mem o2 2)) dX4_visit_78 fl_4_125 (ltStreet0 ho2) (shStreet0 ho2) rfl ?_
    refine cb_X4_visit_81 (ic_X11_driving (w2 c1) ?_)
    refine G_iadd dX4_visit_84 ?_
    refine cb_X4_visit_85 ho2 (ic_X8_openFrom (f := (mem o2 7)) (t := (mem o2 8)) ho2 rfl rfl (w3 c1) (w4 c1) (fun c2 => ?_) (fun c3 => ?_))
    · -- 0 ≤ (mem o2 7) ∧ (mem o2 7) ≤ (divI ((mem 106 8) + (10 * (if 0 ≤ ((mem 106 7) - (mem o2 2)) then ((mem 106 7) - (mem o2 2)) else -((mem 106 7) - (mem o2 2))))) 60) ∧ (divI ((mem 106 8) + (10 * (if 0 ≤ ((mem 106 7) - (mem o2 2)) then ((mem 106 7) - (mem o2 2)) else -((mem 106 7) - (mem o2 2))))) 60) ≤ (mem o2 8)
      refine G_putI (mem2 := (up2 mem 106 8 (((mem o2 8) + 1) * 60))) dX4_visit_88 fp_4_106 (by decide) sh_106 rfl ?_
      refine G_aload_n dX4_visit_91 rfl ?_
      refine G_aload_n dX4_visit_92 rfl ?_
      refine G_getI (z := ((up2 mem 106 8 (((mem o2 8) + 1) * 60)) o2 2)) dX4_visit_93 fl_4_125 (ltStreet0 ho2) (shStreet0 ho2) (by simp [up2, upr]) ?_
      refine G_putI (mem2 := (up2 (up2 mem 106 8 (((mem o2 8) + 1) * 60)) 106 7 ((up2 mem 106 8 (((mem o2 8) + 1) * 60)) o2 2))) dX4_visit_96 fp_4_103 (by decide) sh_106 rfl ?_
      refine G_aload_n dX4_visit_99 rfl ?_
      refine G_aload_n dX4_visit_100 rfl ?_
      refine G_getI (z := (mem 106 6)) dX4_visit_101 fl_4_100 (by decide) sh_106 (by simp [up2, upr]) ?_
      refine G_aload_n dX4_visit_104 rfl ?_
      refine G_getR (t := 3) dX4_visit_105 fl_4_31 (by decide) sh_106 rr_106_1 ?_
      refine G_iconst (z := 0) dX4_visit_108 rfl ?_
      refine cb_X4_visit_109 (ic_X6_get (z := (mem 4 0)) (by decide) (by simp [up2, upr]) ?_)
      exact k1 c1 c2
    · -- ¬ (0 ≤ (mem o2 7) ∧ (mem o2 7) ≤ (divI ((mem 106 8) + (10 * (if 0 ≤ ((mem 106 7) - (mem o2 2)) then ((mem 106 7) - (mem o2 2)) else -((mem 106 7) - (mem o2 2))))) 60) ∧ (divI ((mem 106 8) + (10 * (if 0 ≤ ((mem 106 7) - (mem o2 2)) then ((mem 106 7) - (mem o2 2)) else -((mem 106 7) - (mem o2 2))))) 60) ≤ (mem o2 8))
      refine G_putI (mem2 := (up2 mem 106 8 ((mem 106 8) + (10 * (if 0 ≤ ((mem 106 7) - (mem o2 2)) then ((mem 106 7) - (mem o2 2)) else -((mem 106 7) - (mem o2 2))))))) dX4_visit_88 fp_4_106 (by decide) sh_106 rfl ?_
      refine G_aload_n dX4_visit_91 rfl ?_
      refine G_aload_n dX4_visit_92 rfl ?_
      refine G_getI (z := ((up2 mem 106 8 ((mem 106 8) + (10 * (if 0 ≤ ((mem 106 7) - (mem o2 2)) then ((mem 106 7) - (mem o2 2)) else -((mem 106 7) - (mem o2 2)))))) o2 2)) dX4_visit_93 fl_4_125 (ltStreet0 ho2) (shStreet0 ho2) (by simp [up2, upr]) ?_
      refine G_putI (mem2 := (up2 (up2 mem 106 8 ((mem 106 8) + (10 * (if 0 ≤ ((mem 106 7) - (mem o2 2)) then ((mem 106 7) - (mem o2 2)) else -((mem 106 7) - (mem o2 2)))))) 106 7 ((up2 mem 106 8 ((mem 106 8) + (10 * (if 0 ≤ ((mem 106 7) - (mem o2 2)) then ((mem 106 7) - (mem o2 2)) else -((mem 106 7) - (mem o2 2)))))) o2 2))) dX4_visit_96 fp_4_103 (by decide) sh_106 rfl ?_
      refine G_aload_n dX4_visit_99 rfl ?_
      refine G_aload_n dX4_visit_100 rfl ?_
      refine G_getI (z := (mem 106 6)) dX4_visit_101 fl_4_100 (by decide) sh_106 (by simp [up2, upr]) ?_
      refine G_aload_n dX4_visit_104 rfl ?_
      refine G_getR (t := 3) dX4_visit_105 fl_4_31 (by decide) sh_106 rr_106_1 ?_
      refine G_iconst (z := 0) dX4_visit_108 rfl ?_
      refine cb_X4_visit_109 (ic_X6_get (z := (mem 4 0)) (by decide) (by simp [up2, upr]) ?_)
      exact k2 c1 c3
  · -- s0 = 0
    refine G_iconst (z := 0) dX4_visit_65 rfl ?_
    exact G_zret dX4_visit_66 rfl (nar_zb (by decide)) (Nat.zero_le _) (Nat.zero_le _) (Nat.le_refl _) ⟨rfl, k3 c1⟩
set_option maxRecDepth 20000 in
set_option maxHeartbeats 8000000 in
theorem sg_X4_visit_115 {E : Nat × (Nat → Int32)} {P : Option Value → Mem → Prop} {mem : Mem} {a1 : Int} {o2 : Nat} {o3 : Nat} (ho2 : o2 ∈ streetL) (ho3 : o3 ∈ jobL)
    (k1 : P (some (vi 1)) (up2 (up2 (up2 mem 106 6 ((mem 106 6) + (mem o3 16))) 106 8 ((mem 106 8) + (((up2 mem 106 6 ((mem 106 6) + (mem o3 16))) o3 18) + ((up2 mem 106 6 ((mem 106 6) + (mem o3 16))) o3 11)))) 106 10 ((mem 106 10) + ((up2 (up2 mem 106 6 ((mem 106 6) + (mem o3 16))) 106 8 ((mem 106 8) + (((up2 mem 106 6 ((mem 106 6) + (mem o3 16))) o3 18) + ((up2 mem 106 6 ((mem 106 6) + (mem o3 16))) o3 11)))) o3 17)))) :
    GM E (m_X4_visit 3) P 115 [.ref 106, vi a1, .ref o2, .ref o3] [] mem := by
  refine G_aload_n dX4_visit_115 rfl ?_
  refine G_dup dX4_visit_116 rfl ?_
  refine G_getI (z := (mem 106 6)) dX4_visit_117 fl_4_100 (by decide) sh_106 rfl ?_
  refine G_aload_n dX4_visit_120 rfl ?_
  refine G_getI (z := (mem o3 16)) dX4_visit_121 fl_4_135 (ltJob0 ho3) (shJob0 ho3) rfl ?_
  refine G_iadd dX4_visit_124 ?_
  refine G_putI (mem2 := (up2 mem 106 6 ((mem 106 6) + (mem o3 16)))) dX4_visit_125 fp_4_100 (by decide) sh_106 rfl ?_
  refine G_aload_n dX4_visit_128 rfl ?_
  refine G_dup dX4_visit_129 rfl ?_
  refine G_getI (z := (mem 106 8)) dX4_visit_130 fl_4_106 (by decide) sh_106 (by simp [up2, upr]) ?_
  refine G_aload_n dX4_visit_133 rfl ?_
  refine cb_X4_visit_134 ho3 (ic_X2_seconds (a := ((up2 mem 106 6 ((mem 106 6) + (mem o3 16))) o3 18)) (b := ((up2 mem 106 6 ((mem 106 6) + (mem o3 16))) o3 11)) ho3 (by simp [up2, upr]) (by simp [up2, upr]) ?_)
  refine G_iadd dX4_visit_137 ?_
  refine G_putI (mem2 := (up2 (up2 mem 106 6 ((mem 106 6) + (mem o3 16))) 106 8 ((mem 106 8) + (((up2 mem 106 6 ((mem 106 6) + (mem o3 16))) o3 18) + ((up2 mem 106 6 ((mem 106 6) + (mem o3 16))) o3 11))))) dX4_visit_138 fp_4_106 (by decide) sh_106 rfl ?_
  refine G_aload_n dX4_visit_141 rfl ?_
  refine G_dup dX4_visit_142 rfl ?_
  refine G_getI (z := (mem 106 10)) dX4_visit_143 fl_4_112 (by decide) sh_106 (by simp [up2, upr]) ?_
  refine G_aload_n dX4_visit_146 rfl ?_
  refine G_getI (z := ((up2 (up2 mem 106 6 ((mem 106 6) + (mem o3 16))) 106 8 ((mem 106 8) + (((up2 mem 106 6 ((mem 106 6) + (mem o3 16))) o3 18) + ((up2 mem 106 6 ((mem 106 6) + (mem o3 16))) o3 11)))) o3 17)) dX4_visit_147 fl_4_141 (ltJob0 ho3) (shJob0 ho3) (by simp [up2, upr]) ?_
  refine G_iadd dX4_visit_150 ?_
  refine G_putI (mem2 := (up2 (up2 (up2 mem 106 6 ((mem 106 6) + (mem o3 16))) 106 8 ((mem 106 8) + (((up2 mem 106 6 ((mem 106 6) + (mem o3 16))) o3 18) + ((up2 mem 106 6 ((mem 106 6) + (mem o3 16))) o3 11)))) 106 10 ((mem 106 10) + ((up2 (up2 mem 106 6 ((mem 106 6) + (mem o3 16))) 106 8 ((mem 106 8) + (((up2 mem 106 6 ((mem 106 6) + (mem o3 16))) o3 18) + ((up2 mem 106 6 ((mem 106 6) + (mem o3 16))) o3 11)))) o3 17)))) dX4_visit_151 fp_4_112 (by decide) sh_106 rfl ?_
  refine G_iconst (z := 1) dX4_visit_154 rfl ?_
  exact G_zret dX4_visit_155 rfl (nar_zb (by decide)) (Nat.zero_le _) (Nat.zero_le _) (Nat.le_refl _) ⟨rfl, k1⟩
set_option maxRecDepth 20000 in
set_option maxHeartbeats 8000000 in
theorem sg_X5_clamped_0 {E : Nat × (Nat → Int32)} {P : Option Value → Mem → Prop} {mem : Mem} {a0 : Int} (w1 : -2147483648 ≤ a0 ∧ a0 < 2147483648) (w2 : -2147483648 ≤ (min 999 a0) ∧ (min 999 a0) < 2147483648)
    (k1 : P (some (vi (max 1 (min 999 a0)))) mem) :
    GM E (m_X5_clamped 1) P 0 [vi a0] [] mem := by
  refine G_iconst (z := 1) dX5_clamped_0 rfl ?_
  refine G_sipush (z := 999) dX5_clamped_1 rfl ?_
  refine G_iload_n dX5_clamped_4 rfl ?_
  refine G_min (z := (min 999 a0)) dX5_clamped_5 ml_5_100 mw_min (by decide) (w1) ⟨by show 1 ≤ 1; first | decide | omega, by show 21 ≤ 40 * 1; first | decide | omega, Nat.zero_le _, Nat.zero_le _⟩ (Nat.le_of_ble_eq_true rfl) rfl ?_
  refine G_max (z := (max 1 (min 999 a0))) dX5_clamped_8 ml_5_106 mw_max (by decide) (w2) ⟨by show 1 ≤ 1; first | decide | omega, by show 21 ≤ 40 * 1; first | decide | omega, Nat.zero_le _, Nat.zero_le _⟩ (Nat.le_of_ble_eq_true rfl) rfl ?_
  exact G_iret dX5_clamped_11 rfl (Nat.zero_le _) (Nat.zero_le _) (Nat.le_refl _) ⟨rfl, k1⟩
set_option maxRecDepth 20000 in
set_option maxHeartbeats 8000000 in
theorem sg_X5_join_0 {E : Nat × (Nat → Int32)} {P : Option Value → Mem → Prop} {mem : Mem} {a0 : Int} {a1 : Int} {a2 : Int} (w1 : -2147483648 ≤ a0 ∧ a0 < 2147483648) (w2 : -2147483648 ≤ a1 ∧ a1 < 2147483648) (w3 : -2147483648 ≤ a2 ∧ a2 < 2147483648) (z4 : ¬ a0 = 42 → ¬ a0 = 43 → ¬ a0 = 45 → ¬ a0 = 60 → ¬ a0 = 61 → ¬ a0 = 62 → a2 ≠ 0 → a2 ≠ 0)
    (k1 : a0 = 42 → P (some (vi (a1 * a2))) mem)
    (k2 : ¬ a0 = 42 → a0 = 43 → P (some (vi (a1 + a2))) mem)
    (k3 : ¬ a0 = 42 → ¬ a0 = 43 → a0 = 45 → P (some (vi (a1 - a2))) mem)
    (k4 : ¬ a0 = 42 → ¬ a0 = 43 → ¬ a0 = 45 → a0 = 60 → a2 ≤ a1 → P (some (vi 0)) mem)
    (k5 : ¬ a0 = 42 → ¬ a0 = 43 → ¬ a0 = 45 → a0 = 60 → ¬ a2 ≤ a1 → P (some (vi 1)) mem)
    (k6 : ¬ a0 = 42 → ¬ a0 = 43 → ¬ a0 = 45 → ¬ a0 = 60 → a0 = 61 → a1 ≠ a2 → P (some (vi 0)) mem)
    (k7 : ¬ a0 = 42 → ¬ a0 = 43 → ¬ a0 = 45 → ¬ a0 = 60 → a0 = 61 → a1 = a2 → P (some (vi 1)) mem)
    (k8 : ¬ a0 = 42 → ¬ a0 = 43 → ¬ a0 = 45 → ¬ a0 = 60 → ¬ a0 = 61 → a0 = 62 → a1 ≤ a2 → P (some (vi 0)) mem)
    (k9 : ¬ a0 = 42 → ¬ a0 = 43 → ¬ a0 = 45 → ¬ a0 = 60 → ¬ a0 = 61 → a0 = 62 → ¬ a1 ≤ a2 → P (some (vi 1)) mem)
    (k10 : ¬ a0 = 42 → ¬ a0 = 43 → ¬ a0 = 45 → ¬ a0 = 60 → ¬ a0 = 61 → ¬ a0 = 62 → P (some (vi (if a2 ≠ 0 then (divI a1 a2) else (0 : Int)))) mem) :
    GM E (m_X5_join 0) P 0 [vi a0, vi a1, vi a2] [] mem := by
  refine G_iload_n dX5_join_0 rfl ?_
  by_cases c1 : a0 = 42
  · refine G_lookup (off := 100) (tgt := 101) dX5_join_1 (w1) (by decide) (by rw [c1]; rfl) (by decide) ?_
    refine G_iload_n dX5_join_101 rfl ?_
    refine G_iload_n dX5_join_102 rfl ?_
    refine G_imul dX5_join_103 ?_
    exact G_iret dX5_join_104 rfl (Nat.zero_le _) (Nat.zero_le _) (Nat.le_refl _) ⟨rfl, k1 c1⟩
  by_cases c2 : a0 = 43
  · refine G_lookup (off := 92) (tgt := 93) dX5_join_1 (w1) (by decide) (by rw [c2]; rfl) (by decide) ?_
    refine G_iload_n dX5_join_93 rfl ?_
    refine G_iload_n dX5_join_94 rfl ?_
    refine G_iadd dX5_join_95 ?_
    exact G_iret dX5_join_96 rfl (Nat.zero_le _) (Nat.zero_le _) (Nat.le_refl _) ⟨rfl, k2 c1 c2⟩
  by_cases c3 : a0 = 45
  · refine G_lookup (off := 96) (tgt := 97) dX5_join_1 (w1) (by decide) (by rw [c3]; rfl) (by decide) ?_
    refine G_iload_n dX5_join_97 rfl ?_
    refine G_iload_n dX5_join_98 rfl ?_
    refine G_isub dX5_join_99 ?_
    exact G_iret dX5_join_100 rfl (Nat.zero_le _) (Nat.zero_le _) (Nat.le_refl _) ⟨rfl, k3 c1 c2 c3⟩
  by_cases c4 : a0 = 60
  · refine G_lookup (off := 59) (tgt := 60) dX5_join_1 (w1) (by decide) (by rw [c4]; rfl) (by decide) ?_
    refine G_iload_n dX5_join_60 rfl ?_
    refine G_iload_n dX5_join_61 rfl ?_
    refine G_icmp_ge (tgt := 69) dX5_join_62 (by decide) (w2) (w3) (fun c5 => ?_) (fun c5 => ?_)
    · -- a2 ≤ a1
      refine G_iconst (z := 0) dX5_join_69 rfl ?_
      exact G_iret dX5_join_70 rfl (Nat.zero_le _) (Nat.zero_le _) (Nat.le_refl _) ⟨rfl, k4 c1 c2 c3 c4 c5⟩
    · -- ¬ a2 ≤ a1
      refine G_iconst (z := 1) dX5_join_65 rfl ?_
      refine G_goto (tgt := 70) dX5_join_66 (by decide) ?_
      exact G_iret dX5_join_70 rfl (Nat.zero_le _) (Nat.zero_le _) (Nat.le_refl _) ⟨rfl, k5 c1 c2 c3 c4 c5⟩
  by_cases c6 : a0 = 61
  · refine G_lookup (off := 81) (tgt := 82) dX5_join_1 (w1) (by decide) (by rw [c6]; rfl) (by decide) ?_
    refine G_iload_n dX5_join_82 rfl ?_
    refine G_iload_n dX5_join_83 rfl ?_
    refine G_icmp_ne (tgt := 91) dX5_join_84 (by decide) (w2) (w3) (fun c7 => ?_) (fun c7 => ?_)
    · -- a1 ≠ a2
      refine G_iconst (z := 0) dX5_join_91 rfl ?_
      exact G_iret dX5_join_92 rfl (Nat.zero_le _) (Nat.zero_le _) (Nat.le_refl _) ⟨rfl, k6 c1 c2 c3 c4 c6 c7⟩
    · -- a1 = a2
      refine G_iconst (z := 1) dX5_join_87 rfl ?_
      refine G_goto (tgt := 92) dX5_join_88 (by decide) ?_
      exact G_iret dX5_join_92 rfl (Nat.zero_le _) (Nat.zero_le _) (Nat.le_refl _) ⟨rfl, k7 c1 c2 c3 c4 c6 c7⟩
  by_cases c8 : a0 = 62
  · refine G_lookup (off := 70) (tgt := 71) dX5_join_1 (w1) (by decide) (by rw [c8]; rfl) (by decide) ?_
    refine G_iload_n dX5_join_71 rfl ?_
    refine G_iload_n dX5_join_72 rfl ?_
    refine G_icmp_le (tgt := 80) dX5_join_73 (by decide) (w2) (w3) (fun c9 => ?_) (fun c9 => ?_)
    · -- a1 ≤ a2
      refine G_iconst (z := 0) dX5_join_80 rfl ?_
      exact G_iret dX5_join_81 rfl (Nat.zero_le _) (Nat.zero_le _) (Nat.le_refl _) ⟨rfl, k8 c1 c2 c3 c4 c6 c8 c9⟩
    · -- ¬ a1 ≤ a2
      refine G_iconst (z := 1) dX5_join_76 rfl ?_
      refine G_goto (tgt := 81) dX5_join_77 (by decide) ?_
      exact G_iret dX5_join_81 rfl (Nat.zero_le _) (Nat.zero_le _) (Nat.le_refl _) ⟨rfl, k9 c1 c2 c3 c4 c6 c8 c9⟩
  refine G_lookup (off := 104) (tgt := 105) dX5_join_1 (w1) (by decide) (by show Op.lookupswitch.offset [(42, 100), (43, 92), (45, 96), (60, 59), (61, 81), (62, 70)] 104 a0 = 104; rw [Op.lookupswitch.offset_cons, if_neg (fun e => c1 e.symm), Op.lookupswitch.offset_cons, if_neg (fun e => c2 e.symm), Op.lookupswitch.offset_cons, if_neg (fun e => c3 e.symm), Op.lookupswitch.offset_cons, if_neg (fun e => c4 e.symm), Op.lookupswitch.offset_cons, if_neg (fun e => c6 e.symm), Op.lookupswitch.offset_cons, if_neg (fun e => c8 e.symm)]; rfl) (by decide) ?_
  refine G_iload_n dX5_join_105 rfl ?_
  have j1 : GM E (m_X5_join 0) P 116 [vi a0, vi a1, vi a2] [vi (if a2 ≠ 0 then (divI a1 a2) else (0 : Int))] mem := by
    exact G_iret dX5_join_116 rfl (Nat.zero_le _) (Nat.zero_le _) (Nat.le_refl _) ⟨rfl, k10 c1 c2 c3 c4 c6 c8⟩
  refine G_if_ne (tgt := 113) dX5_join_106 (by decide) (w3) (fun c10 => ?_) (fun c10 => ?_)
  · -- a2 ≠ 0
    refine G_iload_n dX5_join_113 rfl ?_
    refine G_iload_n dX5_join_114 rfl ?_
    refine G_idiv (z := (divI a1 a2)) dX5_join_115 (iI_ne0 (w3) (z4 c1 c2 c3 c4 c6 c8 c10)) (iI_inv _) ?_
    have qj1 := j1
    simp only [if_pos c10] at qj1
    exact qj1
  · -- a2 = 0
    refine G_iconst (z := 0) dX5_join_109 rfl ?_
    refine G_goto (tgt := 116) dX5_join_110 (by decide) ?_
    have qj1 := j1
    simp only [if_neg (show ¬ (a2 ≠ 0) from fun q => q c10)] at qj1
    exact qj1
set_option maxRecDepth 20000 in
set_option maxHeartbeats 8000000 in
theorem sg_X5_pop_0 {E : Nat × (Nat → Int32)} {P : Option Value → Mem → Prop} {mem : Mem} (w1 : -2147483648 ≤ (mem 5 5) ∧ (mem 5 5) < 2147483648) (q2 : ¬ (mem 5 5) < 1 → (mem 5 5) ≤ 40 → 0 ≤ ((mem 5 5) - 1) ∧ ((mem 5 5) - 1) < 40)
    (k1 : (mem 5 5) < 1 → P (some (vi 0)) mem)
    (k2 : ¬ (mem 5 5) < 1 → (mem 5 5) ≤ 40 → P (some (vi (mem 8 ((mem 5 5) - 1)))) (up2 mem 5 5 ((mem 5 5) - 1)))
    (k3 : ¬ (mem 5 5) < 1 → ¬ (mem 5 5) ≤ 40 → P (some (vi 0)) mem) :
    GM E (m_X5_pop 0) P 0 [.ref 5] [] mem := by
  refine G_aload_n dX5_pop_0 rfl ?_
  refine G_getI (z := (mem 5 5)) dX5_pop_1 fl_5_87 (by decide) sh_5 rfl ?_
  refine G_iconst (z := 1) dX5_pop_4 rfl ?_
  refine G_icmp_lt (tgt := 20) dX5_pop_5 (by decide) (w1) (by decide) (fun c1 => ?_) (fun c1 => ?_)
  · -- (mem 5 5) < 1
    refine G_iconst (z := 0) dX5_pop_20 rfl ?_
    exact G_iret dX5_pop_21 rfl (Nat.zero_le _) (Nat.zero_le _) (Nat.le_refl _) ⟨rfl, k1 c1⟩
  · -- ¬ (mem 5 5) < 1
    refine G_aload_n dX5_pop_8 rfl ?_
    refine G_getI (z := (mem 5 5)) dX5_pop_9 fl_5_87 (by decide) sh_5 rfl ?_
    refine G_aload_n dX5_pop_12 rfl ?_
    refine G_getR (t := 8) dX5_pop_13 fl_5_18 (by decide) sh_5 rr_5_4 ?_
    refine G_alen (z := 40) dX5_pop_16 (by decide) sh_8 (by decide) rfl ?_
    refine G_icmp_le (tgt := 22) dX5_pop_17 (by decide) (w1) (by decide) (fun c2 => ?_) (fun c2 => ?_)
    · -- (mem 5 5) ≤ 40
      refine G_aload_n dX5_pop_22 rfl ?_
      refine G_dup dX5_pop_23 rfl ?_
      refine G_getI (z := (mem 5 5)) dX5_pop_24 fl_5_87 (by decide) sh_5 rfl ?_
      refine G_iconst (z := 1) dX5_pop_27 rfl ?_
      refine G_isub dX5_pop_28 ?_
      refine G_putI (mem2 := (up2 mem 5 5 ((mem 5 5) - 1))) dX5_pop_29 fp_5_87 (by decide) sh_5 rfl ?_
      refine G_aload_n dX5_pop_32 rfl ?_
      refine G_getR (t := 8) dX5_pop_33 fl_5_18 (by decide) sh_5 rr_5_4 ?_
      refine G_aload_n dX5_pop_36 rfl ?_
      refine G_getI (z := ((mem 5 5) - 1)) dX5_pop_37 fl_5_87 (by decide) sh_5 (by simp [up2, upr]) ?_
      refine G_iald (z := (mem 8 ((mem 5 5) - 1))) dX5_pop_40 (by decide) sh_8 (by decide) (q2 c1 c2).1 (q2 c1 c2).2 (by simp [up2, upr]) ?_
      exact G_iret dX5_pop_41 rfl (Nat.zero_le _) (Nat.zero_le _) (Nat.le_refl _) ⟨rfl, k2 c1 c2⟩
    · -- ¬ (mem 5 5) ≤ 40
      refine G_iconst (z := 0) dX5_pop_20 rfl ?_
      exact G_iret dX5_pop_21 rfl (Nat.zero_le _) (Nat.zero_le _) (Nat.le_refl _) ⟨rfl, k3 c1 c2⟩
set_option maxRecDepth 20000 in
set_option maxHeartbeats 8000000 in
theorem sg_X5_push_0 {E : Nat × (Nat → Int32)} {P : Option Value → Mem → Prop} {mem : Mem} {a1 : Int} (w1 : -2147483648 ≤ (mem 5 5) ∧ (mem 5 5) < 2147483648) (q2 : ¬ 40 ≤ (mem 5 5) → 0 ≤ (mem 5 5) ∧ (mem 5 5) < 40)
    (k1 : 40 ≤ (mem 5 5) → P none mem)
    (k2 : ¬ 40 ≤ (mem 5 5) → P none (up2 (up2 mem 8 (mem 5 5) a1) 5 5 ((mem 5 5) + 1))) :
    GM E (m_X5_push 0) P 0 [.ref 5, vi a1] [] mem := by
  refine G_aload_n dX5_push_0 rfl ?_
  refine G_getI (z := (mem 5 5)) dX5_push_1 fl_5_87 (by decide) sh_5 rfl ?_
  refine G_aload_n dX5_push_4 rfl ?_
  refine G_getR (t := 8) dX5_push_5 fl_5_18 (by decide) sh_5 rr_5_4 ?_
  refine G_alen (z := 40) dX5_push_8 (by decide) sh_8 (by decide) rfl ?_
  refine G_icmp_ge (tgt := 32) dX5_push_9 (by decide) (w1) (by decide) (fun c1 => ?_) (fun c1 => ?_)
  · -- 40 ≤ (mem 5 5)
    exact G_vret dX5_push_32 rfl (Nat.zero_le _) (Nat.zero_le _) (Nat.le_refl _) ⟨rfl, k1 c1⟩
  · -- ¬ 40 ≤ (mem 5 5)
    refine G_aload_n dX5_push_12 rfl ?_
    refine G_getR (t := 8) dX5_push_13 fl_5_18 (by decide) sh_5 rr_5_4 ?_
    refine G_aload_n dX5_push_16 rfl ?_
    refine G_getI (z := (mem 5 5)) dX5_push_17 fl_5_87 (by decide) sh_5 rfl ?_
    refine G_iload_n dX5_push_20 rfl ?_
    refine G_iast (mem2 := (up2 mem 8 (mem 5 5) a1)) dX5_push_21 (by decide) sh_8 (by decide) (q2 c1).1 (q2 c1).2 rfl ?_
    refine G_aload_n dX5_push_22 rfl ?_
    refine G_dup dX5_push_23 rfl ?_
    refine G_getI (z := (mem 5 5)) dX5_push_24 fl_5_87 (by decide) sh_5 (by simp [up2, upr]) ?_
    refine G_iconst (z := 1) dX5_push_27 rfl ?_
    refine G_iadd dX5_push_28 ?_
    refine G_putI (mem2 := (up2 (up2 mem 8 (mem 5 5) a1) 5 5 ((mem 5 5) + 1))) dX5_push_29 fp_5_87 (by decide) sh_5 rfl ?_
    exact G_vret dX5_push_32 rfl (Nat.zero_le _) (Nat.zero_le _) (Nat.le_refl _) ⟨rfl, k2 c1⟩
set_option maxRecDepth 20000 in
set_option maxHeartbeats 8000000 in
theorem sg_X5_read_0 {E : Nat × (Nat → Int32)} {P : Option Value → Mem → Prop} {mem : Mem} {y1 : Nat} {y2 : Nat} (w1 : -2147483648 ≤ (mem 1 1) ∧ (mem 1 1) < 2147483648) (e2 : (mem 1 1) ≤ 0 → (mem 5 0) = ((y1 : Nat) : Int)) (e3 : (mem 1 1) ≤ 0 → y1 ∈ codeL) (e4 : (mem 1 1) ≤ 0 → (mem 5 2) = ((y2 : Nat) : Int)) (e5 : (mem 1 1) ≤ 0 → y2 ∈ codeL)
    (k1 : (mem 1 1) ≤ 0 → P (some (vi 0)) (up2 (up2 (up2 (up2 (up2 (up2 mem 1 2 0) 1 3 (min (mem 1 1) 40)) 5 3 0) 5 0 ((y2 : Nat) : Int)) 5 1 0) 5 2 ((y1 : Nat) : Int)))
    (k2 : ¬ (mem 1 1) ≤ 0 → GM E (m_X5_read 201) P 21 [.ref 5, .ref 1, un] [vi 0, .ref 1, .ref 5] (up2 (up2 (up2 mem 1 2 0) 1 3 (min (mem 1 1) 40)) 5 3 0)) :
    GM E (m_X5_read 201) P 0 [.ref 5, .ref 1, un] [] mem := by
  refine G_aload_n dX5_read_0 rfl ?_
  refine G_bipush (z := 40) dX5_read_1 rfl ?_
  refine cb_X5_read_3 (ic_X9_begin (z := (mem 1 1)) rfl (w1) (by decide) ?_)
  refine G_aload_n dX5_read_6 rfl ?_
  refine G_iconst (z := 0) dX5_read_7 rfl ?_
  refine G_putI (mem2 := (up2 (up2 (up2 mem 1 2 0) 1 3 (min (mem 1 1) 40)) 5 3 0)) dX5_read_8 fp_5_27 (by decide) sh_5 rfl ?_
  refine G_aload_n dX5_read_11 rfl ?_
  refine cb_X5_read_12 (ic_X9_isRead (a := 0) (b := (mem 1 1)) (by simp [up2, upr]) (by simp [up2, upr]) (by decide) (w1) (fun c1 => ?_) (fun c2 => ?_))
  · -- (mem 1 1) ≤ 0
    refine G_if_ne (tgt := 39) dX5_read_15 (by decide) (by decide) (fun _ => ?_) (fun h => absurd h (by decide))
    refine G_aload_n dX5_read_39 rfl ?_
    refine G_getD (t := y1) dX5_read_40 fl_5_9 (by decide) sh_5 rn_5_0 (by simpa [up2, upr] using e2 c1) ?_
    refine G_astore_n dX5_read_43 rfl (by decide : 2 < 3) rfl ?_
    refine G_aload_n dX5_read_44 rfl ?_
    refine G_aload_n dX5_read_45 rfl ?_
    refine G_getD (t := y2) dX5_read_46 fl_5_15 (by decide) sh_5 rn_5_2 (by simpa [up2, upr] using e4 c1) ?_
    refine G_putD (mem2 := (up2 (up2 (up2 (up2 mem 1 2 0) 1 3 (min (mem 1 1) 40)) 5 3 0) 5 0 ((y2 : Nat) : Int))) dX5_read_49 fp_5_9 rfl rfl rfl (by decide) sh_5 rn_5_0 (ltCode (e5 c1)) rfl ?_
    refine G_aload_n dX5_read_52 rfl ?_
    refine G_aload_n dX5_read_53 rfl ?_
    refine G_getI (z := 0) dX5_read_54 fl_5_27 (by decide) sh_5 (by simp [up2, upr]) ?_
    refine G_putI (mem2 := (up2 (up2 (up2 (up2 (up2 mem 1 2 0) 1 3 (min (mem 1 1) 40)) 5 3 0) 5 0 ((y2 : Nat) : Int)) 5 1 0)) dX5_read_57 fp_5_43 (by decide) sh_5 rfl ?_
    refine G_aload_n dX5_read_60 rfl ?_
    refine G_aload_n dX5_read_61 rfl ?_
    refine G_putD (mem2 := (up2 (up2 (up2 (up2 (up2 (up2 mem 1 2 0) 1 3 (min (mem 1 1) 40)) 5 3 0) 5 0 ((y2 : Nat) : Int)) 5 1 0) 5 2 ((y1 : Nat) : Int))) dX5_read_62 fp_5_15 rfl rfl rfl (by decide) sh_5 rn_5_2 (ltCode (e3 c1)) rfl ?_
    refine G_iconst (z := 0) dX5_read_65 rfl ?_
    exact G_iret dX5_read_66 rfl (Nat.zero_le _) (Nat.zero_le _) (Nat.le_refl _) ⟨rfl, k1 c1⟩
  · -- ¬ (mem 1 1) ≤ 0
    refine G_if_ne (tgt := 39) dX5_read_15 (by decide) (by decide) (fun h => absurd h (by decide)) (fun _ => ?_)
    refine G_aload_n dX5_read_18 rfl ?_
    refine G_aload_n dX5_read_19 rfl ?_
    refine G_iconst (z := 0) dX5_read_20 rfl ?_
    exact k2 c2
set_option maxRecDepth 20000 in
set_option maxHeartbeats 8000000 in
theorem sg_X5_read_24 {E : Nat × (Nat → Int32)} {P : Option Value → Mem → Prop} {mem : Mem} {s0 : Int} {y1 : Nat} {y2 : Nat} (w1 : -2147483648 ≤ s0 ∧ s0 < 2147483648) (w2 : ¬ s0 = 0 → -2147483648 ≤ (mem 1 2) ∧ (mem 1 2) < 2147483648) (w3 : ¬ s0 = 0 → -2147483648 ≤ (mem 1 1) ∧ (mem 1 1) < 2147483648) (e4 : ¬ s0 = 0 → (mem 1 1) ≤ (mem 1 2) → (mem 5 0) = ((y1 : Nat) : Int)) (e5 : ¬ s0 = 0 → (mem 1 1) ≤ (mem 1 2) → y1 ∈ codeL) (e6 : ¬ s0 = 0 → (mem 1 1) ≤ (mem 1 2) → (mem 5 2) = ((y2 : Nat) : Int)) (e7 : ¬ s0 = 0 → (mem 1 1) ≤ (mem 1 2) → y2 ∈ codeL)
    (k1 : s0 = 0 → P (some (vi ((-1) - (mem 1 2)))) mem)
    (k2 : ¬ s0 = 0 → (mem 1 1) ≤ (mem 1 2) → P (some (vi 0)) (up2 (up2 (up2 mem 5 0 ((y2 : Nat) : Int)) 5 1 (mem 5 3)) 5 2 ((y1 : Nat) : Int)))
    (k3 : ¬ s0 = 0 → ¬ (mem 1 1) ≤ (mem 1 2) → P (some (vi ((-1) - (mem 1 2)))) mem) :
    GM E (m_X5_read 201) P 24 [.ref 5, .ref 1, un] [vi s0] mem := by
  refine G_if_eq (tgt := 34) dX5_read_24 (by decide) (w1) (fun c1 => ?_) (fun c1 => ?_)
  · -- s0 = 0
    refine G_aload_n dX5_read_34 rfl ?_
    refine cb_X5_read_35 (ic_X9_fault (z := (mem 1 2)) rfl ?_)
    exact G_iret dX5_read_38 rfl (Nat.zero_le _) (Nat.zero_le _) (Nat.le_refl _) ⟨rfl, k1 c1⟩
  · -- ¬ s0 = 0
    refine G_aload_n dX5_read_27 rfl ?_
    refine cb_X5_read_28 (ic_X9_isRead (a := (mem 1 2)) (b := (mem 1 1)) rfl rfl (w2 c1) (w3 c1) (fun c2 => ?_) (fun c3 => ?_))
    · -- (mem 1 1) ≤ (mem 1 2)
      refine G_if_ne (tgt := 39) dX5_read_31 (by decide) (by decide) (fun _ => ?_) (fun h => absurd h (by decide))
      refine G_aload_n dX5_read_39 rfl ?_
      refine G_getD (t := y1) dX5_read_40 fl_5_9 (by decide) sh_5 rn_5_0 (e4 c1 c2) ?_
      refine G_astore_n dX5_read_43 rfl (by decide : 2 < 3) rfl ?_
      refine G_aload_n dX5_read_44 rfl ?_
      refine G_aload_n dX5_read_45 rfl ?_
      refine G_getD (t := y2) dX5_read_46 fl_5_15 (by decide) sh_5 rn_5_2 (e6 c1 c2) ?_
      refine G_putD (mem2 := (up2 mem 5 0 ((y2 : Nat) : Int))) dX5_read_49 fp_5_9 rfl rfl rfl (by decide) sh_5 rn_5_0 (ltCode (e7 c1 c2)) rfl ?_
      refine G_aload_n dX5_read_52 rfl ?_
      refine G_aload_n dX5_read_53 rfl ?_
      refine G_getI (z := (mem 5 3)) dX5_read_54 fl_5_27 (by decide) sh_5 (by simp [up2, upr]) ?_
      refine G_putI (mem2 := (up2 (up2 mem 5 0 ((y2 : Nat) : Int)) 5 1 (mem 5 3))) dX5_read_57 fp_5_43 (by decide) sh_5 rfl ?_
      refine G_aload_n dX5_read_60 rfl ?_
      refine G_aload_n dX5_read_61 rfl ?_
      refine G_putD (mem2 := (up2 (up2 (up2 mem 5 0 ((y2 : Nat) : Int)) 5 1 (mem 5 3)) 5 2 ((y1 : Nat) : Int))) dX5_read_62 fp_5_15 rfl rfl rfl (by decide) sh_5 rn_5_2 (ltCode (e5 c1 c2)) rfl ?_
      refine G_iconst (z := 0) dX5_read_65 rfl ?_
      exact G_iret dX5_read_66 rfl (Nat.zero_le _) (Nat.zero_le _) (Nat.le_refl _) ⟨rfl, k2 c1 c2⟩
    · -- ¬ (mem 1 1) ≤ (mem 1 2)
      refine G_if_ne (tgt := 39) dX5_read_31 (by decide) (by decide) (fun h => absurd h (by decide)) (fun _ => ?_)
      refine G_aload_n dX5_read_34 rfl ?_
      refine cb_X5_read_35 (ic_X9_fault (z := (mem 1 2)) rfl ?_)
      exact G_iret dX5_read_38 rfl (Nat.zero_le _) (Nat.zero_le _) (Nat.le_refl _) ⟨rfl, k3 c1 c3⟩
set_option maxRecDepth 20000 in
set_option maxHeartbeats 8000000 in
theorem sg_X5_readComparison_0 {E : Nat × (Nat → Int32)} {d : Nat} {P : Option Value → Mem → Prop} {mem : Mem} {a2 : Int}
    (k1 : GM E (m_X5_readComparison d) P 3 [.ref 5, .ref 1, vi a2, un] [vi a2, .ref 1, .ref 5] mem) :
    GM E (m_X5_readComparison d) P 0 [.ref 5, .ref 1, vi a2, un] [] mem := by
  refine G_aload_n dX5_readComparison_0 rfl ?_
  refine G_aload_n dX5_readComparison_1 rfl ?_
  refine G_iload_n dX5_readComparison_2 rfl ?_
  exact k1
set_option maxRecDepth 20000 in
set_option maxHeartbeats 8000000 in
theorem sg_X5_readComparison_6 {E : Nat × (Nat → Int32)} {d : Nat} (hd : 1 ≤ d) {P : Option Value → Mem → Prop} {mem : Mem} {a2 : Int} {s0 : Int} (w1 : -2147483648 ≤ s0 ∧ s0 < 2147483648) (t2 : s0 ≠ 0 → TextOK mem) (w3 : s0 ≠ 0 → -2147483648 ≤ (lookM mem) ∧ (lookM mem) < 2147483648)
    (k1 : s0 ≠ 0 → (lookM mem) = 60 → GM E (m_X5_readComparison d) P 43 [.ref 5, .ref 1, vi a2, vi (lookM mem)] [vi a2, .ref 1, .ref 5] (up2 mem 1 2 ((mem 1 2) + 1)))
    (k2 : s0 ≠ 0 → ¬ (lookM mem) = 60 → (lookM mem) = 62 → GM E (m_X5_readComparison d) P 43 [.ref 5, .ref 1, vi a2, vi (lookM mem)] [vi a2, .ref 1, .ref 5] (up2 mem 1 2 ((mem 1 2) + 1)))
    (k3 : s0 ≠ 0 → ¬ (lookM mem) = 60 → ¬ (lookM mem) = 62 → (lookM mem) = 61 → GM E (m_X5_readComparison d) P 43 [.ref 5, .ref 1, vi a2, vi (lookM mem)] [vi a2, .ref 1, .ref 5] (up2 mem 1 2 ((mem 1 2) + 1)))
    (k4 : s0 ≠ 0 → ¬ (lookM mem) = 60 → ¬ (lookM mem) = 62 → ¬ (lookM mem) = 61 → P (some (vi 1)) mem)
    (k5 : s0 = 0 → P (some (vi 0)) mem) :
    GM E (m_X5_readComparison d) P 6 [.ref 5, .ref 1, vi a2, un] [vi s0] mem := by
  refine G_if_ne (tgt := 11) dX5_readComparison_6 (by decide) (w1) (fun c1 => ?_) (fun c1 => ?_)
  · -- s0 ≠ 0
    refine G_aload_n dX5_readComparison_11 rfl ?_
    refine cb_X5_readComparison_12 (by omega) (ic_X9_look (t2 c1) ?_)
    refine G_istore_n dX5_readComparison_15 rfl (by decide : 3 < 4) rfl ?_
    refine G_iload_n dX5_readComparison_16 rfl ?_
    refine G_bipush (z := 60) dX5_readComparison_17 rfl ?_
    refine G_icmp_eq (tgt := 36) dX5_readComparison_19 (by decide) (w3 c1) (by decide) (fun c2 => ?_) (fun c2 => ?_)
    · -- (lookM mem) = 60
      refine G_aload_n dX5_readComparison_36 rfl ?_
      refine cb_X5_readComparison_37 (by omega) (ic_X9_pass (z := (mem 1 2)) rfl ?_)
      refine G_aload_n dX5_readComparison_40 rfl ?_
      refine G_aload_n dX5_readComparison_41 rfl ?_
      refine G_iload_n dX5_readComparison_42 rfl ?_
      exact k1 c1 c2
    · -- ¬ (lookM mem) = 60
      refine G_iload_n dX5_readComparison_22 rfl ?_
      refine G_bipush (z := 62) dX5_readComparison_23 rfl ?_
      refine G_icmp_eq (tgt := 36) dX5_readComparison_25 (by decide) (w3 c1) (by decide) (fun c3 => ?_) (fun c3 => ?_)
      · -- (lookM mem) = 62
        refine G_aload_n dX5_readComparison_36 rfl ?_
        refine cb_X5_readComparison_37 (by omega) (ic_X9_pass (z := (mem 1 2)) rfl ?_)
        refine G_aload_n dX5_readComparison_40 rfl ?_
        refine G_aload_n dX5_readComparison_41 rfl ?_
        refine G_iload_n dX5_readComparison_42 rfl ?_
        exact k2 c1 c2 c3
      · -- ¬ (lookM mem) = 62
        refine G_iload_n dX5_readComparison_28 rfl ?_
        refine G_bipush (z := 61) dX5_readComparison_29 rfl ?_
        refine G_icmp_eq (tgt := 36) dX5_readComparison_31 (by decide) (w3 c1) (by decide) (fun c4 => ?_) (fun c4 => ?_)
        · -- (lookM mem) = 61
          refine G_aload_n dX5_readComparison_36 rfl ?_
          refine cb_X5_readComparison_37 (by omega) (ic_X9_pass (z := (mem 1 2)) rfl ?_)
          refine G_aload_n dX5_readComparison_40 rfl ?_
          refine G_aload_n dX5_readComparison_41 rfl ?_
          refine G_iload_n dX5_readComparison_42 rfl ?_
          exact k3 c1 c2 c3 c4
        · -- ¬ (lookM mem) = 61
          refine G_iconst (z := 1) dX5_readComparison_34 rfl ?_
          exact G_zret dX5_readComparison_35 rfl (nar_zb (by decide)) (Nat.zero_le _) (Nat.zero_le _) (Nat.le_refl _) ⟨rfl, k4 c1 c2 c3 c4⟩
  · -- s0 = 0
    refine G_iconst (z := 0) dX5_readComparison_9 rfl ?_
    exact G_zret dX5_readComparison_10 rfl (nar_zb (by decide)) (Nat.zero_le _) (Nat.zero_le _) (Nat.le_refl _) ⟨rfl, k5 c1⟩
set_option maxRecDepth 20000 in
set_option maxHeartbeats 8000000 in
theorem sg_X5_readComparison_46 {E : Nat × (Nat → Int32)} {d : Nat} {P : Option Value → Mem → Prop} {mem : Mem} {a2 : Int} {a3 : Int} {s0 : Int} (w1 : -2147483648 ≤ s0 ∧ s0 < 2147483648)
    (k1 : s0 = 0 → P (some (vi 0)) mem)
    (k2 : ¬ s0 = 0 → GM E (m_X5_readComparison d) P 54 [.ref 5, .ref 1, vi a2, vi a3] [vi ((-100) - a3), .ref 5] mem) :
    GM E (m_X5_readComparison d) P 46 [.ref 5, .ref 1, vi a2, vi a3] [vi s0] mem := by
  refine G_if_eq (tgt := 64) dX5_readComparison_46 (by decide) (w1) (fun c1 => ?_) (fun c1 => ?_)
  · -- s0 = 0
    refine G_iconst (z := 0) dX5_readComparison_64 rfl ?_
    exact G_zret dX5_readComparison_65 rfl (nar_zb (by decide)) (Nat.zero_le _) (Nat.zero_le _) (Nat.le_refl _) ⟨rfl, k1 c1⟩
  · -- ¬ s0 = 0
    refine G_aload_n dX5_readComparison_49 rfl ?_
    refine G_bipush (z := (-100)) dX5_readComparison_50 rfl ?_
    refine G_iload_n dX5_readComparison_52 rfl ?_
    refine G_isub dX5_readComparison_53 ?_
    exact k2 c1
set_option maxRecDepth 20000 in
set_option maxHeartbeats 8000000 in
theorem sg_X5_readComparison_57 {E : Nat × (Nat → Int32)} {d : Nat} {P : Option Value → Mem → Prop} {mem : Mem} {a2 : Int} {a3 : Int} {s0 : Int} (w1 : -2147483648 ≤ s0 ∧ s0 < 2147483648)
    (k1 : s0 = 0 → P (some (vi 0)) mem)
    (k2 : ¬ s0 = 0 → P (some (vi 1)) mem) :
    GM E (m_X5_readComparison d) P 57 [.ref 5, .ref 1, vi a2, vi a3] [vi s0] mem := by
  refine G_if_eq (tgt := 64) dX5_readComparison_57 (by decide) (w1) (fun c1 => ?_) (fun c1 => ?_)
  · -- s0 = 0
    refine G_iconst (z := 0) dX5_readComparison_64 rfl ?_
    exact G_zret dX5_readComparison_65 rfl (nar_zb (by decide)) (Nat.zero_le _) (Nat.zero_le _) (Nat.le_refl _) ⟨rfl, k1 c1⟩
  · -- ¬ s0 = 0
    refine G_iconst (z := 1) dX5_readComparison_60 rfl ?_
    refine G_goto (tgt := 65) dX5_readComparison_61 (by decide) ?_
    exact G_zret dX5_readComparison_65 rfl (nar_zb (by decide)) (Nat.zero_le _) (Nat.zero_le _) (Nat.le_refl _) ⟨rfl, k2 c1⟩
set_option maxRecDepth 20000 in
set_option maxHeartbeats 8000000 in
theorem sg_X5_readLetter_0 {E : Nat × (Nat → Int32)} {P : Option Value → Mem → Prop} {mem : Mem} (t1 : TextOK mem) (w2 : -2147483648 ≤ (lookM mem) ∧ (lookM mem) < 2147483648)
    (k1 : 0 ≤ (lookM mem) → GM E (m_X5_readLetter 6) P 17 [.ref 5, .ref 1, vi (lookM mem), un] [vi (charI (lookM mem)), .ref 1100] mem)
    (k2 : ¬ 0 ≤ (lookM mem) → P (some (vi 0)) mem) :
    GM E (m_X5_readLetter 6) P 0 [.ref 5, .ref 1, un, un] [] mem := by
  refine G_aload_n dX5_readLetter_0 rfl ?_
  refine cb_X5_readLetter_1 (ic_X9_look (t1) ?_)
  refine G_istore_n dX5_readLetter_4 rfl (by decide : 2 < 4) rfl ?_
  refine G_iload_n dX5_readLetter_5 rfl ?_
  refine G_if_ge (tgt := 13) dX5_readLetter_6 (by decide) (w2) (fun c1 => ?_) (fun c1 => ?_)
  · -- 0 ≤ (lookM mem)
    refine G_ldcS (i := 0) (tx := "wbsumrct") dX5_readLetter_13 (by decide +kernel : (RX5, 77, "wbsumrct", 0) ∈ strTab) (by decide) ?_
    refine G_iload_n dX5_readLetter_15 rfl ?_
    refine G_i2c (z := (charI (lookM mem))) dX5_readLetter_16 (iI_inv _) ?_
    exact k1 c1
  · -- ¬ 0 ≤ (lookM mem)
    refine G_iconst (z := (-1)) dX5_readLetter_9 rfl ?_
    refine G_goto (tgt := 20) dX5_readLetter_10 (by decide) ?_
    refine G_istore_n dX5_readLetter_20 rfl (by decide : 3 < 4) rfl ?_
    refine G_iload_n dX5_readLetter_21 rfl ?_
    refine G_if_ge (tgt := 27) dX5_readLetter_22 (by decide) (by decide) (fun h => absurd h (by decide)) (fun _ => ?_)
    refine G_iconst (z := 0) dX5_readLetter_25 rfl ?_
    exact G_zret dX5_readLetter_26 rfl (nar_zb (by decide)) (Nat.zero_le _) (Nat.zero_le _) (Nat.le_refl _) ⟨rfl, k2 c1⟩
set_option maxRecDepth 20000 in
set_option maxHeartbeats 8000000 in
theorem sg_X5_readLetter_20 {E : Nat × (Nat → Int32)} {P : Option Value → Mem → Prop} {mem : Mem} {a2 : Int} {s0 : Int} (w1 : -2147483648 ≤ s0 ∧ s0 < 2147483648)
    (k1 : 0 ≤ s0 → GM E (m_X5_readLetter 6) P 35 [.ref 5, .ref 1, vi a2, vi s0] [vi ((-1) - s0), .ref 5] (up2 mem 1 2 ((mem 1 2) + 1)))
    (k2 : ¬ 0 ≤ s0 → P (some (vi 0)) mem) :
    GM E (m_X5_readLetter 6) P 20 [.ref 5, .ref 1, vi a2, un] [vi s0] mem := by
  refine G_istore_n dX5_readLetter_20 rfl (by decide : 3 < 4) rfl ?_
  refine G_iload_n dX5_readLetter_21 rfl ?_
  refine G_if_ge (tgt := 27) dX5_readLetter_22 (by decide) (w1) (fun c1 => ?_) (fun c1 => ?_)
  · -- 0 ≤ s0
    refine G_aload_n dX5_readLetter_27 rfl ?_
    refine cb_X5_readLetter_28 (ic_X9_pass (z := (mem 1 2)) rfl ?_)
    refine G_aload_n dX5_readLetter_31 rfl ?_
    refine G_iconst (z := (-1)) dX5_readLetter_32 rfl ?_
    refine G_iload_n dX5_readLetter_33 rfl ?_
    refine G_isub dX5_readLetter_34 ?_
    exact k1 c1
  · -- ¬ 0 ≤ s0
    refine G_iconst (z := 0) dX5_readLetter_25 rfl ?_
    exact G_zret dX5_readLetter_26 rfl (nar_zb (by decide)) (Nat.zero_le _) (Nat.zero_le _) (Nat.le_refl _) ⟨rfl, k2 c1⟩
set_option maxRecDepth 20000 in
set_option maxHeartbeats 8000000 in
theorem sg_X5_readLetter_38 {E : Nat × (Nat → Int32)} {P : Option Value → Mem → Prop} {mem : Mem} {a2 : Int} {a3 : Int} {s0 : Int} (b1 : s0 = 0 ∨ s0 = 1)
    (k1 : P (some (vi s0)) mem) :
    GM E (m_X5_readLetter 6) P 38 [.ref 5, .ref 1, vi a2, vi a3] [vi s0] mem := by
  exact G_zret dX5_readLetter_38 rfl (nar_zb (b1)) (Nat.zero_le _) (Nat.zero_le _) (Nat.le_refl _) ⟨rfl, k1⟩
set_option maxRecDepth 20000 in
set_option maxHeartbeats 8000000 in
theorem sg_X5_readProduct_0 {E : Nat × (Nat → Int32)} {d : Nat} {P : Option Value → Mem → Prop} {mem : Mem} {a2 : Int}
    (k1 : GM E (m_X5_readProduct d) P 3 [.ref 5, .ref 1, vi a2, un, un, un] [vi a2, .ref 1, .ref 5] mem) :
    GM E (m_X5_readProduct d) P 0 [.ref 5, .ref 1, vi a2, un, un, un] [] mem := by
  refine G_aload_n dX5_readProduct_0 rfl ?_
  refine G_aload_n dX5_readProduct_1 rfl ?_
  refine G_iload_n dX5_readProduct_2 rfl ?_
  exact k1
set_option maxRecDepth 20000 in
set_option maxHeartbeats 8000000 in
theorem sg_X5_readProduct_6 {E : Nat × (Nat → Int32)} {d : Nat} {P : Option Value → Mem → Prop} {mem : Mem} {a2 : Int} {s0 : Int}
    (k1 : GM E (m_X5_readProduct d) P 10 [.ref 5, .ref 1, vi a2, vi s0, vi 0, un] [] mem) :
    GM E (m_X5_readProduct d) P 6 [.ref 5, .ref 1, vi a2, un, un, un] [vi s0] mem := by
  refine G_istore_n dX5_readProduct_6 rfl (by decide : 3 < 6) rfl ?_
  refine G_iconst (z := 0) dX5_readProduct_7 rfl ?_
  refine G_istore dX5_readProduct_8 (by decide : 4 < 6) rfl ?_
  exact k1
set_option maxRecDepth 20000 in
set_option maxHeartbeats 8000000 in
theorem sg_X5_readProduct_10 {E : Nat × (Nat → Int32)} {d : Nat} (hd : 1 ≤ d) {P : Option Value → Mem → Prop} {mem : Mem} {a2 : Int} {a3 : Int} {a4 : Int} (w1 : -2147483648 ≤ a4 ∧ a4 < 2147483648) (b2 : 40 ≤ a4 → a3 = 0 ∨ a3 = 1) (w3 : -2147483648 ≤ a3 ∧ a3 < 2147483648) (b4 : ¬ 40 ≤ a4 → a3 = 0 → a3 = 0 ∨ a3 = 1) (t5 : ¬ 40 ≤ a4 → ¬ a3 = 0 → TextOK mem) (w6 : ¬ 40 ≤ a4 → ¬ a3 = 0 → -2147483648 ≤ (lookM mem) ∧ (lookM mem) < 2147483648)
    (k1 : 40 ≤ a4 → P (some (vi a3)) mem)
    (k2 : ¬ 40 ≤ a4 → a3 = 0 → P (some (vi a3)) mem)
    (k3 : ¬ 40 ≤ a4 → ¬ a3 = 0 → (lookM mem) = 42 → GM E (m_X5_readProduct d) P 50 [.ref 5, .ref 1, vi a2, vi a3, vi a4, vi (lookM mem)] [vi a2, .ref 1, .ref 5] (up2 mem 1 2 ((mem 1 2) + 1)))
    (k4 : ¬ 40 ≤ a4 → ¬ a3 = 0 → ¬ (lookM mem) = 42 → (lookM mem) = 47 → GM E (m_X5_readProduct d) P 50 [.ref 5, .ref 1, vi a2, vi a3, vi a4, vi (lookM mem)] [vi a2, .ref 1, .ref 5] (up2 mem 1 2 ((mem 1 2) + 1)))
    (k5 : ¬ 40 ≤ a4 → ¬ a3 = 0 → ¬ (lookM mem) = 42 → ¬ (lookM mem) = 47 → P (some (vi 1)) mem) :
    GM E (m_X5_readProduct d) P 10 [.ref 5, .ref 1, vi a2, vi a3, vi a4, un] [] mem := by
  refine G_iload dX5_readProduct_10 rfl ?_
  refine G_bipush (z := 40) dX5_readProduct_12 rfl ?_
  refine G_icmp_ge (tgt := 80) dX5_readProduct_14 (by decide) (w1) (by decide) (fun c1 => ?_) (fun c1 => ?_)
  · -- 40 ≤ a4
    refine G_iload_n dX5_readProduct_80 rfl ?_
    exact G_zret dX5_readProduct_81 rfl (nar_zb (b2 c1)) (Nat.zero_le _) (Nat.zero_le _) (Nat.le_refl _) ⟨rfl, k1 c1⟩
  · -- ¬ 40 ≤ a4
    refine G_iload_n dX5_readProduct_17 rfl ?_
    refine G_if_eq (tgt := 80) dX5_readProduct_18 (by decide) (w3) (fun c2 => ?_) (fun c2 => ?_)
    · -- a3 = 0
      refine G_iload_n dX5_readProduct_80 rfl ?_
      exact G_zret dX5_readProduct_81 rfl (nar_zb (b4 c1 c2)) (Nat.zero_le _) (Nat.zero_le _) (Nat.le_refl _) ⟨rfl, k2 c1 c2⟩
    · -- ¬ a3 = 0
      refine G_aload_n dX5_readProduct_21 rfl ?_
      refine cb_X5_readProduct_22 (by omega) (ic_X9_look (t5 c1 c2) ?_)
      refine G_istore dX5_readProduct_25 (by decide : 5 < 6) rfl ?_
      refine G_iload dX5_readProduct_27 rfl ?_
      refine G_bipush (z := 42) dX5_readProduct_29 rfl ?_
      refine G_icmp_eq (tgt := 43) dX5_readProduct_31 (by decide) (w6 c1 c2) (by decide) (fun c3 => ?_) (fun c3 => ?_)
      · -- (lookM mem) = 42
        refine G_aload_n dX5_readProduct_43 rfl ?_
        refine cb_X5_readProduct_44 (by omega) (ic_X9_pass (z := (mem 1 2)) rfl ?_)
        refine G_aload_n dX5_readProduct_47 rfl ?_
        refine G_aload_n dX5_readProduct_48 rfl ?_
        refine G_iload_n dX5_readProduct_49 rfl ?_
        exact k3 c1 c2 c3
      · -- ¬ (lookM mem) = 42
        refine G_iload dX5_readProduct_34 rfl ?_
        refine G_bipush (z := 47) dX5_readProduct_36 rfl ?_
        refine G_icmp_eq (tgt := 43) dX5_readProduct_38 (by decide) (w6 c1 c2) (by decide) (fun c4 => ?_) (fun c4 => ?_)
        · -- (lookM mem) = 47
          refine G_aload_n dX5_readProduct_43 rfl ?_
          refine cb_X5_readProduct_44 (by omega) (ic_X9_pass (z := (mem 1 2)) rfl ?_)
          refine G_aload_n dX5_readProduct_47 rfl ?_
          refine G_aload_n dX5_readProduct_48 rfl ?_
          refine G_iload_n dX5_readProduct_49 rfl ?_
          exact k4 c1 c2 c3 c4
        · -- ¬ (lookM mem) = 47
          refine G_iconst (z := 1) dX5_readProduct_41 rfl ?_
          exact G_zret dX5_readProduct_42 rfl (nar_zb (by decide)) (Nat.zero_le _) (Nat.zero_le _) (Nat.le_refl _) ⟨rfl, k5 c1 c2 c3 c4⟩
set_option maxRecDepth 20000 in
set_option maxHeartbeats 8000000 in
theorem sg_X5_readProduct_53 {E : Nat × (Nat → Int32)} {d : Nat} {P : Option Value → Mem → Prop} {mem : Mem} {a2 : Int} {a3 : Int} {a4 : Int} {a5 : Int} {s0 : Int} (w1 : -2147483648 ≤ s0 ∧ s0 < 2147483648)
    (k1 : s0 = 0 → GM E (m_X5_readProduct d) P 10 [.ref 5, .ref 1, vi a2, vi 0, vi (a4 + 1), un] [] mem)
    (k2 : ¬ s0 = 0 → GM E (m_X5_readProduct d) P 62 [.ref 5, .ref 1, vi a2, vi a3, vi a4, vi a5] [vi ((-100) - a5), .ref 5] mem) :
    GM E (m_X5_readProduct d) P 53 [.ref 5, .ref 1, vi a2, vi a3, vi a4, vi a5] [vi s0] mem := by
  refine G_if_eq (tgt := 72) dX5_readProduct_53 (by decide) (w1) (fun c1 => ?_) (fun c1 => ?_)
  · -- s0 = 0
    refine G_iconst (z := 0) dX5_readProduct_72 rfl ?_
    refine G_istore_n dX5_readProduct_73 rfl (by decide : 3 < 6) rfl ?_
    refine G_iinc (z := (a4 + 1)) dX5_readProduct_74 rfl rfl (by decide : 4 < 6) rfl ?_
    refine G_goto (tgt := 10) dX5_readProduct_77 (by decide) ?_
    refine G_weak (lv2 := [.ref 5, .ref 1, vi a2, vi 0, vi (a4 + 1), un]) ⟨Or.inr rfl, Or.inr rfl, Or.inr rfl, Or.inr rfl, Or.inr rfl, Or.inl rfl, trivial⟩ ?_
    exact k1 c1
  · -- ¬ s0 = 0
    refine G_aload_n dX5_readProduct_56 rfl ?_
    refine G_bipush (z := (-100)) dX5_readProduct_57 rfl ?_
    refine G_iload dX5_readProduct_59 rfl ?_
    refine G_isub dX5_readProduct_61 ?_
    exact k2 c1
set_option maxRecDepth 20000 in
set_option maxHeartbeats 8000000 in
theorem sg_X5_readProduct_65 {E : Nat × (Nat → Int32)} {d : Nat} {P : Option Value → Mem → Prop} {mem : Mem} {a2 : Int} {a3 : Int} {a4 : Int} {a5 : Int} {s0 : Int} (w1 : -2147483648 ≤ s0 ∧ s0 < 2147483648)
    (k1 : s0 = 0 → GM E (m_X5_readProduct d) P 10 [.ref 5, .ref 1, vi a2, vi 0, vi (a4 + 1), un] [] mem)
    (k2 : ¬ s0 = 0 → GM E (m_X5_readProduct d) P 10 [.ref 5, .ref 1, vi a2, vi 1, vi (a4 + 1), un] [] mem) :
    GM E (m_X5_readProduct d) P 65 [.ref 5, .ref 1, vi a2, vi a3, vi a4, vi a5] [vi s0] mem := by
  refine G_if_eq (tgt := 72) dX5_readProduct_65 (by decide) (w1) (fun c1 => ?_) (fun c1 => ?_)
  · -- s0 = 0
    refine G_iconst (z := 0) dX5_readProduct_72 rfl ?_
    refine G_istore_n dX5_readProduct_73 rfl (by decide : 3 < 6) rfl ?_
    refine G_iinc (z := (a4 + 1)) dX5_readProduct_74 rfl rfl (by decide : 4 < 6) rfl ?_
    refine G_goto (tgt := 10) dX5_readProduct_77 (by decide) ?_
    refine G_weak (lv2 := [.ref 5, .ref 1, vi a2, vi 0, vi (a4 + 1), un]) ⟨Or.inr rfl, Or.inr rfl, Or.inr rfl, Or.inr rfl, Or.inr rfl, Or.inl rfl, trivial⟩ ?_
    exact k1 c1
  · -- ¬ s0 = 0
    refine G_iconst (z := 1) dX5_readProduct_68 rfl ?_
    refine G_goto (tgt := 73) dX5_readProduct_69 (by decide) ?_
    refine G_istore_n dX5_readProduct_73 rfl (by decide : 3 < 6) rfl ?_
    refine G_iinc (z := (a4 + 1)) dX5_readProduct_74 rfl rfl (by decide : 4 < 6) rfl ?_
    refine G_goto (tgt := 10) dX5_readProduct_77 (by decide) ?_
    refine G_weak (lv2 := [.ref 5, .ref 1, vi a2, vi 1, vi (a4 + 1), un]) ⟨Or.inr rfl, Or.inr rfl, Or.inr rfl, Or.inr rfl, Or.inr rfl, Or.inl rfl, trivial⟩ ?_
    exact k2 c1
set_option maxRecDepth 20000 in
set_option maxHeartbeats 8000000 in
theorem sg_X5_readSum_0 {E : Nat × (Nat → Int32)} {d : Nat} {P : Option Value → Mem → Prop} {mem : Mem} {a2 : Int}
    (k1 : GM E (m_X5_readSum d) P 3 [.ref 5, .ref 1, vi a2, un, un, un] [vi a2, .ref 1, .ref 5] mem) :
    GM E (m_X5_readSum d) P 0 [.ref 5, .ref 1, vi a2, un, un, un] [] mem := by
  refine G_aload_n dX5_readSum_0 rfl ?_
  refine G_aload_n dX5_readSum_1 rfl ?_
  refine G_iload_n dX5_readSum_2 rfl ?_
  exact k1
set_option maxRecDepth 20000 in
set_option maxHeartbeats 8000000 in
theorem sg_X5_readSum_6 {E : Nat × (Nat → Int32)} {d : Nat} {P : Option Value → Mem → Prop} {mem : Mem} {a2 : Int} {s0 : Int}
    (k1 : GM E (m_X5_readSum d) P 10 [.ref 5, .ref 1, vi a2, vi s0, vi 0, un] [] mem) :
    GM E (m_X5_readSum d) P 6 [.ref 5, .ref 1, vi a2, un, un, un] [vi s0] mem := by
  refine G_istore_n dX5_readSum_6 rfl (by decide : 3 < 6) rfl ?_
  refine G_iconst (z := 0) dX5_readSum_7 rfl ?_
  refine G_istore dX5_readSum_8 (by decide : 4 < 6) rfl ?_
  exact k1
set_option maxRecDepth 20000 in
set_option maxHeartbeats 8000000 in
theorem sg_X5_readSum_10 {E : Nat × (Nat → Int32)} {d : Nat} (hd : 1 ≤ d) {P : Option Value → Mem → Prop} {mem : Mem} {a2 : Int} {a3 : Int} {a4 : Int} (w1 : -2147483648 ≤ a4 ∧ a4 < 2147483648) (b2 : 40 ≤ a4 → a3 = 0 ∨ a3 = 1) (w3 : -2147483648 ≤ a3 ∧ a3 < 2147483648) (b4 : ¬ 40 ≤ a4 → a3 = 0 → a3 = 0 ∨ a3 = 1) (t5 : ¬ 40 ≤ a4 → ¬ a3 = 0 → TextOK mem) (w6 : ¬ 40 ≤ a4 → ¬ a3 = 0 → -2147483648 ≤ (lookM mem) ∧ (lookM mem) < 2147483648)
    (k1 : 40 ≤ a4 → P (some (vi a3)) mem)
    (k2 : ¬ 40 ≤ a4 → a3 = 0 → P (some (vi a3)) mem)
    (k3 : ¬ 40 ≤ a4 → ¬ a3 = 0 → (lookM mem) = 43 → GM E (m_X5_readSum d) P 50 [.ref 5, .ref 1, vi a2, vi a3, vi a4, vi (lookM mem)] [vi a2, .ref 1, .ref 5] (up2 mem 1 2 ((mem 1 2) + 1)))
    (k4 : ¬ 40 ≤ a4 → ¬ a3 = 0 → ¬ (lookM mem) = 43 → (lookM mem) = 45 → GM E (m_X5_readSum d) P 50 [.ref 5, .ref 1, vi a2, vi a3, vi a4, vi (lookM mem)] [vi a2, .ref 1, .ref 5] (up2 mem 1 2 ((mem 1 2) + 1)))
    (k5 : ¬ 40 ≤ a4 → ¬ a3 = 0 → ¬ (lookM mem) = 43 → ¬ (lookM mem) = 45 → P (some (vi 1)) mem) :
    GM E (m_X5_readSum d) P 10 [.ref 5, .ref 1, vi a2, vi a3, vi a4, un] [] mem := by
  refine G_iload dX5_readSum_10 rfl ?_
  refine G_bipush (z := 40) dX5_readSum_12 rfl ?_
  refine G_icmp_ge (tgt := 80) dX5_readSum_14 (by decide) (w1) (by decide) (fun c1 => ?_) (fun c1 => ?_)
  · -- 40 ≤ a4
    refine G_iload_n dX5_readSum_80 rfl ?_
    exact G_zret dX5_readSum_81 rfl (nar_zb (b2 c1)) (Nat.zero_le _) (Nat.zero_le _) (Nat.le_refl _) ⟨rfl, k1 c1⟩
  · -- ¬ 40 ≤ a4
    refine G_iload_n dX5_readSum_17 rfl ?_
    refine G_if_eq (tgt := 80) dX5_readSum_18 (by decide) (w3) (fun c2 => ?_) (fun c2 => ?_)
    · -- a3 = 0
      refine G_iload_n dX5_readSum_80 rfl ?_
      exact G_zret dX5_readSum_81 rfl (nar_zb (b4 c1 c2)) (Nat.zero_le _) (Nat.zero_le _) (Nat.le_refl _) ⟨rfl, k2 c1 c2⟩
    · -- ¬ a3 = 0
      refine G_aload_n dX5_readSum_21 rfl ?_
      refine cb_X5_readSum_22 (by omega) (ic_X9_look (t5 c1 c2) ?_)
      refine G_istore dX5_readSum_25 (by decide : 5 < 6) rfl ?_
      refine G_iload dX5_readSum_27 rfl ?_
      refine G_bipush (z := 43) dX5_readSum_29 rfl ?_
      refine G_icmp_eq (tgt := 43) dX5_readSum_31 (by decide) (w6 c1 c2) (by decide) (fun c3 => ?_) (fun c3 => ?_)
      · -- (lookM mem) = 43
        refine G_aload_n dX5_readSum_43 rfl ?_
        refine cb_X5_readSum_44 (by omega) (ic_X9_pass (z := (mem 1 2)) rfl ?_)
        refine G_aload_n dX5_readSum_47 rfl ?_
        refine G_aload_n dX5_readSum_48 rfl ?_
        refine G_iload_n dX5_readSum_49 rfl ?_
        exact k3 c1 c2 c3
      · -- ¬ (lookM mem) = 43
        refine G_iload dX5_readSum_34 rfl ?_
        refine G_bipush (z := 45) dX5_readSum_36 rfl ?_
        refine G_icmp_eq (tgt := 43) dX5_readSum_38 (by decide) (w6 c1 c2) (by decide) (fun c4 => ?_) (fun c4 => ?_)
        · -- (lookM mem) = 45
          refine G_aload_n dX5_readSum_43 rfl ?_
          refine cb_X5_readSum_44 (by omega) (ic_X9_pass (z := (mem 1 2)) rfl ?_)
          refine G_aload_n dX5_readSum_47 rfl ?_
          refine G_aload_n dX5_readSum_48 rfl ?_
          refine G_iload_n dX5_readSum_49 rfl ?_
          exact k4 c1 c2 c3 c4
        · -- ¬ (lookM mem) = 45
          refine G_iconst (z := 1) dX5_readSum_41 rfl ?_
          exact G_zret dX5_readSum_42 rfl (nar_zb (by decide)) (Nat.zero_le _) (Nat.zero_le _) (Nat.le_refl _) ⟨rfl, k5 c1 c2 c3 c4⟩
set_option maxRecDepth 20000 in
set_option maxHeartbeats 8000000 in
theorem sg_X5_readSum_53 {E : Nat × (Nat → Int32)} {d : Nat} {P : Option Value → Mem → Prop} {mem : Mem} {a2 : Int} {a3 : Int} {a4 : Int} {a5 : Int} {s0 : Int} (w1 : -2147483648 ≤ s0 ∧ s0 < 2147483648)
    (k1 : s0 = 0 → GM E (m_X5_readSum d) P 10 [.ref 5, .ref 1, vi a2, vi 0, vi (a4 + 1), un] [] mem)
    (k2 : ¬ s0 = 0 → GM E (m_X5_readSum d) P 62 [.ref 5, .ref 1, vi a2, vi a3, vi a4, vi a5] [vi ((-100) - a5), .ref 5] mem) :
    GM E (m_X5_readSum d) P 53 [.ref 5, .ref 1, vi a2, vi a3, vi a4, vi a5] [vi s0] mem := by
  refine G_if_eq (tgt := 72) dX5_readSum_53 (by decide) (w1) (fun c1 => ?_) (fun c1 => ?_)
  · -- s0 = 0
    refine G_iconst (z := 0) dX5_readSum_72 rfl ?_
    refine G_istore_n dX5_readSum_73 rfl (by decide : 3 < 6) rfl ?_
    refine G_iinc (z := (a4 + 1)) dX5_readSum_74 rfl rfl (by decide : 4 < 6) rfl ?_
    refine G_goto (tgt := 10) dX5_readSum_77 (by decide) ?_
    refine G_weak (lv2 := [.ref 5, .ref 1, vi a2, vi 0, vi (a4 + 1), un]) ⟨Or.inr rfl, Or.inr rfl, Or.inr rfl, Or.inr rfl, Or.inr rfl, Or.inl rfl, trivial⟩ ?_
    exact k1 c1
  · -- ¬ s0 = 0
    refine G_aload_n dX5_readSum_56 rfl ?_
    refine G_bipush (z := (-100)) dX5_readSum_57 rfl ?_
    refine G_iload dX5_readSum_59 rfl ?_
    refine G_isub dX5_readSum_61 ?_
    exact k2 c1
set_option maxRecDepth 20000 in
set_option maxHeartbeats 8000000 in
theorem sg_X5_readSum_65 {E : Nat × (Nat → Int32)} {d : Nat} {P : Option Value → Mem → Prop} {mem : Mem} {a2 : Int} {a3 : Int} {a4 : Int} {a5 : Int} {s0 : Int} (w1 : -2147483648 ≤ s0 ∧ s0 < 2147483648)
    (k1 : s0 = 0 → GM E (m_X5_readSum d) P 10 [.ref 5, .ref 1, vi a2, vi 0, vi (a4 + 1), un] [] mem)
    (k2 : ¬ s0 = 0 → GM E (m_X5_readSum d) P 10 [.ref 5, .ref 1, vi a2, vi 1, vi (a4 + 1), un] [] mem) :
    GM E (m_X5_readSum d) P 65 [.ref 5, .ref 1, vi a2, vi a3, vi a4, vi a5] [vi s0] mem := by
  refine G_if_eq (tgt := 72) dX5_readSum_65 (by decide) (w1) (fun c1 => ?_) (fun c1 => ?_)
  · -- s0 = 0
    refine G_iconst (z := 0) dX5_readSum_72 rfl ?_
    refine G_istore_n dX5_readSum_73 rfl (by decide : 3 < 6) rfl ?_
    refine G_iinc (z := (a4 + 1)) dX5_readSum_74 rfl rfl (by decide : 4 < 6) rfl ?_
    refine G_goto (tgt := 10) dX5_readSum_77 (by decide) ?_
    refine G_weak (lv2 := [.ref 5, .ref 1, vi a2, vi 0, vi (a4 + 1), un]) ⟨Or.inr rfl, Or.inr rfl, Or.inr rfl, Or.inr rfl, Or.inr rfl, Or.inl rfl, trivial⟩ ?_
    exact k1 c1
  · -- ¬ s0 = 0
    refine G_iconst (z := 1) dX5_readSum_68 rfl ?_
    refine G_goto (tgt := 73) dX5_readSum_69 (by decide) ?_
    refine G_istore_n dX5_readSum_73 rfl (by decide : 3 < 6) rfl ?_
    refine G_iinc (z := (a4 + 1)) dX5_readSum_74 rfl rfl (by decide : 4 < 6) rfl ?_
    refine G_goto (tgt := 10) dX5_readSum_77 (by decide) ?_
    refine G_weak (lv2 := [.ref 5, .ref 1, vi a2, vi 1, vi (a4 + 1), un]) ⟨Or.inr rfl, Or.inr rfl, Or.inr rfl, Or.inr rfl, Or.inr rfl, Or.inl rfl, trivial⟩ ?_
    exact k2 c1
set_option maxRecDepth 20000 in
set_option maxHeartbeats 8000000 in
theorem sg_X5_readThing_0 {E : Nat × (Nat → Int32)} {d : Nat} {P : Option Value → Mem → Prop} {mem : Mem} {a2 : Int}
    (k1 : GM E (m_X5_readThing d) P 5 [.ref 5, .ref 1, vi a2, vi 0, vi 0, un] [] mem) :
    GM E (m_X5_readThing d) P 0 [.ref 5, .ref 1, vi a2, un, un, un] [] mem := by
  refine G_iconst (z := 0) dX5_readThing_0 rfl ?_
  refine G_istore_n dX5_readThing_1 rfl (by decide : 3 < 6) rfl ?_
  refine G_iconst (z := 0) dX5_readThing_2 rfl ?_
  refine G_istore dX5_readThing_3 (by decide : 4 < 6) rfl ?_
  exact k1
set_option maxRecDepth 20000 in
set_option maxHeartbeats 8000000 in
theorem sg_X5_readThing_5 {E : Nat × (Nat → Int32)} {d : Nat} (hd : 2 ≤ d) {P : Option Value → Mem → Prop} {mem : Mem} {a2 : Int} {a3 : Int} {a4 : Int} (w1 : -2147483648 ≤ a4 ∧ a4 < 2147483648) (t2 : ¬ 40 ≤ a4 → TextOK mem) (w3 : -2147483648 ≤ a3 ∧ a3 < 2147483648)
    (k1 : 40 ≤ a4 → GM E (m_X5_readThing d) P 39 [.ref 5, .ref 1, vi a2, vi a3, vi a4, un] [vi 3, .ref 1] mem)
    (k2 : ¬ 40 ≤ a4 → (lookM mem) = 45 → a3 ≠ 0 → GM E (m_X5_readThing d) P 5 [.ref 5, .ref 1, vi a2, vi 0, vi (a4 + 1), un] [] (up2 mem 1 2 ((mem 1 2) + 1)))
    (k3 : ¬ 40 ≤ a4 → (lookM mem) = 45 → a3 = 0 → GM E (m_X5_readThing d) P 5 [.ref 5, .ref 1, vi a2, vi 1, vi (a4 + 1), un] [] (up2 mem 1 2 ((mem 1 2) + 1)))
    (k4 : ¬ 40 ≤ a4 → ¬ (lookM mem) = 45 → GM E (m_X5_readThing d) P 39 [.ref 5, .ref 1, vi a2, vi a3, vi a4, un] [vi 3, .ref 1] mem) :
    GM E (m_X5_readThing d) P 5 [.ref 5, .ref 1, vi a2, vi a3, vi a4, un] [] mem := by
  refine G_iload dX5_readThing_5 rfl ?_
  refine G_bipush (z := 40) dX5_readThing_7 rfl ?_
  refine G_icmp_ge (tgt := 37) dX5_readThing_9 (by decide) (w1) (by decide) (fun c1 => ?_) (fun c1 => ?_)
  · -- 40 ≤ a4
    refine G_aload_n dX5_readThing_37 rfl ?_
    refine G_iconst (z := 3) dX5_readThing_38 rfl ?_
    exact k1 c1
  · -- ¬ 40 ≤ a4
    refine G_aload_n dX5_readThing_12 rfl ?_
    refine G_bipush (z := 45) dX5_readThing_13 rfl ?_
    refine cb_X5_readThing_15 (by omega) (ic_X9_accept (z := (mem 1 2)) (t2 c1) (by decide) rfl (fun c2 => ?_) (fun c3 => ?_))
    · -- (lookM mem) = 45
      refine G_if_eq (tgt := 37) dX5_readThing_18 (by decide) (by decide) (fun h => absurd h (by decide)) (fun _ => ?_)
      refine G_iload_n dX5_readThing_21 rfl ?_
      refine G_if_ne (tgt := 29) dX5_readThing_22 (by decide) (w3) (fun c4 => ?_) (fun c4 => ?_)
      · -- a3 ≠ 0
        refine G_iconst (z := 0) dX5_readThing_29 rfl ?_
        refine G_istore_n dX5_readThing_30 rfl (by decide : 3 < 6) rfl ?_
        refine G_iinc (z := (a4 + 1)) dX5_readThing_31 rfl rfl (by decide : 4 < 6) rfl ?_
        refine G_goto (tgt := 5) dX5_readThing_34 (by decide) ?_
        exact k2 c1 c2 c4
      · -- a3 = 0
        refine G_iconst (z := 1) dX5_readThing_25 rfl ?_
        refine G_goto (tgt := 30) dX5_readThing_26 (by decide) ?_
        refine G_istore_n dX5_readThing_30 rfl (by decide : 3 < 6) rfl ?_
        refine G_iinc (z := (a4 + 1)) dX5_readThing_31 rfl rfl (by decide : 4 < 6) rfl ?_
        refine G_goto (tgt := 5) dX5_readThing_34 (by decide) ?_
        exact k3 c1 c2 c4
    · -- ¬ (lookM mem) = 45
      refine G_if_eq (tgt := 37) dX5_readThing_18 (by decide) (by decide) (fun _ => ?_) (fun h => absurd h (by decide))
      refine G_aload_n dX5_readThing_37 rfl ?_
      refine G_iconst (z := 3) dX5_readThing_38 rfl ?_
      exact k4 c1 c3
set_option maxRecDepth 20000 in
set_option maxHeartbeats 8000000 in
theorem sg_X5_readThing_42 {E : Nat × (Nat → Int32)} {d : Nat} (hd : 1 ≤ d) {P : Option Value → Mem → Prop} {mem : Mem} {a2 : Int} {a3 : Int} {a4 : Int} {s0 : Int} (w1 : -2147483648 ≤ s0 ∧ s0 < 2147483648) (t2 : s0 < 0 → TextOK mem) (w3 : s0 < 0 → -2147483648 ≤ (lookM mem) ∧ (lookM mem) < 2147483648) (w4 : -2147483648 ≤ a2 ∧ a2 < 2147483648)
    (k1 : s0 < 0 → (lookM mem) ≠ 40 → GM E (m_X5_readThing d) P 110 [.ref 5, .ref 1, vi a2, vi a3, vi s0, un] [.ref 1, .ref 5] mem)
    (k2 : s0 < 0 → (lookM mem) = 40 → 4 ≤ a2 → GM E (m_X5_readThing d) P 110 [.ref 5, .ref 1, vi a2, vi a3, vi s0, un] [.ref 1, .ref 5] mem)
    (k3 : s0 < 0 → (lookM mem) = 40 → ¬ 4 ≤ a2 → GM E (m_X5_readThing d) P 83 [.ref 5, .ref 1, vi a2, vi a3, vi s0, un] [vi (a2 + 1), .ref 1, .ref 5] (up2 mem 1 2 ((mem 1 2) + 1)))
    (k4 : ¬ s0 < 0 → GM E (m_X5_readThing d) P 52 [.ref 5, .ref 1, vi a2, vi a3, vi s0, un] [vi s0, .ref 5] mem) :
    GM E (m_X5_readThing d) P 42 [.ref 5, .ref 1, vi a2, vi a3, vi a4, un] [vi s0] mem := by
  refine G_istore dX5_readThing_42 (by decide : 4 < 6) rfl ?_
  refine G_iload dX5_readThing_44 rfl ?_
  refine G_if_lt (tgt := 60) dX5_readThing_46 (by decide) (w1) (fun c1 => ?_) (fun c1 => ?_)
  · -- s0 < 0
    refine G_aload_n dX5_readThing_60 rfl ?_
    refine cb_X5_readThing_61 (by omega) (ic_X9_look (t2 c1) ?_)
    refine G_bipush (z := 40) dX5_readThing_64 rfl ?_
    refine G_icmp_ne (tgt := 108) dX5_readThing_66 (by decide) (w3 c1) (by decide) (fun c2 => ?_) (fun c2 => ?_)
    · -- (lookM mem) ≠ 40
      refine G_aload_n dX5_readThing_108 rfl ?_
      refine G_aload_n dX5_readThing_109 rfl ?_
      exact k1 c1 c2
    · -- (lookM mem) = 40
      refine G_iload_n dX5_readThing_69 rfl ?_
      refine G_iconst (z := 4) dX5_readThing_70 rfl ?_
      refine G_icmp_ge (tgt := 108) dX5_readThing_71 (by decide) (w4) (by decide) (fun c3 => ?_) (fun c3 => ?_)
      · -- 4 ≤ a2
        refine G_aload_n dX5_readThing_108 rfl ?_
        refine G_aload_n dX5_readThing_109 rfl ?_
        exact k2 c1 c2 c3
      · -- ¬ 4 ≤ a2
        refine G_aload_n dX5_readThing_74 rfl ?_
        refine cb_X5_readThing_75 (by omega) (ic_X9_pass (z := (mem 1 2)) rfl ?_)
        refine G_aload_n dX5_readThing_78 rfl ?_
        refine G_aload_n dX5_readThing_79 rfl ?_
        refine G_iload_n dX5_readThing_80 rfl ?_
        refine G_iconst (z := 1) dX5_readThing_81 rfl ?_
        refine G_iadd dX5_readThing_82 ?_
        exact k3 c1 c2 c3
  · -- ¬ s0 < 0
    refine G_aload_n dX5_readThing_49 rfl ?_
    refine G_iload dX5_readThing_50 rfl ?_
    exact k4 c1
set_option maxRecDepth 20000 in
set_option maxHeartbeats 8000000 in
theorem sg_X5_readThing_55 {E : Nat × (Nat → Int32)} {d : Nat} {P : Option Value → Mem → Prop} {mem : Mem} {a2 : Int} {a3 : Int} {a4 : Int} {s0 : Int} (w1 : -2147483648 ≤ s0 ∧ s0 < 2147483648) (w2 : -2147483648 ≤ a3 ∧ a3 < 2147483648)
    (k1 : s0 = 0 → P (some (vi 0)) mem)
    (k2 : ¬ s0 = 0 → a3 = 0 → P (some (vi 1)) mem)
    (k3 : ¬ s0 = 0 → ¬ a3 = 0 → GM E (m_X5_readThing d) P 127 [.ref 5, .ref 1, vi a2, vi a3, vi a4, vi s0] [vi (-20), .ref 5] mem) :
    GM E (m_X5_readThing d) P 55 [.ref 5, .ref 1, vi a2, vi a3, vi a4, un] [vi s0] mem := by
  refine G_istore dX5_readThing_55 (by decide : 5 < 6) rfl ?_
  refine G_goto (tgt := 115) dX5_readThing_57 (by decide) ?_
  refine G_iload dX5_readThing_115 rfl ?_
  refine G_if_eq (tgt := 137) dX5_readThing_117 (by decide) (w1) (fun c1 => ?_) (fun c1 => ?_)
  · -- s0 = 0
    refine G_iconst (z := 0) dX5_readThing_137 rfl ?_
    exact G_zret dX5_readThing_138 rfl (nar_zb (by decide)) (Nat.zero_le _) (Nat.zero_le _) (Nat.le_refl _) ⟨rfl, k1 c1⟩
  · -- ¬ s0 = 0
    refine G_iload_n dX5_readThing_120 rfl ?_
    refine G_if_eq (tgt := 133) dX5_readThing_121 (by decide) (w2) (fun c2 => ?_) (fun c2 => ?_)
    · -- a3 = 0
      refine G_iconst (z := 1) dX5_readThing_133 rfl ?_
      refine G_goto (tgt := 138) dX5_readThing_134 (by decide) ?_
      exact G_zret dX5_readThing_138 rfl (nar_zb (by decide)) (Nat.zero_le _) (Nat.zero_le _) (Nat.le_refl _) ⟨rfl, k2 c1 c2⟩
    · -- ¬ a3 = 0
      refine G_aload_n dX5_readThing_124 rfl ?_
      refine G_bipush (z := (-20)) dX5_readThing_125 rfl ?_
      exact k3 c1 c2
set_option maxRecDepth 20000 in
set_option maxHeartbeats 8000000 in
theorem sg_X5_readThing_86 {E : Nat × (Nat → Int32)} {d : Nat} (hd : 2 ≤ d) {P : Option Value → Mem → Prop} {mem : Mem} {a2 : Int} {a3 : Int} {a4 : Int} {s0 : Int} (w1 : -2147483648 ≤ s0 ∧ s0 < 2147483648) (t2 : ¬ s0 = 0 → TextOK mem) (w3 : -2147483648 ≤ a3 ∧ a3 < 2147483648)
    (k1 : s0 = 0 → P (some (vi 0)) mem)
    (k2 : ¬ s0 = 0 → (lookM mem) = 41 → a3 = 0 → P (some (vi 1)) (up2 mem 1 2 ((mem 1 2) + 1)))
    (k3 : ¬ s0 = 0 → (lookM mem) = 41 → ¬ a3 = 0 → GM E (m_X5_readThing d) P 127 [.ref 5, .ref 1, vi a2, vi a3, vi a4, vi 1] [vi (-20), .ref 5] (up2 mem 1 2 ((mem 1 2) + 1)))
    (k4 : ¬ s0 = 0 → ¬ (lookM mem) = 41 → P (some (vi 0)) mem) :
    GM E (m_X5_readThing d) P 86 [.ref 5, .ref 1, vi a2, vi a3, vi a4, un] [vi s0] mem := by
  refine G_if_eq (tgt := 102) dX5_readThing_86 (by decide) (w1) (fun c1 => ?_) (fun c1 => ?_)
  · -- s0 = 0
    refine G_iconst (z := 0) dX5_readThing_102 rfl ?_
    refine G_istore dX5_readThing_103 (by decide : 5 < 6) rfl ?_
    refine G_goto (tgt := 115) dX5_readThing_105 (by decide) ?_
    refine G_iload dX5_readThing_115 rfl ?_
    refine G_if_eq (tgt := 137) dX5_readThing_117 (by decide) (by decide) (fun _ => ?_) (fun h => absurd h (by decide))
    refine G_iconst (z := 0) dX5_readThing_137 rfl ?_
    exact G_zret dX5_readThing_138 rfl (nar_zb (by decide)) (Nat.zero_le _) (Nat.zero_le _) (Nat.le_refl _) ⟨rfl, k1 c1⟩
  · -- ¬ s0 = 0
    refine G_aload_n dX5_readThing_89 rfl ?_
    refine G_bipush (z := 41) dX5_readThing_90 rfl ?_
    refine cb_X5_readThing_92 (by omega) (ic_X9_accept (z := (mem 1 2)) (t2 c1) (by decide) rfl (fun c2 => ?_) (fun c3 => ?_))
    · -- (lookM mem) = 41
      refine G_if_eq (tgt := 102) dX5_readThing_95 (by decide) (by decide) (fun h => absurd h (by decide)) (fun _ => ?_)
      refine G_iconst (z := 1) dX5_readThing_98 rfl ?_
      refine G_goto (tgt := 103) dX5_readThing_99 (by decide) ?_
      refine G_istore dX5_readThing_103 (by decide : 5 < 6) rfl ?_
      refine G_goto (tgt := 115) dX5_readThing_105 (by decide) ?_
      refine G_iload dX5_readThing_115 rfl ?_
      refine G_if_eq (tgt := 137) dX5_readThing_117 (by decide) (by decide) (fun h => absurd h (by decide)) (fun _ => ?_)
      refine G_iload_n dX5_readThing_120 rfl ?_
      refine G_if_eq (tgt := 133) dX5_readThing_121 (by decide) (w3) (fun c4 => ?_) (fun c4 => ?_)
      · -- a3 = 0
        refine G_iconst (z := 1) dX5_readThing_133 rfl ?_
        refine G_goto (tgt := 138) dX5_readThing_134 (by decide) ?_
        exact G_zret dX5_readThing_138 rfl (nar_zb (by decide)) (Nat.zero_le _) (Nat.zero_le _) (Nat.le_refl _) ⟨rfl, k2 c1 c2 c4⟩
      · -- ¬ a3 = 0
        refine G_aload_n dX5_readThing_124 rfl ?_
        refine G_bipush (z := (-20)) dX5_readThing_125 rfl ?_
        exact k3 c1 c2 c4
    · -- ¬ (lookM mem) = 41
      refine G_if_eq (tgt := 102) dX5_readThing_95 (by decide) (by decide) (fun _ => ?_) (fun h => absurd h (by decide))
      refine G_iconst (z := 0) dX5_readThing_102 rfl ?_
      refine G_istore dX5_readThing_103 (by decide : 5 < 6) rfl ?_
      refine G_goto (tgt := 115) dX5_readThing_105 (by decide) ?_
      refine G_iload dX5_readThing_115 rfl ?_
      refine G_if_eq (tgt := 137) dX5_readThing_117 (by decide) (by decide) (fun _ => ?_) (fun h => absurd h (by decide))
      refine G_iconst (z := 0) dX5_readThing_137 rfl ?_
      exact G_zret dX5_readThing_138 rfl (nar_zb (by decide)) (Nat.zero_le _) (Nat.zero_le _) (Nat.le_refl _) ⟨rfl, k4 c1 c3⟩
set_option maxRecDepth 20000 in
set_option maxHeartbeats 8000000 in
theorem sg_X5_readThing_113 {E : Nat × (Nat → Int32)} {d : Nat} {P : Option Value → Mem → Prop} {mem : Mem} {a2 : Int} {a3 : Int} {a4 : Int} {s0 : Int} (w1 : -2147483648 ≤ s0 ∧ s0 < 2147483648) (w2 : -2147483648 ≤ a3 ∧ a3 < 2147483648)
    (k1 : s0 = 0 → P (some (vi 0)) mem)
    (k2 : ¬ s0 = 0 → a3 = 0 → P (some (vi 1)) mem)
    (k3 : ¬ s0 = 0 → ¬ a3 = 0 → GM E (m_X5_readThing d) P 127 [.ref 5, .ref 1, vi a2, vi a3, vi a4, vi s0] [vi (-20), .ref 5] mem) :
    GM E (m_X5_readThing d) P 113 [.ref 5, .ref 1, vi a2, vi a3, vi a4, un] [vi s0] mem := by
  refine G_istore dX5_readThing_113 (by decide : 5 < 6) rfl ?_
  refine G_iload dX5_readThing_115 rfl ?_
  refine G_if_eq (tgt := 137) dX5_readThing_117 (by decide) (w1) (fun c1 => ?_) (fun c1 => ?_)
  · -- s0 = 0
    refine G_iconst (z := 0) dX5_readThing_137 rfl ?_
    exact G_zret dX5_readThing_138 rfl (nar_zb (by decide)) (Nat.zero_le _) (Nat.zero_le _) (Nat.le_refl _) ⟨rfl, k1 c1⟩
  · -- ¬ s0 = 0
    refine G_iload_n dX5_readThing_120 rfl ?_
    refine G_if_eq (tgt := 133) dX5_readThing_121 (by decide) (w2) (fun c2 => ?_) (fun c2 => ?_)
    · -- a3 = 0
      refine G_iconst (z := 1) dX5_readThing_133 rfl ?_
      refine G_goto (tgt := 138) dX5_readThing_134 (by decide) ?_
      exact G_zret dX5_readThing_138 rfl (nar_zb (by decide)) (Nat.zero_le _) (Nat.zero_le _) (Nat.le_refl _) ⟨rfl, k2 c1 c2⟩
    · -- ¬ a3 = 0
      refine G_aload_n dX5_readThing_124 rfl ?_
      refine G_bipush (z := (-20)) dX5_readThing_125 rfl ?_
      exact k3 c1 c2
set_option maxRecDepth 20000 in
set_option maxHeartbeats 8000000 in
theorem sg_X5_readThing_130 {E : Nat × (Nat → Int32)} {d : Nat} {P : Option Value → Mem → Prop} {mem : Mem} {a2 : Int} {a3 : Int} {a4 : Int} {a5 : Int} {s0 : Int} (w1 : -2147483648 ≤ s0 ∧ s0 < 2147483648)
    (k1 : s0 = 0 → P (some (vi 0)) mem)
    (k2 : ¬ s0 = 0 → P (some (vi 1)) mem) :
    GM E (m_X5_readThing d) P 130 [.ref 5, .ref 1, vi a2, vi a3, vi a4, vi a5] [vi s0] mem := by
  refine G_if_eq (tgt := 137) dX5_readThing_130 (by decide) (w1) (fun c1 => ?_) (fun c1 => ?_)
  · -- s0 = 0
    refine G_iconst (z := 0) dX5_readThing_137 rfl ?_
    exact G_zret dX5_readThing_138 rfl (nar_zb (by decide)) (Nat.zero_le _) (Nat.zero_le _) (Nat.le_refl _) ⟨rfl, k1 c1⟩
  · -- ¬ s0 = 0
    refine G_iconst (z := 1) dX5_readThing_133 rfl ?_
    refine G_goto (tgt := 138) dX5_readThing_134 (by decide) ?_
    exact G_zret dX5_readThing_138 rfl (nar_zb (by decide)) (Nat.zero_le _) (Nat.zero_le _) (Nat.le_refl _) ⟨rfl, k2 c1⟩
set_option maxRecDepth 20000 in
set_option maxHeartbeats 8000000 in
theorem sg_X5_seconds_0 {E : Nat × (Nat → Int32)} {P : Option Value → Mem → Prop} {mem : Mem} {r1 : Nat} {n1 : Nat} (hl1 : r1 < 209) (hs1 : SH[r1]? = some (.inr (0, n1))) (w1 : -2147483648 ≤ (mem 5 1) ∧ (mem 5 1) < 2147483648) (w2 : (mem 5 1) = 0 → -2147483648 ≤ (n1 : Int) ∧ (n1 : Int) < 2147483648) (q3 : (mem 5 1) = 0 → ¬ (n1 : Int) ≤ 0 → 0 ≤ (0 : Int) ∧ (0 : Int) < (n1 : Int)) (n4 : n1 < 2147483648)
    (k1 : (mem 5 1) ≠ 0 → GM E (m_X5_seconds 2) P 33 [.ref 5, .ref r1, vi 0, un, un] [] (up2 mem 5 5 0))
    (k2 : (mem 5 1) = 0 → GM E (m_X5_seconds 2) P 22 [.ref 5, .ref r1, un, un, un] [vi (8 + (if (n1 : Int) ≤ 0 then (0 : Int) else (mem r1 0)))] mem) :
    GM E (m_X5_seconds 2) P 0 [.ref 5, .ref r1, un, un, un] [] mem := by
  refine G_aload_n dX5_seconds_0 rfl ?_
  refine G_getI (z := (mem 5 1)) dX5_seconds_1 fl_5_43 (by decide) sh_5 rfl ?_
  refine G_if_ne (tgt := 26) dX5_seconds_4 (by decide) (w1) (fun c1 => ?_) (fun c1 => ?_)
  · -- (mem 5 1) ≠ 0
    refine G_aload_n dX5_seconds_26 rfl ?_
    refine G_iconst (z := 0) dX5_seconds_27 rfl ?_
    refine G_putI (mem2 := (up2 mem 5 5 0)) dX5_seconds_28 fp_5_87 (by decide) sh_5 rfl ?_
    refine G_iconst (z := 0) dX5_seconds_31 rfl ?_
    refine G_istore_n dX5_seconds_32 rfl (by decide : 2 < 5) rfl ?_
    exact k1 c1
  · -- (mem 5 1) = 0
    refine G_bipush (z := 8) dX5_seconds_7 rfl ?_
    refine G_aload_n dX5_seconds_9 rfl ?_
    refine G_alen (z := (n1 : Int)) dX5_seconds_10 hl1 hs1 (by decide) rfl ?_
    have j1 : GM E (m_X5_seconds 2) P 21 [.ref 5, .ref r1, un, un, un] [vi (if (n1 : Int) ≤ 0 then (0 : Int) else (mem r1 0)), vi 8] mem := by
      refine G_iadd dX5_seconds_21 ?_
      exact k2 c1
    refine G_if_le (tgt := 20) dX5_seconds_11 (by decide) (w2 c1) (fun c2 => ?_) (fun c2 => ?_)
    · -- (n1 : Int) ≤ 0
      refine G_iconst (z := 0) dX5_seconds_20 rfl ?_
      have qj1 := j1
      simp only [if_pos c2] at qj1
      exact qj1
    · -- ¬ (n1 : Int) ≤ 0
      refine G_aload_n dX5_seconds_14 rfl ?_
      refine G_iconst (z := 0) dX5_seconds_15 rfl ?_
      refine G_iald (z := (mem r1 0)) dX5_seconds_16 hl1 hs1 (n4) (q3 c1 c2).1 (q3 c1 c2).2 rfl ?_
      refine G_goto (tgt := 21) dX5_seconds_17 (by decide) ?_
      have qj1 := j1
      simp only [if_neg c2] at qj1
      exact qj1
set_option maxRecDepth 20000 in
set_option maxHeartbeats 8000000 in
theorem sg_X5_seconds_25 {E : Nat × (Nat → Int32)} {P : Option Value → Mem → Prop} {mem : Mem} {r1 : Nat} {n1 : Nat} {s0 : Int} (hl1 : r1 < 209) (hs1 : SH[r1]? = some (.inr (0, n1)))
    (k1 : P (some (vi s0)) mem) :
    GM E (m_X5_seconds 2) P 25 [.ref 5, .ref r1, un, un, un] [vi s0] mem := by
  exact G_iret dX5_seconds_25 rfl (Nat.zero_le _) (Nat.zero_le _) (Nat.le_refl _) ⟨rfl, k1⟩
set_option maxRecDepth 20000 in
set_option maxHeartbeats 8000000 in
theorem sg_X5_seconds_33 {E : Nat × (Nat → Int32)} {P : Option Value → Mem → Prop} {mem : Mem} {r1 : Nat} {n1 : Nat} {a2 : Int} {y1 : Nat} {y2 : Nat} (hl1 : r1 < 209) (hs1 : SH[r1]? = some (.inr (0, n1))) (w1 : -2147483648 ≤ a2 ∧ a2 < 2147483648) (w2 : -2147483648 ≤ (mem 5 1) ∧ (mem 5 1) < 2147483648) (e3 : ¬ (mem 5 1) ≤ a2 → (mem 5 0) = ((y1 : Nat) : Int)) (e4 : ¬ (mem 5 1) ≤ a2 → y1 ∈ codeL) (e5 : ¬ (mem 5 1) ≤ a2 → ¬ 40 ≤ a2 → (mem 5 0) = ((y2 : Nat) : Int)) (e6 : ¬ (mem 5 1) ≤ a2 → ¬ 40 ≤ a2 → y2 ∈ codeL) (q7 : ¬ (mem 5 1) ≤ a2 → ¬ 40 ≤ a2 → 0 ≤ a2 ∧ a2 < 40) (w8 : ¬ (mem 5 1) ≤ a2 → ¬ 40 ≤ a2 → -2147483648 ≤ (mem y2 a2) ∧ (mem y2 a2) < 2147483648) (w9 : ¬ (mem 5 1) ≤ a2 → ¬ 40 ≤ a2 → (mem y2 a2) < 0 → ¬ (mem y2 a2) ≤ (-20) → -2147483648 ≤ ((-1) - (mem y2 a2)) ∧ ((-1) - (mem y2 a2)) < 2147483648) (w10 : ¬ (mem 5 1) ≤ a2 → ¬ 40 ≤ a2 → (mem y2 a2) < 0 → ¬ (mem y2 a2) ≤ (-20) → -2147483648 ≤ (n1 : Int) ∧ (n1 : Int) < 2147483648) (q11 : ¬ (mem 5 1) ≤ a2 → ¬ 40 ≤ a2 → (mem y2 a2) < 0 → ¬ (mem y2 a2) ≤ (-20) → ¬ (n1 : Int) ≤ ((-1) - (mem y2 a2)) → 0 ≤ ((-1) - (mem y2 a2)) ∧ ((-1) - (mem y2 a2)) < (n1 : Int)) (n12 : n1 < 2147483648)
    (k1 : (mem 5 1) ≤ a2 → GM E (m_X5_seconds 2) P 150 [.ref 5, .ref r1, vi a2, un, un] [.ref 5] mem)
    (k2 : ¬ (mem 5 1) ≤ a2 → 40 ≤ a2 → GM E (m_X5_seconds 2) P 150 [.ref 5, .ref r1, vi a2, un, un] [.ref 5] mem)
    (k3 : ¬ (mem 5 1) ≤ a2 → ¬ 40 ≤ a2 → (mem y2 a2) < 0 → (mem y2 a2) ≤ (-20) → (mem y2 a2) ≠ (-20) → GM E (m_X5_seconds 2) P 121 [.ref 5, .ref r1, vi a2, vi (mem y2 a2), un] [.ref 5] mem)
    (k4 : ¬ (mem 5 1) ≤ a2 → ¬ 40 ≤ a2 → (mem y2 a2) < 0 → (mem y2 a2) ≤ (-20) → (mem y2 a2) = (-20) → GM E (m_X5_seconds 2) P 110 [.ref 5, .ref r1, vi a2, vi (mem y2 a2), un] [.ref 5, .ref 5] mem)
    (k5 : ¬ (mem 5 1) ≤ a2 → ¬ 40 ≤ a2 → (mem y2 a2) < 0 → ¬ (mem y2 a2) ≤ (-20) → GM E (m_X5_seconds 2) P 96 [.ref 5, .ref r1, vi a2, vi (mem y2 a2), vi ((-1) - (mem y2 a2))] [vi (if (n1 : Int) ≤ ((-1) - (mem y2 a2)) then (0 : Int) else (mem r1 ((-1) - (mem y2 a2)))), .ref 5] mem)
    (k6 : ¬ (mem 5 1) ≤ a2 → ¬ 40 ≤ a2 → ¬ (mem y2 a2) < 0 → GM E (m_X5_seconds 2) P 63 [.ref 5, .ref r1, vi a2, vi (mem y2 a2), un] [vi (mem y2 a2), .ref 5] mem) :
    GM E (m_X5_seconds 2) P 33 [.ref 5, .ref r1, vi a2, un, un] [] mem := by
  refine G_iload_n dX5_seconds_33 rfl ?_
  refine G_aload_n dX5_seconds_34 rfl ?_
  refine G_getI (z := (mem 5 1)) dX5_seconds_35 fl_5_43 (by decide) sh_5 rfl ?_
  refine G_icmp_ge (tgt := 149) dX5_seconds_38 (by decide) (w1) (w2) (fun c1 => ?_) (fun c1 => ?_)
  · -- (mem 5 1) ≤ a2
    refine G_aload_n dX5_seconds_149 rfl ?_
    exact k1 c1
  · -- ¬ (mem 5 1) ≤ a2
    refine G_iload_n dX5_seconds_41 rfl ?_
    refine G_aload_n dX5_seconds_42 rfl ?_
    refine G_getD (t := y1) dX5_seconds_43 fl_5_9 (by decide) sh_5 rn_5_0 (e3 c1) ?_
    refine G_alen (z := 40) dX5_seconds_46 (ltCode (e4 c1)) (shCode (e4 c1)) (by decide) rfl ?_
    refine G_icmp_ge (tgt := 149) dX5_seconds_47 (by decide) (w1) (by decide) (fun c2 => ?_) (fun c2 => ?_)
    · -- 40 ≤ a2
      refine G_aload_n dX5_seconds_149 rfl ?_
      exact k2 c1 c2
    · -- ¬ 40 ≤ a2
      refine G_aload_n dX5_seconds_50 rfl ?_
      refine G_getD (t := y2) dX5_seconds_51 fl_5_9 (by decide) sh_5 rn_5_0 (e5 c1 c2) ?_
      refine G_iload_n dX5_seconds_54 rfl ?_
      refine G_iald (z := (mem y2 a2)) dX5_seconds_55 (ltCode (e6 c1 c2)) (shCode (e6 c1 c2)) (by decide) (q7 c1 c2).1 (q7 c1 c2).2 rfl ?_
      refine G_istore_n dX5_seconds_56 rfl (by decide : 3 < 5) rfl ?_
      refine G_iload_n dX5_seconds_57 rfl ?_
      refine G_if_lt (tgt := 69) dX5_seconds_58 (by decide) (w8 c1 c2) (fun c3 => ?_) (fun c3 => ?_)
      · -- (mem y2 a2) < 0
        refine G_iload_n dX5_seconds_69 rfl ?_
        refine G_bipush (z := (-20)) dX5_seconds_70 rfl ?_
        refine G_icmp_le (tgt := 102) dX5_seconds_72 (by decide) (w8 c1 c2) (by decide) (fun c4 => ?_) (fun c4 => ?_)
        · -- (mem y2 a2) ≤ (-20)
          refine G_iload_n dX5_seconds_102 rfl ?_
          refine G_bipush (z := (-20)) dX5_seconds_103 rfl ?_
          refine G_icmp_ne (tgt := 120) dX5_seconds_105 (by decide) (w8 c1 c2) (by decide) (fun c5 => ?_) (fun c5 => ?_)
          · -- (mem y2 a2) ≠ (-20)
            refine G_aload_n dX5_seconds_120 rfl ?_
            exact k3 c1 c2 c3 c4 c5
          · -- (mem y2 a2) = (-20)
            refine G_aload_n dX5_seconds_108 rfl ?_
            refine G_aload_n dX5_seconds_109 rfl ?_
            exact k4 c1 c2 c3 c4 c5
        · -- ¬ (mem y2 a2) ≤ (-20)
          refine G_iconst (z := (-1)) dX5_seconds_75 rfl ?_
          refine G_iload_n dX5_seconds_76 rfl ?_
          refine G_isub dX5_seconds_77 ?_
          refine G_istore dX5_seconds_78 (by decide : 4 < 5) rfl ?_
          refine G_aload_n dX5_seconds_80 rfl ?_
          refine G_iload dX5_seconds_81 rfl ?_
          refine G_aload_n dX5_seconds_83 rfl ?_
          refine G_alen (z := (n1 : Int)) dX5_seconds_84 hl1 hs1 (by decide) rfl ?_
          have j1 : GM E (m_X5_seconds 2) P 96 [.ref 5, .ref r1, vi a2, vi (mem y2 a2), vi ((-1) - (mem y2 a2))] [vi (if (n1 : Int) ≤ ((-1) - (mem y2 a2)) then (0 : Int) else (mem r1 ((-1) - (mem y2 a2)))), .ref 5] mem := by
            exact k5 c1 c2 c3 c4
          refine G_icmp_ge (tgt := 95) dX5_seconds_85 (by decide) (w9 c1 c2 c3 c4) (w10 c1 c2 c3 c4) (fun c6 => ?_) (fun c6 => ?_)
          · -- (n1 : Int) ≤ ((-1) - (mem y2 a2))
            refine G_iconst (z := 0) dX5_seconds_95 rfl ?_
            have qj1 := j1
            simp only [if_pos c6] at qj1
            exact qj1
          · -- ¬ (n1 : Int) ≤ ((-1) - (mem y2 a2))
            refine G_aload_n dX5_seconds_88 rfl ?_
            refine G_iload dX5_seconds_89 rfl ?_
            refine G_iald (z := (mem r1 ((-1) - (mem y2 a2)))) dX5_seconds_91 hl1 hs1 (n12) (q11 c1 c2 c3 c4 c6).1 (q11 c1 c2 c3 c4 c6).2 rfl ?_
            refine G_goto (tgt := 96) dX5_seconds_92 (by decide) ?_
            have qj1 := j1
            simp only [if_neg c6] at qj1
            exact qj1
      · -- ¬ (mem y2 a2) < 0
        refine G_aload_n dX5_seconds_61 rfl ?_
        refine G_iload_n dX5_seconds_62 rfl ?_
        exact k6 c1 c2 c3
set_option maxRecDepth 20000 in
set_option maxHeartbeats 8000000 in
theorem sg_X5_seconds_66 {E : Nat × (Nat → Int32)} {P : Option Value → Mem → Prop} {mem : Mem} {r1 : Nat} {n1 : Nat} {a2 : Int} {a3 : Int} (hl1 : r1 < 209) (hs1 : SH[r1]? = some (.inr (0, n1)))
    (k1 : GM E (m_X5_seconds 2) P 33 [.ref 5, .ref r1, vi (a2 + 1), un, un] [] mem) :
    GM E (m_X5_seconds 2) P 66 [.ref 5, .ref r1, vi a2, vi a3, un] [] mem := by
  refine G_goto (tgt := 143) dX5_seconds_66 (by decide) ?_
  refine G_iinc (z := (a2 + 1)) dX5_seconds_143 rfl rfl (by decide : 2 < 5) rfl ?_
  refine G_goto (tgt := 33) dX5_seconds_146 (by decide) ?_
  refine G_weak (lv2 := [.ref 5, .ref r1, vi (a2 + 1), un, un]) ⟨Or.inr rfl, Or.inr rfl, Or.inr rfl, Or.inl rfl, Or.inr rfl, trivial⟩ ?_
  exact k1
set_option maxRecDepth 20000 in
set_option maxHeartbeats 8000000 in
theorem sg_X5_seconds_99 {E : Nat × (Nat → Int32)} {P : Option Value → Mem → Prop} {mem : Mem} {r1 : Nat} {n1 : Nat} {a2 : Int} {a3 : Int} {a4 : Int} (hl1 : r1 < 209) (hs1 : SH[r1]? = some (.inr (0, n1)))
    (k1 : GM E (m_X5_seconds 2) P 33 [.ref 5, .ref r1, vi (a2 + 1), un, un] [] mem) :
    GM E (m_X5_seconds 2) P 99 [.ref 5, .ref r1, vi a2, vi a3, vi a4] [] mem := by
  refine G_goto (tgt := 143) dX5_seconds_99 (by decide) ?_
  refine G_iinc (z := (a2 + 1)) dX5_seconds_143 rfl rfl (by decide : 2 < 5) rfl ?_
  refine G_goto (tgt := 33) dX5_seconds_146 (by decide) ?_
  refine G_weak (lv2 := [.ref 5, .ref r1, vi (a2 + 1), un, un]) ⟨Or.inr rfl, Or.inr rfl, Or.inr rfl, Or.inl rfl, Or.inl rfl, trivial⟩ ?_
  exact k1
set_option maxRecDepth 20000 in
set_option maxHeartbeats 8000000 in
theorem sg_X5_seconds_113 {E : Nat × (Nat → Int32)} {P : Option Value → Mem → Prop} {mem : Mem} {r1 : Nat} {n1 : Nat} {a2 : Int} {a3 : Int} {s0 : Int} (hl1 : r1 < 209) (hs1 : SH[r1]? = some (.inr (0, n1)))
    (k1 : GM E (m_X5_seconds 2) P 114 [.ref 5, .ref r1, vi a2, vi a3, un] [vi (-s0), .ref 5] mem) :
    GM E (m_X5_seconds 2) P 113 [.ref 5, .ref r1, vi a2, vi a3, un] [vi s0, .ref 5] mem := by
  refine G_ineg dX5_seconds_113 ?_
  exact k1
set_option maxRecDepth 20000 in
set_option maxHeartbeats 8000000 in
theorem sg_X5_seconds_117 {E : Nat × (Nat → Int32)} {P : Option Value → Mem → Prop} {mem : Mem} {r1 : Nat} {n1 : Nat} {a2 : Int} {a3 : Int} (hl1 : r1 < 209) (hs1 : SH[r1]? = some (.inr (0, n1)))
    (k1 : GM E (m_X5_seconds 2) P 33 [.ref 5, .ref r1, vi (a2 + 1), un, un] [] mem) :
    GM E (m_X5_seconds 2) P 117 [.ref 5, .ref r1, vi a2, vi a3, un] [] mem := by
  refine G_goto (tgt := 143) dX5_seconds_117 (by decide) ?_
  refine G_iinc (z := (a2 + 1)) dX5_seconds_143 rfl rfl (by decide : 2 < 5) rfl ?_
  refine G_goto (tgt := 33) dX5_seconds_146 (by decide) ?_
  refine G_weak (lv2 := [.ref 5, .ref r1, vi (a2 + 1), un, un]) ⟨Or.inr rfl, Or.inr rfl, Or.inr rfl, Or.inl rfl, Or.inr rfl, trivial⟩ ?_
  exact k1
set_option maxRecDepth 20000 in
set_option maxHeartbeats 8000000 in
theorem sg_X5_seconds_124 {E : Nat × (Nat → Int32)} {P : Option Value → Mem → Prop} {mem : Mem} {r1 : Nat} {n1 : Nat} {a2 : Int} {a3 : Int} {s0 : Int} (hl1 : r1 < 209) (hs1 : SH[r1]? = some (.inr (0, n1)))
    (k1 : GM E (m_X5_seconds 2) P 132 [.ref 5, .ref r1, vi a2, vi a3, vi s0] [.ref 5, vi ((-100) - a3), .ref 5] mem) :
    GM E (m_X5_seconds 2) P 124 [.ref 5, .ref r1, vi a2, vi a3, un] [vi s0] mem := by
  refine G_istore dX5_seconds_124 (by decide : 4 < 5) rfl ?_
  refine G_aload_n dX5_seconds_126 rfl ?_
  refine G_bipush (z := (-100)) dX5_seconds_127 rfl ?_
  refine G_iload_n dX5_seconds_129 rfl ?_
  refine G_isub dX5_seconds_130 ?_
  refine G_aload_n dX5_seconds_131 rfl ?_
  exact k1
set_option maxRecDepth 20000 in
set_option maxHeartbeats 8000000 in
theorem sg_X5_seconds_135 {E : Nat × (Nat → Int32)} {P : Option Value → Mem → Prop} {mem : Mem} {r1 : Nat} {n1 : Nat} {a2 : Int} {a3 : Int} {a4 : Int} {s0 : Int} {s1 : Int} (hl1 : r1 < 209) (hs1 : SH[r1]? = some (.inr (0, n1)))
    (k1 : GM E (m_X5_seconds 2) P 137 [.ref 5, .ref r1, vi a2, vi a3, vi a4] [vi a4, vi s0, vi s1, .ref 5] mem) :
    GM E (m_X5_seconds 2) P 135 [.ref 5, .ref r1, vi a2, vi a3, vi a4] [vi s0, vi s1, .ref 5] mem := by
  refine G_iload dX5_seconds_135 rfl ?_
  exact k1
set_option maxRecDepth 20000 in
set_option maxHeartbeats 8000000 in
theorem sg_X5_seconds_140 {E : Nat × (Nat → Int32)} {P : Option Value → Mem → Prop} {mem : Mem} {r1 : Nat} {n1 : Nat} {a2 : Int} {a3 : Int} {a4 : Int} {s0 : Int} (hl1 : r1 < 209) (hs1 : SH[r1]? = some (.inr (0, n1)))
    (k1 : GM E (m_X5_seconds 2) P 140 [.ref 5, .ref r1, vi a2, vi a3, vi a4] [vi s0, .ref 5] mem) :
    GM E (m_X5_seconds 2) P 140 [.ref 5, .ref r1, vi a2, vi a3, vi a4] [vi s0, .ref 5] mem := by
  exact k1
set_option maxRecDepth 20000 in
set_option maxHeartbeats 8000000 in
theorem sg_X5_seconds_143 {E : Nat × (Nat → Int32)} {P : Option Value → Mem → Prop} {mem : Mem} {r1 : Nat} {n1 : Nat} {a2 : Int} {a3 : Int} {a4 : Int} (hl1 : r1 < 209) (hs1 : SH[r1]? = some (.inr (0, n1)))
    (k1 : GM E (m_X5_seconds 2) P 33 [.ref 5, .ref r1, vi (a2 + 1), un, un] [] mem) :
    GM E (m_X5_seconds 2) P 143 [.ref 5, .ref r1, vi a2, vi a3, vi a4] [] mem := by
  refine G_iinc (z := (a2 + 1)) dX5_seconds_143 rfl rfl (by decide : 2 < 5) rfl ?_
  refine G_goto (tgt := 33) dX5_seconds_146 (by decide) ?_
  refine G_weak (lv2 := [.ref 5, .ref r1, vi (a2 + 1), un, un]) ⟨Or.inr rfl, Or.inr rfl, Or.inr rfl, Or.inl rfl, Or.inl rfl, trivial⟩ ?_
  exact k1
set_option maxRecDepth 20000 in
set_option maxHeartbeats 8000000 in
theorem sg_X5_seconds_153 {E : Nat × (Nat → Int32)} {P : Option Value → Mem → Prop} {mem : Mem} {r1 : Nat} {n1 : Nat} {a2 : Int} {s0 : Int} (hl1 : r1 < 209) (hs1 : SH[r1]? = some (.inr (0, n1)))
    (k1 : GM E (m_X5_seconds 2) P 153 [.ref 5, .ref r1, vi a2, un, un] [vi s0] mem) :
    GM E (m_X5_seconds 2) P 153 [.ref 5, .ref r1, vi a2, un, un] [vi s0] mem := by
  exact k1
set_option maxRecDepth 20000 in
set_option maxHeartbeats 8000000 in
theorem sg_X5_seconds_156 {E : Nat × (Nat → Int32)} {P : Option Value → Mem → Prop} {mem : Mem} {r1 : Nat} {n1 : Nat} {a2 : Int} {s0 : Int} (hl1 : r1 < 209) (hs1 : SH[r1]? = some (.inr (0, n1)))
    (k1 : P (some (vi s0)) mem) :
    GM E (m_X5_seconds 2) P 156 [.ref 5, .ref r1, vi a2, un, un] [vi s0] mem := by
  exact G_iret dX5_seconds_156 rfl (Nat.zero_le _) (Nat.zero_le _) (Nat.le_refl _) ⟨rfl, k1⟩
set_option maxRecDepth 20000 in
set_option maxHeartbeats 8000000 in
theorem sg_X5_write_0 {E : Nat × (Nat → Int32)} {P : Option Value → Mem → Prop} {mem : Mem} {a1 : Int} {y1 : Nat} {y2 : Nat} (e1 : (mem 5 2) = ((y1 : Nat) : Int)) (e2 : y1 ∈ codeL) (w3 : -2147483648 ≤ (mem 5 3) ∧ (mem 5 3) < 2147483648) (e4 : (mem 5 3) < 40 → (mem 5 2) = ((y2 : Nat) : Int)) (e5 : (mem 5 3) < 40 → y2 ∈ codeL) (q6 : (mem 5 3) < 40 → 0 ≤ (mem 5 3) ∧ (mem 5 3) < 40)
    (k1 : (mem 5 3) < 40 → P (some (vi 1)) (up2 (up2 mem y2 (mem 5 3) a1) 5 3 (((up2 mem y2 (mem 5 3) a1) 5 3) + 1)))
    (k2 : ¬ (mem 5 3) < 40 → P (some (vi 0)) mem) :
    GM E (m_X5_write 0) P 0 [.ref 5, vi a1] [] mem := by
  refine G_aload_n dX5_write_0 rfl ?_
  refine G_getI (z := (mem 5 3)) dX5_write_1 fl_5_27 (by decide) sh_5 rfl ?_
  refine G_aload_n dX5_write_4 rfl ?_
  refine G_getD (t := y1) dX5_write_5 fl_5_15 (by decide) sh_5 rn_5_2 (e1) ?_
  refine G_alen (z := 40) dX5_write_8 (ltCode (e2)) (shCode (e2)) (by decide) rfl ?_
  refine G_icmp_lt (tgt := 14) dX5_write_9 (by decide) (w3) (by decide) (fun c1 => ?_) (fun c1 => ?_)
  · -- (mem 5 3) < 40
    refine G_aload_n dX5_write_14 rfl ?_
    refine G_getD (t := y2) dX5_write_15 fl_5_15 (by decide) sh_5 rn_5_2 (e4 c1) ?_
    refine G_aload_n dX5_write_18 rfl ?_
    refine G_getI (z := (mem 5 3)) dX5_write_19 fl_5_27 (by decide) sh_5 rfl ?_
    refine G_iload_n dX5_write_22 rfl ?_
    refine G_iast (mem2 := (up2 mem y2 (mem 5 3) a1)) dX5_write_23 (ltCode (e5 c1)) (shCode (e5 c1)) (by decide) (q6 c1).1 (q6 c1).2 rfl ?_
    refine G_aload_n dX5_write_24 rfl ?_
    refine G_dup dX5_write_25 rfl ?_
    refine G_getI (z := ((up2 mem y2 (mem 5 3) a1) 5 3)) dX5_write_26 fl_5_27 (by decide) sh_5 (by simp [up2, upr]) ?_
    refine G_iconst (z := 1) dX5_write_29 rfl ?_
    refine G_iadd dX5_write_30 ?_
    refine G_putI (mem2 := (up2 (up2 mem y2 (mem 5 3) a1) 5 3 (((up2 mem y2 (mem 5 3) a1) 5 3) + 1))) dX5_write_31 fp_5_27 (by decide) sh_5 rfl ?_
    refine G_iconst (z := 1) dX5_write_34 rfl ?_
    exact G_zret dX5_write_35 rfl (nar_zb (by decide)) (Nat.zero_le _) (Nat.zero_le _) (Nat.le_refl _) ⟨rfl, k1 c1⟩
  · -- ¬ (mem 5 3) < 40
    refine G_iconst (z := 0) dX5_write_12 rfl ?_
    exact G_zret dX5_write_13 rfl (nar_zb (by decide)) (Nat.zero_le _) (Nat.zero_le _) (Nat.le_refl _) ⟨rfl, k2 c1⟩
