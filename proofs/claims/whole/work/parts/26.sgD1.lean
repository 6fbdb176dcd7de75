set_option maxRecDepth 20000 in
set_option maxHeartbeats 8000000 in
theorem sg_X11_act_0 {E : Nat × (Nat → Int32)} {P : Option Value → Mem → Prop} {mem : Mem} {a1 : Int}
    (k1 : (divI a1 10000) = 0 → GM E (m_X11_act 6) P 42 [.ref 0, vi a1, vi (remI a1 10000)] [vi (remI a1 10000), .ref 0] mem)
    (k2 : ¬ (divI a1 10000) = 0 → (divI a1 10000) = 1 → GM E (m_X11_act 6) P 55 [.ref 0, vi a1, vi (remI a1 10000)] [vi (remI (remI a1 10000) 10), vi (divI (remI a1 10000) 10), .ref 0] mem)
    (k3 : ¬ (divI a1 10000) = 0 → ¬ (divI a1 10000) = 1 → (divI a1 10000) = 2 → GM E (m_X11_act 6) P 60 [.ref 0, vi a1, vi (remI a1 10000)] [.ref 0] mem)
    (k4 : ¬ (divI a1 10000) = 0 → ¬ (divI a1 10000) = 1 → ¬ (divI a1 10000) = 2 → (divI a1 10000) = 3 → GM E (m_X11_act 6) P 66 [.ref 0, vi a1, vi (remI a1 10000)] [vi (remI a1 10000), .ref 0] mem)
    (k5 : ¬ (divI a1 10000) = 0 → ¬ (divI a1 10000) = 1 → ¬ (divI a1 10000) = 2 → ¬ (divI a1 10000) = 3 → P (some (vi (-1))) mem) :
    GM E (m_X11_act 6) P 0 [.ref 0, vi a1, un] [] mem := by
  refine G_iload_n dX11_act_0 rfl ?_
  refine G_sipush (z := 10000) dX11_act_1 rfl ?_
  refine G_irem (z := (remI a1 10000)) dX11_act_4 (iI_ne0 (by decide) (by decide)) (iI_inv _) ?_
  refine G_istore_n dX11_act_5 rfl (by decide : 2 < 3) rfl ?_
  refine G_iload_n dX11_act_6 rfl ?_
  refine G_sipush (z := 10000) dX11_act_7 rfl ?_
  refine G_idiv (z := (divI a1 10000)) dX11_act_10 (iI_ne0 (by decide) (by decide)) (iI_inv _) ?_
  by_cases c1 : (divI a1 10000) = 0
  · refine G_tableIn (off := 29) (tgt := 40) dX11_act_11 (iI_rng _) (by omega) (by omega) (by rw [c1]; rfl) (by decide) ?_
    refine G_aload_n dX11_act_40 rfl ?_
    refine G_iload_n dX11_act_41 rfl ?_
    exact k1 c1
  by_cases c2 : (divI a1 10000) = 1
  · refine G_tableIn (off := 35) (tgt := 46) dX11_act_11 (iI_rng _) (by omega) (by omega) (by rw [c2]; rfl) (by decide) ?_
    refine G_aload_n dX11_act_46 rfl ?_
    refine G_iload_n dX11_act_47 rfl ?_
    refine G_bipush (z := 10) dX11_act_48 rfl ?_
    refine G_idiv (z := (divI (remI a1 10000) 10)) dX11_act_50 (iI_ne0 (by decide) (by decide)) (iI_inv _) ?_
    refine G_iload_n dX11_act_51 rfl ?_
    refine G_bipush (z := 10) dX11_act_52 rfl ?_
    refine G_irem (z := (remI (remI a1 10000) 10)) dX11_act_54 (iI_ne0 (by decide) (by decide)) (iI_inv _) ?_
    exact k2 c1 c2
  by_cases c3 : (divI a1 10000) = 2
  · refine G_tableIn (off := 48) (tgt := 59) dX11_act_11 (iI_rng _) (by omega) (by omega) (by rw [c3]; rfl) (by decide) ?_
    refine G_aload_n dX11_act_59 rfl ?_
    exact k3 c1 c2 c3
  by_cases c4 : (divI a1 10000) = 3
  · refine G_tableIn (off := 53) (tgt := 64) dX11_act_11 (iI_rng _) (by omega) (by omega) (by rw [c4]; rfl) (by decide) ?_
    refine G_aload_n dX11_act_64 rfl ?_
    refine G_iload_n dX11_act_65 rfl ?_
    exact k4 c1 c2 c3 c4
  refine G_tableOut (tgt := 70) dX11_act_11 (iI_rng _) (by omega) (by decide) ?_
  refine G_iconst (z := (-1)) dX11_act_70 rfl ?_
  exact G_iret dX11_act_71 rfl (Nat.zero_le _) (Nat.zero_le _) (Nat.le_refl _) ⟨rfl, k5 c1 c2 c3 c4⟩
set_option maxRecDepth 20000 in
set_option maxHeartbeats 8000000 in
theorem sg_X11_act_45 {E : Nat × (Nat → Int32)} {P : Option Value → Mem → Prop} {mem : Mem} {a1 : Int} {a2 : Int} {s0 : Int}
    (k1 : P (some (vi s0)) mem) :
    GM E (m_X11_act 6) P 45 [.ref 0, vi a1, vi a2] [vi s0] mem := by
  exact G_iret dX11_act_45 rfl (Nat.zero_le _) (Nat.zero_le _) (Nat.le_refl _) ⟨rfl, k1⟩
set_option maxRecDepth 20000 in
set_option maxHeartbeats 8000000 in
theorem sg_X11_act_58 {E : Nat × (Nat → Int32)} {P : Option Value → Mem → Prop} {mem : Mem} {a1 : Int} {a2 : Int} {s0 : Int}
    (k1 : P (some (vi s0)) mem) :
    GM E (m_X11_act 6) P 58 [.ref 0, vi a1, vi a2] [vi s0] mem := by
  exact G_iret dX11_act_58 rfl (Nat.zero_le _) (Nat.zero_le _) (Nat.le_refl _) ⟨rfl, k1⟩
set_option maxRecDepth 20000 in
set_option maxHeartbeats 8000000 in
theorem sg_X11_act_63 {E : Nat × (Nat → Int32)} {P : Option Value → Mem → Prop} {mem : Mem} {a1 : Int} {a2 : Int} {s0 : Int}
    (k1 : P (some (vi s0)) mem) :
    GM E (m_X11_act 6) P 63 [.ref 0, vi a1, vi a2] [vi s0] mem := by
  exact G_iret dX11_act_63 rfl (Nat.zero_le _) (Nat.zero_le _) (Nat.le_refl _) ⟨rfl, k1⟩
set_option maxRecDepth 20000 in
set_option maxHeartbeats 8000000 in
theorem sg_X11_act_69 {E : Nat × (Nat → Int32)} {P : Option Value → Mem → Prop} {mem : Mem} {a1 : Int} {a2 : Int} {s0 : Int}
    (k1 : P (some (vi s0)) mem) :
    GM E (m_X11_act 6) P 69 [.ref 0, vi a1, vi a2] [vi s0] mem := by
  exact G_iret dX11_act_69 rfl (Nat.zero_le _) (Nat.zero_le _) (Nat.le_refl _) ⟨rfl, k1⟩
set_option maxRecDepth 20000 in
set_option maxHeartbeats 8000000 in
theorem sg_X11_again_0 {E : Nat × (Nat → Int32)} {P : Option Value → Mem → Prop} {mem : Mem} {a1 : Int} (w1 : -2147483648 ≤ a1 ∧ a1 < 2147483648) (w2 : ¬ a1 < 0 → ¬ 3 ≤ a1 → -2147483648 ≤ (mem 166 a1) ∧ (mem 166 a1) < 2147483648) (w3 : ¬ a1 < 0 → ¬ 3 ≤ a1 → -2147483648 ≤ (mem 9 1) ∧ (mem 9 1) < 2147483648) (w4 : ¬ a1 < 0 → ¬ 3 ≤ a1 → (mem 166 a1) = (mem 9 1) → -2147483648 ≤ (mem (154 + 4 * (a1).toNat) 3) ∧ (mem (154 + 4 * (a1).toNat) 3) < 2147483648) (w5 : ¬ a1 < 0 → ¬ 3 ≤ a1 → (mem 166 a1) = (mem 9 1) → -2147483648 ≤ (mem 4 0) ∧ (mem 4 0) < 2147483648)
    (k1 : a1 < 0 → P (some (vi 0)) mem)
    (k2 : ¬ a1 < 0 → 3 ≤ a1 → P (some (vi 0)) mem)
    (k3 : ¬ a1 < 0 → ¬ 3 ≤ a1 → (mem 166 a1) ≠ (mem 9 1) → P (some (vi 0)) mem)
    (k4 : ¬ a1 < 0 → ¬ 3 ≤ a1 → (mem 166 a1) = (mem 9 1) → (mem (154 + 4 * (a1).toNat) 3) ≤ (mem 4 0) → GM E (m_X11_again 3) P 61 [.ref 0, vi a1] [.ref (154 + 4 * (a1).toNat), .ref 23] mem)
    (k5 : ¬ a1 < 0 → ¬ 3 ≤ a1 → (mem 166 a1) = (mem 9 1) → ¬ (mem (154 + 4 * (a1).toNat) 3) ≤ (mem 4 0) → P (some (vi 0)) mem) :
    GM E (m_X11_again 3) P 0 [.ref 0, vi a1] [] mem := by
  refine G_iload_n dX11_again_0 rfl ?_
  refine G_if_lt (tgt := 49) dX11_again_1 (by decide) (w1) (fun c1 => ?_) (fun c1 => ?_)
  · -- a1 < 0
    refine G_iconst (z := 0) dX11_again_49 rfl ?_
    exact G_zret dX11_again_50 rfl (nar_zb (by decide)) (Nat.zero_le _) (Nat.zero_le _) (Nat.le_refl _) ⟨rfl, k1 c1⟩
  · -- ¬ a1 < 0
    refine G_iload_n dX11_again_4 rfl ?_
    refine G_aload_n dX11_again_5 rfl ?_
    refine G_getR (t := 153) dX11_again_6 fl_11_87 (by decide) sh_0 rr_0_10 ?_
    refine G_alen (z := 3) dX11_again_9 (by decide) sh_153 (by decide) rfl ?_
    refine G_icmp_ge (tgt := 49) dX11_again_10 (by decide) (w1) (by decide) (fun c2 => ?_) (fun c2 => ?_)
    · -- 3 ≤ a1
      refine G_iconst (z := 0) dX11_again_49 rfl ?_
      exact G_zret dX11_again_50 rfl (nar_zb (by decide)) (Nat.zero_le _) (Nat.zero_le _) (Nat.le_refl _) ⟨rfl, k2 c1 c2⟩
    · -- ¬ 3 ≤ a1
      refine G_aload_n dX11_again_13 rfl ?_
      refine G_getR (t := 166) dX11_again_14 fl_11_91 (by decide) sh_0 rr_0_11 ?_
      refine G_iload_n dX11_again_17 rfl ?_
      refine G_iald (z := (mem 166 a1)) dX11_again_18 (by decide) sh_166 (by decide) (by omega) (by omega) rfl ?_
      refine G_aload_n dX11_again_19 rfl ?_
      refine G_getR (t := 9) dX11_again_20 fl_11_33 (by decide) sh_0 rr_0_3 ?_
      refine G_getI (z := (mem 9 1)) dX11_again_23 fl_11_113 (by decide) sh_9 rfl ?_
      refine G_icmp_ne (tgt := 49) dX11_again_26 (by decide) (w2 c1 c2) (w3 c1 c2) (fun c3 => ?_) (fun c3 => ?_)
      · -- (mem 166 a1) ≠ (mem 9 1)
        refine G_iconst (z := 0) dX11_again_49 rfl ?_
        exact G_zret dX11_again_50 rfl (nar_zb (by decide)) (Nat.zero_le _) (Nat.zero_le _) (Nat.le_refl _) ⟨rfl, k3 c1 c2 c3⟩
      · -- (mem 166 a1) = (mem 9 1)
        refine G_aload_n dX11_again_29 rfl ?_
        refine G_getR (t := 153) dX11_again_30 fl_11_87 (by decide) sh_0 rr_0_10 ?_
        refine G_iload_n dX11_again_33 rfl ?_
        refine G_aald4S (t := (154 + 4 * (a1).toNat)) dX11_again_34 (by decide) sh_153 (by decide) (by omega) (by omega) (rr_kept (by omega) (by omega)) ?_
        refine G_getI (z := (mem (154 + 4 * (a1).toNat) 3)) dX11_again_35 fl_11_203 (ltState0 (keptL_of (by omega) (by omega))) (shState0 (keptL_of (by omega) (by omega))) rfl ?_
        refine G_aload_n dX11_again_38 rfl ?_
        refine G_getR (t := 3) dX11_again_39 fl_11_19 (by decide) sh_0 rr_0_1 ?_
        refine G_iconst (z := 0) dX11_again_42 rfl ?_
        refine cb_X11_again_43 (ic_X6_get (z := (mem 4 0)) (by decide) rfl ?_)
        refine G_icmp_le (tgt := 51) dX11_again_46 (by decide) (w4 c1 c2 c3) (w5 c1 c2 c3) (fun c4 => ?_) (fun c4 => ?_)
        · -- (mem (154 + 4 * (a1).toNat) 3) ≤ (mem 4 0)
          refine G_aload_n dX11_again_51 rfl ?_
          refine G_getR (t := 23) dX11_again_52 fl_11_40 (by decide) sh_0 rr_0_4 ?_
          refine G_aload_n dX11_again_55 rfl ?_
          refine G_getR (t := 153) dX11_again_56 fl_11_87 (by decide) sh_0 rr_0_10 ?_
          refine G_iload_n dX11_again_59 rfl ?_
          refine G_aald4S (t := (154 + 4 * (a1).toNat)) dX11_again_60 (by decide) sh_153 (by decide) (by omega) (by omega) (rr_kept (by omega) (by omega)) ?_
          exact k4 c1 c2 c3 c4
        · -- ¬ (mem (154 + 4 * (a1).toNat) 3) ≤ (mem 4 0)
          refine G_iconst (z := 0) dX11_again_49 rfl ?_
          exact G_zret dX11_again_50 rfl (nar_zb (by decide)) (Nat.zero_le _) (Nat.zero_le _) (Nat.le_refl _) ⟨rfl, k5 c1 c2 c3 c4⟩
set_option maxRecDepth 20000 in
set_option maxHeartbeats 8000000 in
theorem sg_X11_again_64 {E : Nat × (Nat → Int32)} {P : Option Value → Mem → Prop} {mem : Mem} {a1 : Int}
    (k1 : P (some (vi 1)) (up2 mem 27 2 0)) :
    GM E (m_X11_again 3) P 64 [.ref 0, vi a1] [] mem := by
  refine G_aload_n dX11_again_64 rfl ?_
  refine G_getR (t := 27) dX11_again_65 fl_11_47 (by decide) sh_0 rr_0_5 ?_
  refine cb_X11_again_68 (ic_X1_clear ?_)
  refine G_iconst (z := 1) dX11_again_71 rfl ?_
  exact G_zret dX11_again_72 rfl (nar_zb (by decide)) (Nat.zero_le _) (Nat.zero_le _) (Nat.le_refl _) ⟨rfl, k1⟩
set_option maxRecDepth 20000 in
set_option maxHeartbeats 8000000 in
theorem sg_X11_best_0 {E : Nat × (Nat → Int32)} {P : Option Value → Mem → Prop} {mem : Mem} {a1 : Int} (q1 : 0 ≤ (mem 9 1) ∧ (mem 9 1) ≤ 6) (w2 : -2147483648 ≤ a1 ∧ a1 < 2147483648) (w3 : 0 ≤ a1 ∧ a1 < (mem 9 1) → -2147483648 ≤ (mem 4 1) ∧ (mem 4 1) < 2147483648) (q4 : 0 ≤ a1 ∧ a1 < (mem 9 1) → 0 ≤ a1 ∧ a1 < 6)
    (k1 : 0 ≤ a1 ∧ a1 < (mem 9 1) → GM E (m_X11_best 6) P 47 [.ref 0, vi a1, .ref (11 + 2 * (a1).toNat), un] [vi (mem 24 a1), .ref (11 + 2 * (a1).toNat), .ref 100] (up2 (up2 mem 100 7 (max 1 (mem 4 1))) 100 8 (mem (11 + 2 * (a1).toNat) 4)))
    (k2 : ¬ (0 ≤ a1 ∧ a1 < (mem 9 1)) → P (some (vi (-1))) mem) :
    GM E (m_X11_best 6) P 0 [.ref 0, vi a1, un, un] [] mem := by
  refine G_aload_n dX11_best_0 rfl ?_
  refine G_getR (t := 9) dX11_best_1 fl_11_33 (by decide) sh_0 rr_0_3 ?_
  refine G_iload_n dX11_best_4 rfl ?_
  refine cb_X11_best_5 (ic_X10_at (z := (mem 9 1)) rfl (q1) (w2) (fun c1 => ?_) (fun c2 => ?_))
  · -- 0 ≤ a1 ∧ a1 < (mem 9 1)
    refine G_astore_n dX11_best_8 rfl (by decide : 2 < 4) rfl ?_
    refine G_aload_n dX11_best_9 rfl ?_
    refine G_ifnonnull (tgt := 15) dX11_best_10 (by decide) ?_
    refine G_aload_n dX11_best_15 rfl ?_
    refine G_getR (t := 100) dX11_best_16 fl_11_65 (by decide) sh_0 rr_0_7 ?_
    refine G_aload_n dX11_best_19 rfl ?_
    refine G_getR (t := 3) dX11_best_20 fl_11_19 (by decide) sh_0 rr_0_1 ?_
    refine G_iconst (z := 1) dX11_best_23 rfl ?_
    refine cb_X11_best_24 (ic_X6_get (z := (mem 4 1)) (by decide) rfl ?_)
    refine G_aload_n dX11_best_27 rfl ?_
    refine G_getI (z := (mem (11 + 2 * (a1).toNat) 4)) dX11_best_28 fl_11_152 (ltStreet0 (streetL_of c1.1 (Int.lt_of_lt_of_le c1.2 (q1).2))) (shStreet0 (streetL_of c1.1 (Int.lt_of_lt_of_le c1.2 (q1).2))) rfl ?_
    refine cb_X11_best_31 (by decide) (ic_X2_think (by decide) (w3 c1) ?_)
    refine G_aload_n dX11_best_34 rfl ?_
    refine G_getR (t := 100) dX11_best_35 fl_11_65 (by decide) sh_0 rr_0_7 ?_
    refine G_aload_n dX11_best_38 rfl ?_
    refine G_aload_n dX11_best_39 rfl ?_
    refine G_getR (t := 23) dX11_best_40 fl_11_40 (by decide) sh_0 rr_0_4 ?_
    refine G_iload_n dX11_best_43 rfl ?_
    refine cb_X11_best_44 (by decide) (ic_X7_outOf (z := (mem 24 a1)) (by decide) ⟨(q4 c1).1, (q4 c1).2⟩ (by simp [up2, upr]) ?_)
    exact k1 c1
  · -- ¬ (0 ≤ a1 ∧ a1 < (mem 9 1))
    refine G_astoreNull_n dX11_best_8 rfl (by decide : 2 < 4) rfl ?_
    refine G_aloadNull_n dX11_best_9 rfl ?_
    refine G_ifnonnullZ dX11_best_10 ?_
    refine G_iconst (z := (-1)) dX11_best_13 rfl ?_
    exact G_iret dX11_best_14 rfl (Nat.zero_le _) (Nat.zero_le _) (Nat.le_refl _) ⟨rfl, k2 c2⟩
set_option maxRecDepth 20000 in
set_option maxHeartbeats 8000000 in
theorem sg_X11_best_50 {E : Nat × (Nat → Int32)} {P : Option Value → Mem → Prop} {mem : Mem} {a1 : Int} {o2 : Nat} {s0 : Int} (ho2 : o2 ∈ streetL) (w1 : -2147483648 ≤ (mem 105 0) ∧ (mem 105 0) < 2147483648) (w2 : -2147483648 ≤ (mem 105 1) ∧ (mem 105 1) < 2147483648) (w3 : -2147483648 ≤ (mem 105 2) ∧ (mem 105 2) < 2147483648)
    (k1 : P (some (vi s0)) (up2 (up2 (up2 (up2 (up2 (up2 (up2 mem 0 14 0) 168 0 (mem 105 0)) 0 14 1) 168 1 (mem 105 1)) 0 14 2) 168 2 (mem 105 2)) 0 14 3)) :
    GM E (m_X11_best 6) P 50 [.ref 0, vi a1, .ref o2, un] [vi s0] mem := by
  refine G_istore_n dX11_best_50 rfl (by decide : 3 < 4) rfl ?_
  refine G_aload_n dX11_best_51 rfl ?_
  refine G_aload_n dX11_best_52 rfl ?_
  refine G_getR (t := 100) dX11_best_53 fl_11_65 (by decide) sh_0 rr_0_7 ?_
  refine G_iconst (z := 0) dX11_best_56 rfl ?_
  refine cb_X11_best_57 (by decide) (ic_X2_secondsOf (z := (mem 105 0)) (by decide) ⟨(by decide), (by decide)⟩ rfl ?_)
  refine G_i2l dX11_best_60 (w1) ?_
  refine cb_X11_best_61 (ic_X11_tell ?_)
  refine G_aload_n dX11_best_64 rfl ?_
  refine G_aload_n dX11_best_65 rfl ?_
  refine G_getR (t := 100) dX11_best_66 fl_11_65 (by decide) sh_0 rr_0_7 ?_
  refine G_iconst (z := 1) dX11_best_69 rfl ?_
  refine cb_X11_best_70 (by decide) (ic_X2_secondsOf (z := (mem 105 1)) (by decide) ⟨(by decide), (by decide)⟩ (by simp [up2, upr]) ?_)
  refine G_i2l dX11_best_73 (w2) ?_
  refine cb_X11_best_74 (ic_X11_tellMore (z := 1) (z2 := 2) (by simp [up2, upr]) (by decide) rfl ?_)
  refine G_aload_n dX11_best_77 rfl ?_
  refine G_aload_n dX11_best_78 rfl ?_
  refine G_getR (t := 100) dX11_best_79 fl_11_65 (by decide) sh_0 rr_0_7 ?_
  refine G_iconst (z := 2) dX11_best_82 rfl ?_
  refine cb_X11_best_83 (by decide) (ic_X2_secondsOf (z := (mem 105 2)) (by decide) ⟨(by decide), (by decide)⟩ (by simp [up2, upr]) ?_)
  refine G_i2l dX11_best_86 (w3) ?_
  refine cb_X11_best_87 (ic_X11_tellMore (z := 2) (z2 := 3) (by simp [up2, upr]) (by decide) rfl ?_)
  refine G_iload_n dX11_best_90 rfl ?_
  exact G_iret dX11_best_91 rfl (Nat.zero_le _) (Nat.zero_le _) (Nat.le_refl _) ⟨rfl, k1⟩
set_option maxRecDepth 20000 in
set_option maxHeartbeats 8000000 in
theorem sg_X11_bin_0 {E : Nat × (Nat → Int32)} {P : Option Value → Mem → Prop} {mem : Mem} {a1 : Int} {a2 : Int} {a3 : Int} {a4 : Int} (q1 : 0 ≤ (mem 9 1) ∧ (mem 9 1) ≤ 6) (w2 : -2147483648 ≤ a1 ∧ a1 < 2147483648) (w3 : -2147483648 ≤ a2 ∧ a2 < 2147483648) (w4 : -2147483648 ≤ a3 ∧ a3 < 2147483648) (w5 : 0 ≤ a1 ∧ a1 < (mem 9 1) → ¬ a2 < 0 → ¬ 1 < a2 → ¬ a3 < 0 → -2147483648 ≤ (mem (11 + 2 * (a1).toNat) 3) ∧ (mem (11 + 2 * (a1).toNat) 3) < 2147483648) (w6 : -2147483648 ≤ a4 ∧ a4 < 2147483648) (q7 : 0 ≤ a1 ∧ a1 < (mem 9 1) → ¬ a2 < 0 → ¬ 1 < a2 → ¬ a3 < 0 → a3 < (mem (11 + 2 * (a1).toNat) 3) → a4 = 0 → 0 ≤ ((a2 * 8) + a3) ∧ ((a2 * 8) + a3) < 16) (q8 : 0 ≤ a1 ∧ a1 < (mem 9 1) → ¬ a2 < 0 → ¬ 1 < a2 → ¬ a3 < 0 → a3 < (mem (11 + 2 * (a1).toNat) 3) → ¬ a4 = 0 → a4 = 1 → 0 ≤ ((a2 * 8) + a3) ∧ ((a2 * 8) + a3) < 16) (w9 : 0 ≤ a1 ∧ a1 < (mem 9 1) → ¬ a2 < 0 → ¬ 1 < a2 → ¬ a3 < 0 → a3 < (mem (11 + 2 * (a1).toNat) 3) → ¬ a4 = 0 → ¬ a4 = 1 → ¬ a4 = 2 → a4 = 3 → -2147483648 ≤ (mem 4 1) ∧ (mem 4 1) < 2147483648)
    (k1 : 0 ≤ a1 ∧ a1 < (mem 9 1) → a2 < 0 → GM E (m_X11_bin 4) P 37 [.ref 0, vi a1, vi a2, vi a3, vi a4, .ref (11 + 2 * (a1).toNat), un] [] mem)
    (k2 : 0 ≤ a1 ∧ a1 < (mem 9 1) → ¬ a2 < 0 → 1 < a2 → GM E (m_X11_bin 4) P 37 [.ref 0, vi a1, vi a2, vi a3, vi a4, .ref (11 + 2 * (a1).toNat), un] [] mem)
    (k3 : 0 ≤ a1 ∧ a1 < (mem 9 1) → ¬ a2 < 0 → ¬ 1 < a2 → a3 < 0 → GM E (m_X11_bin 4) P 37 [.ref 0, vi a1, vi a2, vi a3, vi a4, .ref (11 + 2 * (a1).toNat), un] [] mem)
    (k4 : 0 ≤ a1 ∧ a1 < (mem 9 1) → ¬ a2 < 0 → ¬ 1 < a2 → ¬ a3 < 0 → a3 < (mem (11 + 2 * (a1).toNat) 3) → a4 = 0 → P (some (vi (mem ((11 + 2 * (a1).toNat) + 1) ((a2 * 8) + a3)))) mem)
    (k5 : 0 ≤ a1 ∧ a1 < (mem 9 1) → ¬ a2 < 0 → ¬ 1 < a2 → ¬ a3 < 0 → a3 < (mem (11 + 2 * (a1).toNat) 3) → ¬ a4 = 0 → a4 = 1 → P (some (vi (divI (((mem ((11 + 2 * (a1).toNat) + 1) ((a2 * 8) + a3)) * (mem 4 3)) * (10 + (mem 4 2))) 10))) mem)
    (k6 : 0 ≤ a1 ∧ a1 < (mem 9 1) → ¬ a2 < 0 → ¬ 1 < a2 → ¬ a3 < 0 → a3 < (mem (11 + 2 * (a1).toNat) 3) → ¬ a4 = 0 → ¬ a4 = 1 → a4 = 2 → GM E (m_X11_bin 4) P 126 [.ref 0, vi a1, vi a2, vi a3, vi a4, .ref (11 + 2 * (a1).toNat), vi ((a2 * 8) + a3)] [vi ((a2 * 8) + a3), vi a1, .ref 23] mem)
    (k7 : 0 ≤ a1 ∧ a1 < (mem 9 1) → ¬ a2 < 0 → ¬ 1 < a2 → ¬ a3 < 0 → a3 < (mem (11 + 2 * (a1).toNat) 3) → ¬ a4 = 0 → ¬ a4 = 1 → ¬ a4 = 2 → a4 = 3 → GM E (m_X11_bin 4) P 159 [.ref 0, vi a1, vi a2, vi a3, vi a4, .ref (11 + 2 * (a1).toNat), vi ((a2 * 8) + a3)] [vi 0, vi ((a2 * 8) + a3), .ref (11 + 2 * (a1).toNat), .ref 100] (up2 (up2 mem 100 7 (max 1 (mem 4 1))) 100 8 (mem (11 + 2 * (a1).toNat) 4)))
    (k8 : 0 ≤ a1 ∧ a1 < (mem 9 1) → ¬ a2 < 0 → ¬ 1 < a2 → ¬ a3 < 0 → a3 < (mem (11 + 2 * (a1).toNat) 3) → ¬ a4 = 0 → ¬ a4 = 1 → ¬ a4 = 2 → ¬ a4 = 3 → GM E (m_X11_bin 4) P 163 [.ref 0, vi a1, vi a2, vi a3, vi a4, .ref (11 + 2 * (a1).toNat), vi ((a2 * 8) + a3)] [] mem)
    (k9 : 0 ≤ a1 ∧ a1 < (mem 9 1) → ¬ a2 < 0 → ¬ 1 < a2 → ¬ a3 < 0 → ¬ a3 < (mem (11 + 2 * (a1).toNat) 3) → GM E (m_X11_bin 4) P 37 [.ref 0, vi a1, vi a2, vi a3, vi a4, .ref (11 + 2 * (a1).toNat), un] [] mem)
    (k10 : ¬ (0 ≤ a1 ∧ a1 < (mem 9 1)) → GM E (m_X11_bin 4) P 37 [.ref 0, vi a1, vi a2, vi a3, vi a4, .null, un] [] mem) :
    GM E (m_X11_bin 4) P 0 [.ref 0, vi a1, vi a2, vi a3, vi a4, un, un] [] mem := by
  refine G_aload_n dX11_bin_0 rfl ?_
  refine G_getR (t := 9) dX11_bin_1 fl_11_33 (by decide) sh_0 rr_0_3 ?_
  refine G_iload_n dX11_bin_4 rfl ?_
  refine cb_X11_bin_5 (ic_X10_at (z := (mem 9 1)) rfl (q1) (w2) (fun c1 => ?_) (fun c2 => ?_))
  · -- 0 ≤ a1 ∧ a1 < (mem 9 1)
    refine G_astore dX11_bin_8 (by decide : 5 < 7) rfl ?_
    refine G_aload dX11_bin_10 rfl ?_
    refine G_ifnull dX11_bin_12 ?_
    refine G_iload_n dX11_bin_15 rfl ?_
    refine G_if_lt (tgt := 37) dX11_bin_16 (by decide) (w3) (fun c3 => ?_) (fun c3 => ?_)
    · -- a2 < 0
      exact k1 c1 c3
    · -- ¬ a2 < 0
      refine G_iload_n dX11_bin_19 rfl ?_
      refine G_iconst (z := 1) dX11_bin_20 rfl ?_
      refine G_icmp_gt (tgt := 37) dX11_bin_21 (by decide) (w3) (by decide) (fun c4 => ?_) (fun c4 => ?_)
      · -- 1 < a2
        exact k2 c1 c3 c4
      · -- ¬ 1 < a2
        refine G_iload_n dX11_bin_24 rfl ?_
        refine G_if_lt (tgt := 37) dX11_bin_25 (by decide) (w4) (fun c5 => ?_) (fun c5 => ?_)
        · -- a3 < 0
          exact k3 c1 c3 c4 c5
        · -- ¬ a3 < 0
          refine G_iload_n dX11_bin_28 rfl ?_
          refine G_aload dX11_bin_29 rfl ?_
          refine G_getI (z := (mem (11 + 2 * (a1).toNat) 3)) dX11_bin_31 fl_11_149 (ltStreet0 (streetL_of c1.1 (Int.lt_of_lt_of_le c1.2 (q1).2))) (shStreet0 (streetL_of c1.1 (Int.lt_of_lt_of_le c1.2 (q1).2))) rfl ?_
          refine G_icmp_lt (tgt := 47) dX11_bin_34 (by decide) (w4) (w5 c1 c3 c4 c5) (fun c6 => ?_) (fun c6 => ?_)
          · -- a3 < (mem (11 + 2 * (a1).toNat) 3)
            refine G_iload_n dX11_bin_47 rfl ?_
            refine G_bipush (z := 8) dX11_bin_48 rfl ?_
            refine G_imul dX11_bin_50 ?_
            refine G_iload_n dX11_bin_51 rfl ?_
            refine G_iadd dX11_bin_52 ?_
            refine G_istore dX11_bin_53 (by decide : 6 < 7) rfl ?_
            refine G_iload dX11_bin_55 rfl ?_
            by_cases c7 : a4 = 0
            · refine G_tableIn (off := 31) (tgt := 88) dX11_bin_57 (w6) (by omega) (by omega) (by rw [c7]; rfl) (by decide) ?_
              refine G_aload dX11_bin_88 rfl ?_
              refine G_iload dX11_bin_90 rfl ?_
              refine cb_X11_bin_92 (streetL_of c1.1 (Int.lt_of_lt_of_le c1.2 (q1).2)) (ic_X8_weightAt (z := (mem ((11 + 2 * (a1).toNat) + 1) ((a2 * 8) + a3))) (streetL_of c1.1 (Int.lt_of_lt_of_le c1.2 (q1).2)) ⟨(q7 c1 c3 c4 c5 c6 c7).1, (q7 c1 c3 c4 c5 c6 c7).2⟩ rfl ?_)
              exact G_iret dX11_bin_95 rfl (Nat.zero_le _) (Nat.zero_le _) (Nat.le_refl _) ⟨rfl, k4 c1 c3 c4 c5 c6 c7⟩
            by_cases c8 : a4 = 1
            · refine G_tableIn (off := 39) (tgt := 96) dX11_bin_57 (w6) (by omega) (by omega) (by rw [c8]; rfl) (by decide) ?_
              refine G_aload_n dX11_bin_96 rfl ?_
              refine G_getR (t := 3) dX11_bin_97 fl_11_19 (by decide) sh_0 rr_0_1 ?_
              refine G_aload dX11_bin_100 rfl ?_
              refine G_iload dX11_bin_102 rfl ?_
              refine cb_X11_bin_104 (streetL_of c1.1 (Int.lt_of_lt_of_le c1.2 (q1).2)) (ic_X8_weightAt (z := (mem ((11 + 2 * (a1).toNat) + 1) ((a2 * 8) + a3))) (streetL_of c1.1 (Int.lt_of_lt_of_le c1.2 (q1).2)) ⟨(q8 c1 c3 c4 c5 c6 c7 c8).1, (q8 c1 c3 c4 c5 c6 c7 c8).2⟩ rfl ?_)
              refine G_aload_n dX11_bin_107 rfl ?_
              refine G_getR (t := 3) dX11_bin_108 fl_11_19 (by decide) sh_0 rr_0_1 ?_
              refine G_iconst (z := 2) dX11_bin_111 rfl ?_
              refine cb_X11_bin_112 (ic_X6_get (z := (mem 4 2)) (by decide) rfl ?_)
              refine cb_X11_bin_115 (ic_X6_heavy (z := (mem 4 3)) rfl ?_)
              exact G_iret dX11_bin_118 rfl (Nat.zero_le _) (Nat.zero_le _) (Nat.le_refl _) ⟨rfl, k5 c1 c3 c4 c5 c6 c7 c8⟩
            by_cases c9 : a4 = 2
            · refine G_tableIn (off := 62) (tgt := 119) dX11_bin_57 (w6) (by omega) (by omega) (by rw [c9]; rfl) (by decide) ?_
              refine G_aload_n dX11_bin_119 rfl ?_
              refine G_getR (t := 23) dX11_bin_120 fl_11_40 (by decide) sh_0 rr_0_4 ?_
              refine G_iload_n dX11_bin_123 rfl ?_
              refine G_iload dX11_bin_124 rfl ?_
              exact k6 c1 c3 c4 c5 c6 c7 c8 c9
            by_cases c10 : a4 = 3
            · refine G_tableIn (off := 73) (tgt := 130) dX11_bin_57 (w6) (by omega) (by omega) (by rw [c10]; rfl) (by decide) ?_
              refine G_aload_n dX11_bin_130 rfl ?_
              refine G_getR (t := 100) dX11_bin_131 fl_11_65 (by decide) sh_0 rr_0_7 ?_
              refine G_aload_n dX11_bin_134 rfl ?_
              refine G_getR (t := 3) dX11_bin_135 fl_11_19 (by decide) sh_0 rr_0_1 ?_
              refine G_iconst (z := 1) dX11_bin_138 rfl ?_
              refine cb_X11_bin_139 (ic_X6_get (z := (mem 4 1)) (by decide) rfl ?_)
              refine G_aload dX11_bin_142 rfl ?_
              refine G_getI (z := (mem (11 + 2 * (a1).toNat) 4)) dX11_bin_144 fl_11_152 (ltStreet0 (streetL_of c1.1 (Int.lt_of_lt_of_le c1.2 (q1).2))) (shStreet0 (streetL_of c1.1 (Int.lt_of_lt_of_le c1.2 (q1).2))) rfl ?_
              refine cb_X11_bin_147 (by decide) (ic_X2_think (by decide) (w9 c1 c3 c4 c5 c6 c7 c8 c9 c10) ?_)
              refine G_aload_n dX11_bin_150 rfl ?_
              refine G_getR (t := 100) dX11_bin_151 fl_11_65 (by decide) sh_0 rr_0_7 ?_
              refine G_aload dX11_bin_154 rfl ?_
              refine G_iload dX11_bin_156 rfl ?_
              refine G_iconst (z := 0) dX11_bin_158 rfl ?_
              exact k7 c1 c3 c4 c5 c6 c7 c8 c9 c10
            refine G_tableOut (tgt := 163) dX11_bin_57 (w6) (by omega) (by decide) ?_
            exact k8 c1 c3 c4 c5 c6 c7 c8 c9 c10
          · -- ¬ a3 < (mem (11 + 2 * (a1).toNat) 3)
            exact k9 c1 c3 c4 c5 c6
  · -- ¬ (0 ≤ a1 ∧ a1 < (mem 9 1))
    refine G_astoreNull dX11_bin_8 (by decide : 5 < 7) rfl ?_
    refine G_aloadNull dX11_bin_10 rfl ?_
    refine G_ifnullZ (tgt := 37) dX11_bin_12 (by decide) ?_
    exact k10 c2
set_option maxRecDepth 20000 in
set_option maxHeartbeats 8000000 in
theorem sg_X11_bin_129 {E : Nat × (Nat → Int32)} {P : Option Value → Mem → Prop} {mem : Mem} {a1 : Int} {a2 : Int} {a3 : Int} {a4 : Int} {o5 : Nat} {a6 : Int} {s0 : Int} (ho5 : o5 ∈ streetL)
    (k1 : P (some (vi s0)) mem) :
    GM E (m_X11_bin 4) P 129 [.ref 0, vi a1, vi a2, vi a3, vi a4, .ref o5, vi a6] [vi s0] mem := by
  exact G_iret dX11_bin_129 rfl (Nat.zero_le _) (Nat.zero_le _) (Nat.le_refl _) ⟨rfl, k1⟩
set_option maxRecDepth 20000 in
set_option maxHeartbeats 8000000 in
theorem sg_X11_bin_162 {E : Nat × (Nat → Int32)} {P : Option Value → Mem → Prop} {mem : Mem} {a1 : Int} {a2 : Int} {a3 : Int} {a4 : Int} {o5 : Nat} {a6 : Int} {s0 : Int} (ho5 : o5 ∈ streetL)
    (k1 : P (some (vi s0)) mem) :
    GM E (m_X11_bin 4) P 162 [.ref 0, vi a1, vi a2, vi a3, vi a4, .ref o5, vi a6] [vi s0] mem := by
  exact G_iret dX11_bin_162 rfl (Nat.zero_le _) (Nat.zero_le _) (Nat.le_refl _) ⟨rfl, k1⟩
set_option maxRecDepth 20000 in
set_option maxHeartbeats 8000000 in
theorem sg_X11_busiest_0 {E : Nat × (Nat → Int32)} {P : Option Value → Mem → Prop} {mem : Mem}
    (k1 : GM E (m_X11_busiest 7) P 1 [.ref 0, un, un, un] [.ref 0] mem) :
    GM E (m_X11_busiest 7) P 0 [.ref 0, un, un, un] [] mem := by
  refine G_aload_n dX11_busiest_0 rfl ?_
  exact k1
set_option maxRecDepth 20000 in
set_option maxHeartbeats 8000000 in
theorem sg_X11_busiest_4 {E : Nat × (Nat → Int32)} {P : Option Value → Mem → Prop} {mem : Mem}
    (k1 : GM E (m_X11_busiest 7) P 10 [.ref 0, vi 0, vi 0, vi 1] [] mem) :
    GM E (m_X11_busiest 7) P 4 [.ref 0, un, un, un] [] mem := by
  refine G_iconst (z := 0) dX11_busiest_4 rfl ?_
  refine G_istore_n dX11_busiest_5 rfl (by decide : 1 < 4) rfl ?_
  refine G_iconst (z := 0) dX11_busiest_6 rfl ?_
  refine G_istore_n dX11_busiest_7 rfl (by decide : 2 < 4) rfl ?_
  refine G_iconst (z := 1) dX11_busiest_8 rfl ?_
  refine G_istore_n dX11_busiest_9 rfl (by decide : 3 < 4) rfl ?_
  exact k1
set_option maxRecDepth 20000 in
set_option maxHeartbeats 8000000 in
theorem sg_X11_busiest_10 {E : Nat × (Nat → Int32)} {P : Option Value → Mem → Prop} {mem : Mem} {a1 : Int} {a2 : Int} {a3 : Int} (w1 : -2147483648 ≤ a3 ∧ a3 < 2147483648) (q2 : 7 ≤ a3 → 0 ≤ a1 ∧ a1 < 7) (w3 : 7 ≤ a3 → -2147483648 ≤ (mem 149 a1) ∧ (mem 149 a1) < 2147483648) (q4 : 7 ≤ a3 → 0 ≤ a2 ∧ a2 < 7) (w5 : 7 ≤ a3 → -2147483648 ≤ (mem 149 a2) ∧ (mem 149 a2) < 2147483648) (q6 : ¬ 7 ≤ a3 → 0 ≤ a3 ∧ a3 < 7) (q7 : ¬ 7 ≤ a3 → 0 ≤ a1 ∧ a1 < 7) (w8 : ¬ 7 ≤ a3 → -2147483648 ≤ (mem 149 a3) ∧ (mem 149 a3) < 2147483648) (w9 : ¬ 7 ≤ a3 → -2147483648 ≤ (mem 149 a1) ∧ (mem 149 a1) < 2147483648) (q10 : ¬ 7 ≤ a3 → 0 ≤ a2 ∧ a2 < 7) (w11 : ¬ 7 ≤ a3 → -2147483648 ≤ (mem 149 a2) ∧ (mem 149 a2) < 2147483648)
    (k1 : 7 ≤ a3 → P (some (vi a1)) (up2 (up2 (up2 (up2 (up2 mem 0 14 0) 168 0 (mem 149 a1)) 0 14 1) 168 1 (mem 149 a2)) 0 14 2))
    (k2 : ¬ 7 ≤ a3 → GM E (m_X11_busiest 7) P 10 [.ref 0, vi (if (mem 149 a3) ≤ (mem 149 a1) then a1 else a3), vi (if (mem 149 a2) ≤ (mem 149 a3) then a2 else a3), vi (a3 + 1)] [] mem) :
    GM E (m_X11_busiest 7) P 10 [.ref 0, vi a1, vi a2, vi a3] [] mem := by
  refine G_iload_n dX11_busiest_10 rfl ?_
  refine G_bipush (z := 7) dX11_busiest_11 rfl ?_
  refine G_icmp_ge (tgt := 64) dX11_busiest_13 (by decide) (w1) (by decide) (fun c1 => ?_) (fun c1 => ?_)
  · -- 7 ≤ a3
    refine G_aload_n dX11_busiest_64 rfl ?_
    refine G_aload_n dX11_busiest_65 rfl ?_
    refine G_getR (t := 147) dX11_busiest_66 fl_11_83 (by decide) sh_0 rr_0_9 ?_
    refine G_iload_n dX11_busiest_69 rfl ?_
    refine cb_X11_busiest_70 (ic_X0_secondsOn (z := (mem 149 a1)) ⟨(q2 c1).1, (q2 c1).2⟩ rfl ?_)
    refine G_i2l dX11_busiest_73 (w3 c1) ?_
    refine cb_X11_busiest_74 (ic_X11_tell ?_)
    refine G_aload_n dX11_busiest_77 rfl ?_
    refine G_aload_n dX11_busiest_78 rfl ?_
    refine G_getR (t := 147) dX11_busiest_79 fl_11_83 (by decide) sh_0 rr_0_9 ?_
    refine G_iload_n dX11_busiest_82 rfl ?_
    refine cb_X11_busiest_83 (ic_X0_secondsOn (z := (mem 149 a2)) ⟨(q4 c1).1, (q4 c1).2⟩ (by simp [up2, upr]) ?_)
    refine G_i2l dX11_busiest_86 (w5 c1) ?_
    refine cb_X11_busiest_87 (ic_X11_tellMore (z := 1) (z2 := 2) (by simp [up2, upr]) (by decide) rfl ?_)
    refine G_iload_n dX11_busiest_90 rfl ?_
    exact G_iret dX11_busiest_91 rfl (Nat.zero_le _) (Nat.zero_le _) (Nat.le_refl _) ⟨rfl, k1 c1⟩
  · -- ¬ 7 ≤ a3
    refine G_aload_n dX11_busiest_16 rfl ?_
    refine G_getR (t := 147) dX11_busiest_17 fl_11_83 (by decide) sh_0 rr_0_9 ?_
    refine G_iload_n dX11_busiest_20 rfl ?_
    refine cb_X11_busiest_21 (ic_X0_secondsOn (z := (mem 149 a3)) ⟨(q6 c1).1, (q6 c1).2⟩ rfl ?_)
    refine G_aload_n dX11_busiest_24 rfl ?_
    refine G_getR (t := 147) dX11_busiest_25 fl_11_83 (by decide) sh_0 rr_0_9 ?_
    refine G_iload_n dX11_busiest_28 rfl ?_
    refine cb_X11_busiest_29 (ic_X0_secondsOn (z := (mem 149 a1)) ⟨(q7 c1).1, (q7 c1).2⟩ rfl ?_)
    have j1 : GM E (m_X11_busiest 7) P 37 [.ref 0, vi (if (mem 149 a3) ≤ (mem 149 a1) then a1 else a3), vi a2, vi a3] [] mem := by
      refine G_aload_n dX11_busiest_37 rfl ?_
      refine G_getR (t := 147) dX11_busiest_38 fl_11_83 (by decide) sh_0 rr_0_9 ?_
      refine G_iload_n dX11_busiest_41 rfl ?_
      refine cb_X11_busiest_42 (ic_X0_secondsOn (z := (mem 149 a3)) ⟨(q6 c1).1, (q6 c1).2⟩ rfl ?_)
      refine G_aload_n dX11_busiest_45 rfl ?_
      refine G_getR (t := 147) dX11_busiest_46 fl_11_83 (by decide) sh_0 rr_0_9 ?_
      refine G_iload_n dX11_busiest_49 rfl ?_
      refine cb_X11_busiest_50 (ic_X0_secondsOn (z := (mem 149 a2)) ⟨(q10 c1).1, (q10 c1).2⟩ rfl ?_)
      have j2 : GM E (m_X11_busiest 7) P 58 [.ref 0, vi (if (mem 149 a3) ≤ (mem 149 a1) then a1 else a3), vi (if (mem 149 a2) ≤ (mem 149 a3) then a2 else a3), vi a3] [] mem := by
        refine G_iinc (z := (a3 + 1)) dX11_busiest_58 rfl rfl (by decide : 3 < 4) rfl ?_
        refine G_goto (tgt := 10) dX11_busiest_61 (by decide) ?_
        exact k2 c1
      refine G_icmp_ge (tgt := 58) dX11_busiest_53 (by decide) (w8 c1) (w11 c1) (fun c3 => ?_) (fun c3 => ?_)
      · -- (mem 149 a2) ≤ (mem 149 a3)
        have qj2 := j2
        simp only [if_pos c3] at qj2
        exact qj2
      · -- ¬ (mem 149 a2) ≤ (mem 149 a3)
        refine G_iload_n dX11_busiest_56 rfl ?_
        refine G_istore_n dX11_busiest_57 rfl (by decide : 2 < 4) rfl ?_
        have qj2 := j2
        simp only [if_neg c3] at qj2
        exact qj2
    refine G_icmp_le (tgt := 37) dX11_busiest_32 (by decide) (w8 c1) (w9 c1) (fun c2 => ?_) (fun c2 => ?_)
    · -- (mem 149 a3) ≤ (mem 149 a1)
      have qj1 := j1
      simp only [if_pos c2] at qj1
      exact qj1
    · -- ¬ (mem 149 a3) ≤ (mem 149 a1)
      refine G_iload_n dX11_busiest_35 rfl ?_
      refine G_istore_n dX11_busiest_36 rfl (by decide : 1 < 4) rfl ?_
      have qj1 := j1
      simp only [if_neg c2] at qj1
      exact qj1
set_option maxRecDepth 20000 in
set_option maxHeartbeats 8000000 in
theorem sg_X11_care_0 {E : Nat × (Nat → Int32)} {P : Option Value → Mem → Prop} {mem : Mem} {a1 : Int} {a2 : Int} (q1 : 0 ≤ (mem 9 1) ∧ (mem 9 1) ≤ 6) (w2 : -2147483648 ≤ a1 ∧ a1 < 2147483648) (w3 : -2147483648 ≤ a2 ∧ a2 < 2147483648) (q4 : 0 ≤ a1 ∧ a1 < (mem 9 1) → ¬ a2 < 0 → a2 ≤ 100 → 0 ≤ a1 ∧ a1 < 6)
    (k1 : 0 ≤ a1 ∧ a1 < (mem 9 1) → a2 < 0 → P (some (vi (-1))) mem)
    (k2 : 0 ≤ a1 ∧ a1 < (mem 9 1) → ¬ a2 < 0 → a2 ≤ 100 → GM E (m_X11_care 1) P 31 [.ref 0, vi a1, vi a2, un, un] [vi (mem 24 a1)] mem)
    (k3 : 0 ≤ a1 ∧ a1 < (mem 9 1) → ¬ a2 < 0 → ¬ a2 ≤ 100 → P (some (vi (-1))) mem)
    (k4 : ¬ (0 ≤ a1 ∧ a1 < (mem 9 1)) → P (some (vi (-1))) mem) :
    GM E (m_X11_care 1) P 0 [.ref 0, vi a1, vi a2, un, un] [] mem := by
  refine G_aload_n dX11_care_0 rfl ?_
  refine G_getR (t := 9) dX11_care_1 fl_11_33 (by decide) sh_0 rr_0_3 ?_
  refine G_iload_n dX11_care_4 rfl ?_
  refine cb_X11_care_5 (ic_X10_at (z := (mem 9 1)) rfl (q1) (w2) (fun c1 => ?_) (fun c2 => ?_))
  · -- 0 ≤ a1 ∧ a1 < (mem 9 1)
    refine G_ifnull dX11_care_8 ?_
    refine G_iload_n dX11_care_11 rfl ?_
    refine G_if_lt (tgt := 21) dX11_care_12 (by decide) (w3) (fun c3 => ?_) (fun c3 => ?_)
    · -- a2 < 0
      refine G_iconst (z := (-1)) dX11_care_21 rfl ?_
      exact G_iret dX11_care_22 rfl (Nat.zero_le _) (Nat.zero_le _) (Nat.le_refl _) ⟨rfl, k1 c1 c3⟩
    · -- ¬ a2 < 0
      refine G_iload_n dX11_care_15 rfl ?_
      refine G_bipush (z := 100) dX11_care_16 rfl ?_
      refine G_icmp_le (tgt := 23) dX11_care_18 (by decide) (w3) (by decide) (fun c4 => ?_) (fun c4 => ?_)
      · -- a2 ≤ 100
        refine G_aload_n dX11_care_23 rfl ?_
        refine G_getR (t := 23) dX11_care_24 fl_11_40 (by decide) sh_0 rr_0_4 ?_
        refine G_iload_n dX11_care_27 rfl ?_
        refine cb_X11_care_28 (by decide) (ic_X7_outOf (z := (mem 24 a1)) (by decide) ⟨(q4 c1 c3 c4).1, (q4 c1 c3 c4).2⟩ rfl ?_)
        exact k2 c1 c3 c4
      · -- ¬ a2 ≤ 100
        refine G_iconst (z := (-1)) dX11_care_21 rfl ?_
        exact G_iret dX11_care_22 rfl (Nat.zero_le _) (Nat.zero_le _) (Nat.le_refl _) ⟨rfl, k3 c1 c3 c4⟩
  · -- ¬ (0 ≤ a1 ∧ a1 < (mem 9 1))
    refine G_ifnullZ (tgt := 21) dX11_care_8 (by decide) ?_
    refine G_iconst (z := (-1)) dX11_care_21 rfl ?_
    exact G_iret dX11_care_22 rfl (Nat.zero_le _) (Nat.zero_le _) (Nat.le_refl _) ⟨rfl, k4 c2⟩
set_option maxRecDepth 20000 in
set_option maxHeartbeats 8000000 in
theorem sg_X11_care_34 {E : Nat × (Nat → Int32)} {P : Option Value → Mem → Prop} {mem : Mem} {a1 : Int} {a2 : Int} {s0 : Int}
    (k1 : GM E (m_X11_care 1) P 38 [.ref 0, vi a1, vi a2, vi s0, vi 0] [] mem) :
    GM E (m_X11_care 1) P 34 [.ref 0, vi a1, vi a2, un, un] [vi s0] mem := by
  refine G_istore_n dX11_care_34 rfl (by decide : 3 < 5) rfl ?_
  refine G_iconst (z := 0) dX11_care_35 rfl ?_
  refine G_istore dX11_care_36 (by decide : 4 < 5) rfl ?_
  exact k1
set_option maxRecDepth 20000 in
set_option maxHeartbeats 8000000 in
theorem sg_X11_care_38 {E : Nat × (Nat → Int32)} {P : Option Value → Mem → Prop} {mem : Mem} {a1 : Int} {a2 : Int} {a3 : Int} {a4 : Int} (w1 : -2147483648 ≤ a4 ∧ a4 < 2147483648)
    (k1 : 10 ≤ a4 → P (some (vi 10)) mem)
    (k2 : ¬ 10 ≤ a4 → GM E (m_X11_care 1) P 48 [.ref 0, vi a1, vi a2, vi a3, vi a4] [vi a3, vi a4] mem) :
    GM E (m_X11_care 1) P 38 [.ref 0, vi a1, vi a2, vi a3, vi a4] [] mem := by
  refine G_iload dX11_care_38 rfl ?_
  refine G_bipush (z := 10) dX11_care_40 rfl ?_
  refine G_icmp_ge (tgt := 77) dX11_care_42 (by decide) (w1) (by decide) (fun c1 => ?_) (fun c1 => ?_)
  · -- 10 ≤ a4
    refine G_bipush (z := 10) dX11_care_77 rfl ?_
    exact G_iret dX11_care_79 rfl (Nat.zero_le _) (Nat.zero_le _) (Nat.le_refl _) ⟨rfl, k1 c1⟩
  · -- ¬ 10 ≤ a4
    refine G_iload dX11_care_45 rfl ?_
    refine G_iload_n dX11_care_47 rfl ?_
    exact k2 c1
set_option maxRecDepth 20000 in
set_option maxHeartbeats 8000000 in
theorem sg_X11_care_51 {E : Nat × (Nat → Int32)} {P : Option Value → Mem → Prop} {mem : Mem} {a1 : Int} {a2 : Int} {a3 : Int} {a4 : Int} {s0 : Int}
    (k1 : GM E (m_X11_care 1) P 58 [.ref 0, vi a1, vi a2, vi a3, vi a4] [vi a3, vi 10, vl (s0 * 100)] mem) :
    GM E (m_X11_care 1) P 51 [.ref 0, vi a1, vi a2, vi a3, vi a4] [vl s0] mem := by
  refine G_ldc2 (z := 100) dX11_care_51 kc_11_443 ?_
  refine G_lmul dX11_care_54 ?_
  refine G_bipush (z := 10) dX11_care_55 rfl ?_
  refine G_iload_n dX11_care_57 rfl ?_
  exact k1
set_option maxRecDepth 20000 in
set_option maxHeartbeats 8000000 in
theorem sg_X11_care_61 {E : Nat × (Nat → Int32)} {P : Option Value → Mem → Prop} {mem : Mem} {a1 : Int} {a2 : Int} {a3 : Int} {a4 : Int} {s0 : Int} {s1 : Int} (w1 : -2147483648 ≤ a2 ∧ a2 < 2147483648) (w2 : -9223372036854775808 ≤ s1 ∧ s1 < 9223372036854775808) (w3 : -9223372036854775808 ≤ (s0 * a2) ∧ (s0 * a2) < 9223372036854775808)
    (k1 : s1 < (s0 * a2) → GM E (m_X11_care 1) P 38 [.ref 0, vi a1, vi a2, vi a3, vi (a4 + 1)] [] mem)
    (k2 : ¬ s1 < (s0 * a2) → P (some (vi a4)) mem) :
    GM E (m_X11_care 1) P 61 [.ref 0, vi a1, vi a2, vi a3, vi a4] [vl s0, vl s1] mem := by
  refine G_iload_n dX11_care_61 rfl ?_
  refine G_i2l dX11_care_62 (w1) ?_
  refine G_lmul dX11_care_63 ?_
  refine G_lcmp_lt (tgt := 71) dX11_care_64 dX11_care_65 (by decide) (w2) (w3) (fun c1 => ?_) (fun c1 => ?_)
  · -- s1 < (s0 * a2)
    refine G_iinc (z := (a4 + 1)) dX11_care_71 rfl rfl (by decide : 4 < 5) rfl ?_
    refine G_goto (tgt := 38) dX11_care_74 (by decide) ?_
    exact k1 c1
  · -- ¬ s1 < (s0 * a2)
    refine G_iload dX11_care_68 rfl ?_
    exact G_iret dX11_care_70 rfl (Nat.zero_le _) (Nat.zero_le _) (Nat.le_refl _) ⟨rfl, k2 c1⟩
set_option maxRecDepth 20000 in
set_option maxHeartbeats 8000000 in
theorem sg_X11_commonDivisor_0 {E : Nat × (Nat → Int32)} {P : Option Value → Mem → Prop} {mem : Mem} {a0 : Int} {a2 : Int}
    (k1 : GM E (m_X11_commonDivisor 0) P 9 [vl a0, un, vl a2, un, vl a0, un, vl a2, un, vi 0, un, un] [] mem) :
    GM E (m_X11_commonDivisor 0) P 0 [vl a0, un, vl a2, un, un, un, un, un, un, un, un] [] mem := by
  refine G_lload_n dX11_commonDivisor_0 rfl ?_
  refine G_lstore dX11_commonDivisor_1 (by decide : 4 + 1 < 11) rfl ?_
  refine G_lload_n dX11_commonDivisor_3 rfl ?_
  refine G_lstore dX11_commonDivisor_4 (by decide : 6 + 1 < 11) rfl ?_
  refine G_iconst (z := 0) dX11_commonDivisor_6 rfl ?_
  refine G_istore dX11_commonDivisor_7 (by decide : 8 < 11) rfl ?_
  exact k1
set_option maxRecDepth 20000 in
set_option maxHeartbeats 8000000 in
theorem sg_X11_commonDivisor_9 {E : Nat × (Nat → Int32)} {P : Option Value → Mem → Prop} {mem : Mem} {a0 : Int} {a2 : Int} {a4 : Int} {a6 : Int} {a8 : Int} (w1 : -2147483648 ≤ a8 ∧ a8 < 2147483648) (w2 : -9223372036854775808 ≤ a6 ∧ a6 < 9223372036854775808) (z3 : ¬ 100 ≤ a8 → ¬ a6 = 0 → a6 ≠ 0)
    (k1 : 100 ≤ a8 → P (some (vl a4)) mem)
    (k2 : ¬ 100 ≤ a8 → a6 = 0 → P (some (vl a4)) mem)
    (k3 : ¬ 100 ≤ a8 → ¬ a6 = 0 → GM E (m_X11_commonDivisor 0) P 9 [vl a0, un, vl a2, un, vl a6, un, vl (remL a4 a6), un, vi (a8 + 1), un, un] [] mem) :
    GM E (m_X11_commonDivisor 0) P 9 [vl a0, un, vl a2, un, vl a4, un, vl a6, un, vi a8, un, un] [] mem := by
  refine G_iload dX11_commonDivisor_9 rfl ?_
  refine G_bipush (z := 100) dX11_commonDivisor_11 rfl ?_
  refine G_icmp_ge (tgt := 44) dX11_commonDivisor_13 (by decide) (w1) (by decide) (fun c1 => ?_) (fun c1 => ?_)
  · -- 100 ≤ a8
    refine G_lload dX11_commonDivisor_44 rfl ?_
    exact G_lret dX11_commonDivisor_46 rfl (Nat.zero_le _) (Nat.zero_le _) (Nat.le_refl _) ⟨rfl, k1 c1⟩
  · -- ¬ 100 ≤ a8
    refine G_lload dX11_commonDivisor_16 rfl ?_
    refine G_lconst (z := 0) dX11_commonDivisor_18 rfl ?_
    refine G_lcmp_eq (tgt := 44) dX11_commonDivisor_19 dX11_commonDivisor_20 (by decide) (w2) (by decide) (fun c2 => ?_) (fun c2 => ?_)
    · -- a6 = 0
      refine G_lload dX11_commonDivisor_44 rfl ?_
      exact G_lret dX11_commonDivisor_46 rfl (Nat.zero_le _) (Nat.zero_le _) (Nat.le_refl _) ⟨rfl, k2 c1 c2⟩
    · -- ¬ a6 = 0
      refine G_lload dX11_commonDivisor_23 rfl ?_
      refine G_lload dX11_commonDivisor_25 rfl ?_
      refine G_lrem (z := (remL a4 a6)) dX11_commonDivisor_27 (iL_ne0 (w2) (z3 c1 c2)) (iL_inv _) ?_
      refine G_lstore dX11_commonDivisor_28 (by decide : 9 + 1 < 11) rfl ?_
      refine G_lload dX11_commonDivisor_30 rfl ?_
      refine G_lstore dX11_commonDivisor_32 (by decide : 4 + 1 < 11) rfl ?_
      refine G_lload dX11_commonDivisor_34 rfl ?_
      refine G_lstore dX11_commonDivisor_36 (by decide : 6 + 1 < 11) rfl ?_
      refine G_iinc (z := (a8 + 1)) dX11_commonDivisor_38 rfl rfl (by decide : 8 < 11) rfl ?_
      refine G_goto (tgt := 9) dX11_commonDivisor_41 (by decide) ?_
      refine G_weak (lv2 := [vl a0, un, vl a2, un, vl a6, un, vl (remL a4 a6), un, vi (a8 + 1), un, un]) ⟨Or.inr rfl, Or.inr rfl, Or.inr rfl, Or.inr rfl, Or.inr rfl, Or.inr rfl, Or.inr rfl, Or.inr rfl, Or.inr rfl, Or.inl rfl, Or.inr rfl, trivial⟩ ?_
      exact k3 c1 c2
set_option maxRecDepth 20000 in
set_option maxHeartbeats 8000000 in
theorem sg_X11_count_0 {E : Nat × (Nat → Int32)} {P : Option Value → Mem → Prop} {mem : Mem} {a1 : Int} (w1 : -2147483648 ≤ a1 ∧ a1 < 2147483648)
    (k1 : a1 = 0 → P (some (vi (mem 9 1))) mem)
    (k2 : ¬ a1 = 0 → a1 = 1 → P (some (vi (mem 23 4))) mem)
    (k3 : ¬ a1 = 0 → ¬ a1 = 1 → a1 = 2 → P (some (vi (mem 23 3))) mem)
    (k4 : ¬ a1 = 0 → ¬ a1 = 1 → ¬ a1 = 2 → a1 = 3 → P (some (vi (mem 23 5))) mem)
    (k5 : ¬ a1 = 0 → ¬ a1 = 1 → ¬ a1 = 2 → ¬ a1 = 3 → a1 = 4 → GM E (m_X11_count 2) P 101 [.ref 0, vi a1] [vi 1, .ref 23] mem)
    (k6 : ¬ a1 = 0 → ¬ a1 = 1 → ¬ a1 = 2 → ¬ a1 = 3 → ¬ a1 = 4 → a1 = 5 → GM E (m_X11_count 2) P 110 [.ref 0, vi a1] [vi 2, .ref 23] mem)
    (k7 : ¬ a1 = 0 → ¬ a1 = 1 → ¬ a1 = 2 → ¬ a1 = 3 → ¬ a1 = 4 → ¬ a1 = 5 → a1 = 6 → GM E (m_X11_count 2) P 119 [.ref 0, vi a1] [vi 3, .ref 23] mem)
    (k8 : ¬ a1 = 0 → ¬ a1 = 1 → ¬ a1 = 2 → ¬ a1 = 3 → ¬ a1 = 4 → ¬ a1 = 5 → ¬ a1 = 6 → a1 = 7 → P (some (vi (mem 93 4))) mem)
    (k9 : ¬ a1 = 0 → ¬ a1 = 1 → ¬ a1 = 2 → ¬ a1 = 3 → ¬ a1 = 4 → ¬ a1 = 5 → ¬ a1 = 6 → ¬ a1 = 7 → a1 = 8 → P (some (vi (mem 27 2))) mem)
    (k10 : ¬ a1 = 0 → ¬ a1 = 1 → ¬ a1 = 2 → ¬ a1 = 3 → ¬ a1 = 4 → ¬ a1 = 5 → ¬ a1 = 6 → ¬ a1 = 7 → ¬ a1 = 8 → a1 = 9 → P (some (vi (mem 0 14))) mem)
    (k11 : ¬ a1 = 0 → ¬ a1 = 1 → ¬ a1 = 2 → ¬ a1 = 3 → ¬ a1 = 4 → ¬ a1 = 5 → ¬ a1 = 6 → ¬ a1 = 7 → ¬ a1 = 8 → ¬ a1 = 9 → a1 = 10 → P (some (vi (mem 1 1))) mem)
    (k12 : ¬ a1 = 0 → ¬ a1 = 1 → ¬ a1 = 2 → ¬ a1 = 3 → ¬ a1 = 4 → ¬ a1 = 5 → ¬ a1 = 6 → ¬ a1 = 7 → ¬ a1 = 8 → ¬ a1 = 9 → ¬ a1 = 10 → a1 = 11 → P (some (vi (mem 4 0))) mem)
    (k13 : ¬ a1 = 0 → ¬ a1 = 1 → ¬ a1 = 2 → ¬ a1 = 3 → ¬ a1 = 4 → ¬ a1 = 5 → ¬ a1 = 6 → ¬ a1 = 7 → ¬ a1 = 8 → ¬ a1 = 9 → ¬ a1 = 10 → ¬ a1 = 11 → P (some (vi (-100))) mem) :
    GM E (m_X11_count 2) P 0 [.ref 0, vi a1] [] mem := by
  refine G_iload_n dX11_count_0 rfl ?_
  by_cases c1 : a1 = 0
  · refine G_tableIn (off := 63) (tgt := 64) dX11_count_1 (w1) (by omega) (by omega) (by rw [c1]; rfl) (by decide) ?_
    refine G_aload_n dX11_count_64 rfl ?_
    refine G_getR (t := 9) dX11_count_65 fl_11_33 (by decide) sh_0 rr_0_3 ?_
    refine G_getI (z := (mem 9 1)) dX11_count_68 fl_11_113 (by decide) sh_9 rfl ?_
    exact G_iret dX11_count_71 rfl (Nat.zero_le _) (Nat.zero_le _) (Nat.le_refl _) ⟨rfl, k1 c1⟩
  by_cases c2 : a1 = 1
  · refine G_tableIn (off := 71) (tgt := 72) dX11_count_1 (w1) (by omega) (by omega) (by rw [c2]; rfl) (by decide) ?_
    refine G_aload_n dX11_count_72 rfl ?_
    refine G_getR (t := 23) dX11_count_73 fl_11_40 (by decide) sh_0 rr_0_4 ?_
    refine G_getI (z := (mem 23 4)) dX11_count_76 fl_11_252 (by decide) sh_23 rfl ?_
    exact G_iret dX11_count_79 rfl (Nat.zero_le _) (Nat.zero_le _) (Nat.le_refl _) ⟨rfl, k2 c1 c2⟩
  by_cases c3 : a1 = 2
  · refine G_tableIn (off := 79) (tgt := 80) dX11_count_1 (w1) (by omega) (by omega) (by rw [c3]; rfl) (by decide) ?_
    refine G_aload_n dX11_count_80 rfl ?_
    refine G_getR (t := 23) dX11_count_81 fl_11_40 (by decide) sh_0 rr_0_4 ?_
    refine G_getI (z := (mem 23 3)) dX11_count_84 fl_11_203 (by decide) sh_23 rfl ?_
    exact G_iret dX11_count_87 rfl (Nat.zero_le _) (Nat.zero_le _) (Nat.le_refl _) ⟨rfl, k3 c1 c2 c3⟩
  by_cases c4 : a1 = 3
  · refine G_tableIn (off := 87) (tgt := 88) dX11_count_1 (w1) (by omega) (by omega) (by rw [c4]; rfl) (by decide) ?_
    refine G_aload_n dX11_count_88 rfl ?_
    refine G_getR (t := 23) dX11_count_89 fl_11_40 (by decide) sh_0 rr_0_4 ?_
    refine G_getI (z := (mem 23 5)) dX11_count_92 fl_11_253 (by decide) sh_23 rfl ?_
    exact G_iret dX11_count_95 rfl (Nat.zero_le _) (Nat.zero_le _) (Nat.le_refl _) ⟨rfl, k4 c1 c2 c3 c4⟩
  by_cases c5 : a1 = 4
  · refine G_tableIn (off := 95) (tgt := 96) dX11_count_1 (w1) (by omega) (by omega) (by rw [c5]; rfl) (by decide) ?_
    refine G_aload_n dX11_count_96 rfl ?_
    refine G_getR (t := 23) dX11_count_97 fl_11_40 (by decide) sh_0 rr_0_4 ?_
    refine G_iconst (z := 1) dX11_count_100 rfl ?_
    exact k5 c1 c2 c3 c4 c5
  by_cases c6 : a1 = 5
  · refine G_tableIn (off := 104) (tgt := 105) dX11_count_1 (w1) (by omega) (by omega) (by rw [c6]; rfl) (by decide) ?_
    refine G_aload_n dX11_count_105 rfl ?_
    refine G_getR (t := 23) dX11_count_106 fl_11_40 (by decide) sh_0 rr_0_4 ?_
    refine G_iconst (z := 2) dX11_count_109 rfl ?_
    exact k6 c1 c2 c3 c4 c5 c6
  by_cases c7 : a1 = 6
  · refine G_tableIn (off := 113) (tgt := 114) dX11_count_1 (w1) (by omega) (by omega) (by rw [c7]; rfl) (by decide) ?_
    refine G_aload_n dX11_count_114 rfl ?_
    refine G_getR (t := 23) dX11_count_115 fl_11_40 (by decide) sh_0 rr_0_4 ?_
    refine G_iconst (z := 3) dX11_count_118 rfl ?_
    exact k7 c1 c2 c3 c4 c5 c6 c7
  by_cases c8 : a1 = 7
  · refine G_tableIn (off := 122) (tgt := 123) dX11_count_1 (w1) (by omega) (by omega) (by rw [c8]; rfl) (by decide) ?_
    refine G_aload_n dX11_count_123 rfl ?_
    refine G_getR (t := 93) dX11_count_124 fl_11_56 (by decide) sh_0 rr_0_6 ?_
    refine G_getI (z := (mem 93 4)) dX11_count_127 fl_11_422 (by decide) sh_93 rfl ?_
    exact G_iret dX11_count_130 rfl (Nat.zero_le _) (Nat.zero_le _) (Nat.le_refl _) ⟨rfl, k8 c1 c2 c3 c4 c5 c6 c7 c8⟩
  by_cases c9 : a1 = 8
  · refine G_tableIn (off := 130) (tgt := 131) dX11_count_1 (w1) (by omega) (by omega) (by rw [c9]; rfl) (by decide) ?_
    refine G_aload_n dX11_count_131 rfl ?_
    refine G_getR (t := 27) dX11_count_132 fl_11_47 (by decide) sh_0 rr_0_5 ?_
    refine G_getI (z := (mem 27 2)) dX11_count_135 fl_11_272 (by decide) sh_27 rfl ?_
    exact G_iret dX11_count_138 rfl (Nat.zero_le _) (Nat.zero_le _) (Nat.le_refl _) ⟨rfl, k9 c1 c2 c3 c4 c5 c6 c7 c8 c9⟩
  by_cases c10 : a1 = 9
  · refine G_tableIn (off := 138) (tgt := 139) dX11_count_1 (w1) (by omega) (by omega) (by rw [c10]; rfl) (by decide) ?_
    refine G_aload_n dX11_count_139 rfl ?_
    refine G_getI (z := (mem 0 14)) dX11_count_140 fl_11_465 (by decide) sh_0 rfl ?_
    exact G_iret dX11_count_143 rfl (Nat.zero_le _) (Nat.zero_le _) (Nat.le_refl _) ⟨rfl, k10 c1 c2 c3 c4 c5 c6 c7 c8 c9 c10⟩
  by_cases c11 : a1 = 10
  · refine G_tableIn (off := 143) (tgt := 144) dX11_count_1 (w1) (by omega) (by omega) (by rw [c11]; rfl) (by decide) ?_
    refine G_aload_n dX11_count_144 rfl ?_
    refine G_getR (t := 1) dX11_count_145 fl_11_12 (by decide) sh_0 rr_0_0 ?_
    refine G_getI (z := (mem 1 1)) dX11_count_148 fl_11_106 (by decide) sh_1 rfl ?_
    exact G_iret dX11_count_151 rfl (Nat.zero_le _) (Nat.zero_le _) (Nat.le_refl _) ⟨rfl, k11 c1 c2 c3 c4 c5 c6 c7 c8 c9 c10 c11⟩
  by_cases c12 : a1 = 11
  · refine G_tableIn (off := 151) (tgt := 152) dX11_count_1 (w1) (by omega) (by omega) (by rw [c12]; rfl) (by decide) ?_
    refine G_aload_n dX11_count_152 rfl ?_
    refine G_getR (t := 3) dX11_count_153 fl_11_19 (by decide) sh_0 rr_0_1 ?_
    refine G_iconst (z := 0) dX11_count_156 rfl ?_
    refine cb_X11_count_157 (ic_X6_get (z := (mem 4 0)) (by decide) rfl ?_)
    exact G_iret dX11_count_160 rfl (Nat.zero_le _) (Nat.zero_le _) (Nat.le_refl _) ⟨rfl, k12 c1 c2 c3 c4 c5 c6 c7 c8 c9 c10 c11 c12⟩
  refine G_tableOut (tgt := 161) dX11_count_1 (w1) (by omega) (by decide) ?_
  refine G_bipush (z := (-100)) dX11_count_161 rfl ?_
  exact G_iret dX11_count_163 rfl (Nat.zero_le _) (Nat.zero_le _) (Nat.le_refl _) ⟨rfl, k13 c1 c2 c3 c4 c5 c6 c7 c8 c9 c10 c11 c12⟩
set_option maxRecDepth 20000 in
set_option maxHeartbeats 8000000 in
theorem sg_X11_count_104 {E : Nat × (Nat → Int32)} {P : Option Value → Mem → Prop} {mem : Mem} {a1 : Int} {s0 : Int}
    (k1 : P (some (vi s0)) mem) :
    GM E (m_X11_count 2) P 104 [.ref 0, vi a1] [vi s0] mem := by
  exact G_iret dX11_count_104 rfl (Nat.zero_le _) (Nat.zero_le _) (Nat.le_refl _) ⟨rfl, k1⟩
set_option maxRecDepth 20000 in
set_option maxHeartbeats 8000000 in
theorem sg_X11_count_113 {E : Nat × (Nat → Int32)} {P : Option Value → Mem → Prop} {mem : Mem} {a1 : Int} {s0 : Int}
    (k1 : P (some (vi s0)) mem) :
    GM E (m_X11_count 2) P 113 [.ref 0, vi a1] [vi s0] mem := by
  exact G_iret dX11_count_113 rfl (Nat.zero_le _) (Nat.zero_le _) (Nat.le_refl _) ⟨rfl, k1⟩
set_option maxRecDepth 20000 in
set_option maxHeartbeats 8000000 in
theorem sg_X11_count_122 {E : Nat × (Nat → Int32)} {P : Option Value → Mem → Prop} {mem : Mem} {a1 : Int} {s0 : Int}
    (k1 : P (some (vi s0)) mem) :
    GM E (m_X11_count 2) P 122 [.ref 0, vi a1] [vi s0] mem := by
  exact G_iret dX11_count_122 rfl (Nat.zero_le _) (Nat.zero_le _) (Nat.le_refl _) ⟨rfl, k1⟩
set_option maxRecDepth 20000 in
set_option maxHeartbeats 8000000 in
theorem sg_X11_dayOf_0 {E : Nat × (Nat → Int32)} {P : Option Value → Mem → Prop} {mem : Mem} {a1 : Int} {a2 : Int} (q1 : 0 ≤ (mem 9 1) ∧ (mem 9 1) ≤ 6) (w2 : -2147483648 ≤ a1 ∧ a1 < 2147483648) (w3 : -2147483648 ≤ a2 ∧ a2 < 2147483648)
    (k1 : 0 ≤ a1 ∧ a1 < (mem 9 1) → a2 < 0 → P (some (vi (-1))) mem)
    (k2 : 0 ≤ a1 ∧ a1 < (mem 9 1) → ¬ a2 < 0 → a2 < 7 → P (some (vi (mem (11 + 2 * (a1).toNat) 6))) (up2 mem (11 + 2 * (a1).toNat) 6 a2))
    (k3 : 0 ≤ a1 ∧ a1 < (mem 9 1) → ¬ a2 < 0 → ¬ a2 < 7 → P (some (vi (-1))) mem)
    (k4 : ¬ (0 ≤ a1 ∧ a1 < (mem 9 1)) → P (some (vi (-1))) mem) :
    GM E (m_X11_dayOf 1) P 0 [.ref 0, vi a1, vi a2, un, un] [] mem := by
  refine G_aload_n dX11_dayOf_0 rfl ?_
  refine G_getR (t := 9) dX11_dayOf_1 fl_11_33 (by decide) sh_0 rr_0_3 ?_
  refine G_iload_n dX11_dayOf_4 rfl ?_
  refine cb_X11_dayOf_5 (ic_X10_at (z := (mem 9 1)) rfl (q1) (w2) (fun c1 => ?_) (fun c2 => ?_))
  · -- 0 ≤ a1 ∧ a1 < (mem 9 1)
    refine G_astore_n dX11_dayOf_8 rfl (by decide : 3 < 5) rfl ?_
    refine G_aload_n dX11_dayOf_9 rfl ?_
    refine G_ifnull dX11_dayOf_10 ?_
    refine G_iload_n dX11_dayOf_13 rfl ?_
    refine G_if_lt (tgt := 23) dX11_dayOf_14 (by decide) (w3) (fun c3 => ?_) (fun c3 => ?_)
    · -- a2 < 0
      refine G_iconst (z := (-1)) dX11_dayOf_23 rfl ?_
      exact G_iret dX11_dayOf_24 rfl (Nat.zero_le _) (Nat.zero_le _) (Nat.le_refl _) ⟨rfl, k1 c1 c3⟩
    · -- ¬ a2 < 0
      refine G_iload_n dX11_dayOf_17 rfl ?_
      refine G_bipush (z := 7) dX11_dayOf_18 rfl ?_
      refine G_icmp_lt (tgt := 25) dX11_dayOf_20 (by decide) (w3) (by decide) (fun c4 => ?_) (fun c4 => ?_)
      · -- a2 < 7
        refine G_aload_n dX11_dayOf_25 rfl ?_
        refine G_getI (z := (mem (11 + 2 * (a1).toNat) 6)) dX11_dayOf_26 fl_11_159 (ltStreet0 (streetL_of c1.1 (Int.lt_of_lt_of_le c1.2 (q1).2))) (shStreet0 (streetL_of c1.1 (Int.lt_of_lt_of_le c1.2 (q1).2))) rfl ?_
        refine G_istore dX11_dayOf_29 (by decide : 4 < 5) rfl ?_
        refine G_aload_n dX11_dayOf_31 rfl ?_
        refine G_iload_n dX11_dayOf_32 rfl ?_
        refine G_putI (mem2 := (up2 mem (11 + 2 * (a1).toNat) 6 a2)) dX11_dayOf_33 fp_11_159 (ltStreet0 (streetL_of c1.1 (Int.lt_of_lt_of_le c1.2 (q1).2))) (shStreet0 (streetL_of c1.1 (Int.lt_of_lt_of_le c1.2 (q1).2))) rfl ?_
        refine G_iload dX11_dayOf_36 rfl ?_
        exact G_iret dX11_dayOf_38 rfl (Nat.zero_le _) (Nat.zero_le _) (Nat.le_refl _) ⟨rfl, k2 c1 c3 c4⟩
      · -- ¬ a2 < 7
        refine G_iconst (z := (-1)) dX11_dayOf_23 rfl ?_
        exact G_iret dX11_dayOf_24 rfl (Nat.zero_le _) (Nat.zero_le _) (Nat.le_refl _) ⟨rfl, k3 c1 c3 c4⟩
  · -- ¬ (0 ≤ a1 ∧ a1 < (mem 9 1))
    refine G_astoreNull_n dX11_dayOf_8 rfl (by decide : 3 < 5) rfl ?_
    refine G_aloadNull_n dX11_dayOf_9 rfl ?_
    refine G_ifnullZ (tgt := 23) dX11_dayOf_10 (by decide) ?_
    refine G_iconst (z := (-1)) dX11_dayOf_23 rfl ?_
    exact G_iret dX11_dayOf_24 rfl (Nat.zero_le _) (Nat.zero_le _) (Nat.le_refl _) ⟨rfl, k4 c2⟩
set_option maxRecDepth 20000 in
set_option maxHeartbeats 8000000 in
theorem sg_X11_drawOut_0 {E : Nat × (Nat → Int32)} {P : Option Value → Mem → Prop} {mem : Mem} {a1 : Int}
    (k1 : GM E (m_X11_drawOut 2) P 10 [.ref 0, vi a1, .ref 108, vi 0, un, un, un] [] mem) :
    GM E (m_X11_drawOut 2) P 0 [.ref 0, vi a1, un, un, un, un, un] [] mem := by
  refine G_aload_n dX11_drawOut_0 rfl ?_
  refine G_getR (t := 106) dX11_drawOut_1 fl_11_74 (by decide) sh_0 rr_0_8 ?_
  refine G_getR (t := 108) dX11_drawOut_4 fl_11_455 (by decide) sh_106 rr_106_3 ?_
  refine G_astore_n dX11_drawOut_7 rfl (by decide : 2 < 7) rfl ?_
  refine G_iconst (z := 0) dX11_drawOut_8 rfl ?_
  refine G_istore_n dX11_drawOut_9 rfl (by decide : 3 < 7) rfl ?_
  exact k1
set_option maxRecDepth 20000 in
set_option maxHeartbeats 8000000 in
theorem sg_X11_drawOut_10 {E : Nat × (Nat → Int32)} {P : Option Value → Mem → Prop} {mem : Mem} {a1 : Int} {a3 : Int} (w1 : -2147483648 ≤ a3 ∧ a3 < 2147483648) (w2 : -2147483648 ≤ (mem 9 1) ∧ (mem 9 1) < 2147483648)
    (k1 : (mem 9 1) ≤ a3 → P (some (.ref 108)) mem)
    (k2 : ¬ (mem 9 1) ≤ a3 → 6 ≤ a3 → P (some (.ref 108)) mem)
    (k3 : ¬ (mem 9 1) ≤ a3 → ¬ 6 ≤ a3 → GM E (m_X11_drawOut 2) P 32 [.ref 0, vi a1, .ref 108, vi a3, un, un, un] [vi a3, .ref 9] mem) :
    GM E (m_X11_drawOut 2) P 10 [.ref 0, vi a1, .ref 108, vi a3, un, un, un] [] mem := by
  refine G_iload_n dX11_drawOut_10 rfl ?_
  refine G_aload_n dX11_drawOut_11 rfl ?_
  refine G_getR (t := 9) dX11_drawOut_12 fl_11_33 (by decide) sh_0 rr_0_3 ?_
  refine G_getI (z := (mem 9 1)) dX11_drawOut_15 fl_11_113 (by decide) sh_9 rfl ?_
  refine G_icmp_ge (tgt := 94) dX11_drawOut_18 (by decide) (w1) (w2) (fun c1 => ?_) (fun c1 => ?_)
  · -- (mem 9 1) ≤ a3
    refine G_aload_n dX11_drawOut_94 rfl ?_
    exact G_aret dX11_drawOut_95 rfl rfl (Nat.zero_le _) (Nat.zero_le _) (Nat.le_refl _) ⟨rfl, k1 c1⟩
  · -- ¬ (mem 9 1) ≤ a3
    refine G_iload_n dX11_drawOut_21 rfl ?_
    refine G_aload_n dX11_drawOut_22 rfl ?_
    refine G_alen (z := 6) dX11_drawOut_23 (by decide) sh_108 (by decide) rfl ?_
    refine G_icmp_ge (tgt := 94) dX11_drawOut_24 (by decide) (w1) (by decide) (fun c2 => ?_) (fun c2 => ?_)
    · -- 6 ≤ a3
      refine G_aload_n dX11_drawOut_94 rfl ?_
      exact G_aret dX11_drawOut_95 rfl rfl (Nat.zero_le _) (Nat.zero_le _) (Nat.le_refl _) ⟨rfl, k2 c1 c2⟩
    · -- ¬ 6 ≤ a3
      refine G_aload_n dX11_drawOut_27 rfl ?_
      refine G_getR (t := 9) dX11_drawOut_28 fl_11_33 (by decide) sh_0 rr_0_3 ?_
      refine G_iload_n dX11_drawOut_31 rfl ?_
      exact k3 c1 c2
set_option maxRecDepth 20000 in
set_option maxHeartbeats 8000000 in
theorem sg_X11_drawOut_35 {E : Nat × (Nat → Int32)} {P : Option Value → Mem → Prop} {mem : Mem} {a1 : Int} {a3 : Int} {s0 : Int}
    (k1 : GM E (m_X11_drawOut 2) P 43 [.ref 0, vi a1, .ref 108, vi a3, vi s0, vi 0, vi 0] [] mem) :
    GM E (m_X11_drawOut 2) P 35 [.ref 0, vi a1, .ref 108, vi a3, un, un, un] [vi s0] mem := by
  refine G_istore dX11_drawOut_35 (by decide : 4 < 7) rfl ?_
  refine G_iconst (z := 0) dX11_drawOut_37 rfl ?_
  refine G_istore dX11_drawOut_38 (by decide : 5 < 7) rfl ?_
  refine G_iconst (z := 0) dX11_drawOut_40 rfl ?_
  refine G_istore dX11_drawOut_41 (by decide : 6 < 7) rfl ?_
  exact k1
set_option maxRecDepth 20000 in
set_option maxHeartbeats 8000000 in
theorem sg_X11_drawOut_43 {E : Nat × (Nat → Int32)} {P : Option Value → Mem → Prop} {mem : Mem} {a1 : Int} {a3 : Int} {a4 : Int} {a5 : Int} {a6 : Int} (w1 : -2147483648 ≤ a6 ∧ a6 < 2147483648) (q2 : 16 ≤ a6 → 0 ≤ a3 ∧ a3 < 6)
    (k1 : 16 ≤ a6 → GM E (m_X11_drawOut 2) P 10 [.ref 0, vi a1, .ref 108, vi (a3 + 1), un, un, un] [] (up2 mem 108 a3 a5))
    (k2 : ¬ 16 ≤ a6 → (bandI (shrI a4 a6) 1) = 0 → GM E (m_X11_drawOut 2) P 43 [.ref 0, vi a1, .ref 108, vi a3, vi a4, vi a5, vi (a6 + 1)] [] mem)
    (k3 : ¬ 16 ≤ a6 → ¬ (bandI (shrI a4 a6) 1) = 0 → GM E (m_X11_drawOut 2) P 61 [.ref 0, vi a1, .ref 108, vi a3, vi a4, vi a5, vi a6] [.ref 0] mem) :
    GM E (m_X11_drawOut 2) P 43 [.ref 0, vi a1, .ref 108, vi a3, vi a4, vi a5, vi a6] [] mem := by
  refine G_iload dX11_drawOut_43 rfl ?_
  refine G_bipush (z := 16) dX11_drawOut_45 rfl ?_
  refine G_icmp_ge (tgt := 83) dX11_drawOut_47 (by decide) (w1) (by decide) (fun c1 => ?_) (fun c1 => ?_)
  · -- 16 ≤ a6
    refine G_aload_n dX11_drawOut_83 rfl ?_
    refine G_iload_n dX11_drawOut_84 rfl ?_
    refine G_iload dX11_drawOut_85 rfl ?_
    refine G_iast (mem2 := (up2 mem 108 a3 a5)) dX11_drawOut_87 (by decide) sh_108 (by decide) (q2 c1).1 (q2 c1).2 rfl ?_
    refine G_iinc (z := (a3 + 1)) dX11_drawOut_88 rfl rfl (by decide : 3 < 7) rfl ?_
    refine G_goto (tgt := 10) dX11_drawOut_91 (by decide) ?_
    refine G_weak (lv2 := [.ref 0, vi a1, .ref 108, vi (a3 + 1), un, un, un]) ⟨Or.inr rfl, Or.inr rfl, Or.inr rfl, Or.inr rfl, Or.inl rfl, Or.inl rfl, Or.inl rfl, trivial⟩ ?_
    exact k1 c1
  · -- ¬ 16 ≤ a6
    refine G_iload dX11_drawOut_50 rfl ?_
    refine G_iload dX11_drawOut_52 rfl ?_
    refine G_ishr (z := (shrI a4 a6)) dX11_drawOut_54 (iI_inv _) ?_
    refine G_iconst (z := 1) dX11_drawOut_55 rfl ?_
    refine G_iand (z := (bandI (shrI a4 a6) 1)) dX11_drawOut_56 (iI_inv _) ?_
    refine G_if_eq (tgt := 77) dX11_drawOut_57 (by decide) (iI_rng _) (fun c2 => ?_) (fun c2 => ?_)
    · -- (bandI (shrI a4 a6) 1) = 0
      refine G_iinc (z := (a6 + 1)) dX11_drawOut_77 rfl rfl (by decide : 6 < 7) rfl ?_
      refine G_goto (tgt := 43) dX11_drawOut_80 (by decide) ?_
      exact k2 c1 c2
    · -- ¬ (bandI (shrI a4 a6) 1) = 0
      refine G_aload_n dX11_drawOut_60 rfl ?_
      exact k3 c1 c2
set_option maxRecDepth 20000 in
set_option maxHeartbeats 8000000 in
theorem sg_X11_drawOut_64 {E : Nat × (Nat → Int32)} {P : Option Value → Mem → Prop} {mem : Mem} {a1 : Int} {a3 : Int} {a4 : Int} {a5 : Int} {a6 : Int} {s0 : Int} (w1 : -2147483648 ≤ s0 ∧ s0 < 2147483648) (w2 : -2147483648 ≤ a1 ∧ a1 < 2147483648)
    (k1 : GM E (m_X11_drawOut 2) P 43 [.ref 0, vi a1, .ref 108, vi a3, vi a4, vi (if a1 ≤ s0 then a5 else (borI a5 (shlI 1 a6))), vi (a6 + 1)] [] mem) :
    GM E (m_X11_drawOut 2) P 64 [.ref 0, vi a1, .ref 108, vi a3, vi a4, vi a5, vi a6] [vi s0] mem := by
  refine G_iload_n dX11_drawOut_64 rfl ?_
  have j1 : GM E (m_X11_drawOut 2) P 77 [.ref 0, vi a1, .ref 108, vi a3, vi a4, vi (if a1 ≤ s0 then a5 else (borI a5 (shlI 1 a6))), vi a6] [] mem := by
    refine G_iinc (z := (a6 + 1)) dX11_drawOut_77 rfl rfl (by decide : 6 < 7) rfl ?_
    refine G_goto (tgt := 43) dX11_drawOut_80 (by decide) ?_
    exact k1
  refine G_icmp_ge (tgt := 77) dX11_drawOut_65 (by decide) (w1) (w2) (fun c1 => ?_) (fun c1 => ?_)
  · -- a1 ≤ s0
    have qj1 := j1
    simp only [if_pos c1] at qj1
    exact qj1
  · -- ¬ a1 ≤ s0
    refine G_iload dX11_drawOut_68 rfl ?_
    refine G_iconst (z := 1) dX11_drawOut_70 rfl ?_
    refine G_iload dX11_drawOut_71 rfl ?_
    refine G_ishl (z := (shlI 1 a6)) dX11_drawOut_73 (iI_inv _) ?_
    refine G_ior (z := (borI a5 (shlI 1 a6))) dX11_drawOut_74 (iI_inv _) ?_
    refine G_istore dX11_drawOut_75 (by decide : 5 < 7) rfl ?_
    have qj1 := j1
    simp only [if_neg c1] at qj1
    exact qj1
set_option maxRecDepth 20000 in
set_option maxHeartbeats 8000000 in
theorem sg_X11_drawTenth_0 {E : Nat × (Nat → Int32)} {P : Option Value → Mem → Prop} {mem : Mem}
    (k1 : P (some (vi (remI (ushrI (((mem 0 15) * 1103515245) + 12345) 16) 10))) (up2 mem 0 15 (((mem 0 15) * 1103515245) + 12345))) :
    GM E (m_X11_drawTenth 0) P 0 [.ref 0] [] mem := by
  refine G_aload_n dX11_drawTenth_0 rfl ?_
  refine G_aload_n dX11_drawTenth_1 rfl ?_
  refine G_getI (z := (mem 0 15)) dX11_drawTenth_2 fl_11_445 (by decide) sh_0 rfl ?_
  refine G_ldcw (z := 1103515245) dX11_drawTenth_5 kc_11_461 ?_
  refine G_imul dX11_drawTenth_8 ?_
  refine G_sipush (z := 12345) dX11_drawTenth_9 rfl ?_
  refine G_iadd dX11_drawTenth_12 ?_
  refine G_putI (mem2 := (up2 mem 0 15 (((mem 0 15) * 1103515245) + 12345))) dX11_drawTenth_13 fp_11_445 (by decide) sh_0 rfl ?_
  refine G_aload_n dX11_drawTenth_16 rfl ?_
  refine G_getI (z := (((mem 0 15) * 1103515245) + 12345)) dX11_drawTenth_17 fl_11_445 (by decide) sh_0 (by simp [up2, upr]) ?_
  refine G_bipush (z := 16) dX11_drawTenth_20 rfl ?_
  refine G_iushr (z := (ushrI (((mem 0 15) * 1103515245) + 12345) 16)) dX11_drawTenth_22 (iI_inv _) ?_
  refine G_bipush (z := 10) dX11_drawTenth_23 rfl ?_
  refine G_irem (z := (remI (ushrI (((mem 0 15) * 1103515245) + 12345) 16) 10)) dX11_drawTenth_25 (iI_ne0 (by decide) (by decide)) (iI_inv _) ?_
  exact G_iret dX11_drawTenth_26 rfl (Nat.zero_le _) (Nat.zero_le _) (Nat.le_refl _) ⟨rfl, k1⟩
set_option maxRecDepth 20000 in
set_option maxHeartbeats 8000000 in
theorem sg_X11_drive_0 {E : Nat × (Nat → Int32)} {P : Option Value → Mem → Prop} {mem : Mem} {a1 : Int}
    (k1 : GM E (m_X11_drive 5) P 8 [.ref 0, vi a1] [.ref 23, .ref 27] mem) :
    GM E (m_X11_drive 5) P 0 [.ref 0, vi a1] [] mem := by
  refine G_aload_n dX11_drive_0 rfl ?_
  refine G_getR (t := 27) dX11_drive_1 fl_11_47 (by decide) sh_0 rr_0_5 ?_
  refine G_aload_n dX11_drive_4 rfl ?_
  refine G_getR (t := 23) dX11_drive_5 fl_11_40 (by decide) sh_0 rr_0_4 ?_
  exact k1
set_option maxRecDepth 20000 in
set_option maxHeartbeats 8000000 in
theorem sg_X11_drive_11 {E : Nat × (Nat → Int32)} {P : Option Value → Mem → Prop} {mem : Mem} {a1 : Int}
    (k1 : GM E (m_X11_drive 5) P 14 [.ref 0, vi a1] [vi a1, .ref 0, .ref 0] mem) :
    GM E (m_X11_drive 5) P 11 [.ref 0, vi a1] [] mem := by
  refine G_aload_n dX11_drive_11 rfl ?_
  refine G_aload_n dX11_drive_12 rfl ?_
  refine G_iload_n dX11_drive_13 rfl ?_
  exact k1
set_option maxRecDepth 20000 in
set_option maxHeartbeats 8000000 in
theorem sg_X11_drive_17 {E : Nat × (Nat → Int32)} {P : Option Value → Mem → Prop} {mem : Mem} {a1 : Int} {s0 : Int}
    (k1 : GM E (m_X11_drive 5) P 17 [.ref 0, vi a1] [vi s0, .ref 0] mem) :
    GM E (m_X11_drive 5) P 17 [.ref 0, vi a1] [vi s0, .ref 0] mem := by
  exact k1
set_option maxRecDepth 20000 in
set_option maxHeartbeats 8000000 in
theorem sg_X11_drive_20 {E : Nat × (Nat → Int32)} {P : Option Value → Mem → Prop} {mem : Mem} {a1 : Int} {s0 : Int}
    (k1 : P (some (vi s0)) mem) :
    GM E (m_X11_drive 5) P 20 [.ref 0, vi a1] [vi s0] mem := by
  exact G_iret dX11_drive_20 rfl (Nat.zero_le _) (Nat.zero_le _) (Nat.le_refl _) ⟨rfl, k1⟩
set_option maxRecDepth 20000 in
set_option maxHeartbeats 8000000 in
theorem sg_X11_empty_0 {E : Nat × (Nat → Int32)} {P : Option Value → Mem → Prop} {mem : Mem} {a1 : Int} {a2 : Int}
    (k1 : GM E (m_X11_empty 6) P 8 [.ref 0, vi a1, vi a2, un] [.ref 23, .ref 27] mem) :
    GM E (m_X11_empty 6) P 0 [.ref 0, vi a1, vi a2, un] [] mem := by
  refine G_aload_n dX11_empty_0 rfl ?_
  refine G_getR (t := 27) dX11_empty_1 fl_11_47 (by decide) sh_0 rr_0_5 ?_
  refine G_aload_n dX11_empty_4 rfl ?_
  refine G_getR (t := 23) dX11_empty_5 fl_11_40 (by decide) sh_0 rr_0_4 ?_
  exact k1
set_option maxRecDepth 20000 in
set_option maxHeartbeats 8000000 in
theorem sg_X11_empty_11 {E : Nat × (Nat → Int32)} {P : Option Value → Mem → Prop} {mem : Mem} {a1 : Int} {a2 : Int}
    (k1 : GM E (m_X11_empty 6) P 15 [.ref 0, vi a1, vi a2, un] [vi a2, vi a1, .ref 0, .ref 0] mem) :
    GM E (m_X11_empty 6) P 11 [.ref 0, vi a1, vi a2, un] [] mem := by
  refine G_aload_n dX11_empty_11 rfl ?_
  refine G_aload_n dX11_empty_12 rfl ?_
  refine G_iload_n dX11_empty_13 rfl ?_
  refine G_iload_n dX11_empty_14 rfl ?_
  exact k1
set_option maxRecDepth 20000 in
set_option maxHeartbeats 8000000 in
theorem sg_X11_empty_18 {E : Nat × (Nat → Int32)} {P : Option Value → Mem → Prop} {mem : Mem} {a1 : Int} {a2 : Int} {s0 : Int}
    (k1 : GM E (m_X11_empty 6) P 18 [.ref 0, vi a1, vi a2, un] [vi s0, .ref 0] mem) :
    GM E (m_X11_empty 6) P 18 [.ref 0, vi a1, vi a2, un] [vi s0, .ref 0] mem := by
  exact k1
set_option maxRecDepth 20000 in
set_option maxHeartbeats 8000000 in
theorem sg_X11_empty_21 {E : Nat × (Nat → Int32)} {P : Option Value → Mem → Prop} {mem : Mem} {a1 : Int} {a2 : Int} {s0 : Int} (w1 : -2147483648 ≤ s0 ∧ s0 < 2147483648)
    (k1 : s0 < 0 → P (some (vi s0)) mem)
    (k2 : ¬ s0 < 0 → GM E (m_X11_empty 6) P 34 [.ref 0, vi a1, vi a2, vi s0] [vi (mem 100 14), .ref 0] mem) :
    GM E (m_X11_empty 6) P 21 [.ref 0, vi a1, vi a2, un] [vi s0] mem := by
  refine G_istore_n dX11_empty_21 rfl (by decide : 3 < 4) rfl ?_
  refine G_iload_n dX11_empty_22 rfl ?_
  refine G_if_lt (tgt := 80) dX11_empty_23 (by decide) (w1) (fun c1 => ?_) (fun c1 => ?_)
  · -- s0 < 0
    refine G_iload_n dX11_empty_80 rfl ?_
    exact G_iret dX11_empty_81 rfl (Nat.zero_le _) (Nat.zero_le _) (Nat.le_refl _) ⟨rfl, k1 c1⟩
  · -- ¬ s0 < 0
    refine G_aload_n dX11_empty_26 rfl ?_
    refine G_aload_n dX11_empty_27 rfl ?_
    refine G_getR (t := 100) dX11_empty_28 fl_11_65 (by decide) sh_0 rr_0_7 ?_
    refine G_getI (z := (mem 100 14)) dX11_empty_31 fl_11_226 (by decide) sh_100 rfl ?_
    exact k2 c1
set_option maxRecDepth 20000 in
set_option maxHeartbeats 8000000 in
theorem sg_X11_empty_37 {E : Nat × (Nat → Int32)} {P : Option Value → Mem → Prop} {mem : Mem} {a1 : Int} {a2 : Int} {a3 : Int} {s0 : Int} (w1 : -2147483648 ≤ s0 ∧ s0 < 2147483648)
    (k1 : GM E (m_X11_empty 6) P 49 [.ref 0, vi a1, vi a2, vi a3] [vi (mem 100 15), .ref 0] (up2 (up2 (up2 mem 0 14 0) 168 0 s0) 0 14 1)) :
    GM E (m_X11_empty 6) P 37 [.ref 0, vi a1, vi a2, vi a3] [vi s0, .ref 0] mem := by
  refine G_i2l dX11_empty_37 (w1) ?_
  refine cb_X11_empty_38 (ic_X11_tell ?_)
  refine G_aload_n dX11_empty_41 rfl ?_
  refine G_aload_n dX11_empty_42 rfl ?_
  refine G_getR (t := 100) dX11_empty_43 fl_11_65 (by decide) sh_0 rr_0_7 ?_
  refine G_getI (z := (mem 100 15)) dX11_empty_46 fl_11_233 (by decide) sh_100 (by simp [up2, upr]) ?_
  exact k1
set_option maxRecDepth 20000 in
set_option maxHeartbeats 8000000 in
theorem sg_X11_empty_52 {E : Nat × (Nat → Int32)} {P : Option Value → Mem → Prop} {mem : Mem} {a1 : Int} {a2 : Int} {a3 : Int} {s0 : Int} (w1 : -2147483648 ≤ s0 ∧ s0 < 2147483648) (q2 : 0 ≤ (mem 0 14) ∧ (mem 0 14) < 6) (w3 : -2147483648 ≤ (mem 100 16) ∧ (mem 100 16) < 2147483648) (q4 : 0 ≤ ((mem 0 14) + 1) ∧ ((mem 0 14) + 1) < 6) (w5 : -2147483648 ≤ (mem 100 17) ∧ (mem 100 17) < 2147483648) (q6 : 0 ≤ (((mem 0 14) + 1) + 1) ∧ (((mem 0 14) + 1) + 1) < 6)
    (k1 : P (some (vi a3)) (up2 (up2 (up2 (up2 (up2 (up2 mem 168 (mem 0 14) s0) 0 14 ((mem 0 14) + 1)) 168 ((mem 0 14) + 1) (mem 100 16)) 0 14 (((mem 0 14) + 1) + 1)) 168 (((mem 0 14) + 1) + 1) (mem 100 17)) 0 14 ((((mem 0 14) + 1) + 1) + 1))) :
    GM E (m_X11_empty 6) P 52 [.ref 0, vi a1, vi a2, vi a3] [vi s0, .ref 0] mem := by
  refine G_i2l dX11_empty_52 (w1) ?_
  refine cb_X11_empty_53 (ic_X11_tellMore (z := (mem 0 14)) (z2 := ((mem 0 14) + 1)) rfl (q2) rfl ?_)
  refine G_aload_n dX11_empty_56 rfl ?_
  refine G_aload_n dX11_empty_57 rfl ?_
  refine G_getR (t := 100) dX11_empty_58 fl_11_65 (by decide) sh_0 rr_0_7 ?_
  refine G_getI (z := (mem 100 16)) dX11_empty_61 fl_11_239 (by decide) sh_100 (by simp [up2, upr]) ?_
  refine G_i2l dX11_empty_64 (w3) ?_
  refine cb_X11_empty_65 (ic_X11_tellMore (z := ((mem 0 14) + 1)) (z2 := (((mem 0 14) + 1) + 1)) (by simp [up2, upr]) (q4) rfl ?_)
  refine G_aload_n dX11_empty_68 rfl ?_
  refine G_aload_n dX11_empty_69 rfl ?_
  refine G_getR (t := 100) dX11_empty_70 fl_11_65 (by decide) sh_0 rr_0_7 ?_
  refine G_getI (z := (mem 100 17)) dX11_empty_73 fl_11_242 (by decide) sh_100 (by simp [up2, upr]) ?_
  refine G_i2l dX11_empty_76 (w5) ?_
  refine cb_X11_empty_77 (ic_X11_tellMore (z := (((mem 0 14) + 1) + 1)) (z2 := ((((mem 0 14) + 1) + 1) + 1)) (by simp [up2, upr]) (q6) rfl ?_)
  refine G_iload_n dX11_empty_80 rfl ?_
  exact G_iret dX11_empty_81 rfl (Nat.zero_le _) (Nat.zero_le _) (Nat.le_refl _) ⟨rfl, k1⟩
set_option maxRecDepth 20000 in
set_option maxHeartbeats 8000000 in
theorem sg_X11_emptyBins_0 {E : Nat × (Nat → Int32)} {P : Option Value → Mem → Prop} {mem : Mem} {a1 : Int} {a2 : Int} (q1 : 0 ≤ (mem 9 1) ∧ (mem 9 1) ≤ 6) (w2 : -2147483648 ≤ a1 ∧ a1 < 2147483648) (w3 : -2147483648 ≤ a2 ∧ a2 < 2147483648) (w4 : 0 ≤ a1 ∧ a1 < (mem 9 1) → ¬ a2 < 0 → a2 < 3 → -2147483648 ≤ (mem 23 4) ∧ (mem 23 4) < 2147483648) (w5 : 0 ≤ a1 ∧ a1 < (mem 9 1) → ¬ a2 < 0 → a2 < 3 → -2147483648 ≤ (mem (11 + 2 * (a1).toNat) 2) ∧ (mem (11 + 2 * (a1).toNat) 2) < 2147483648) (w6 : 0 ≤ a1 ∧ a1 < (mem 9 1) → ¬ a2 < 0 → a2 < 3 → (mem 23 4) = (mem (11 + 2 * (a1).toNat) 2) → -2147483648 ≤ (mem (11 + 2 * (a1).toNat) 7) ∧ (mem (11 + 2 * (a1).toNat) 7) < 2147483648) (w7 : 0 ≤ a1 ∧ a1 < (mem 9 1) → ¬ a2 < 0 → a2 < 3 → (mem 23 4) = (mem (11 + 2 * (a1).toNat) 2) → -2147483648 ≤ (mem (11 + 2 * (a1).toNat) 8) ∧ (mem (11 + 2 * (a1).toNat) 8) < 2147483648) (w8 : 0 ≤ a1 ∧ a1 < (mem 9 1) → ¬ a2 < 0 → a2 < 3 → (mem 23 4) = (mem (11 + 2 * (a1).toNat) 2) → ¬ (0 ≤ (mem (11 + 2 * (a1).toNat) 7) ∧ (mem (11 + 2 * (a1).toNat) 7) ≤ (divI (mem 23 5) 60) ∧ (divI (mem 23 5) 60) ≤ (mem (11 + 2 * (a1).toNat) 8)) → -2147483648 ≤ (mem 4 1) ∧ (mem 4 1) < 2147483648) (q9 : 0 ≤ a1 ∧ a1 < (mem 9 1) → ¬ a2 < 0 → a2 < 3 → (mem 23 4) = (mem (11 + 2 * (a1).toNat) 2) → ¬ (0 ≤ (mem (11 + 2 * (a1).toNat) 7) ∧ (mem (11 + 2 * (a1).toNat) 7) ≤ (divI (mem 23 5) 60) ∧ (divI (mem 23 5) 60) ≤ (mem (11 + 2 * (a1).toNat) 8)) → 0 ≤ a1 ∧ a1 < 6)
    (k1 : 0 ≤ a1 ∧ a1 < (mem 9 1) → a2 < 0 → P (some (vi (-1))) mem)
    (k2 : 0 ≤ a1 ∧ a1 < (mem 9 1) → ¬ a2 < 0 → a2 < 3 → (mem 23 4) = (mem (11 + 2 * (a1).toNat) 2) → 0 ≤ (mem (11 + 2 * (a1).toNat) 7) ∧ (mem (11 + 2 * (a1).toNat) 7) ≤ (divI (mem 23 5) 60) ∧ (divI (mem 23 5) 60) ≤ (mem (11 + 2 * (a1).toNat) 8) → P (some (vi (-3))) mem)
    (k3 : 0 ≤ a1 ∧ a1 < (mem 9 1) → ¬ a2 < 0 → a2 < 3 → (mem 23 4) = (mem (11 + 2 * (a1).toNat) 2) → ¬ (0 ≤ (mem (11 + 2 * (a1).toNat) 7) ∧ (mem (11 + 2 * (a1).toNat) 7) ≤ (divI (mem 23 5) 60) ∧ (divI (mem 23 5) 60) ≤ (mem (11 + 2 * (a1).toNat) 8)) → GM E (m_X11_emptyBins 5) P 91 [.ref 0, vi a1, vi a2, .ref (11 + 2 * (a1).toNat)] [vi (mem 24 a1), vi a2, .ref (11 + 2 * (a1).toNat), .ref 100] (up2 (up2 mem 100 7 (max 1 (mem 4 1))) 100 8 (mem (11 + 2 * (a1).toNat) 4)))
    (k4 : 0 ≤ a1 ∧ a1 < (mem 9 1) → ¬ a2 < 0 → a2 < 3 → ¬ (mem 23 4) = (mem (11 + 2 * (a1).toNat) 2) → P (some (vi (-2))) mem)
    (k5 : 0 ≤ a1 ∧ a1 < (mem 9 1) → ¬ a2 < 0 → ¬ a2 < 3 → P (some (vi (-1))) mem)
    (k6 : ¬ (0 ≤ a1 ∧ a1 < (mem 9 1)) → P (some (vi (-1))) mem) :
    GM E (m_X11_emptyBins 5) P 0 [.ref 0, vi a1, vi a2, un] [] mem := by
  refine G_aload_n dX11_emptyBins_0 rfl ?_
  refine G_getR (t := 9) dX11_emptyBins_1 fl_11_33 (by decide) sh_0 rr_0_3 ?_
  refine G_iload_n dX11_emptyBins_4 rfl ?_
  refine cb_X11_emptyBins_5 (ic_X10_at (z := (mem 9 1)) rfl (q1) (w2) (fun c1 => ?_) (fun c2 => ?_))
  · -- 0 ≤ a1 ∧ a1 < (mem 9 1)
    refine G_astore_n dX11_emptyBins_8 rfl (by decide : 3 < 4) rfl ?_
    refine G_aload_n dX11_emptyBins_9 rfl ?_
    refine G_ifnull dX11_emptyBins_10 ?_
    refine G_iload_n dX11_emptyBins_13 rfl ?_
    refine G_if_lt (tgt := 22) dX11_emptyBins_14 (by decide) (w3) (fun c3 => ?_) (fun c3 => ?_)
    · -- a2 < 0
      refine G_iconst (z := (-1)) dX11_emptyBins_22 rfl ?_
      exact G_iret dX11_emptyBins_23 rfl (Nat.zero_le _) (Nat.zero_le _) (Nat.le_refl _) ⟨rfl, k1 c1 c3⟩
    · -- ¬ a2 < 0
      refine G_iload_n dX11_emptyBins_17 rfl ?_
      refine G_iconst (z := 3) dX11_emptyBins_18 rfl ?_
      refine G_icmp_lt (tgt := 24) dX11_emptyBins_19 (by decide) (w3) (by decide) (fun c4 => ?_) (fun c4 => ?_)
      · -- a2 < 3
        refine G_aload_n dX11_emptyBins_24 rfl ?_
        refine G_getR (t := 23) dX11_emptyBins_25 fl_11_40 (by decide) sh_0 rr_0_4 ?_
        refine G_getI (z := (mem 23 4)) dX11_emptyBins_28 fl_11_252 (by decide) sh_23 rfl ?_
        refine G_aload_n dX11_emptyBins_31 rfl ?_
        refine G_getI (z := (mem (11 + 2 * (a1).toNat) 2)) dX11_emptyBins_32 fl_11_144 (ltStreet0 (streetL_of c1.1 (Int.lt_of_lt_of_le c1.2 (q1).2))) (shStreet0 (streetL_of c1.1 (Int.lt_of_lt_of_le c1.2 (q1).2))) rfl ?_
        refine G_icmp_eq (tgt := 41) dX11_emptyBins_35 (by decide) (w4 c1 c3 c4) (w5 c1 c3 c4) (fun c5 => ?_) (fun c5 => ?_)
        · -- (mem 23 4) = (mem (11 + 2 * (a1).toNat) 2)
          refine G_aload_n dX11_emptyBins_41 rfl ?_
          refine G_aload_n dX11_emptyBins_42 rfl ?_
          refine G_getR (t := 23) dX11_emptyBins_43 fl_11_40 (by decide) sh_0 rr_0_4 ?_
          refine G_getI (z := (mem 23 5)) dX11_emptyBins_46 fl_11_253 (by decide) sh_23 rfl ?_
          refine cb_X11_emptyBins_49 (streetL_of c1.1 (Int.lt_of_lt_of_le c1.2 (q1).2)) (ic_X8_isBarred (f := (mem (11 + 2 * (a1).toNat) 7)) (t := (mem (11 + 2 * (a1).toNat) 8)) (streetL_of c1.1 (Int.lt_of_lt_of_le c1.2 (q1).2)) rfl rfl (w6 c1 c3 c4 c5) (w7 c1 c3 c4 c5) (fun c6 => ?_) (fun c7 => ?_))
          · -- 0 ≤ (mem (11 + 2 * (a1).toNat) 7) ∧ (mem (11 + 2 * (a1).toNat) 7) ≤ (divI (mem 23 5) 60) ∧ (divI (mem 23 5) 60) ≤ (mem (11 + 2 * (a1).toNat) 8)
            refine G_if_eq (tgt := 58) dX11_emptyBins_52 (by decide) (by decide) (fun h => absurd h (by decide)) (fun _ => ?_)
            refine G_bipush (z := (-3)) dX11_emptyBins_55 rfl ?_
            exact G_iret dX11_emptyBins_57 rfl (Nat.zero_le _) (Nat.zero_le _) (Nat.le_refl _) ⟨rfl, k2 c1 c3 c4 c5 c6⟩
          · -- ¬ (0 ≤ (mem (11 + 2 * (a1).toNat) 7) ∧ (mem (11 + 2 * (a1).toNat) 7) ≤ (divI (mem 23 5) 60) ∧ (divI (mem 23 5) 60) ≤ (mem (11 + 2 * (a1).toNat) 8))
            refine G_if_eq (tgt := 58) dX11_emptyBins_52 (by decide) (by decide) (fun _ => ?_) (fun h => absurd h (by decide))
            refine G_aload_n dX11_emptyBins_58 rfl ?_
            refine G_getR (t := 100) dX11_emptyBins_59 fl_11_65 (by decide) sh_0 rr_0_7 ?_
            refine G_aload_n dX11_emptyBins_62 rfl ?_
            refine G_getR (t := 3) dX11_emptyBins_63 fl_11_19 (by decide) sh_0 rr_0_1 ?_
            refine G_iconst (z := 1) dX11_emptyBins_66 rfl ?_
            refine cb_X11_emptyBins_67 (ic_X6_get (z := (mem 4 1)) (by decide) rfl ?_)
            refine G_aload_n dX11_emptyBins_70 rfl ?_
            refine G_getI (z := (mem (11 + 2 * (a1).toNat) 4)) dX11_emptyBins_71 fl_11_152 (ltStreet0 (streetL_of c1.1 (Int.lt_of_lt_of_le c1.2 (q1).2))) (shStreet0 (streetL_of c1.1 (Int.lt_of_lt_of_le c1.2 (q1).2))) rfl ?_
            refine cb_X11_emptyBins_74 (by decide) (ic_X2_think (by decide) (w8 c1 c3 c4 c5 c7) ?_)
            refine G_aload_n dX11_emptyBins_77 rfl ?_
            refine G_getR (t := 100) dX11_emptyBins_78 fl_11_65 (by decide) sh_0 rr_0_7 ?_
            refine G_aload_n dX11_emptyBins_81 rfl ?_
            refine G_iload_n dX11_emptyBins_82 rfl ?_
            refine G_aload_n dX11_emptyBins_83 rfl ?_
            refine G_getR (t := 23) dX11_emptyBins_84 fl_11_40 (by decide) sh_0 rr_0_4 ?_
            refine G_iload_n dX11_emptyBins_87 rfl ?_
            refine cb_X11_emptyBins_88 (by decide) (ic_X7_outOf (z := (mem 24 a1)) (by decide) ⟨(q9 c1 c3 c4 c5 c7).1, (q9 c1 c3 c4 c5 c7).2⟩ (by simp [up2, upr]) ?_)
            exact k3 c1 c3 c4 c5 c7
        · -- ¬ (mem 23 4) = (mem (11 + 2 * (a1).toNat) 2)
          refine G_bipush (z := (-2)) dX11_emptyBins_38 rfl ?_
          exact G_iret dX11_emptyBins_40 rfl (Nat.zero_le _) (Nat.zero_le _) (Nat.le_refl _) ⟨rfl, k4 c1 c3 c4 c5⟩
      · -- ¬ a2 < 3
        refine G_iconst (z := (-1)) dX11_emptyBins_22 rfl ?_
        exact G_iret dX11_emptyBins_23 rfl (Nat.zero_le _) (Nat.zero_le _) (Nat.le_refl _) ⟨rfl, k5 c1 c3 c4⟩
  · -- ¬ (0 ≤ a1 ∧ a1 < (mem 9 1))
    refine G_astoreNull_n dX11_emptyBins_8 rfl (by decide : 3 < 4) rfl ?_
    refine G_aloadNull_n dX11_emptyBins_9 rfl ?_
    refine G_ifnullZ (tgt := 22) dX11_emptyBins_10 (by decide) ?_
    refine G_iconst (z := (-1)) dX11_emptyBins_22 rfl ?_
    exact G_iret dX11_emptyBins_23 rfl (Nat.zero_le _) (Nat.zero_le _) (Nat.le_refl _) ⟨rfl, k6 c2⟩
set_option maxRecDepth 20000 in
set_option maxHeartbeats 8000000 in
theorem sg_X11_emptyBins_94 {E : Nat × (Nat → Int32)} {P : Option Value → Mem → Prop} {mem : Mem} {a1 : Int} {a2 : Int} {o3 : Nat} (ho3 : o3 ∈ streetL)
    (k1 : GM E (m_X11_emptyBins 5) P 113 [.ref 0, vi a1, vi a2, .ref o3] [vi (mem 4 0), vi (mem 23 3), .ref 100] mem) :
    GM E (m_X11_emptyBins 5) P 94 [.ref 0, vi a1, vi a2, .ref o3] [] mem := by
  refine G_aload_n dX11_emptyBins_94 rfl ?_
  refine G_getR (t := 100) dX11_emptyBins_95 fl_11_65 (by decide) sh_0 rr_0_7 ?_
  refine G_aload_n dX11_emptyBins_98 rfl ?_
  refine G_getR (t := 23) dX11_emptyBins_99 fl_11_40 (by decide) sh_0 rr_0_4 ?_
  refine G_getI (z := (mem 23 3)) dX11_emptyBins_102 fl_11_203 (by decide) sh_23 rfl ?_
  refine G_aload_n dX11_emptyBins_105 rfl ?_
  refine G_getR (t := 3) dX11_emptyBins_106 fl_11_19 (by decide) sh_0 rr_0_1 ?_
  refine G_iconst (z := 0) dX11_emptyBins_109 rfl ?_
  refine cb_X11_emptyBins_110 (ic_X6_get (z := (mem 4 0)) (by decide) rfl ?_)
  exact k1
set_option maxRecDepth 20000 in
set_option maxHeartbeats 8000000 in
theorem sg_X11_emptyBins_116 {E : Nat × (Nat → Int32)} {P : Option Value → Mem → Prop} {mem : Mem} {a1 : Int} {a2 : Int} {o3 : Nat} (ho3 : o3 ∈ streetL)
    (k1 : GM E (m_X11_emptyBins 5) P 125 [.ref 0, vi a1, vi a2, .ref o3] [.ref 100, vi a1, .ref 23] mem) :
    GM E (m_X11_emptyBins 5) P 116 [.ref 0, vi a1, vi a2, .ref o3] [] mem := by
  refine G_aload_n dX11_emptyBins_116 rfl ?_
  refine G_getR (t := 23) dX11_emptyBins_117 fl_11_40 (by decide) sh_0 rr_0_4 ?_
  refine G_iload_n dX11_emptyBins_120 rfl ?_
  refine G_aload_n dX11_emptyBins_121 rfl ?_
  refine G_getR (t := 100) dX11_emptyBins_122 fl_11_65 (by decide) sh_0 rr_0_7 ?_
  exact k1
set_option maxRecDepth 20000 in
set_option maxHeartbeats 8000000 in
theorem sg_X11_emptyBins_128 {E : Nat × (Nat → Int32)} {P : Option Value → Mem → Prop} {mem : Mem} {a1 : Int} {a2 : Int} {o3 : Nat} (ho3 : o3 ∈ streetL)
    (k1 : P (some (vi ((mem 100 18) + (mem 100 11)))) mem) :
    GM E (m_X11_emptyBins 5) P 128 [.ref 0, vi a1, vi a2, .ref o3] [] mem := by
  refine G_aload_n dX11_emptyBins_128 rfl ?_
  refine G_getR (t := 100) dX11_emptyBins_129 fl_11_65 (by decide) sh_0 rr_0_7 ?_
  refine cb_X11_emptyBins_132 (by decide) (ic_X2_seconds (a := (mem 100 18)) (b := (mem 100 11)) (by decide) rfl rfl ?_)
  exact G_iret dX11_emptyBins_135 rfl (Nat.zero_le _) (Nat.zero_le _) (Nat.le_refl _) ⟨rfl, k1⟩
set_option maxRecDepth 20000 in
set_option maxHeartbeats 8000000 in
theorem sg_X11_end_0 {E : Nat × (Nat → Int32)} {P : Option Value → Mem → Prop} {mem : Mem} {a1 : Int}
    (k1 : GM E (m_X11_end 1) P 5 [.ref 0, vi a1] [vi a1, .ref 1] mem) :
    GM E (m_X11_end 1) P 0 [.ref 0, vi a1] [] mem := by
  refine G_aload_n dX11_end_0 rfl ?_
  refine G_getR (t := 1) dX11_end_1 fl_11_12 (by decide) sh_0 rr_0_0 ?_
  refine G_iload_n dX11_end_4 rfl ?_
  exact k1
set_option maxRecDepth 20000 in
set_option maxHeartbeats 8000000 in
theorem sg_X11_end_8 {E : Nat × (Nat → Int32)} {P : Option Value → Mem → Prop} {mem : Mem} {a1 : Int} {s0 : Int} (b1 : s0 = 0 ∨ s0 = 1)
    (k1 : P (some (vi s0)) mem) :
    GM E (m_X11_end 1) P 8 [.ref 0, vi a1] [vi s0] mem := by
  exact G_zret dX11_end_8 rfl (nar_zb (b1)) (Nat.zero_le _) (Nat.zero_le _) (Nat.le_refl _) ⟨rfl, k1⟩
set_option maxRecDepth 20000 in
set_option maxHeartbeats 8000000 in
theorem sg_X11_forget_0 {E : Nat × (Nat → Int32)} {P : Option Value → Mem → Prop} {mem : Mem}
    (k1 : P (some (vi (mem 93 4))) (up2 mem 93 4 0)) :
    GM E (m_X11_forget 0) P 0 [.ref 0, un] [] mem := by
  refine G_aload_n dX11_forget_0 rfl ?_
  refine G_getR (t := 93) dX11_forget_1 fl_11_56 (by decide) sh_0 rr_0_6 ?_
  refine G_getI (z := (mem 93 4)) dX11_forget_4 fl_11_422 (by decide) sh_93 rfl ?_
  refine G_istore_n dX11_forget_7 rfl (by decide : 1 < 2) rfl ?_
  refine G_aload_n dX11_forget_8 rfl ?_
  refine G_getR (t := 93) dX11_forget_9 fl_11_56 (by decide) sh_0 rr_0_6 ?_
  refine G_iconst (z := 0) dX11_forget_12 rfl ?_
  refine G_putI (mem2 := (up2 mem 93 4 0)) dX11_forget_13 fp_11_422 (by decide) sh_93 rfl ?_
  refine G_iload_n dX11_forget_16 rfl ?_
  exact G_iret dX11_forget_17 rfl (Nat.zero_le _) (Nat.zero_le _) (Nat.le_refl _) ⟨rfl, k1⟩
set_option maxRecDepth 20000 in
set_option maxHeartbeats 8000000 in
theorem sg_X11_goTip_0 {E : Nat × (Nat → Int32)} {P : Option Value → Mem → Prop} {mem : Mem} (w1 : -2147483648 ≤ ((mem 23 4) - (mem 4 5)) ∧ ((mem 23 4) - (mem 4 5)) < 2147483648) (w2 : -2147483648 ≤ (mem 4 6) ∧ (mem 4 6) < 2147483648)
    (k1 : (divI ((mem 23 5) + (10 * (if 0 ≤ ((mem 23 4) - (mem 4 5)) then ((mem 23 4) - (mem 4 5)) else -((mem 23 4) - (mem 4 5))))) 60) ≤ (mem 4 6) → P (some (vi ((10 * (if 0 ≤ ((mem 23 4) - (mem 4 5)) then ((mem 23 4) - (mem 4 5)) else -((mem 23 4) - (mem 4 5)))) + 300))) (up2 (up2 (up2 mem 23 5 ((mem 23 5) + ((10 * (if 0 ≤ ((mem 23 4) - (mem 4 5)) then ((mem 23 4) - (mem 4 5)) else -((mem 23 4) - (mem 4 5)))) + 300))) 23 4 (mem 4 5)) 23 3 0))
    (k2 : ¬ (divI ((mem 23 5) + (10 * (if 0 ≤ ((mem 23 4) - (mem 4 5)) then ((mem 23 4) - (mem 4 5)) else -((mem 23 4) - (mem 4 5))))) 60) ≤ (mem 4 6) → P (some (vi (-2))) mem) :
    GM E (m_X11_goTip 2) P 0 [.ref 0, un] [] mem := by
  refine G_aload_n dX11_goTip_0 rfl ?_
  refine G_getR (t := 23) dX11_goTip_1 fl_11_40 (by decide) sh_0 rr_0_4 ?_
  refine G_getI (z := (mem 23 4)) dX11_goTip_4 fl_11_252 (by decide) sh_23 rfl ?_
  refine G_aload_n dX11_goTip_7 rfl ?_
  refine G_getR (t := 3) dX11_goTip_8 fl_11_19 (by decide) sh_0 rr_0_1 ?_
  refine G_iconst (z := 5) dX11_goTip_11 rfl ?_
  refine cb_X11_goTip_12 (ic_X6_get (z := (mem 4 5)) (by decide) rfl ?_)
  refine cb_X11_goTip_15 (ic_X11_driving (w1) ?_)
  refine G_istore_n dX11_goTip_18 rfl (by decide : 1 < 2) rfl ?_
  refine G_aload_n dX11_goTip_19 rfl ?_
  refine G_getR (t := 23) dX11_goTip_20 fl_11_40 (by decide) sh_0 rr_0_4 ?_
  refine G_getI (z := (mem 23 5)) dX11_goTip_23 fl_11_253 (by decide) sh_23 rfl ?_
  refine G_iload_n dX11_goTip_26 rfl ?_
  refine G_iadd dX11_goTip_27 ?_
  refine G_bipush (z := 60) dX11_goTip_28 rfl ?_
  refine G_idiv (z := (divI ((mem 23 5) + (10 * (if 0 ≤ ((mem 23 4) - (mem 4 5)) then ((mem 23 4) - (mem 4 5)) else -((mem 23 4) - (mem 4 5))))) 60)) dX11_goTip_30 (iI_ne0 (by decide) (by decide)) (iI_inv _) ?_
  refine G_aload_n dX11_goTip_31 rfl ?_
  refine G_getR (t := 3) dX11_goTip_32 fl_11_19 (by decide) sh_0 rr_0_1 ?_
  refine G_bipush (z := 6) dX11_goTip_35 rfl ?_
  refine cb_X11_goTip_37 (ic_X6_get (z := (mem 4 6)) (by decide) rfl ?_)
  refine G_icmp_le (tgt := 46) dX11_goTip_40 (by decide) (iI_rng _) (w2) (fun c1 => ?_) (fun c1 => ?_)
  · -- (divI ((mem 23 5) + (10 * (if 0 ≤ ((mem 23 4) - (mem 4 5)) then ((mem 23 4) - (mem 4 5)) else -((mem 23 4) - (mem 4 5))))) 60) ≤ (mem 4 6)
    refine G_aload_n dX11_goTip_46 rfl ?_
    refine G_getR (t := 23) dX11_goTip_47 fl_11_40 (by decide) sh_0 rr_0_4 ?_
    refine G_dup dX11_goTip_50 rfl ?_
    refine G_getI (z := (mem 23 5)) dX11_goTip_51 fl_11_253 (by decide) sh_23 rfl ?_
    refine G_iload_n dX11_goTip_54 rfl ?_
    refine G_sipush (z := 300) dX11_goTip_55 rfl ?_
    refine G_iadd dX11_goTip_58 ?_
    refine G_iadd dX11_goTip_59 ?_
    refine G_putI (mem2 := (up2 mem 23 5 ((mem 23 5) + ((10 * (if 0 ≤ ((mem 23 4) - (mem 4 5)) then ((mem 23 4) - (mem 4 5)) else -((mem 23 4) - (mem 4 5)))) + 300)))) dX11_goTip_60 fp_11_253 (by decide) sh_23 rfl ?_
    refine G_aload_n dX11_goTip_63 rfl ?_
    refine G_getR (t := 23) dX11_goTip_64 fl_11_40 (by decide) sh_0 rr_0_4 ?_
    refine G_aload_n dX11_goTip_67 rfl ?_
    refine G_getR (t := 3) dX11_goTip_68 fl_11_19 (by decide) sh_0 rr_0_1 ?_
    refine G_iconst (z := 5) dX11_goTip_71 rfl ?_
    refine cb_X11_goTip_72 (ic_X6_get (z := (mem 4 5)) (by decide) (by simp [up2, upr]) ?_)
    refine G_putI (mem2 := (up2 (up2 mem 23 5 ((mem 23 5) + ((10 * (if 0 ≤ ((mem 23 4) - (mem 4 5)) then ((mem 23 4) - (mem 4 5)) else -((mem 23 4) - (mem 4 5)))) + 300))) 23 4 (mem 4 5))) dX11_goTip_75 fp_11_252 (by decide) sh_23 rfl ?_
    refine G_aload_n dX11_goTip_78 rfl ?_
    refine G_getR (t := 23) dX11_goTip_79 fl_11_40 (by decide) sh_0 rr_0_4 ?_
    refine G_iconst (z := 0) dX11_goTip_82 rfl ?_
    refine G_putI (mem2 := (up2 (up2 (up2 mem 23 5 ((mem 23 5) + ((10 * (if 0 ≤ ((mem 23 4) - (mem 4 5)) then ((mem 23 4) - (mem 4 5)) else -((mem 23 4) - (mem 4 5)))) + 300))) 23 4 (mem 4 5)) 23 3 0)) dX11_goTip_83 fp_11_203 (by decide) sh_23 rfl ?_
    refine G_iload_n dX11_goTip_86 rfl ?_
    refine G_sipush (z := 300) dX11_goTip_87 rfl ?_
    refine G_iadd dX11_goTip_90 ?_
    exact G_iret dX11_goTip_91 rfl (Nat.zero_le _) (Nat.zero_le _) (Nat.le_refl _) ⟨rfl, k1 c1⟩
  · -- ¬ (divI ((mem 23 5) + (10 * (if 0 ≤ ((mem 23 4) - (mem 4 5)) then ((mem 23 4) - (mem 4 5)) else -((mem 23 4) - (mem 4 5))))) 60) ≤ (mem 4 6)
    refine G_bipush (z := (-2)) dX11_goTip_43 rfl ?_
    exact G_iret dX11_goTip_45 rfl (Nat.zero_le _) (Nat.zero_le _) (Nat.le_refl _) ⟨rfl, k2 c1⟩
set_option maxRecDepth 20000 in
set_option maxHeartbeats 8000000 in
theorem sg_X11_goTo_0 {E : Nat × (Nat → Int32)} {P : Option Value → Mem → Prop} {mem : Mem} {a1 : Int} (q1 : 0 ≤ (mem 9 1) ∧ (mem 9 1) ≤ 6) (w2 : -2147483648 ≤ a1 ∧ a1 < 2147483648) (w3 : 0 ≤ a1 ∧ a1 < (mem 9 1) → -2147483648 ≤ ((mem 23 4) - (mem (11 + 2 * (a1).toNat) 2)) ∧ ((mem 23 4) - (mem (11 + 2 * (a1).toNat) 2)) < 2147483648)
    (k1 : 0 ≤ a1 ∧ a1 < (mem 9 1) → P (some (vi (10 * (if 0 ≤ ((mem 23 4) - (mem (11 + 2 * (a1).toNat) 2)) then ((mem 23 4) - (mem (11 + 2 * (a1).toNat) 2)) else -((mem 23 4) - (mem (11 + 2 * (a1).toNat) 2)))))) (up2 (up2 mem 23 4 (mem (11 + 2 * (a1).toNat) 2)) 23 5 ((mem 23 5) + (10 * (if 0 ≤ ((mem 23 4) - (mem (11 + 2 * (a1).toNat) 2)) then ((mem 23 4) - (mem (11 + 2 * (a1).toNat) 2)) else -((mem 23 4) - (mem (11 + 2 * (a1).toNat) 2)))))))
    (k2 : ¬ (0 ≤ a1 ∧ a1 < (mem 9 1)) → P (some (vi (-1))) mem) :
    GM E (m_X11_goTo 2) P 0 [.ref 0, vi a1, un, un] [] mem := by
  refine G_aload_n dX11_goTo_0 rfl ?_
  refine G_getR (t := 9) dX11_goTo_1 fl_11_33 (by decide) sh_0 rr_0_3 ?_
  refine G_iload_n dX11_goTo_4 rfl ?_
  refine cb_X11_goTo_5 (ic_X10_at (z := (mem 9 1)) rfl (q1) (w2) (fun c1 => ?_) (fun c2 => ?_))
  · -- 0 ≤ a1 ∧ a1 < (mem 9 1)
    refine G_astore_n dX11_goTo_8 rfl (by decide : 2 < 4) rfl ?_
    refine G_aload_n dX11_goTo_9 rfl ?_
    refine G_ifnonnull (tgt := 15) dX11_goTo_10 (by decide) ?_
    refine G_aload_n dX11_goTo_15 rfl ?_
    refine G_getR (t := 23) dX11_goTo_16 fl_11_40 (by decide) sh_0 rr_0_4 ?_
    refine G_getI (z := (mem 23 4)) dX11_goTo_19 fl_11_252 (by decide) sh_23 rfl ?_
    refine G_aload_n dX11_goTo_22 rfl ?_
    refine G_getI (z := (mem (11 + 2 * (a1).toNat) 2)) dX11_goTo_23 fl_11_144 (ltStreet0 (streetL_of c1.1 (Int.lt_of_lt_of_le c1.2 (q1).2))) (shStreet0 (streetL_of c1.1 (Int.lt_of_lt_of_le c1.2 (q1).2))) rfl ?_
    refine cb_X11_goTo_26 (ic_X11_driving (w3 c1) ?_)
    refine G_istore_n dX11_goTo_29 rfl (by decide : 3 < 4) rfl ?_
    refine G_aload_n dX11_goTo_30 rfl ?_
    refine G_getR (t := 23) dX11_goTo_31 fl_11_40 (by decide) sh_0 rr_0_4 ?_
    refine G_aload_n dX11_goTo_34 rfl ?_
    refine G_getI (z := (mem (11 + 2 * (a1).toNat) 2)) dX11_goTo_35 fl_11_144 (ltStreet0 (streetL_of c1.1 (Int.lt_of_lt_of_le c1.2 (q1).2))) (shStreet0 (streetL_of c1.1 (Int.lt_of_lt_of_le c1.2 (q1).2))) rfl ?_
    refine G_putI (mem2 := (up2 mem 23 4 (mem (11 + 2 * (a1).toNat) 2))) dX11_goTo_38 fp_11_252 (by decide) sh_23 rfl ?_
    refine G_aload_n dX11_goTo_41 rfl ?_
    refine G_getR (t := 23) dX11_goTo_42 fl_11_40 (by decide) sh_0 rr_0_4 ?_
    refine G_dup dX11_goTo_45 rfl ?_
    refine G_getI (z := (mem 23 5)) dX11_goTo_46 fl_11_253 (by decide) sh_23 (by simp [up2, upr]) ?_
    refine G_iload_n dX11_goTo_49 rfl ?_
    refine G_iadd dX11_goTo_50 ?_
    refine G_putI (mem2 := (up2 (up2 mem 23 4 (mem (11 + 2 * (a1).toNat) 2)) 23 5 ((mem 23 5) + (10 * (if 0 ≤ ((mem 23 4) - (mem (11 + 2 * (a1).toNat) 2)) then ((mem 23 4) - (mem (11 + 2 * (a1).toNat) 2)) else -((mem 23 4) - (mem (11 + 2 * (a1).toNat) 2))))))) dX11_goTo_51 fp_11_253 (by decide) sh_23 rfl ?_
    refine G_iload_n dX11_goTo_54 rfl ?_
    exact G_iret dX11_goTo_55 rfl (Nat.zero_le _) (Nat.zero_le _) (Nat.le_refl _) ⟨rfl, k1 c1⟩
  · -- ¬ (0 ≤ a1 ∧ a1 < (mem 9 1))
    refine G_astoreNull_n dX11_goTo_8 rfl (by decide : 2 < 4) rfl ?_
    refine G_aloadNull_n dX11_goTo_9 rfl ?_
    refine G_ifnonnullZ dX11_goTo_10 ?_
    refine G_iconst (z := (-1)) dX11_goTo_13 rfl ?_
    exact G_iret dX11_goTo_14 rfl (Nat.zero_le _) (Nat.zero_le _) (Nat.le_refl _) ⟨rfl, k2 c2⟩
set_option maxRecDepth 20000 in
set_option maxHeartbeats 8000000 in
theorem sg_X11_hill_0 {E : Nat × (Nat → Int32)} {P : Option Value → Mem → Prop} {mem : Mem} {a1 : Int} (q1 : 0 ≤ (mem 9 1) ∧ (mem 9 1) ≤ 6) (w2 : -2147483648 ≤ a1 ∧ a1 < 2147483648)
    (k1 : 0 ≤ a1 ∧ a1 < (mem 9 1) → GM E (m_X11_hill 7) P 39 [.ref 0, vi a1, .ref (11 + 2 * (a1).toNat), vi (mem 4 1)] [vi (mem (11 + 2 * (a1).toNat) 4), vi (mem 4 1), .ref (11 + 2 * (a1).toNat), .ref 0] mem)
    (k2 : ¬ (0 ≤ a1 ∧ a1 < (mem 9 1)) → GM E (m_X11_hill 7) P 13 [.ref 0, vi a1, .null, un] [] mem) :
    GM E (m_X11_hill 7) P 0 [.ref 0, vi a1, un, un] [] mem := by
  refine G_aload_n dX11_hill_0 rfl ?_
  refine G_getR (t := 9) dX11_hill_1 fl_11_33 (by decide) sh_0 rr_0_3 ?_
  refine G_iload_n dX11_hill_4 rfl ?_
  refine cb_X11_hill_5 (ic_X10_at (z := (mem 9 1)) rfl (q1) (w2) (fun c1 => ?_) (fun c2 => ?_))
  · -- 0 ≤ a1 ∧ a1 < (mem 9 1)
    refine G_astore_n dX11_hill_8 rfl (by decide : 2 < 4) rfl ?_
    refine G_aload_n dX11_hill_9 rfl ?_
    refine G_ifnonnull (tgt := 23) dX11_hill_10 (by decide) ?_
    refine G_aload_n dX11_hill_23 rfl ?_
    refine G_getR (t := 3) dX11_hill_24 fl_11_19 (by decide) sh_0 rr_0_1 ?_
    refine G_iconst (z := 1) dX11_hill_27 rfl ?_
    refine cb_X11_hill_28 (ic_X6_get (z := (mem 4 1)) (by decide) rfl ?_)
    refine G_istore_n dX11_hill_31 rfl (by decide : 3 < 4) rfl ?_
    refine G_aload_n dX11_hill_32 rfl ?_
    refine G_aload_n dX11_hill_33 rfl ?_
    refine G_iload_n dX11_hill_34 rfl ?_
    refine G_aload_n dX11_hill_35 rfl ?_
    refine G_getI (z := (mem (11 + 2 * (a1).toNat) 4)) dX11_hill_36 fl_11_152 (ltStreet0 (streetL_of c1.1 (Int.lt_of_lt_of_le c1.2 (q1).2))) (shStreet0 (streetL_of c1.1 (Int.lt_of_lt_of_le c1.2 (q1).2))) rfl ?_
    exact k1 c1
  · -- ¬ (0 ≤ a1 ∧ a1 < (mem 9 1))
    refine G_astoreNull_n dX11_hill_8 rfl (by decide : 2 < 4) rfl ?_
    refine G_aloadNull_n dX11_hill_9 rfl ?_
    refine G_ifnonnullZ dX11_hill_10 ?_
    exact k2 c2
set_option maxRecDepth 20000 in
set_option maxHeartbeats 8000000 in
theorem sg_X11_hill_42 {E : Nat × (Nat → Int32)} {P : Option Value → Mem → Prop} {mem : Mem} {a1 : Int} {o2 : Nat} {a3 : Int} {s0 : Int} (ho2 : o2 ∈ streetL)
    (k1 : GM E (m_X11_hill 7) P 46 [.ref 0, vi a1, .ref o2, vi a3] [vi (-1), vi a3, .ref o2, .ref 0, vi s0] mem) :
    GM E (m_X11_hill 7) P 42 [.ref 0, vi a1, .ref o2, vi a3] [vi s0] mem := by
  refine G_aload_n dX11_hill_42 rfl ?_
  refine G_aload_n dX11_hill_43 rfl ?_
  refine G_iload_n dX11_hill_44 rfl ?_
  refine G_iconst (z := (-1)) dX11_hill_45 rfl ?_
  exact k1
set_option maxRecDepth 20000 in
set_option maxHeartbeats 8000000 in
theorem sg_X11_hill_49 {E : Nat × (Nat → Int32)} {P : Option Value → Mem → Prop} {mem : Mem} {a1 : Int} {o2 : Nat} {a3 : Int} {s0 : Int} {s1 : Int} (ho2 : o2 ∈ streetL)
    (k1 : P (some (vi (s1 - s0))) mem) :
    GM E (m_X11_hill 7) P 49 [.ref 0, vi a1, .ref o2, vi a3] [vi s0, vi s1] mem := by
  refine G_isub dX11_hill_49 ?_
  exact G_iret dX11_hill_50 rfl (Nat.zero_le _) (Nat.zero_le _) (Nat.le_refl _) ⟨rfl, k1⟩
set_option maxRecDepth 20000 in
set_option maxHeartbeats 8000000 in
theorem sg_X11_holiday_0 {E : Nat × (Nat → Int32)} {P : Option Value → Mem → Prop} {mem : Mem} {a1 : Int} {a2 : Int} (w1 : -2147483648 ≤ a1 ∧ a1 < 2147483648) (w2 : -2147483648 ≤ a2 ∧ a2 < 2147483648)
    (k1 : a1 < 0 → P (some (vi (-1))) mem)
    (k2 : ¬ a1 < 0 → 7 ≤ a1 → P (some (vi (-1))) mem)
    (k3 : ¬ a1 < 0 → ¬ 7 ≤ a1 → a2 < 0 → P (some (vi (-1))) mem)
    (k4 : ¬ a1 < 0 → ¬ 7 ≤ a1 → ¬ a2 < 0 → a2 ≤ 99999 → GM E (m_X11_holiday 202) P 24 [.ref 0, vi a1, vi a2, un, un, un] [.ref 0] mem)
    (k5 : ¬ a1 < 0 → ¬ 7 ≤ a1 → ¬ a2 < 0 → ¬ a2 ≤ 99999 → P (some (vi (-1))) mem) :
    GM E (m_X11_holiday 202) P 0 [.ref 0, vi a1, vi a2, un, un, un] [] mem := by
  refine G_iload_n dX11_holiday_0 rfl ?_
  refine G_if_lt (tgt := 21) dX11_holiday_1 (by decide) (w1) (fun c1 => ?_) (fun c1 => ?_)
  · -- a1 < 0
    refine G_iconst (z := (-1)) dX11_holiday_21 rfl ?_
    exact G_iret dX11_holiday_22 rfl (Nat.zero_le _) (Nat.zero_le _) (Nat.le_refl _) ⟨rfl, k1 c1⟩
  · -- ¬ a1 < 0
    refine G_iload_n dX11_holiday_4 rfl ?_
    refine G_bipush (z := 7) dX11_holiday_5 rfl ?_
    refine G_icmp_ge (tgt := 21) dX11_holiday_7 (by decide) (w1) (by decide) (fun c2 => ?_) (fun c2 => ?_)
    · -- 7 ≤ a1
      refine G_iconst (z := (-1)) dX11_holiday_21 rfl ?_
      exact G_iret dX11_holiday_22 rfl (Nat.zero_le _) (Nat.zero_le _) (Nat.le_refl _) ⟨rfl, k2 c1 c2⟩
    · -- ¬ 7 ≤ a1
      refine G_iload_n dX11_holiday_10 rfl ?_
      refine G_if_lt (tgt := 21) dX11_holiday_11 (by decide) (w2) (fun c3 => ?_) (fun c3 => ?_)
      · -- a2 < 0
        refine G_iconst (z := (-1)) dX11_holiday_21 rfl ?_
        exact G_iret dX11_holiday_22 rfl (Nat.zero_le _) (Nat.zero_le _) (Nat.le_refl _) ⟨rfl, k3 c1 c2 c3⟩
      · -- ¬ a2 < 0
        refine G_iload_n dX11_holiday_14 rfl ?_
        refine G_ldcw (z := 99999) dX11_holiday_15 kc_11_386 ?_
        refine G_icmp_le (tgt := 23) dX11_holiday_18 (by decide) (w2) (by decide) (fun c4 => ?_) (fun c4 => ?_)
        · -- a2 ≤ 99999
          refine G_aload_n dX11_holiday_23 rfl ?_
          exact k4 c1 c2 c3 c4
        · -- ¬ a2 ≤ 99999
          refine G_iconst (z := (-1)) dX11_holiday_21 rfl ?_
          exact G_iret dX11_holiday_22 rfl (Nat.zero_le _) (Nat.zero_le _) (Nat.le_refl _) ⟨rfl, k5 c1 c2 c3 c4⟩
set_option maxRecDepth 20000 in
set_option maxHeartbeats 8000000 in
theorem sg_X11_holiday_27 {E : Nat × (Nat → Int32)} {P : Option Value → Mem → Prop} {mem : Mem} {a1 : Int} {a2 : Int}
    (k1 : GM E (m_X11_holiday 202) P 32 [.ref 0, vi a1, vi a2, un, un, un] [vi a1, .ref 147] mem) :
    GM E (m_X11_holiday 202) P 27 [.ref 0, vi a1, vi a2, un, un, un] [] mem := by
  refine G_aload_n dX11_holiday_27 rfl ?_
  refine G_getR (t := 147) dX11_holiday_28 fl_11_83 (by decide) sh_0 rr_0_9 ?_
  refine G_iload_n dX11_holiday_31 rfl ?_
  exact k1
set_option maxRecDepth 20000 in
set_option maxHeartbeats 8000000 in
theorem sg_X11_holiday_35 {E : Nat × (Nat → Int32)} {P : Option Value → Mem → Prop} {mem : Mem} {a1 : Int} {a2 : Int} {s0 : Int} (w1 : -2147483648 ≤ s0 ∧ s0 < 2147483648)
    (k1 : s0 ≠ 0 → GM E (m_X11_holiday 202) P 51 [.ref 0, vi a1, vi a2, vi s0, vi (a1 + 1), un] [] mem)
    (k2 : s0 = 0 → P (some (vi 0)) (up2 mem 0 14 0)) :
    GM E (m_X11_holiday 202) P 35 [.ref 0, vi a1, vi a2, un, un, un] [vi s0] mem := by
  refine G_istore_n dX11_holiday_35 rfl (by decide : 3 < 6) rfl ?_
  refine G_iload_n dX11_holiday_36 rfl ?_
  refine G_if_ne (tgt := 46) dX11_holiday_37 (by decide) (w1) (fun c1 => ?_) (fun c1 => ?_)
  · -- s0 ≠ 0
    refine G_iload_n dX11_holiday_46 rfl ?_
    refine G_iconst (z := 1) dX11_holiday_47 rfl ?_
    refine G_iadd dX11_holiday_48 ?_
    refine G_istore dX11_holiday_49 (by decide : 4 < 6) rfl ?_
    exact k1 c1
  · -- s0 = 0
    refine G_aload_n dX11_holiday_40 rfl ?_
    refine cb_X11_holiday_41 (ic_X11_clearRow ?_)
    refine G_iconst (z := 0) dX11_holiday_44 rfl ?_
    exact G_iret dX11_holiday_45 rfl (Nat.zero_le _) (Nat.zero_le _) (Nat.le_refl _) ⟨rfl, k2 c1⟩
set_option maxRecDepth 20000 in
set_option maxHeartbeats 8000000 in
theorem sg_X11_holiday_51 {E : Nat × (Nat → Int32)} {P : Option Value → Mem → Prop} {mem : Mem} {a1 : Int} {a2 : Int} {a3 : Int} {a4 : Int} (w1 : -2147483648 ≤ a4 ∧ a4 < 2147483648)
    (k1 : 7 ≤ a4 → P (some (vi (-2))) mem)
    (k2 : ¬ 7 ≤ a4 → GM E (m_X11_holiday 202) P 68 [.ref 0, vi a1, vi a2, vi a3, vi a4, un] [vi a2, vi a4, vi (a1 + 1), .ref 147] mem) :
    GM E (m_X11_holiday 202) P 51 [.ref 0, vi a1, vi a2, vi a3, vi a4, un] [] mem := by
  refine G_iload dX11_holiday_51 rfl ?_
  refine G_bipush (z := 7) dX11_holiday_53 rfl ?_
  refine G_icmp_ge (tgt := 118) dX11_holiday_55 (by decide) (w1) (by decide) (fun c1 => ?_) (fun c1 => ?_)
  · -- 7 ≤ a4
    refine G_bipush (z := (-2)) dX11_holiday_118 rfl ?_
    exact G_iret dX11_holiday_120 rfl (Nat.zero_le _) (Nat.zero_le _) (Nat.le_refl _) ⟨rfl, k1 c1⟩
  · -- ¬ 7 ≤ a4
    refine G_aload_n dX11_holiday_58 rfl ?_
    refine G_getR (t := 147) dX11_holiday_59 fl_11_83 (by decide) sh_0 rr_0_9 ?_
    refine G_iload_n dX11_holiday_62 rfl ?_
    refine G_iconst (z := 1) dX11_holiday_63 rfl ?_
    refine G_iadd dX11_holiday_64 ?_
    refine G_iload dX11_holiday_65 rfl ?_
    refine G_iload_n dX11_holiday_67 rfl ?_
    exact k2 c1
set_option maxRecDepth 20000 in
set_option maxHeartbeats 8000000 in
theorem sg_X11_holiday_71 {E : Nat × (Nat → Int32)} {P : Option Value → Mem → Prop} {mem : Mem} {a1 : Int} {a2 : Int} {a3 : Int} {a4 : Int} {s0 : Int} (w1 : -2147483648 ≤ s0 ∧ s0 < 2147483648)
    (k1 : s0 = 0 → GM E (m_X11_holiday 202) P 51 [.ref 0, vi a1, vi a2, vi a3, vi (a4 + 1), un] [] mem)
    (k2 : ¬ s0 = 0 → GM E (m_X11_holiday 202) P 81 [.ref 0, vi a1, vi a2, vi a3, vi a4, vi 0] [] (up2 mem 0 14 0)) :
    GM E (m_X11_holiday 202) P 71 [.ref 0, vi a1, vi a2, vi a3, vi a4, un] [vi s0] mem := by
  refine G_if_eq (tgt := 112) dX11_holiday_71 (by decide) (w1) (fun c1 => ?_) (fun c1 => ?_)
  · -- s0 = 0
    refine G_iinc (z := (a4 + 1)) dX11_holiday_112 rfl rfl (by decide : 4 < 6) rfl ?_
    refine G_goto (tgt := 51) dX11_holiday_115 (by decide) ?_
    exact k1 c1
  · -- ¬ s0 = 0
    refine G_aload_n dX11_holiday_74 rfl ?_
    refine cb_X11_holiday_75 (ic_X11_clearRow ?_)
    refine G_iconst (z := 0) dX11_holiday_78 rfl ?_
    refine G_istore dX11_holiday_79 (by decide : 5 < 6) rfl ?_
    exact k2 c1
set_option maxRecDepth 20000 in
set_option maxHeartbeats 8000000 in
theorem sg_X11_holiday_81 {E : Nat × (Nat → Int32)} {P : Option Value → Mem → Prop} {mem : Mem} {a1 : Int} {a2 : Int} {a3 : Int} {a4 : Int} {a5 : Int} (w1 : -2147483648 ≤ a5 ∧ a5 < 2147483648) (w2 : -2147483648 ≤ a3 ∧ a3 < 2147483648) (q3 : ¬ a3 ≤ a5 → 0 ≤ a5 ∧ a5 < 6) (w4 : ¬ a3 ≤ a5 → -2147483648 ≤ (mem 152 a5) ∧ (mem 152 a5) < 2147483648) (q5 : ¬ a3 ≤ a5 → 0 ≤ (mem 0 14) ∧ (mem 0 14) < 6)
    (k1 : a3 ≤ a5 → P (some (vi (a4 - a1))) mem)
    (k2 : ¬ a3 ≤ a5 → GM E (m_X11_holiday 202) P 81 [.ref 0, vi a1, vi a2, vi a3, vi a4, vi (a5 + 1)] [] (up2 (up2 mem 168 (mem 0 14) (mem 152 a5)) 0 14 ((mem 0 14) + 1))) :
    GM E (m_X11_holiday 202) P 81 [.ref 0, vi a1, vi a2, vi a3, vi a4, vi a5] [] mem := by
  refine G_iload dX11_holiday_81 rfl ?_
  refine G_iload_n dX11_holiday_83 rfl ?_
  refine G_icmp_ge (tgt := 107) dX11_holiday_84 (by decide) (w1) (w2) (fun c1 => ?_) (fun c1 => ?_)
  · -- a3 ≤ a5
    refine G_iload dX11_holiday_107 rfl ?_
    refine G_iload_n dX11_holiday_109 rfl ?_
    refine G_isub dX11_holiday_110 ?_
    exact G_iret dX11_holiday_111 rfl (Nat.zero_le _) (Nat.zero_le _) (Nat.le_refl _) ⟨rfl, k1 c1⟩
  · -- ¬ a3 ≤ a5
    refine G_aload_n dX11_holiday_87 rfl ?_
    refine G_aload_n dX11_holiday_88 rfl ?_
    refine G_getR (t := 147) dX11_holiday_89 fl_11_83 (by decide) sh_0 rr_0_9 ?_
    refine G_iload dX11_holiday_92 rfl ?_
    refine cb_X11_holiday_94 (ic_X0_foundAt (z := (mem 152 a5)) ⟨(q3 c1).1, (q3 c1).2⟩ rfl ?_)
    refine G_i2l dX11_holiday_97 (w4 c1) ?_
    refine cb_X11_holiday_98 (ic_X11_tellMore (z := (mem 0 14)) (z2 := ((mem 0 14) + 1)) rfl (q5 c1) rfl ?_)
    refine G_iinc (z := (a5 + 1)) dX11_holiday_101 rfl rfl (by decide : 5 < 6) rfl ?_
    refine G_goto (tgt := 81) dX11_holiday_104 (by decide) ?_
    exact k2 c1
set_option maxRecDepth 20000 in
set_option maxHeartbeats 8000000 in
theorem sg_X11_keep_0 {E : Nat × (Nat → Int32)} {P : Option Value → Mem → Prop} {mem : Mem} {a1 : Int} (w1 : -2147483648 ≤ a1 ∧ a1 < 2147483648)
    (k1 : a1 < 0 → P (some (vi 0)) mem)
    (k2 : ¬ a1 < 0 → a1 < 3 → GM E (m_X11_keep 3) P 25 [.ref 0, vi a1] [.ref 23, .ref (154 + 4 * (a1).toNat)] mem)
    (k3 : ¬ a1 < 0 → ¬ a1 < 3 → P (some (vi 0)) mem) :
    GM E (m_X11_keep 3) P 0 [.ref 0, vi a1] [] mem := by
  refine G_iload_n dX11_keep_0 rfl ?_
  refine G_if_lt (tgt := 13) dX11_keep_1 (by decide) (w1) (fun c1 => ?_) (fun c1 => ?_)
  · -- a1 < 0
    refine G_iconst (z := 0) dX11_keep_13 rfl ?_
    exact G_zret dX11_keep_14 rfl (nar_zb (by decide)) (Nat.zero_le _) (Nat.zero_le _) (Nat.le_refl _) ⟨rfl, k1 c1⟩
  · -- ¬ a1 < 0
    refine G_iload_n dX11_keep_4 rfl ?_
    refine G_aload_n dX11_keep_5 rfl ?_
    refine G_getR (t := 153) dX11_keep_6 fl_11_87 (by decide) sh_0 rr_0_10 ?_
    refine G_alen (z := 3) dX11_keep_9 (by decide) sh_153 (by decide) rfl ?_
    refine G_icmp_lt (tgt := 15) dX11_keep_10 (by decide) (w1) (by decide) (fun c2 => ?_) (fun c2 => ?_)
    · -- a1 < 3
      refine G_aload_n dX11_keep_15 rfl ?_
      refine G_getR (t := 153) dX11_keep_16 fl_11_87 (by decide) sh_0 rr_0_10 ?_
      refine G_iload_n dX11_keep_19 rfl ?_
      refine G_aald4S (t := (154 + 4 * (a1).toNat)) dX11_keep_20 (by decide) sh_153 (by decide) (by omega) (by omega) (rr_kept (by omega) (by omega)) ?_
      refine G_aload_n dX11_keep_21 rfl ?_
      refine G_getR (t := 23) dX11_keep_22 fl_11_40 (by decide) sh_0 rr_0_4 ?_
      exact k2 c1 c2
    · -- ¬ a1 < 3
      refine G_iconst (z := 0) dX11_keep_13 rfl ?_
      exact G_zret dX11_keep_14 rfl (nar_zb (by decide)) (Nat.zero_le _) (Nat.zero_le _) (Nat.le_refl _) ⟨rfl, k3 c1 c2⟩
set_option maxRecDepth 20000 in
set_option maxHeartbeats 8000000 in
theorem sg_X11_keep_28 {E : Nat × (Nat → Int32)} {P : Option Value → Mem → Prop} {mem : Mem} {a1 : Int} (q1 : 0 ≤ a1 ∧ a1 < 3)
    (k1 : P (some (vi 1)) (up2 mem 166 a1 (mem 9 1))) :
    GM E (m_X11_keep 3) P 28 [.ref 0, vi a1] [] mem := by
  refine G_aload_n dX11_keep_28 rfl ?_
  refine G_getR (t := 166) dX11_keep_29 fl_11_91 (by decide) sh_0 rr_0_11 ?_
  refine G_iload_n dX11_keep_32 rfl ?_
  refine G_aload_n dX11_keep_33 rfl ?_
  refine G_getR (t := 9) dX11_keep_34 fl_11_33 (by decide) sh_0 rr_0_3 ?_
  refine G_getI (z := (mem 9 1)) dX11_keep_37 fl_11_113 (by decide) sh_9 rfl ?_
  refine G_iast (mem2 := (up2 mem 166 a1 (mem 9 1))) dX11_keep_40 (by decide) sh_166 (by decide) (q1).1 (q1).2 rfl ?_
  refine G_iconst (z := 1) dX11_keep_41 rfl ?_
  exact G_zret dX11_keep_42 rfl (nar_zb (by decide)) (Nat.zero_le _) (Nat.zero_le _) (Nat.le_refl _) ⟨rfl, k1⟩
set_option maxRecDepth 20000 in
set_option maxHeartbeats 8000000 in
theorem sg_X11_less_0 {E : Nat × (Nat → Int32)} {P : Option Value → Mem → Prop} {mem : Mem} {a1 : Int} (q1 : 0 ≤ (mem 9 1) ∧ (mem 9 1) ≤ 6) (w2 : -2147483648 ≤ a1 ∧ a1 < 2147483648) (w3 : 0 ≤ a1 ∧ a1 < (mem 9 1) → -2147483648 ≤ (mem 4 1) ∧ (mem 4 1) < 2147483648)
    (k1 : 0 ≤ a1 ∧ a1 < (mem 9 1) → 1 < (mem 4 1) → GM E (m_X11_less 7) P 39 [.ref 0, vi a1, .ref (11 + 2 * (a1).toNat), vi (mem 4 1), un, un] [vi (mem (11 + 2 * (a1).toNat) 4), vi (mem 4 1), .ref (11 + 2 * (a1).toNat), .ref 0] mem)
    (k2 : 0 ≤ a1 ∧ a1 < (mem 9 1) → ¬ 1 < (mem 4 1) → P (some (vi (-2))) mem)
    (k3 : ¬ (0 ≤ a1 ∧ a1 < (mem 9 1)) → P (some (vi (-1))) mem) :
    GM E (m_X11_less 7) P 0 [.ref 0, vi a1, un, un, un, un] [] mem := by
  refine G_aload_n dX11_less_0 rfl ?_
  refine G_getR (t := 9) dX11_less_1 fl_11_33 (by decide) sh_0 rr_0_3 ?_
  refine G_iload_n dX11_less_4 rfl ?_
  refine cb_X11_less_5 (ic_X10_at (z := (mem 9 1)) rfl (q1) (w2) (fun c1 => ?_) (fun c2 => ?_))
  · -- 0 ≤ a1 ∧ a1 < (mem 9 1)
    refine G_astore_n dX11_less_8 rfl (by decide : 2 < 6) rfl ?_
    refine G_aload_n dX11_less_9 rfl ?_
    refine G_ifnonnull (tgt := 15) dX11_less_10 (by decide) ?_
    refine G_aload_n dX11_less_15 rfl ?_
    refine G_getR (t := 3) dX11_less_16 fl_11_19 (by decide) sh_0 rr_0_1 ?_
    refine G_iconst (z := 1) dX11_less_19 rfl ?_
    refine cb_X11_less_20 (ic_X6_get (z := (mem 4 1)) (by decide) rfl ?_)
    refine G_istore_n dX11_less_23 rfl (by decide : 3 < 6) rfl ?_
    refine G_iload_n dX11_less_24 rfl ?_
    refine G_iconst (z := 1) dX11_less_25 rfl ?_
    refine G_icmp_gt (tgt := 32) dX11_less_26 (by decide) (w3 c1) (by decide) (fun c3 => ?_) (fun c3 => ?_)
    · -- 1 < (mem 4 1)
      refine G_aload_n dX11_less_32 rfl ?_
      refine G_aload_n dX11_less_33 rfl ?_
      refine G_iload_n dX11_less_34 rfl ?_
      refine G_aload_n dX11_less_35 rfl ?_
      refine G_getI (z := (mem (11 + 2 * (a1).toNat) 4)) dX11_less_36 fl_11_152 (ltStreet0 (streetL_of c1.1 (Int.lt_of_lt_of_le c1.2 (q1).2))) (shStreet0 (streetL_of c1.1 (Int.lt_of_lt_of_le c1.2 (q1).2))) rfl ?_
      exact k1 c1 c3
    · -- ¬ 1 < (mem 4 1)
      refine G_bipush (z := (-2)) dX11_less_29 rfl ?_
      exact G_iret dX11_less_31 rfl (Nat.zero_le _) (Nat.zero_le _) (Nat.le_refl _) ⟨rfl, k2 c1 c3⟩
  · -- ¬ (0 ≤ a1 ∧ a1 < (mem 9 1))
    refine G_astoreNull_n dX11_less_8 rfl (by decide : 2 < 6) rfl ?_
    refine G_aloadNull_n dX11_less_9 rfl ?_
    refine G_ifnonnullZ dX11_less_10 ?_
    refine G_iconst (z := (-1)) dX11_less_13 rfl ?_
    exact G_iret dX11_less_14 rfl (Nat.zero_le _) (Nat.zero_le _) (Nat.le_refl _) ⟨rfl, k3 c2⟩
set_option maxRecDepth 20000 in
set_option maxHeartbeats 8000000 in
theorem sg_X11_less_42 {E : Nat × (Nat → Int32)} {P : Option Value → Mem → Prop} {mem : Mem} {a1 : Int} {o2 : Nat} {a3 : Int} {s0 : Int} (ho2 : o2 ∈ streetL)
    (k1 : GM E (m_X11_less 7) P 53 [.ref 0, vi a1, .ref o2, vi a3, vi s0, un] [vi (mem o2 4), vi (a3 - 1), .ref o2, .ref 0] mem) :
    GM E (m_X11_less 7) P 42 [.ref 0, vi a1, .ref o2, vi a3, un, un] [vi s0] mem := by
  refine G_istore dX11_less_42 (by decide : 4 < 6) rfl ?_
  refine G_aload_n dX11_less_44 rfl ?_
  refine G_aload_n dX11_less_45 rfl ?_
  refine G_iload_n dX11_less_46 rfl ?_
  refine G_iconst (z := 1) dX11_less_47 rfl ?_
  refine G_isub dX11_less_48 ?_
  refine G_aload_n dX11_less_49 rfl ?_
  refine G_getI (z := (mem o2 4)) dX11_less_50 fl_11_152 (ltStreet0 ho2) (shStreet0 ho2) rfl ?_
  exact k1
set_option maxRecDepth 20000 in
set_option maxHeartbeats 8000000 in
theorem sg_X11_less_56 {E : Nat × (Nat → Int32)} {P : Option Value → Mem → Prop} {mem : Mem} {a1 : Int} {o2 : Nat} {a3 : Int} {a4 : Int} {s0 : Int} (ho2 : o2 ∈ streetL) (w1 : -2147483648 ≤ (mem 100 13) ∧ (mem 100 13) < 2147483648)
    (k1 : P (some (vi (s0 - a4))) (up2 (up2 (up2 mem 0 14 0) 168 0 (mem 100 13)) 0 14 1)) :
    GM E (m_X11_less 7) P 56 [.ref 0, vi a1, .ref o2, vi a3, vi a4, un] [vi s0] mem := by
  refine G_istore dX11_less_56 (by decide : 5 < 6) rfl ?_
  refine G_aload_n dX11_less_58 rfl ?_
  refine G_aload_n dX11_less_59 rfl ?_
  refine G_getR (t := 100) dX11_less_60 fl_11_65 (by decide) sh_0 rr_0_7 ?_
  refine G_getI (z := (mem 100 13)) dX11_less_63 fl_11_334 (by decide) sh_100 rfl ?_
  refine G_i2l dX11_less_66 (w1) ?_
  refine cb_X11_less_67 (ic_X11_tell ?_)
  refine G_iload dX11_less_70 rfl ?_
  refine G_iload dX11_less_72 rfl ?_
  refine G_isub dX11_less_74 ?_
  exact G_iret dX11_less_75 rfl (Nat.zero_le _) (Nat.zero_le _) (Nat.le_refl _) ⟨rfl, k1⟩
set_option maxRecDepth 20000 in
set_option maxHeartbeats 8000000 in
theorem sg_X11_line_0 {E : Nat × (Nat → Int32)} {P : Option Value → Mem → Prop} {mem : Mem} {a1 : Int} (q1 : 0 ≤ (mem 9 1) ∧ (mem 9 1) ≤ 6) (w2 : -2147483648 ≤ a1 ∧ a1 < 2147483648) (w3 : 0 ≤ a1 ∧ a1 < (mem 9 1) → -2147483648 ≤ (mem 4 1) ∧ (mem 4 1) < 2147483648)
    (k1 : 0 ≤ a1 ∧ a1 < (mem 9 1) → GM E (m_X11_line 6) P 42 [.ref 0, vi a1, .ref (11 + 2 * (a1).toNat), vi 0, vi 0, vi 0, un, un] [] (up2 (up2 mem 100 7 (max 1 (mem 4 1))) 100 8 (mem (11 + 2 * (a1).toNat) 4)))
    (k2 : ¬ (0 ≤ a1 ∧ a1 < (mem 9 1)) → P (some (vi (-1))) mem) :
    GM E (m_X11_line 6) P 0 [.ref 0, vi a1, un, un, un, un, un, un] [] mem := by
  refine G_aload_n dX11_line_0 rfl ?_
  refine G_getR (t := 9) dX11_line_1 fl_11_33 (by decide) sh_0 rr_0_3 ?_
  refine G_iload_n dX11_line_4 rfl ?_
  refine cb_X11_line_5 (ic_X10_at (z := (mem 9 1)) rfl (q1) (w2) (fun c1 => ?_) (fun c2 => ?_))
  · -- 0 ≤ a1 ∧ a1 < (mem 9 1)
    refine G_astore_n dX11_line_8 rfl (by decide : 2 < 8) rfl ?_
    refine G_aload_n dX11_line_9 rfl ?_
    refine G_ifnonnull (tgt := 15) dX11_line_10 (by decide) ?_
    refine G_aload_n dX11_line_15 rfl ?_
    refine G_getR (t := 100) dX11_line_16 fl_11_65 (by decide) sh_0 rr_0_7 ?_
    refine G_aload_n dX11_line_19 rfl ?_
    refine G_getR (t := 3) dX11_line_20 fl_11_19 (by decide) sh_0 rr_0_1 ?_
    refine G_iconst (z := 1) dX11_line_23 rfl ?_
    refine cb_X11_line_24 (ic_X6_get (z := (mem 4 1)) (by decide) rfl ?_)
    refine G_aload_n dX11_line_27 rfl ?_
    refine G_getI (z := (mem (11 + 2 * (a1).toNat) 4)) dX11_line_28 fl_11_152 (ltStreet0 (streetL_of c1.1 (Int.lt_of_lt_of_le c1.2 (q1).2))) (shStreet0 (streetL_of c1.1 (Int.lt_of_lt_of_le c1.2 (q1).2))) rfl ?_
    refine cb_X11_line_31 (by decide) (ic_X2_think (by decide) (w3 c1) ?_)
    refine G_iconst (z := 0) dX11_line_34 rfl ?_
    refine G_istore_n dX11_line_35 rfl (by decide : 3 < 8) rfl ?_
    refine G_iconst (z := 0) dX11_line_36 rfl ?_
    refine G_istore dX11_line_37 (by decide : 4 < 8) rfl ?_
    refine G_iconst (z := 0) dX11_line_39 rfl ?_
    refine G_istore dX11_line_40 (by decide : 5 < 8) rfl ?_
    exact k1 c1
  · -- ¬ (0 ≤ a1 ∧ a1 < (mem 9 1))
    refine G_astoreNull_n dX11_line_8 rfl (by decide : 2 < 8) rfl ?_
    refine G_aloadNull_n dX11_line_9 rfl ?_
    refine G_ifnonnullZ dX11_line_10 ?_
    refine G_iconst (z := (-1)) dX11_line_13 rfl ?_
    exact G_iret dX11_line_14 rfl (Nat.zero_le _) (Nat.zero_le _) (Nat.le_refl _) ⟨rfl, k2 c2⟩
set_option maxRecDepth 20000 in
set_option maxHeartbeats 8000000 in
theorem sg_X11_line_42 {E : Nat × (Nat → Int32)} {P : Option Value → Mem → Prop} {mem : Mem} {a1 : Int} {o2 : Nat} {a3 : Int} {a4 : Int} {a5 : Int} (ho2 : o2 ∈ streetL) (w1 : -2147483648 ≤ a5 ∧ a5 < 2147483648) (w2 : -2147483648 ≤ (2 * (mem o2 3)) ∧ (2 * (mem o2 3)) < 2147483648) (q3 : ¬ (2 * (mem o2 3)) ≤ a5 → 0 ≤ a1 ∧ a1 < 6)
    (k1 : (2 * (mem o2 3)) ≤ a5 → P (some (vi a3)) (up2 (up2 (up2 (up2 (up2 mem 0 14 0) 168 0 (-1)) 0 14 1) 168 1 (-1)) 0 14 2))
    (k2 : ¬ (2 * (mem o2 3)) ≤ a5 → (bandI (mem 24 a1) (shlI 1 (((remI a5 2) * 8) + (divI a5 2)))) = 0 → GM E (m_X11_line 6) P 42 [.ref 0, vi a1, .ref o2, vi a3, vi a4, vi (a5 + 1), un, un] [] mem)
    (k3 : ¬ (2 * (mem o2 3)) ≤ a5 → ¬ (bandI (mem 24 a1) (shlI 1 (((remI a5 2) * 8) + (divI a5 2)))) = 0 → GM E (m_X11_line 6) P 97 [.ref 0, vi a1, .ref o2, vi a3, vi (borI a4 (shlI 1 (((remI a5 2) * 8) + (divI a5 2)))), vi a5, vi (shlI 1 (((remI a5 2) * 8) + (divI a5 2))), un] [vi (borI a4 (shlI 1 (((remI a5 2) * 8) + (divI a5 2)))), .ref o2, .ref 100] mem) :
    GM E (m_X11_line 6) P 42 [.ref 0, vi a1, .ref o2, vi a3, vi a4, vi a5, un, un] [] mem := by
  refine G_iload dX11_line_42 rfl ?_
  refine G_iconst (z := 2) dX11_line_44 rfl ?_
  refine G_aload_n dX11_line_45 rfl ?_
  refine G_getI (z := (mem o2 3)) dX11_line_46 fl_11_149 (ltStreet0 ho2) (shStreet0 ho2) rfl ?_
  refine G_imul dX11_line_49 ?_
  refine G_icmp_ge (tgt := 166) dX11_line_50 (by decide) (w1) (w2) (fun c1 => ?_) (fun c1 => ?_)
  · -- (2 * (mem o2 3)) ≤ a5
    refine G_aload_n dX11_line_166 rfl ?_
    refine G_ldc2 (z := (-1)) dX11_line_167 kc_11_342 ?_
    refine cb_X11_line_170 (ic_X11_tell ?_)
    refine G_aload_n dX11_line_173 rfl ?_
    refine G_ldc2 (z := (-1)) dX11_line_174 kc_11_342 ?_
    refine cb_X11_line_177 (ic_X11_tellMore (z := 1) (z2 := 2) (by simp [up2, upr]) (by decide) rfl ?_)
    refine G_iload_n dX11_line_180 rfl ?_
    exact G_iret dX11_line_181 rfl (Nat.zero_le _) (Nat.zero_le _) (Nat.le_refl _) ⟨rfl, k1 c1⟩
  · -- ¬ (2 * (mem o2 3)) ≤ a5
    refine G_iconst (z := 1) dX11_line_53 rfl ?_
    refine G_iload dX11_line_54 rfl ?_
    refine G_iconst (z := 2) dX11_line_56 rfl ?_
    refine G_irem (z := (remI a5 2)) dX11_line_57 (iI_ne0 (by decide) (by decide)) (iI_inv _) ?_
    refine G_bipush (z := 8) dX11_line_58 rfl ?_
    refine G_imul dX11_line_60 ?_
    refine G_iload dX11_line_61 rfl ?_
    refine G_iconst (z := 2) dX11_line_63 rfl ?_
    refine G_idiv (z := (divI a5 2)) dX11_line_64 (iI_ne0 (by decide) (by decide)) (iI_inv _) ?_
    refine G_iadd dX11_line_65 ?_
    refine G_ishl (z := (shlI 1 (((remI a5 2) * 8) + (divI a5 2)))) dX11_line_66 (iI_inv _) ?_
    refine G_istore dX11_line_67 (by decide : 6 < 8) rfl ?_
    refine G_aload_n dX11_line_69 rfl ?_
    refine G_getR (t := 23) dX11_line_70 fl_11_40 (by decide) sh_0 rr_0_4 ?_
    refine G_iload_n dX11_line_73 rfl ?_
    refine cb_X11_line_74 (by decide) (ic_X7_outOf (z := (mem 24 a1)) (by decide) ⟨(q3 c1).1, (q3 c1).2⟩ rfl ?_)
    refine G_iload dX11_line_77 rfl ?_
    refine G_iand (z := (bandI (mem 24 a1) (shlI 1 (((remI a5 2) * 8) + (divI a5 2))))) dX11_line_79 (iI_inv _) ?_
    refine G_if_eq (tgt := 160) dX11_line_80 (by decide) (iI_rng _) (fun c2 => ?_) (fun c2 => ?_)
    · -- (bandI (mem 24 a1) (shlI 1 (((remI a5 2) * 8) + (divI a5 2)))) = 0
      refine G_iinc (z := (a5 + 1)) dX11_line_160 rfl rfl (by decide : 5 < 8) rfl ?_
      refine G_goto (tgt := 42) dX11_line_163 (by decide) ?_
      refine G_weak (lv2 := [.ref 0, vi a1, .ref o2, vi a3, vi a4, vi (a5 + 1), un, un]) ⟨Or.inr rfl, Or.inr rfl, Or.inr rfl, Or.inr rfl, Or.inr rfl, Or.inr rfl, Or.inl rfl, Or.inr rfl, trivial⟩ ?_
      exact k2 c1 c2
    · -- ¬ (bandI (mem 24 a1) (shlI 1 (((remI a5 2) * 8) + (divI a5 2)))) = 0
      refine G_iload dX11_line_83 rfl ?_
      refine G_iload dX11_line_85 rfl ?_
      refine G_ior (z := (borI a4 (shlI 1 (((remI a5 2) * 8) + (divI a5 2))))) dX11_line_87 (iI_inv _) ?_
      refine G_istore dX11_line_88 (by decide : 4 < 8) rfl ?_
      refine G_aload_n dX11_line_90 rfl ?_
      refine G_getR (t := 100) dX11_line_91 fl_11_65 (by decide) sh_0 rr_0_7 ?_
      refine G_aload_n dX11_line_94 rfl ?_
      refine G_iload dX11_line_95 rfl ?_
      exact k3 c1 c2
set_option maxRecDepth 20000 in
set_option maxHeartbeats 8000000 in
theorem sg_X11_line_100 {E : Nat × (Nat → Int32)} {P : Option Value → Mem → Prop} {mem : Mem} {a1 : Int} {o2 : Nat} {a3 : Int} {a4 : Int} {a5 : Int} {a6 : Int} {s0 : Int} (ho2 : o2 ∈ streetL) (w1 : -2147483648 ≤ (mem 105 0) ∧ (mem 105 0) < 2147483648) (w2 : -2147483648 ≤ (mem 105 1) ∧ (mem 105 1) < 2147483648) (w3 : -2147483648 ≤ (mem 105 2) ∧ (mem 105 2) < 2147483648) (w4 : -2147483648 ≤ (min (mem 105 0) (mem 105 1)) ∧ (min (mem 105 0) (mem 105 1)) < 2147483648)
    (k1 : (mem 105 2) ≤ (min (mem 105 0) (mem 105 1)) → GM E (m_X11_line 6) P 42 [.ref 0, vi a1, .ref o2, vi (a3 + 1), vi a4, vi (a5 + 1), un, un] [] mem)
    (k2 : ¬ (mem 105 2) ≤ (min (mem 105 0) (mem 105 1)) → P (some (vi a3)) (up2 (up2 (up2 (up2 (up2 mem 0 14 0) 168 0 (min (mem 105 0) (mem 105 1))) 0 14 1) 168 1 (mem 105 2)) 0 14 2)) :
    GM E (m_X11_line 6) P 100 [.ref 0, vi a1, .ref o2, vi a3, vi a4, vi a5, vi a6, un] [vi s0] mem := by
  refine G_pop dX11_line_100 rfl ?_
  refine G_aload_n dX11_line_101 rfl ?_
  refine G_getR (t := 100) dX11_line_102 fl_11_65 (by decide) sh_0 rr_0_7 ?_
  refine G_iconst (z := 0) dX11_line_105 rfl ?_
  refine cb_X11_line_106 (by decide) (ic_X2_secondsOf (z := (mem 105 0)) (by decide) ⟨(by decide), (by decide)⟩ rfl ?_)
  refine G_aload_n dX11_line_109 rfl ?_
  refine G_getR (t := 100) dX11_line_110 fl_11_65 (by decide) sh_0 rr_0_7 ?_
  refine G_iconst (z := 1) dX11_line_113 rfl ?_
  refine cb_X11_line_114 (by decide) (ic_X2_secondsOf (z := (mem 105 1)) (by decide) ⟨(by decide), (by decide)⟩ rfl ?_)
  refine G_min (z := (min (mem 105 0) (mem 105 1))) dX11_line_117 ml_11_337 mw_min (w1) (w2) ⟨by show 1 ≤ 6; first | decide | omega, by show 21 ≤ 40 * 6; first | decide | omega, Nat.zero_le _, Nat.zero_le _⟩ (Nat.le_of_ble_eq_true rfl) rfl ?_
  refine G_istore dX11_line_120 (by decide : 7 < 8) rfl ?_
  refine G_aload_n dX11_line_122 rfl ?_
  refine G_getR (t := 100) dX11_line_123 fl_11_65 (by decide) sh_0 rr_0_7 ?_
  refine G_iconst (z := 2) dX11_line_126 rfl ?_
  refine cb_X11_line_127 (by decide) (ic_X2_secondsOf (z := (mem 105 2)) (by decide) ⟨(by decide), (by decide)⟩ rfl ?_)
  refine G_iload dX11_line_130 rfl ?_
  refine G_icmp_le (tgt := 157) dX11_line_132 (by decide) (w3) (w4) (fun c1 => ?_) (fun c1 => ?_)
  · -- (mem 105 2) ≤ (min (mem 105 0) (mem 105 1))
    refine G_iinc (z := (a3 + 1)) dX11_line_157 rfl rfl (by decide : 3 < 8) rfl ?_
    refine G_iinc (z := (a5 + 1)) dX11_line_160 rfl rfl (by decide : 5 < 8) rfl ?_
    refine G_goto (tgt := 42) dX11_line_163 (by decide) ?_
    refine G_weak (lv2 := [.ref 0, vi a1, .ref o2, vi (a3 + 1), vi a4, vi (a5 + 1), un, un]) ⟨Or.inr rfl, Or.inr rfl, Or.inr rfl, Or.inr rfl, Or.inr rfl, Or.inr rfl, Or.inl rfl, Or.inl rfl, trivial⟩ ?_
    exact k1 c1
  · -- ¬ (mem 105 2) ≤ (min (mem 105 0) (mem 105 1))
    refine G_aload_n dX11_line_135 rfl ?_
    refine G_iload dX11_line_136 rfl ?_
    refine G_i2l dX11_line_138 (w4) ?_
    refine cb_X11_line_139 (ic_X11_tell ?_)
    refine G_aload_n dX11_line_142 rfl ?_
    refine G_aload_n dX11_line_143 rfl ?_
    refine G_getR (t := 100) dX11_line_144 fl_11_65 (by decide) sh_0 rr_0_7 ?_
    refine G_iconst (z := 2) dX11_line_147 rfl ?_
    refine cb_X11_line_148 (by decide) (ic_X2_secondsOf (z := (mem 105 2)) (by decide) ⟨(by decide), (by decide)⟩ (by simp [up2, upr]) ?_)
    refine G_i2l dX11_line_151 (w3) ?_
    refine cb_X11_line_152 (ic_X11_tellMore (z := 1) (z2 := 2) (by simp [up2, upr]) (by decide) rfl ?_)
    refine G_iload_n dX11_line_155 rfl ?_
    exact G_iret dX11_line_156 rfl (Nat.zero_le _) (Nat.zero_le _) (Nat.le_refl _) ⟨rfl, k2 c1⟩
set_option maxRecDepth 20000 in
set_option maxHeartbeats 8000000 in
theorem sg_X11_measureDays_0 {E : Nat × (Nat → Int32)} {P : Option Value → Mem → Prop} {mem : Mem}
    (k1 : GM E (m_X11_measureDays 6) P 4 [.ref 0, un, un] [.ref 147] mem) :
    GM E (m_X11_measureDays 6) P 0 [.ref 0, un, un] [] mem := by
  refine G_aload_n dX11_measureDays_0 rfl ?_
  refine G_getR (t := 147) dX11_measureDays_1 fl_11_83 (by decide) sh_0 rr_0_9 ?_
  exact k1
set_option maxRecDepth 20000 in
set_option maxHeartbeats 8000000 in
theorem sg_X11_measureDays_7 {E : Nat × (Nat → Int32)} {P : Option Value → Mem → Prop} {mem : Mem}
    (k1 : GM E (m_X11_measureDays 6) P 9 [.ref 0, vi 0, un] [] mem) :
    GM E (m_X11_measureDays 6) P 7 [.ref 0, un, un] [] mem := by
  refine G_iconst (z := 0) dX11_measureDays_7 rfl ?_
  refine G_istore_n dX11_measureDays_8 rfl (by decide : 1 < 3) rfl ?_
  exact k1
set_option maxRecDepth 20000 in
set_option maxHeartbeats 8000000 in
theorem sg_X11_measureDays_9 {E : Nat × (Nat → Int32)} {P : Option Value → Mem → Prop} {mem : Mem} {a1 : Int} (w1 : -2147483648 ≤ a1 ∧ a1 < 2147483648) (w2 : -2147483648 ≤ (mem 9 1) ∧ (mem 9 1) < 2147483648) (q3 : ¬ (mem 9 1) ≤ a1 → 0 ≤ (mem 9 1) ∧ (mem 9 1) ≤ 6) (w4 : ¬ (mem 9 1) ≤ a1 → 0 ≤ a1 ∧ a1 < (mem 9 1) → -2147483648 ≤ (mem 4 1) ∧ (mem 4 1) < 2147483648) (q5 : ¬ (mem 9 1) ≤ a1 → 0 ≤ a1 ∧ a1 < (mem 9 1) → 0 ≤ a1 ∧ a1 < 6)
    (k1 : (mem 9 1) ≤ a1 → P none mem)
    (k2 : ¬ (mem 9 1) ≤ a1 → 0 ≤ a1 ∧ a1 < (mem 9 1) → GM E (m_X11_measureDays 6) P 74 [.ref 0, vi a1, .ref (11 + 2 * (a1).toNat)] [vi (mem 24 a1), .ref (11 + 2 * (a1).toNat), .ref 100, .ref 100, .ref (11 + 2 * (a1).toNat), .ref 147] (up2 (up2 mem 100 7 (max 1 (mem 4 1))) 100 8 (mem (11 + 2 * (a1).toNat) 4)))
    (k3 : ¬ (mem 9 1) ≤ a1 → ¬ (0 ≤ a1 ∧ a1 < (mem 9 1)) → GM E (m_X11_measureDays 6) P 9 [.ref 0, vi (a1 + 1), un] [] mem) :
    GM E (m_X11_measureDays 6) P 9 [.ref 0, vi a1, un] [] mem := by
  refine G_iload_n dX11_measureDays_9 rfl ?_
  refine G_aload_n dX11_measureDays_10 rfl ?_
  refine G_getR (t := 9) dX11_measureDays_11 fl_11_33 (by decide) sh_0 rr_0_3 ?_
  refine G_getI (z := (mem 9 1)) dX11_measureDays_14 fl_11_113 (by decide) sh_9 rfl ?_
  refine G_icmp_ge (tgt := 89) dX11_measureDays_17 (by decide) (w1) (w2) (fun c1 => ?_) (fun c1 => ?_)
  · -- (mem 9 1) ≤ a1
    exact G_vret dX11_measureDays_89 rfl (Nat.zero_le _) (Nat.zero_le _) (Nat.le_refl _) ⟨rfl, k1 c1⟩
  · -- ¬ (mem 9 1) ≤ a1
    refine G_aload_n dX11_measureDays_20 rfl ?_
    refine G_getR (t := 9) dX11_measureDays_21 fl_11_33 (by decide) sh_0 rr_0_3 ?_
    refine G_iload_n dX11_measureDays_24 rfl ?_
    refine cb_X11_measureDays_25 (ic_X10_at (z := (mem 9 1)) rfl (q3 c1) (w1) (fun c2 => ?_) (fun c3 => ?_))
    · -- 0 ≤ a1 ∧ a1 < (mem 9 1)
      refine G_astore_n dX11_measureDays_28 rfl (by decide : 2 < 3) rfl ?_
      refine G_aload_n dX11_measureDays_29 rfl ?_
      refine G_ifnull dX11_measureDays_30 ?_
      refine G_aload_n dX11_measureDays_33 rfl ?_
      refine G_getR (t := 100) dX11_measureDays_34 fl_11_65 (by decide) sh_0 rr_0_7 ?_
      refine G_aload_n dX11_measureDays_37 rfl ?_
      refine G_getR (t := 3) dX11_measureDays_38 fl_11_19 (by decide) sh_0 rr_0_1 ?_
      refine G_iconst (z := 1) dX11_measureDays_41 rfl ?_
      refine cb_X11_measureDays_42 (ic_X6_get (z := (mem 4 1)) (by decide) rfl ?_)
      refine G_aload_n dX11_measureDays_45 rfl ?_
      refine G_getI (z := (mem (11 + 2 * (a1).toNat) 4)) dX11_measureDays_46 fl_11_152 (ltStreet0 (streetL_of c2.1 (Int.lt_of_lt_of_le c2.2 (q3 c1).2))) (shStreet0 (streetL_of c2.1 (Int.lt_of_lt_of_le c2.2 (q3 c1).2))) rfl ?_
      refine cb_X11_measureDays_49 (by decide) (ic_X2_think (by decide) (w4 c1 c2) ?_)
      refine G_aload_n dX11_measureDays_52 rfl ?_
      refine G_getR (t := 147) dX11_measureDays_53 fl_11_83 (by decide) sh_0 rr_0_9 ?_
      refine G_aload_n dX11_measureDays_56 rfl ?_
      refine G_aload_n dX11_measureDays_57 rfl ?_
      refine G_getR (t := 100) dX11_measureDays_58 fl_11_65 (by decide) sh_0 rr_0_7 ?_
      refine G_aload_n dX11_measureDays_61 rfl ?_
      refine G_getR (t := 100) dX11_measureDays_62 fl_11_65 (by decide) sh_0 rr_0_7 ?_
      refine G_aload_n dX11_measureDays_65 rfl ?_
      refine G_aload_n dX11_measureDays_66 rfl ?_
      refine G_getR (t := 23) dX11_measureDays_67 fl_11_40 (by decide) sh_0 rr_0_4 ?_
      refine G_iload_n dX11_measureDays_70 rfl ?_
      refine cb_X11_measureDays_71 (by decide) (ic_X7_outOf (z := (mem 24 a1)) (by decide) ⟨(q5 c1 c2).1, (q5 c1 c2).2⟩ (by simp [up2, upr]) ?_)
      exact k2 c1 c2
    · -- ¬ (0 ≤ a1 ∧ a1 < (mem 9 1))
      refine G_astoreNull_n dX11_measureDays_28 rfl (by decide : 2 < 3) rfl ?_
      refine G_aloadNull_n dX11_measureDays_29 rfl ?_
      refine G_ifnullZ (tgt := 83) dX11_measureDays_30 (by decide) ?_
      refine G_iinc (z := (a1 + 1)) dX11_measureDays_83 rfl rfl (by decide : 1 < 3) rfl ?_
      refine G_goto (tgt := 9) dX11_measureDays_86 (by decide) ?_
      refine G_weak (lv2 := [.ref 0, vi (a1 + 1), un]) ⟨Or.inr rfl, Or.inr rfl, Or.inl rfl, trivial⟩ ?_
      exact k3 c1 c3
set_option maxRecDepth 20000 in
set_option maxHeartbeats 8000000 in
theorem sg_X11_measureDays_77 {E : Nat × (Nat → Int32)} {P : Option Value → Mem → Prop} {mem : Mem} {a1 : Int} {o2 : Nat} {s0 : Int} (ho2 : o2 ∈ streetL) (q1 : 0 ≤ s0 ∧ s0 < 3)
    (k1 : GM E (m_X11_measureDays 6) P 80 [.ref 0, vi a1, .ref o2] [vi (mem 105 s0), .ref o2, .ref 147] mem) :
    GM E (m_X11_measureDays 6) P 77 [.ref 0, vi a1, .ref o2] [vi s0, .ref 100, .ref o2, .ref 147] mem := by
  refine cb_X11_measureDays_77 (by decide) (ic_X2_secondsOf (z := (mem 105 s0)) (by decide) ⟨(q1).1, (q1).2⟩ rfl ?_)
  exact k1
set_option maxRecDepth 20000 in
set_option maxHeartbeats 8000000 in
theorem sg_X11_measureDays_83 {E : Nat × (Nat → Int32)} {P : Option Value → Mem → Prop} {mem : Mem} {a1 : Int} {o2 : Nat} (ho2 : o2 ∈ streetL)
    (k1 : GM E (m_X11_measureDays 6) P 9 [.ref 0, vi (a1 + 1), un] [] mem) :
    GM E (m_X11_measureDays 6) P 83 [.ref 0, vi a1, .ref o2] [] mem := by
  refine G_iinc (z := (a1 + 1)) dX11_measureDays_83 rfl rfl (by decide : 1 < 3) rfl ?_
  refine G_goto (tgt := 9) dX11_measureDays_86 (by decide) ?_
  refine G_weak (lv2 := [.ref 0, vi (a1 + 1), un]) ⟨Or.inr rfl, Or.inr rfl, Or.inl rfl, trivial⟩ ?_
  exact k1
set_option maxRecDepth 20000 in
set_option maxHeartbeats 8000000 in
theorem sg_X11_most_0 {E : Nat × (Nat → Int32)} {P : Option Value → Mem → Prop} {mem : Mem} {a1 : Int} {a2 : Int} (w1 : -2147483648 ≤ a2 ∧ a2 < 2147483648)
    (k1 : (bandI a1 (-(shlI 1 (mem 9 1)))) = 0 → a2 < 0 → P (some (vi (-1))) mem)
    (k2 : (bandI a1 (-(shlI 1 (mem 9 1)))) = 0 → ¬ a2 < 0 → a2 ≤ 99999 → GM E (m_X11_most 202) P 35 [.ref 0, vi a1, vi a2] [.ref 24, .ref 106] mem)
    (k3 : (bandI a1 (-(shlI 1 (mem 9 1)))) = 0 → ¬ a2 < 0 → ¬ a2 ≤ 99999 → P (some (vi (-1))) mem)
    (k4 : (bandI a1 (-(shlI 1 (mem 9 1)))) ≠ 0 → P (some (vi (-1))) mem) :
    GM E (m_X11_most 202) P 0 [.ref 0, vi a1, vi a2] [] mem := by
  refine G_aload_n dX11_most_0 rfl ?_
  refine G_getR (t := 9) dX11_most_1 fl_11_33 (by decide) sh_0 rr_0_3 ?_
  refine G_iload_n dX11_most_4 rfl ?_
  refine cb_X11_most_5 (ic_X10_hasAll (z := (mem 9 1)) rfl (fun c1 => ?_) (fun c2 => ?_))
  · -- (bandI a1 (-(shlI 1 (mem 9 1)))) = 0
    refine G_if_eq (tgt := 22) dX11_most_8 (by decide) (by decide) (fun h => absurd h (by decide)) (fun _ => ?_)
    refine G_iload_n dX11_most_11 rfl ?_
    refine G_if_lt (tgt := 22) dX11_most_12 (by decide) (w1) (fun c3 => ?_) (fun c3 => ?_)
    · -- a2 < 0
      refine G_iconst (z := (-1)) dX11_most_22 rfl ?_
      exact G_iret dX11_most_23 rfl (Nat.zero_le _) (Nat.zero_le _) (Nat.le_refl _) ⟨rfl, k1 c1 c3⟩
    · -- ¬ a2 < 0
      refine G_iload_n dX11_most_15 rfl ?_
      refine G_ldcw (z := 99999) dX11_most_16 kc_11_386 ?_
      refine G_icmp_le (tgt := 24) dX11_most_19 (by decide) (w1) (by decide) (fun c4 => ?_) (fun c4 => ?_)
      · -- a2 ≤ 99999
        refine G_aload_n dX11_most_24 rfl ?_
        refine G_getR (t := 106) dX11_most_25 fl_11_74 (by decide) sh_0 rr_0_8 ?_
        refine G_aload_n dX11_most_28 rfl ?_
        refine G_getR (t := 23) dX11_most_29 fl_11_40 (by decide) sh_0 rr_0_4 ?_
        refine G_getR (t := 24) dX11_most_32 fl_11_352 (by decide) sh_23 (rrState_0 (by decide)) ?_
        exact k2 c1 c3 c4
      · -- ¬ a2 ≤ 99999
        refine G_iconst (z := (-1)) dX11_most_22 rfl ?_
        exact G_iret dX11_most_23 rfl (Nat.zero_le _) (Nat.zero_le _) (Nat.le_refl _) ⟨rfl, k3 c1 c3 c4⟩
  · -- (bandI a1 (-(shlI 1 (mem 9 1)))) ≠ 0
    refine G_if_eq (tgt := 22) dX11_most_8 (by decide) (by decide) (fun _ => ?_) (fun h => absurd h (by decide))
    refine G_iconst (z := (-1)) dX11_most_22 rfl ?_
    exact G_iret dX11_most_23 rfl (Nat.zero_le _) (Nat.zero_le _) (Nat.le_refl _) ⟨rfl, k4 c2⟩
set_option maxRecDepth 20000 in
set_option maxHeartbeats 8000000 in
theorem sg_X11_most_38 {E : Nat × (Nat → Int32)} {P : Option Value → Mem → Prop} {mem : Mem} {a1 : Int} {a2 : Int}
    (k1 : GM E (m_X11_most 202) P 72 [.ref 0, vi a1, vi a2] [vi a2, vi a1, .ref 106] (up2 (up2 (up2 (up2 (up2 mem 106 6 (mem 23 3)) 106 7 (mem 23 4)) 106 8 (mem 23 5)) 106 9 0) 106 10 0)) :
    GM E (m_X11_most 202) P 38 [.ref 0, vi a1, vi a2] [] mem := by
  refine G_aload_n dX11_most_38 rfl ?_
  refine G_getR (t := 106) dX11_most_39 fl_11_74 (by decide) sh_0 rr_0_8 ?_
  refine G_aload_n dX11_most_42 rfl ?_
  refine G_getR (t := 23) dX11_most_43 fl_11_40 (by decide) sh_0 rr_0_4 ?_
  refine G_getI (z := (mem 23 3)) dX11_most_46 fl_11_203 (by decide) sh_23 rfl ?_
  refine G_aload_n dX11_most_49 rfl ?_
  refine G_getR (t := 23) dX11_most_50 fl_11_40 (by decide) sh_0 rr_0_4 ?_
  refine G_getI (z := (mem 23 4)) dX11_most_53 fl_11_252 (by decide) sh_23 rfl ?_
  refine G_aload_n dX11_most_56 rfl ?_
  refine G_getR (t := 23) dX11_most_57 fl_11_40 (by decide) sh_0 rr_0_4 ?_
  refine G_getI (z := (mem 23 5)) dX11_most_60 fl_11_253 (by decide) sh_23 rfl ?_
  refine cb_X11_most_63 (ic_X4_start ?_)
  refine G_aload_n dX11_most_66 rfl ?_
  refine G_getR (t := 106) dX11_most_67 fl_11_74 (by decide) sh_0 rr_0_8 ?_
  refine G_iload_n dX11_most_70 rfl ?_
  refine G_iload_n dX11_most_71 rfl ?_
  exact k1
set_option maxRecDepth 20000 in
set_option maxHeartbeats 8000000 in
theorem sg_X11_most_75 {E : Nat × (Nat → Int32)} {P : Option Value → Mem → Prop} {mem : Mem} {a1 : Int} {a2 : Int} (w1 : -2147483648 ≤ (mem 106 13) ∧ (mem 106 13) < 2147483648)
    (k1 : GM E (m_X11_most 202) P 94 [.ref 0, vi a1, vi a2] [vi (mem 106 13)] (up2 (up2 (up2 mem 0 14 0) 168 0 (mem 106 13)) 0 14 1)) :
    GM E (m_X11_most 202) P 75 [.ref 0, vi a1, vi a2] [] mem := by
  refine G_aload_n dX11_most_75 rfl ?_
  refine G_aload_n dX11_most_76 rfl ?_
  refine G_getR (t := 106) dX11_most_77 fl_11_74 (by decide) sh_0 rr_0_8 ?_
  refine G_getI (z := (mem 106 13)) dX11_most_80 fl_11_387 (by decide) sh_106 rfl ?_
  refine G_i2l dX11_most_83 (w1) ?_
  refine cb_X11_most_84 (ic_X11_tell ?_)
  refine G_aload_n dX11_most_87 rfl ?_
  refine G_getR (t := 106) dX11_most_88 fl_11_74 (by decide) sh_0 rr_0_8 ?_
  refine G_getI (z := (mem 106 13)) dX11_most_91 fl_11_387 (by decide) sh_106 (by simp [up2, upr]) ?_
  exact k1
set_option maxRecDepth 20000 in
set_option maxHeartbeats 8000000 in
theorem sg_X11_most_97 {E : Nat × (Nat → Int32)} {P : Option Value → Mem → Prop} {mem : Mem} {a1 : Int} {a2 : Int} {s0 : Int}
    (k1 : P (some (vi s0)) mem) :
    GM E (m_X11_most 202) P 97 [.ref 0, vi a1, vi a2] [vi s0] mem := by
  exact G_iret dX11_most_97 rfl (Nat.zero_le _) (Nat.zero_le _) (Nat.le_refl _) ⟨rfl, k1⟩
set_option maxRecDepth 20000 in
set_option maxHeartbeats 8000000 in
theorem sg_X11_next_0 {E : Nat × (Nat → Int32)} {P : Option Value → Mem → Prop} {mem : Mem}
    (k1 : GM E (m_X11_next 4) P 4 [.ref 0, un, un, un, un, un, un] [.ref 93] mem) :
    GM E (m_X11_next 4) P 0 [.ref 0, un, un, un, un, un, un] [] mem := by
  refine G_aload_n dX11_next_0 rfl ?_
  refine G_getR (t := 93) dX11_next_1 fl_11_56 (by decide) sh_0 rr_0_6 ?_
  exact k1
set_option maxRecDepth 20000 in
set_option maxHeartbeats 8000000 in
theorem sg_X11_next_7 {E : Nat × (Nat → Int32)} {P : Option Value → Mem → Prop} {mem : Mem}
    (k1 : GM E (m_X11_next 4) P 22 [.ref 0, un, un, un, un, un, un] [vi ((shlI 1 (mem 9 1)) - 1), .ref 93] mem) :
    GM E (m_X11_next 4) P 7 [.ref 0, un, un, un, un, un, un] [] mem := by
  refine G_aload_n dX11_next_7 rfl ?_
  refine G_getR (t := 93) dX11_next_8 fl_11_56 (by decide) sh_0 rr_0_6 ?_
  refine G_iconst (z := 1) dX11_next_11 rfl ?_
  refine G_aload_n dX11_next_12 rfl ?_
  refine G_getR (t := 9) dX11_next_13 fl_11_33 (by decide) sh_0 rr_0_3 ?_
  refine G_getI (z := (mem 9 1)) dX11_next_16 fl_11_113 (by decide) sh_9 rfl ?_
  refine G_ishl (z := (shlI 1 (mem 9 1))) dX11_next_19 (iI_inv _) ?_
  refine G_iconst (z := 1) dX11_next_20 rfl ?_
  refine G_isub dX11_next_21 ?_
  exact k1
set_option maxRecDepth 20000 in
set_option maxHeartbeats 8000000 in
theorem sg_X11_next_25 {E : Nat × (Nat → Int32)} {P : Option Value → Mem → Prop} {mem : Mem} {s0 : Int} (w1 : -2147483648 ≤ s0 ∧ s0 < 2147483648)
    (k1 : s0 ≠ 0 → GM E (m_X11_next 4) P 40 [.ref 0, vi s0, vi s0, vi 0, vi 1, un, un] [] mem)
    (k2 : s0 = 0 → P (some (vi (-2))) mem) :
    GM E (m_X11_next 4) P 25 [.ref 0, un, un, un, un, un, un] [vi s0] mem := by
  refine G_istore_n dX11_next_25 rfl (by decide : 1 < 7) rfl ?_
  refine G_iload_n dX11_next_26 rfl ?_
  refine G_if_ne (tgt := 33) dX11_next_27 (by decide) (w1) (fun c1 => ?_) (fun c1 => ?_)
  · -- s0 ≠ 0
    refine G_iload_n dX11_next_33 rfl ?_
    refine G_istore_n dX11_next_34 rfl (by decide : 2 < 7) rfl ?_
    refine G_iconst (z := 0) dX11_next_35 rfl ?_
    refine G_istore_n dX11_next_36 rfl (by decide : 3 < 7) rfl ?_
    refine G_iconst (z := 1) dX11_next_37 rfl ?_
    refine G_istore dX11_next_38 (by decide : 4 < 7) rfl ?_
    exact k1 c1
  · -- s0 = 0
    refine G_bipush (z := (-2)) dX11_next_30 rfl ?_
    exact G_iret dX11_next_32 rfl (Nat.zero_le _) (Nat.zero_le _) (Nat.le_refl _) ⟨rfl, k2 c1⟩
set_option maxRecDepth 20000 in
set_option maxHeartbeats 8000000 in
theorem sg_X11_next_40 {E : Nat × (Nat → Int32)} {P : Option Value → Mem → Prop} {mem : Mem} {a1 : Int} {a2 : Int} {a3 : Int} {a4 : Int} (w1 : -2147483648 ≤ a4 ∧ a4 < 2147483648) (w2 : -2147483648 ≤ a2 ∧ a2 < 2147483648)
    (k1 : (shlI 1 (mem 9 1)) ≤ a4 → P (some (vi a3)) (up2 (up2 (up2 mem 0 14 0) 168 0 a2) 0 14 1))
    (k2 : ¬ (shlI 1 (mem 9 1)) ≤ a4 → GM E (m_X11_next 4) P 60 [.ref 0, vi a1, vi a2, vi a3, vi a4, un, un] [vi a4, .ref 93] mem) :
    GM E (m_X11_next 4) P 40 [.ref 0, vi a1, vi a2, vi a3, vi a4, un, un] [] mem := by
  refine G_iload dX11_next_40 rfl ?_
  refine G_iconst (z := 1) dX11_next_42 rfl ?_
  refine G_aload_n dX11_next_43 rfl ?_
  refine G_getR (t := 9) dX11_next_44 fl_11_33 (by decide) sh_0 rr_0_3 ?_
  refine G_getI (z := (mem 9 1)) dX11_next_47 fl_11_113 (by decide) sh_9 rfl ?_
  refine G_ishl (z := (shlI 1 (mem 9 1))) dX11_next_50 (iI_inv _) ?_
  refine G_icmp_ge (tgt := 94) dX11_next_51 (by decide) (w1) (iI_rng _) (fun c1 => ?_) (fun c1 => ?_)
  · -- (shlI 1 (mem 9 1)) ≤ a4
    refine G_aload_n dX11_next_94 rfl ?_
    refine G_iload_n dX11_next_95 rfl ?_
    refine G_i2l dX11_next_96 (w2) ?_
    refine cb_X11_next_97 (ic_X11_tell ?_)
    refine G_iload_n dX11_next_100 rfl ?_
    exact G_iret dX11_next_101 rfl (Nat.zero_le _) (Nat.zero_le _) (Nat.le_refl _) ⟨rfl, k1 c1⟩
  · -- ¬ (shlI 1 (mem 9 1)) ≤ a4
    refine G_aload_n dX11_next_54 rfl ?_
    refine G_getR (t := 93) dX11_next_55 fl_11_56 (by decide) sh_0 rr_0_6 ?_
    refine G_iload dX11_next_58 rfl ?_
    exact k2 c1
set_option maxRecDepth 20000 in
set_option maxHeartbeats 8000000 in
theorem sg_X11_next_63 {E : Nat × (Nat → Int32)} {P : Option Value → Mem → Prop} {mem : Mem} {a1 : Int} {a2 : Int} {a3 : Int} {a4 : Int} {s0 : Int} (w1 : -2147483648 ≤ s0 ∧ s0 < 2147483648) (w2 : -2147483648 ≤ (a1 - s0) ∧ (a1 - s0) < 2147483648) (w3 : -2147483648 ≤ (max s0 (a1 - s0)) ∧ (max s0 (a1 - s0)) < 2147483648) (w4 : -2147483648 ≤ a2 ∧ a2 < 2147483648)
    (k1 : GM E (m_X11_next 4) P 40 [.ref 0, vi a1, vi (if a2 ≤ (max s0 (a1 - s0)) then a2 else (max s0 (a1 - s0))), vi (if a2 ≤ (max s0 (a1 - s0)) then a3 else a4), vi (a4 + 1), un, un] [] mem) :
    GM E (m_X11_next 4) P 63 [.ref 0, vi a1, vi a2, vi a3, vi a4, un, un] [vi s0] mem := by
  refine G_istore dX11_next_63 (by decide : 5 < 7) rfl ?_
  refine G_iload dX11_next_65 rfl ?_
  refine G_iload_n dX11_next_67 rfl ?_
  refine G_iload dX11_next_68 rfl ?_
  refine G_isub dX11_next_70 ?_
  refine G_max (z := (max s0 (a1 - s0))) dX11_next_71 ml_11_397 mw_max (w1) (w2) ⟨by show 1 ≤ 4; first | decide | omega, by show 21 ≤ 40 * 4; first | decide | omega, Nat.zero_le _, Nat.zero_le _⟩ (Nat.le_of_ble_eq_true rfl) rfl ?_
  refine G_istore dX11_next_74 (by decide : 6 < 7) rfl ?_
  refine G_iload dX11_next_76 rfl ?_
  refine G_iload_n dX11_next_78 rfl ?_
  have j1 : GM E (m_X11_next 4) P 88 [.ref 0, vi a1, vi (if a2 ≤ (max s0 (a1 - s0)) then a2 else (max s0 (a1 - s0))), vi (if a2 ≤ (max s0 (a1 - s0)) then a3 else a4), vi a4, vi s0, vi (max s0 (a1 - s0))] [] mem := by
    refine G_iinc (z := (a4 + 1)) dX11_next_88 rfl rfl (by decide : 4 < 7) rfl ?_
    refine G_goto (tgt := 40) dX11_next_91 (by decide) ?_
    refine G_weak (lv2 := [.ref 0, vi a1, vi (if a2 ≤ (max s0 (a1 - s0)) then a2 else (max s0 (a1 - s0))), vi (if a2 ≤ (max s0 (a1 - s0)) then a3 else a4), vi (a4 + 1), un, un]) ⟨Or.inr rfl, Or.inr rfl, Or.inr rfl, Or.inr rfl, Or.inr rfl, Or.inl rfl, Or.inl rfl, trivial⟩ ?_
    exact k1
  refine G_icmp_ge (tgt := 88) dX11_next_79 (by decide) (w3) (w4) (fun c1 => ?_) (fun c1 => ?_)
  · -- a2 ≤ (max s0 (a1 - s0))
    have qj1 := j1
    simp only [if_pos c1] at qj1
    exact qj1
  · -- ¬ a2 ≤ (max s0 (a1 - s0))
    refine G_iload dX11_next_82 rfl ?_
    refine G_istore_n dX11_next_84 rfl (by decide : 2 < 7) rfl ?_
    refine G_iload dX11_next_85 rfl ?_
    refine G_istore_n dX11_next_87 rfl (by decide : 3 < 7) rfl ?_
    have qj1 := j1
    simp only [if_neg c1] at qj1
    exact qj1
set_option maxRecDepth 20000 in
set_option maxHeartbeats 8000000 in
theorem sg_X11_order_0 {E : Nat × (Nat → Int32)} {P : Option Value → Mem → Prop} {mem : Mem}
    (k1 : GM E (m_X11_order 7) P 8 [.ref 0, un] [.ref 1, .ref 106] mem) :
    GM E (m_X11_order 7) P 0 [.ref 0, un] [] mem := by
  refine G_aload_n dX11_order_0 rfl ?_
  refine G_getR (t := 106) dX11_order_1 fl_11_74 (by decide) sh_0 rr_0_8 ?_
  refine G_aload_n dX11_order_4 rfl ?_
  refine G_getR (t := 1) dX11_order_5 fl_11_12 (by decide) sh_0 rr_0_0 ?_
  exact k1
set_option maxRecDepth 20000 in
set_option maxHeartbeats 8000000 in
theorem sg_X11_order_11 {E : Nat × (Nat → Int32)} {P : Option Value → Mem → Prop} {mem : Mem} {s0 : Int} (w1 : -2147483648 ≤ s0 ∧ s0 < 2147483648)
    (k1 : 0 ≤ s0 → GM E (m_X11_order 7) P 36 [.ref 0, vi s0] [.ref 24, .ref 106] (up2 mem 1 1 0))
    (k2 : ¬ 0 ≤ s0 → P (some (vi s0)) (up2 mem 1 1 0)) :
    GM E (m_X11_order 7) P 11 [.ref 0, un] [vi s0] mem := by
  refine G_istore_n dX11_order_11 rfl (by decide : 1 < 2) rfl ?_
  refine G_aload_n dX11_order_12 rfl ?_
  refine G_getR (t := 1) dX11_order_13 fl_11_12 (by decide) sh_0 rr_0_0 ?_
  refine cb_X11_order_16 (ic_X9_clear ?_)
  refine G_iload_n dX11_order_19 rfl ?_
  refine G_if_ge (tgt := 25) dX11_order_20 (by decide) (w1) (fun c1 => ?_) (fun c1 => ?_)
  · -- 0 ≤ s0
    refine G_aload_n dX11_order_25 rfl ?_
    refine G_getR (t := 106) dX11_order_26 fl_11_74 (by decide) sh_0 rr_0_8 ?_
    refine G_aload_n dX11_order_29 rfl ?_
    refine G_getR (t := 23) dX11_order_30 fl_11_40 (by decide) sh_0 rr_0_4 ?_
    refine G_getR (t := 24) dX11_order_33 fl_11_352 (by decide) sh_23 (rrState_0 (by decide)) ?_
    exact k1 c1
  · -- ¬ 0 ≤ s0
    refine G_iload_n dX11_order_23 rfl ?_
    exact G_iret dX11_order_24 rfl (Nat.zero_le _) (Nat.zero_le _) (Nat.le_refl _) ⟨rfl, k2 c1⟩
set_option maxRecDepth 20000 in
set_option maxHeartbeats 8000000 in
theorem sg_X11_order_39 {E : Nat × (Nat → Int32)} {P : Option Value → Mem → Prop} {mem : Mem} {a1 : Int}
    (k1 : GM E (m_X11_order 7) P 71 [.ref 0, vi a1] [.ref 106] (up2 (up2 (up2 (up2 (up2 mem 106 6 (mem 23 3)) 106 7 (mem 23 4)) 106 8 (mem 23 5)) 106 9 0) 106 10 0)) :
    GM E (m_X11_order 7) P 39 [.ref 0, vi a1] [] mem := by
  refine G_aload_n dX11_order_39 rfl ?_
  refine G_getR (t := 106) dX11_order_40 fl_11_74 (by decide) sh_0 rr_0_8 ?_
  refine G_aload_n dX11_order_43 rfl ?_
  refine G_getR (t := 23) dX11_order_44 fl_11_40 (by decide) sh_0 rr_0_4 ?_
  refine G_getI (z := (mem 23 3)) dX11_order_47 fl_11_203 (by decide) sh_23 rfl ?_
  refine G_aload_n dX11_order_50 rfl ?_
  refine G_getR (t := 23) dX11_order_51 fl_11_40 (by decide) sh_0 rr_0_4 ?_
  refine G_getI (z := (mem 23 4)) dX11_order_54 fl_11_252 (by decide) sh_23 rfl ?_
  refine G_aload_n dX11_order_57 rfl ?_
  refine G_getR (t := 23) dX11_order_58 fl_11_40 (by decide) sh_0 rr_0_4 ?_
  refine G_getI (z := (mem 23 5)) dX11_order_61 fl_11_253 (by decide) sh_23 rfl ?_
  refine cb_X11_order_64 (ic_X4_start ?_)
  refine G_aload_n dX11_order_67 rfl ?_
  refine G_getR (t := 106) dX11_order_68 fl_11_74 (by decide) sh_0 rr_0_8 ?_
  exact k1
set_option maxRecDepth 20000 in
set_option maxHeartbeats 8000000 in
theorem sg_X11_order_74 {E : Nat × (Nat → Int32)} {P : Option Value → Mem → Prop} {mem : Mem} {a1 : Int} {s0 : Int} (w1 : -2147483648 ≤ s0 ∧ s0 < 2147483648) (w2 : s0 ≠ 0 → -2147483648 ≤ (mem 106 9) ∧ (mem 106 9) < 2147483648) (w3 : s0 ≠ 0 → -2147483648 ≤ (mem 106 10) ∧ (mem 106 10) < 2147483648)
    (k1 : s0 ≠ 0 → P (some (vi ((mem 106 8) - (mem 23 5)))) (up2 (up2 (up2 (up2 (up2 mem 0 14 0) 168 0 (mem 106 9)) 0 14 1) 168 1 (mem 106 10)) 0 14 2))
    (k2 : s0 = 0 → P (some (vi (-200))) mem) :
    GM E (m_X11_order 7) P 74 [.ref 0, vi a1] [vi s0] mem := by
  refine G_if_ne (tgt := 81) dX11_order_74 (by decide) (w1) (fun c1 => ?_) (fun c1 => ?_)
  · -- s0 ≠ 0
    refine G_aload_n dX11_order_81 rfl ?_
    refine G_aload_n dX11_order_82 rfl ?_
    refine G_getR (t := 106) dX11_order_83 fl_11_74 (by decide) sh_0 rr_0_8 ?_
    refine G_getI (z := (mem 106 9)) dX11_order_86 fl_11_366 (by decide) sh_106 rfl ?_
    refine G_i2l dX11_order_89 (w2 c1) ?_
    refine cb_X11_order_90 (ic_X11_tell ?_)
    refine G_aload_n dX11_order_93 rfl ?_
    refine G_aload_n dX11_order_94 rfl ?_
    refine G_getR (t := 106) dX11_order_95 fl_11_74 (by decide) sh_0 rr_0_8 ?_
    refine G_getI (z := (mem 106 10)) dX11_order_98 fl_11_369 (by decide) sh_106 (by simp [up2, upr]) ?_
    refine G_i2l dX11_order_101 (w3 c1) ?_
    refine cb_X11_order_102 (ic_X11_tellMore (z := 1) (z2 := 2) (by simp [up2, upr]) (by decide) rfl ?_)
    refine G_aload_n dX11_order_105 rfl ?_
    refine G_getR (t := 106) dX11_order_106 fl_11_74 (by decide) sh_0 rr_0_8 ?_
    refine G_getI (z := (mem 106 8)) dX11_order_109 fl_11_370 (by decide) sh_106 (by simp [up2, upr]) ?_
    refine G_aload_n dX11_order_112 rfl ?_
    refine G_getR (t := 23) dX11_order_113 fl_11_40 (by decide) sh_0 rr_0_4 ?_
    refine G_getI (z := (mem 23 5)) dX11_order_116 fl_11_253 (by decide) sh_23 (by simp [up2, upr]) ?_
    refine G_isub dX11_order_119 ?_
    exact G_iret dX11_order_120 rfl (Nat.zero_le _) (Nat.zero_le _) (Nat.le_refl _) ⟨rfl, k1 c1⟩
  · -- s0 = 0
    refine G_sipush (z := (-200)) dX11_order_77 rfl ?_
    exact G_iret dX11_order_80 rfl (Nat.zero_le _) (Nat.zero_le _) (Nat.le_refl _) ⟨rfl, k2 c1⟩
set_option maxRecDepth 20000 in
set_option maxHeartbeats 8000000 in
theorem sg_X11_pause_0 {E : Nat × (Nat → Int32)} {P : Option Value → Mem → Prop} {mem : Mem} {a1 : Int}
    (k1 : GM E (m_X11_pause 5) P 8 [.ref 0, vi a1] [.ref 23, .ref 27] mem) :
    GM E (m_X11_pause 5) P 0 [.ref 0, vi a1] [] mem := by
  refine G_aload_n dX11_pause_0 rfl ?_
  refine G_getR (t := 27) dX11_pause_1 fl_11_47 (by decide) sh_0 rr_0_5 ?_
  refine G_aload_n dX11_pause_4 rfl ?_
  refine G_getR (t := 23) dX11_pause_5 fl_11_40 (by decide) sh_0 rr_0_4 ?_
  exact k1
set_option maxRecDepth 20000 in
set_option maxHeartbeats 8000000 in
theorem sg_X11_pause_11 {E : Nat × (Nat → Int32)} {P : Option Value → Mem → Prop} {mem : Mem} {a1 : Int}
    (k1 : GM E (m_X11_pause 5) P 14 [.ref 0, vi a1] [vi a1, .ref 0, .ref 0] mem) :
    GM E (m_X11_pause 5) P 11 [.ref 0, vi a1] [] mem := by
  refine G_aload_n dX11_pause_11 rfl ?_
  refine G_aload_n dX11_pause_12 rfl ?_
  refine G_iload_n dX11_pause_13 rfl ?_
  exact k1
set_option maxRecDepth 20000 in
set_option maxHeartbeats 8000000 in
theorem sg_X11_pause_17 {E : Nat × (Nat → Int32)} {P : Option Value → Mem → Prop} {mem : Mem} {a1 : Int} {s0 : Int}
    (k1 : GM E (m_X11_pause 5) P 17 [.ref 0, vi a1] [vi s0, .ref 0] mem) :
    GM E (m_X11_pause 5) P 17 [.ref 0, vi a1] [vi s0, .ref 0] mem := by
  exact k1
set_option maxRecDepth 20000 in
set_option maxHeartbeats 8000000 in
theorem sg_X11_pause_20 {E : Nat × (Nat → Int32)} {P : Option Value → Mem → Prop} {mem : Mem} {a1 : Int} {s0 : Int}
    (k1 : P (some (vi s0)) mem) :
    GM E (m_X11_pause 5) P 20 [.ref 0, vi a1] [vi s0] mem := by
  exact G_iret dX11_pause_20 rfl (Nat.zero_le _) (Nat.zero_le _) (Nat.le_refl _) ⟨rfl, k1⟩
set_option maxRecDepth 20000 in
set_option maxHeartbeats 8000000 in
theorem sg_X11_power_0 {E : Nat × (Nat → Int32)} {P : Option Value → Mem → Prop} {mem : Mem} {a0 : Int} {a1 : Int}
    (k1 : GM E (m_X11_power 0) P 5 [vi a0, vi a1, vl 1, un, vi 0] [] mem) :
    GM E (m_X11_power 0) P 0 [vi a0, vi a1, un, un, un] [] mem := by
  refine G_lconst (z := 1) dX11_power_0 rfl ?_
  refine G_lstore_n dX11_power_1 rfl (by decide : 2 + 1 < 5) rfl ?_
  refine G_iconst (z := 0) dX11_power_2 rfl ?_
  refine G_istore dX11_power_3 (by decide : 4 < 5) rfl ?_
  exact k1
set_option maxRecDepth 20000 in
set_option maxHeartbeats 8000000 in
theorem sg_X11_power_5 {E : Nat × (Nat → Int32)} {P : Option Value → Mem → Prop} {mem : Mem} {a0 : Int} {a1 : Int} {a2 : Int} {a4 : Int} (w1 : -2147483648 ≤ a4 ∧ a4 < 2147483648) (w2 : -2147483648 ≤ a1 ∧ a1 < 2147483648) (w3 : -2147483648 ≤ a0 ∧ a0 < 2147483648)
    (k1 : a1 ≤ a4 → P (some (vl a2)) mem)
    (k2 : ¬ a1 ≤ a4 → GM E (m_X11_power 0) P 5 [vi a0, vi a1, vl (a2 * a0), un, vi (a4 + 1)] [] mem) :
    GM E (m_X11_power 0) P 5 [vi a0, vi a1, vl a2, un, vi a4] [] mem := by
  refine G_iload dX11_power_5 rfl ?_
  refine G_iload_n dX11_power_7 rfl ?_
  refine G_icmp_ge (tgt := 22) dX11_power_8 (by decide) (w1) (w2) (fun c1 => ?_) (fun c1 => ?_)
  · -- a1 ≤ a4
    refine G_lload_n dX11_power_22 rfl ?_
    exact G_lret dX11_power_23 rfl (Nat.zero_le _) (Nat.zero_le _) (Nat.le_refl _) ⟨rfl, k1 c1⟩
  · -- ¬ a1 ≤ a4
    refine G_lload_n dX11_power_11 rfl ?_
    refine G_iload_n dX11_power_12 rfl ?_
    refine G_i2l dX11_power_13 (w3) ?_
    refine G_lmul dX11_power_14 ?_
    refine G_lstore_n dX11_power_15 rfl (by decide : 2 + 1 < 5) rfl ?_
    refine G_iinc (z := (a4 + 1)) dX11_power_16 rfl rfl (by decide : 4 < 5) rfl ?_
    refine G_goto (tgt := 5) dX11_power_19 (by decide) ?_
    exact k2 c1
set_option maxRecDepth 20000 in
set_option maxHeartbeats 8000000 in
theorem sg_X11_quickest_0 {E : Nat × (Nat → Int32)} {P : Option Value → Mem → Prop} {mem : Mem} {o1 : Nat} {a2 : Int} {a3 : Int} (ho1 : o1 ∈ streetL) (w1 : -2147483648 ≤ a2 ∧ a2 < 2147483648) (q2 : 0 ≤ ((up2 (up2 mem 100 7 (max 1 a2)) 100 8 a3) o1 0) ∧ ((up2 (up2 mem 100 7 (max 1 a2)) 100 8 a3) o1 0) < 6)
    (k1 : GM E (m_X11_quickest 6) P 25 [.ref 0, .ref o1, vi a2, vi a3] [vi (mem 24 ((up2 (up2 mem 100 7 (max 1 a2)) 100 8 a3) o1 0)), .ref o1, .ref 100] (up2 (up2 mem 100 7 (max 1 a2)) 100 8 a3)) :
    GM E (m_X11_quickest 6) P 0 [.ref 0, .ref o1, vi a2, vi a3] [] mem := by
  refine G_aload_n dX11_quickest_0 rfl ?_
  refine G_getR (t := 100) dX11_quickest_1 fl_11_65 (by decide) sh_0 rr_0_7 ?_
  refine G_iload_n dX11_quickest_4 rfl ?_
  refine G_iload_n dX11_quickest_5 rfl ?_
  refine cb_X11_quickest_6 (by decide) (ic_X2_think (by decide) (w1) ?_)
  refine G_aload_n dX11_quickest_9 rfl ?_
  refine G_getR (t := 100) dX11_quickest_10 fl_11_65 (by decide) sh_0 rr_0_7 ?_
  refine G_aload_n dX11_quickest_13 rfl ?_
  refine G_aload_n dX11_quickest_14 rfl ?_
  refine G_getR (t := 23) dX11_quickest_15 fl_11_40 (by decide) sh_0 rr_0_4 ?_
  refine G_aload_n dX11_quickest_18 rfl ?_
  refine G_getI (z := ((up2 (up2 mem 100 7 (max 1 a2)) 100 8 a3) o1 0)) dX11_quickest_19 fl_11_347 (ltStreet0 ho1) (shStreet0 ho1) (by simp [up2, upr]) ?_
  refine cb_X11_quickest_22 (by decide) (ic_X7_outOf (z := (mem 24 ((up2 (up2 mem 100 7 (max 1 a2)) 100 8 a3) o1 0))) (by decide) ⟨(q2).1, (q2).2⟩ (by simp [up2, upr]) ?_)
  exact k1
set_option maxRecDepth 20000 in
set_option maxHeartbeats 8000000 in
theorem sg_X11_quickest_28 {E : Nat × (Nat → Int32)} {P : Option Value → Mem → Prop} {mem : Mem} {o1 : Nat} {a2 : Int} {a3 : Int} {s0 : Int} (ho1 : o1 ∈ streetL) (q1 : 0 ≤ (mem 100 13) ∧ (mem 100 13) < 3)
    (k1 : P (some (vi (mem 105 (mem 100 13)))) mem) :
    GM E (m_X11_quickest 6) P 28 [.ref 0, .ref o1, vi a2, vi a3] [vi s0] mem := by
  refine G_pop dX11_quickest_28 rfl ?_
  refine G_aload_n dX11_quickest_29 rfl ?_
  refine G_getR (t := 100) dX11_quickest_30 fl_11_65 (by decide) sh_0 rr_0_7 ?_
  refine G_aload_n dX11_quickest_33 rfl ?_
  refine G_getR (t := 100) dX11_quickest_34 fl_11_65 (by decide) sh_0 rr_0_7 ?_
  refine G_getI (z := (mem 100 13)) dX11_quickest_37 fl_11_334 (by decide) sh_100 rfl ?_
  refine cb_X11_quickest_40 (by decide) (ic_X2_secondsOf (z := (mem 105 (mem 100 13))) (by decide) ⟨(q1).1, (q1).2⟩ rfl ?_)
  exact G_iret dX11_quickest_43 rfl (Nat.zero_le _) (Nat.zero_le _) (Nat.le_refl _) ⟨rfl, k1⟩
set_option maxRecDepth 20000 in
set_option maxHeartbeats 8000000 in
theorem sg_X11_readAct_0 {E : Nat × (Nat → Int32)} {P : Option Value → Mem → Prop} {mem : Mem} (t1 : TextOK mem) (t2 : ¬ (lookM mem) = 116 → (lookM mem) = 103 → TextOK (up2 mem 1 2 ((mem 1 2) + 1))) (w3 : ¬ (lookM mem) = 116 → (lookM mem) = 103 → 48 ≤ (lookM (up2 mem 1 2 ((mem 1 2) + 1))) ∧ (lookM (up2 mem 1 2 ((mem 1 2) + 1))) < 10 + 48 → -2147483648 ≤ ((lookM (up2 mem 1 2 ((mem 1 2) + 1))) - 48) ∧ ((lookM (up2 mem 1 2 ((mem 1 2) + 1))) - 48) < 2147483648) (t4 : ¬ (lookM mem) = 116 → ¬ (lookM mem) = 103 → ¬ (lookM mem) = 112 → (lookM mem) = 101 → TextOK (up2 mem 1 2 ((mem 1 2) + 1))) (w5 : ¬ (lookM mem) = 116 → ¬ (lookM mem) = 103 → ¬ (lookM mem) = 112 → (lookM mem) = 101 → 48 ≤ (lookM (up2 mem 1 2 ((mem 1 2) + 1))) ∧ (lookM (up2 mem 1 2 ((mem 1 2) + 1))) < 10 + 48 → -2147483648 ≤ ((lookM (up2 mem 1 2 ((mem 1 2) + 1))) - 48) ∧ ((lookM (up2 mem 1 2 ((mem 1 2) + 1))) - 48) < 2147483648) (t6 : ¬ (lookM mem) = 116 → ¬ (lookM mem) = 103 → ¬ (lookM mem) = 112 → (lookM mem) = 101 → 48 ≤ (lookM (up2 mem 1 2 ((mem 1 2) + 1))) ∧ (lookM (up2 mem 1 2 ((mem 1 2) + 1))) < 10 + 48 → 0 ≤ ((lookM (up2 mem 1 2 ((mem 1 2) + 1))) - 48) → TextOK (up2 (up2 mem 1 2 ((mem 1 2) + 1)) 1 2 (((mem 1 2) + 1) + 1))) (w7 : ¬ (lookM mem) = 116 → ¬ (lookM mem) = 103 → ¬ (lookM mem) = 112 → (lookM mem) = 101 → 48 ≤ (lookM (up2 mem 1 2 ((mem 1 2) + 1))) ∧ (lookM (up2 mem 1 2 ((mem 1 2) + 1))) < 10 + 48 → 0 ≤ ((lookM (up2 mem 1 2 ((mem 1 2) + 1))) - 48) → 48 ≤ (lookM (up2 (up2 mem 1 2 ((mem 1 2) + 1)) 1 2 (((mem 1 2) + 1) + 1))) ∧ (lookM (up2 (up2 mem 1 2 ((mem 1 2) + 1)) 1 2 (((mem 1 2) + 1) + 1))) < 3 + 48 → -2147483648 ≤ ((lookM (up2 (up2 mem 1 2 ((mem 1 2) + 1)) 1 2 (((mem 1 2) + 1) + 1))) - 48) ∧ ((lookM (up2 (up2 mem 1 2 ((mem 1 2) + 1)) 1 2 (((mem 1 2) + 1) + 1))) - 48) < 2147483648)
    (k1 : (lookM mem) = 116 → P (some (vi 20000)) (up2 mem 1 2 ((mem 1 2) + 1)))
    (k2 : ¬ (lookM mem) = 116 → (lookM mem) = 103 → 48 ≤ (lookM (up2 mem 1 2 ((mem 1 2) + 1))) ∧ (lookM (up2 mem 1 2 ((mem 1 2) + 1))) < 10 + 48 → P (some (vi (if 0 ≤ ((lookM (up2 mem 1 2 ((mem 1 2) + 1))) - 48) then (0 + ((lookM (up2 mem 1 2 ((mem 1 2) + 1))) - 48)) else ((-1) : Int)))) (up2 (up2 mem 1 2 ((mem 1 2) + 1)) 1 2 (((mem 1 2) + 1) + 1)))
    (k3 : ¬ (lookM mem) = 116 → (lookM mem) = 103 → ¬ (48 ≤ (lookM (up2 mem 1 2 ((mem 1 2) + 1))) ∧ (lookM (up2 mem 1 2 ((mem 1 2) + 1))) < 10 + 48) → P (some (vi (-1))) (up2 mem 1 2 ((mem 1 2) + 1)))
    (k4 : ¬ (lookM mem) = 116 → ¬ (lookM mem) = 103 → (lookM mem) = 112 → GM E (m_X11_readAct 2) P 67 [.ref 0, un, un] [vi 4, .ref 1] (up2 mem 1 2 ((mem 1 2) + 1)))
    (k5 : ¬ (lookM mem) = 116 → ¬ (lookM mem) = 103 → ¬ (lookM mem) = 112 → (lookM mem) = 101 → 48 ≤ (lookM (up2 mem 1 2 ((mem 1 2) + 1))) ∧ (lookM (up2 mem 1 2 ((mem 1 2) + 1))) < 10 + 48 → 0 ≤ ((lookM (up2 mem 1 2 ((mem 1 2) + 1))) - 48) → 48 ≤ (lookM (up2 (up2 mem 1 2 ((mem 1 2) + 1)) 1 2 (((mem 1 2) + 1) + 1))) ∧ (lookM (up2 (up2 mem 1 2 ((mem 1 2) + 1)) 1 2 (((mem 1 2) + 1) + 1))) < 3 + 48 → P (some (vi (if 0 ≤ ((lookM (up2 (up2 mem 1 2 ((mem 1 2) + 1)) 1 2 (((mem 1 2) + 1) + 1))) - 48) then ((10000 + (((lookM (up2 mem 1 2 ((mem 1 2) + 1))) - 48) * 10)) + ((lookM (up2 (up2 mem 1 2 ((mem 1 2) + 1)) 1 2 (((mem 1 2) + 1) + 1))) - 48)) else ((-1) : Int)))) (up2 (up2 (up2 mem 1 2 ((mem 1 2) + 1)) 1 2 (((mem 1 2) + 1) + 1)) 1 2 ((((mem 1 2) + 1) + 1) + 1)))
    (k6 : ¬ (lookM mem) = 116 → ¬ (lookM mem) = 103 → ¬ (lookM mem) = 112 → (lookM mem) = 101 → 48 ≤ (lookM (up2 mem 1 2 ((mem 1 2) + 1))) ∧ (lookM (up2 mem 1 2 ((mem 1 2) + 1))) < 10 + 48 → 0 ≤ ((lookM (up2 mem 1 2 ((mem 1 2) + 1))) - 48) → ¬ (48 ≤ (lookM (up2 (up2 mem 1 2 ((mem 1 2) + 1)) 1 2 (((mem 1 2) + 1) + 1))) ∧ (lookM (up2 (up2 mem 1 2 ((mem 1 2) + 1)) 1 2 (((mem 1 2) + 1) + 1))) < 3 + 48) → P (some (vi (-1))) (up2 (up2 mem 1 2 ((mem 1 2) + 1)) 1 2 (((mem 1 2) + 1) + 1)))
    (k7 : ¬ (lookM mem) = 116 → ¬ (lookM mem) = 103 → ¬ (lookM mem) = 112 → (lookM mem) = 101 → 48 ≤ (lookM (up2 mem 1 2 ((mem 1 2) + 1))) ∧ (lookM (up2 mem 1 2 ((mem 1 2) + 1))) < 10 + 48 → ¬ 0 ≤ ((lookM (up2 mem 1 2 ((mem 1 2) + 1))) - 48) → P (some (vi (-1))) (up2 (up2 mem 1 2 ((mem 1 2) + 1)) 1 2 (((mem 1 2) + 1) + 1)))
    (k8 : ¬ (lookM mem) = 116 → ¬ (lookM mem) = 103 → ¬ (lookM mem) = 112 → (lookM mem) = 101 → ¬ (48 ≤ (lookM (up2 mem 1 2 ((mem 1 2) + 1))) ∧ (lookM (up2 mem 1 2 ((mem 1 2) + 1))) < 10 + 48) → P (some (vi (-1))) (up2 mem 1 2 ((mem 1 2) + 1)))
    (k9 : ¬ (lookM mem) = 116 → ¬ (lookM mem) = 103 → ¬ (lookM mem) = 112 → ¬ (lookM mem) = 101 → P (some (vi (-1))) mem) :
    GM E (m_X11_readAct 2) P 0 [.ref 0, un, un] [] mem := by
  refine G_aload_n dX11_readAct_0 rfl ?_
  refine G_getR (t := 1) dX11_readAct_1 fl_11_12 (by decide) sh_0 rr_0_0 ?_
  refine G_bipush (z := 116) dX11_readAct_4 rfl ?_
  refine cb_X11_readAct_6 (ic_X9_accept (z := (mem 1 2)) (t1) (by decide) rfl (fun c1 => ?_) (fun c2 => ?_))
  · -- (lookM mem) = 116
    refine G_if_eq (tgt := 16) dX11_readAct_9 (by decide) (by decide) (fun h => absurd h (by decide)) (fun _ => ?_)
    refine G_sipush (z := 20000) dX11_readAct_12 rfl ?_
    exact G_iret dX11_readAct_15 rfl (Nat.zero_le _) (Nat.zero_le _) (Nat.le_refl _) ⟨rfl, k1 c1⟩
  · -- ¬ (lookM mem) = 116
    refine G_if_eq (tgt := 16) dX11_readAct_9 (by decide) (by decide) (fun _ => ?_) (fun h => absurd h (by decide))
    refine G_aload_n dX11_readAct_16 rfl ?_
    refine G_getR (t := 1) dX11_readAct_17 fl_11_12 (by decide) sh_0 rr_0_0 ?_
    refine G_bipush (z := 103) dX11_readAct_20 rfl ?_
    refine cb_X11_readAct_22 (ic_X9_accept (z := (mem 1 2)) (t1) (by decide) rfl (fun c3 => ?_) (fun c4 => ?_))
    · -- (lookM mem) = 103
      refine G_if_eq (tgt := 50) dX11_readAct_25 (by decide) (by decide) (fun h => absurd h (by decide)) (fun _ => ?_)
      refine G_aload_n dX11_readAct_28 rfl ?_
      refine G_getR (t := 1) dX11_readAct_29 fl_11_12 (by decide) sh_0 rr_0_0 ?_
      refine G_bipush (z := 10) dX11_readAct_32 rfl ?_
      refine cb_X11_readAct_34 (ic_X9_digitBelow (z := ((mem 1 2) + 1)) (t2 c2 c3) (by decide) (by simp [up2, upr]) (fun c5 => ?_) (fun c6 => ?_))
      · -- 48 ≤ (lookM (up2 mem 1 2 ((mem 1 2) + 1))) ∧ (lookM (up2 mem 1 2 ((mem 1 2) + 1))) < 10 + 48
        refine G_istore_n dX11_readAct_37 rfl (by decide : 1 < 3) rfl ?_
        refine G_iload_n dX11_readAct_38 rfl ?_
        have j1 : GM E (m_X11_readAct 2) P 49 [.ref 0, vi ((lookM (up2 mem 1 2 ((mem 1 2) + 1))) - 48), un] [vi (if 0 ≤ ((lookM (up2 mem 1 2 ((mem 1 2) + 1))) - 48) then (0 + ((lookM (up2 mem 1 2 ((mem 1 2) + 1))) - 48)) else ((-1) : Int))] (up2 (up2 mem 1 2 ((mem 1 2) + 1)) 1 2 (((mem 1 2) + 1) + 1)) := by
          exact G_iret dX11_readAct_49 rfl (Nat.zero_le _) (Nat.zero_le _) (Nat.le_refl _) ⟨rfl, k2 c2 c3 c5⟩
        refine G_if_ge (tgt := 46) dX11_readAct_39 (by decide) (w3 c2 c3 c5) (fun c7 => ?_) (fun c7 => ?_)
        · -- 0 ≤ ((lookM (up2 mem 1 2 ((mem 1 2) + 1))) - 48)
          refine G_iconst (z := 0) dX11_readAct_46 rfl ?_
          refine G_iload_n dX11_readAct_47 rfl ?_
          refine G_iadd dX11_readAct_48 ?_
          have qj1 := j1
          simp only [if_pos c7] at qj1
          exact qj1
        · -- ¬ 0 ≤ ((lookM (up2 mem 1 2 ((mem 1 2) + 1))) - 48)
          refine G_iconst (z := (-1)) dX11_readAct_42 rfl ?_
          refine G_goto (tgt := 49) dX11_readAct_43 (by decide) ?_
          have qj1 := j1
          simp only [if_neg c7] at qj1
          exact qj1
      · -- ¬ (48 ≤ (lookM (up2 mem 1 2 ((mem 1 2) + 1))) ∧ (lookM (up2 mem 1 2 ((mem 1 2) + 1))) < 10 + 48)
        refine G_istore_n dX11_readAct_37 rfl (by decide : 1 < 3) rfl ?_
        refine G_iload_n dX11_readAct_38 rfl ?_
        refine G_if_ge (tgt := 46) dX11_readAct_39 (by decide) (by decide) (fun h => absurd h (by decide)) (fun _ => ?_)
        refine G_iconst (z := (-1)) dX11_readAct_42 rfl ?_
        refine G_goto (tgt := 49) dX11_readAct_43 (by decide) ?_
        exact G_iret dX11_readAct_49 rfl (Nat.zero_le _) (Nat.zero_le _) (Nat.le_refl _) ⟨rfl, k3 c2 c3 c6⟩
    · -- ¬ (lookM mem) = 103
      refine G_if_eq (tgt := 50) dX11_readAct_25 (by decide) (by decide) (fun _ => ?_) (fun h => absurd h (by decide))
      refine G_aload_n dX11_readAct_50 rfl ?_
      refine G_getR (t := 1) dX11_readAct_51 fl_11_12 (by decide) sh_0 rr_0_0 ?_
      refine G_bipush (z := 112) dX11_readAct_54 rfl ?_
      refine cb_X11_readAct_56 (ic_X9_accept (z := (mem 1 2)) (t1) (by decide) rfl (fun c8 => ?_) (fun c9 => ?_))
      · -- (lookM mem) = 112
        refine G_if_eq (tgt := 85) dX11_readAct_59 (by decide) (by decide) (fun h => absurd h (by decide)) (fun _ => ?_)
        refine G_aload_n dX11_readAct_62 rfl ?_
        refine G_getR (t := 1) dX11_readAct_63 fl_11_12 (by decide) sh_0 rr_0_0 ?_
        refine G_iconst (z := 4) dX11_readAct_66 rfl ?_
        exact k4 c2 c4 c8
      · -- ¬ (lookM mem) = 112
        refine G_if_eq (tgt := 85) dX11_readAct_59 (by decide) (by decide) (fun _ => ?_) (fun h => absurd h (by decide))
        refine G_aload_n dX11_readAct_85 rfl ?_
        refine G_getR (t := 1) dX11_readAct_86 fl_11_12 (by decide) sh_0 rr_0_0 ?_
        refine G_bipush (z := 101) dX11_readAct_89 rfl ?_
        refine cb_X11_readAct_91 (ic_X9_accept (z := (mem 1 2)) (t1) (by decide) rfl (fun c10 => ?_) (fun c11 => ?_))
        · -- (lookM mem) = 101
          refine G_if_ne (tgt := 99) dX11_readAct_94 (by decide) (by decide) (fun _ => ?_) (fun h => absurd h (by decide))
          refine G_aload_n dX11_readAct_99 rfl ?_
          refine G_getR (t := 1) dX11_readAct_100 fl_11_12 (by decide) sh_0 rr_0_0 ?_
          refine G_bipush (z := 10) dX11_readAct_103 rfl ?_
          refine cb_X11_readAct_105 (ic_X9_digitBelow (z := ((mem 1 2) + 1)) (t4 c2 c4 c9 c10) (by decide) (by simp [up2, upr]) (fun c12 => ?_) (fun c13 => ?_))
          · -- 48 ≤ (lookM (up2 mem 1 2 ((mem 1 2) + 1))) ∧ (lookM (up2 mem 1 2 ((mem 1 2) + 1))) < 10 + 48
            refine G_istore_n dX11_readAct_108 rfl (by decide : 1 < 3) rfl ?_
            refine G_iload_n dX11_readAct_109 rfl ?_
            refine G_if_ge (tgt := 117) dX11_readAct_110 (by decide) (w5 c2 c4 c9 c10 c12) (fun c14 => ?_) (fun c14 => ?_)
            · -- 0 ≤ ((lookM (up2 mem 1 2 ((mem 1 2) + 1))) - 48)
              refine G_aload_n dX11_readAct_117 rfl ?_
              refine G_getR (t := 1) dX11_readAct_118 fl_11_12 (by decide) sh_0 rr_0_0 ?_
              refine G_iconst (z := 3) dX11_readAct_121 rfl ?_
              refine cb_X11_readAct_122 (ic_X9_digitBelow (z := (((mem 1 2) + 1) + 1)) (t6 c2 c4 c9 c10 c12 c14) (by decide) (by simp [up2, upr]) (fun c15 => ?_) (fun c16 => ?_))
              · -- 48 ≤ (lookM (up2 (up2 mem 1 2 ((mem 1 2) + 1)) 1 2 (((mem 1 2) + 1) + 1))) ∧ (lookM (up2 (up2 mem 1 2 ((mem 1 2) + 1)) 1 2 (((mem 1 2) + 1) + 1))) < 3 + 48
                refine G_istore_n dX11_readAct_125 rfl (by decide : 2 < 3) rfl ?_
                refine G_iload_n dX11_readAct_126 rfl ?_
                have j2 : GM E (m_X11_readAct 2) P 144 [.ref 0, vi ((lookM (up2 mem 1 2 ((mem 1 2) + 1))) - 48), vi ((lookM (up2 (up2 mem 1 2 ((mem 1 2) + 1)) 1 2 (((mem 1 2) + 1) + 1))) - 48)] [vi (if 0 ≤ ((lookM (up2 (up2 mem 1 2 ((mem 1 2) + 1)) 1 2 (((mem 1 2) + 1) + 1))) - 48) then ((10000 + (((lookM (up2 mem 1 2 ((mem 1 2) + 1))) - 48) * 10)) + ((lookM (up2 (up2 mem 1 2 ((mem 1 2) + 1)) 1 2 (((mem 1 2) + 1) + 1))) - 48)) else ((-1) : Int))] (up2 (up2 (up2 mem 1 2 ((mem 1 2) + 1)) 1 2 (((mem 1 2) + 1) + 1)) 1 2 ((((mem 1 2) + 1) + 1) + 1)) := by
                  exact G_iret dX11_readAct_144 rfl (Nat.zero_le _) (Nat.zero_le _) (Nat.le_refl _) ⟨rfl, k5 c2 c4 c9 c10 c12 c14 c15⟩
                refine G_if_ge (tgt := 134) dX11_readAct_127 (by decide) (w7 c2 c4 c9 c10 c12 c14 c15) (fun c17 => ?_) (fun c17 => ?_)
                · -- 0 ≤ ((lookM (up2 (up2 mem 1 2 ((mem 1 2) + 1)) 1 2 (((mem 1 2) + 1) + 1))) - 48)
                  refine G_sipush (z := 10000) dX11_readAct_134 rfl ?_
                  refine G_iload_n dX11_readAct_137 rfl ?_
                  refine G_bipush (z := 10) dX11_readAct_138 rfl ?_
                  refine G_imul dX11_readAct_140 ?_
                  refine G_iadd dX11_readAct_141 ?_
                  refine G_iload_n dX11_readAct_142 rfl ?_
                  refine G_iadd dX11_readAct_143 ?_
                  have qj2 := j2
                  simp only [if_pos c17] at qj2
                  exact qj2
                · -- ¬ 0 ≤ ((lookM (up2 (up2 mem 1 2 ((mem 1 2) + 1)) 1 2 (((mem 1 2) + 1) + 1))) - 48)
                  refine G_iconst (z := (-1)) dX11_readAct_130 rfl ?_
                  refine G_goto (tgt := 144) dX11_readAct_131 (by decide) ?_
                  have qj2 := j2
                  simp only [if_neg c17] at qj2
                  exact qj2
              · -- ¬ (48 ≤ (lookM (up2 (up2 mem 1 2 ((mem 1 2) + 1)) 1 2 (((mem 1 2) + 1) + 1))) ∧ (lookM (up2 (up2 mem 1 2 ((mem 1 2) + 1)) 1 2 (((mem 1 2) + 1) + 1))) < 3 + 48)
                refine G_istore_n dX11_readAct_125 rfl (by decide : 2 < 3) rfl ?_
                refine G_iload_n dX11_readAct_126 rfl ?_
                refine G_if_ge (tgt := 134) dX11_readAct_127 (by decide) (by decide) (fun h => absurd h (by decide)) (fun _ => ?_)
                refine G_iconst (z := (-1)) dX11_readAct_130 rfl ?_
                refine G_goto (tgt := 144) dX11_readAct_131 (by decide) ?_
                exact G_iret dX11_readAct_144 rfl (Nat.zero_le _) (Nat.zero_le _) (Nat.le_refl _) ⟨rfl, k6 c2 c4 c9 c10 c12 c14 c16⟩
            · -- ¬ 0 ≤ ((lookM (up2 mem 1 2 ((mem 1 2) + 1))) - 48)
              refine G_iconst (z := (-1)) dX11_readAct_113 rfl ?_
              refine G_goto (tgt := 125) dX11_readAct_114 (by decide) ?_
              refine G_istore_n dX11_readAct_125 rfl (by decide : 2 < 3) rfl ?_
              refine G_iload_n dX11_readAct_126 rfl ?_
              refine G_if_ge (tgt := 134) dX11_readAct_127 (by decide) (by decide) (fun h => absurd h (by decide)) (fun _ => ?_)
              refine G_iconst (z := (-1)) dX11_readAct_130 rfl ?_
              refine G_goto (tgt := 144) dX11_readAct_131 (by decide) ?_
              exact G_iret dX11_readAct_144 rfl (Nat.zero_le _) (Nat.zero_le _) (Nat.le_refl _) ⟨rfl, k7 c2 c4 c9 c10 c12 c14⟩
          · -- ¬ (48 ≤ (lookM (up2 mem 1 2 ((mem 1 2) + 1))) ∧ (lookM (up2 mem 1 2 ((mem 1 2) + 1))) < 10 + 48)
            refine G_istore_n dX11_readAct_108 rfl (by decide : 1 < 3) rfl ?_
            refine G_iload_n dX11_readAct_109 rfl ?_
            refine G_if_ge (tgt := 117) dX11_readAct_110 (by decide) (by decide) (fun h => absurd h (by decide)) (fun _ => ?_)
            refine G_iconst (z := (-1)) dX11_readAct_113 rfl ?_
            refine G_goto (tgt := 125) dX11_readAct_114 (by decide) ?_
            refine G_istore_n dX11_readAct_125 rfl (by decide : 2 < 3) rfl ?_
            refine G_iload_n dX11_readAct_126 rfl ?_
            refine G_if_ge (tgt := 134) dX11_readAct_127 (by decide) (by decide) (fun h => absurd h (by decide)) (fun _ => ?_)
            refine G_iconst (z := (-1)) dX11_readAct_130 rfl ?_
            refine G_goto (tgt := 144) dX11_readAct_131 (by decide) ?_
            exact G_iret dX11_readAct_144 rfl (Nat.zero_le _) (Nat.zero_le _) (Nat.le_refl _) ⟨rfl, k8 c2 c4 c9 c10 c13⟩
        · -- ¬ (lookM mem) = 101
          refine G_if_ne (tgt := 99) dX11_readAct_94 (by decide) (by decide) (fun h => absurd h (by decide)) (fun _ => ?_)
          refine G_iconst (z := (-1)) dX11_readAct_97 rfl ?_
          exact G_iret dX11_readAct_98 rfl (Nat.zero_le _) (Nat.zero_le _) (Nat.le_refl _) ⟨rfl, k9 c2 c4 c9 c11⟩
set_option maxRecDepth 20000 in
set_option maxHeartbeats 8000000 in
theorem sg_X11_readAct_70 {E : Nat × (Nat → Int32)} {P : Option Value → Mem → Prop} {mem : Mem} {s0 : Int} (w1 : -2147483648 ≤ s0 ∧ s0 < 2147483648)
    (k1 : P (some (vi (if 0 ≤ s0 then (30000 + s0) else ((-1) : Int)))) mem) :
    GM E (m_X11_readAct 2) P 70 [.ref 0, un, un] [vi s0] mem := by
  refine G_istore_n dX11_readAct_70 rfl (by decide : 1 < 3) rfl ?_
  refine G_iload_n dX11_readAct_71 rfl ?_
  have j1 : GM E (m_X11_readAct 2) P 84 [.ref 0, vi s0, un] [vi (if 0 ≤ s0 then (30000 + s0) else ((-1) : Int))] mem := by
    exact G_iret dX11_readAct_84 rfl (Nat.zero_le _) (Nat.zero_le _) (Nat.le_refl _) ⟨rfl, k1⟩
  refine G_if_ge (tgt := 79) dX11_readAct_72 (by decide) (w1) (fun c1 => ?_) (fun c1 => ?_)
  · -- 0 ≤ s0
    refine G_sipush (z := 30000) dX11_readAct_79 rfl ?_
    refine G_iload_n dX11_readAct_82 rfl ?_
    refine G_iadd dX11_readAct_83 ?_
    have qj1 := j1
    simp only [if_pos c1] at qj1
    exact qj1
  · -- ¬ 0 ≤ s0
    refine G_iconst (z := (-1)) dX11_readAct_75 rfl ?_
    refine G_goto (tgt := 84) dX11_readAct_76 (by decide) ?_
    have qj1 := j1
    simp only [if_neg c1] at qj1
    exact qj1
set_option maxRecDepth 20000 in
set_option maxHeartbeats 8000000 in
theorem sg_X11_readActs_0 {E : Nat × (Nat → Int32)} {P : Option Value → Mem → Prop} {mem : Mem} (w1 : -2147483648 ≤ (mem 1 1) ∧ (mem 1 1) < 2147483648)
    (k1 : (mem 1 1) ≤ 0 → P (some (vi 0)) (up2 (up2 mem 1 2 0) 1 3 (min (mem 1 1) 60)))
    (k2 : ¬ (mem 1 1) ≤ 0 → GM E (m_X11_readActs 3) P 23 [.ref 0, vi 0, un] [] (up2 (up2 mem 1 2 0) 1 3 (min (mem 1 1) 60))) :
    GM E (m_X11_readActs 3) P 0 [.ref 0, un, un] [] mem := by
  refine G_aload_n dX11_readActs_0 rfl ?_
  refine G_getR (t := 1) dX11_readActs_1 fl_11_12 (by decide) sh_0 rr_0_0 ?_
  refine G_bipush (z := 60) dX11_readActs_4 rfl ?_
  refine cb_X11_readActs_6 (ic_X9_begin (z := (mem 1 1)) rfl (w1) (by decide) ?_)
  refine G_aload_n dX11_readActs_9 rfl ?_
  refine G_getR (t := 1) dX11_readActs_10 fl_11_12 (by decide) sh_0 rr_0_0 ?_
  refine cb_X11_readActs_13 (ic_X9_isRead (a := 0) (b := (mem 1 1)) (by simp [up2, upr]) (by simp [up2, upr]) (by decide) (w1) (fun c1 => ?_) (fun c2 => ?_))
  · -- (mem 1 1) ≤ 0
    refine G_if_eq (tgt := 21) dX11_readActs_16 (by decide) (by decide) (fun h => absurd h (by decide)) (fun _ => ?_)
    refine G_iconst (z := 0) dX11_readActs_19 rfl ?_
    exact G_iret dX11_readActs_20 rfl (Nat.zero_le _) (Nat.zero_le _) (Nat.le_refl _) ⟨rfl, k1 c1⟩
  · -- ¬ (mem 1 1) ≤ 0
    refine G_if_eq (tgt := 21) dX11_readActs_16 (by decide) (by decide) (fun _ => ?_) (fun h => absurd h (by decide))
    refine G_iconst (z := 0) dX11_readActs_21 rfl ?_
    refine G_istore_n dX11_readActs_22 rfl (by decide : 1 < 3) rfl ?_
    exact k2 c2
set_option maxRecDepth 20000 in
set_option maxHeartbeats 8000000 in
theorem sg_X11_readActs_23 {E : Nat × (Nat → Int32)} {P : Option Value → Mem → Prop} {mem : Mem} {a1 : Int} (w1 : -2147483648 ≤ a1 ∧ a1 < 2147483648)
    (k1 : 30 ≤ a1 → P (some (vi ((-1) - (mem 1 2)))) mem)
    (k2 : ¬ 30 ≤ a1 → GM E (m_X11_readActs 3) P 33 [.ref 0, vi a1, un] [.ref 0] mem) :
    GM E (m_X11_readActs 3) P 23 [.ref 0, vi a1, un] [] mem := by
  refine G_iload_n dX11_readActs_23 rfl ?_
  refine G_aload_n dX11_readActs_24 rfl ?_
  refine G_getR (t := 167) dX11_readActs_25 fl_11_95 (by decide) sh_0 rr_0_12 ?_
  refine G_alen (z := 30) dX11_readActs_28 (by decide) sh_167 (by decide) rfl ?_
  refine G_icmp_ge (tgt := 96) dX11_readActs_29 (by decide) (w1) (by decide) (fun c1 => ?_) (fun c1 => ?_)
  · -- 30 ≤ a1
    refine G_aload_n dX11_readActs_96 rfl ?_
    refine G_getR (t := 1) dX11_readActs_97 fl_11_12 (by decide) sh_0 rr_0_0 ?_
    refine cb_X11_readActs_100 (ic_X9_fault (z := (mem 1 2)) rfl ?_)
    exact G_iret dX11_readActs_103 rfl (Nat.zero_le _) (Nat.zero_le _) (Nat.le_refl _) ⟨rfl, k1 c1⟩
  · -- ¬ 30 ≤ a1
    refine G_aload_n dX11_readActs_32 rfl ?_
    exact k2 c1
set_option maxRecDepth 20000 in
set_option maxHeartbeats 8000000 in
theorem sg_X11_readActs_36 {E : Nat × (Nat → Int32)} {P : Option Value → Mem → Prop} {mem : Mem} {a1 : Int} {s0 : Int} (w1 : -2147483648 ≤ s0 ∧ s0 < 2147483648) (q2 : 0 ≤ s0 → 0 ≤ a1 ∧ a1 < 30) (w3 : 0 ≤ s0 → -2147483648 ≤ (mem 1 2) ∧ (mem 1 2) < 2147483648) (w4 : 0 ≤ s0 → -2147483648 ≤ (mem 1 1) ∧ (mem 1 1) < 2147483648) (t5 : 0 ≤ s0 → ¬ (mem 1 1) ≤ (mem 1 2) → TextOK (up2 mem 167 a1 s0))
    (k1 : 0 ≤ s0 → (mem 1 1) ≤ (mem 1 2) → P (some (vi (a1 + 1))) (up2 mem 167 a1 s0))
    (k2 : 0 ≤ s0 → ¬ (mem 1 1) ≤ (mem 1 2) → (lookM (up2 mem 167 a1 s0)) = 59 → GM E (m_X11_readActs 3) P 23 [.ref 0, vi (a1 + 1), un] [] (up2 (up2 mem 167 a1 s0) 1 2 ((mem 1 2) + 1)))
    (k3 : 0 ≤ s0 → ¬ (mem 1 1) ≤ (mem 1 2) → ¬ (lookM (up2 mem 167 a1 s0)) = 59 → P (some (vi ((-1) - (mem 1 2)))) (up2 mem 167 a1 s0))
    (k4 : ¬ 0 ≤ s0 → P (some (vi ((-1) - (mem 1 2)))) mem) :
    GM E (m_X11_readActs 3) P 36 [.ref 0, vi a1, un] [vi s0] mem := by
  refine G_istore_n dX11_readActs_36 rfl (by decide : 2 < 3) rfl ?_
  refine G_iload_n dX11_readActs_37 rfl ?_
  refine G_if_ge (tgt := 49) dX11_readActs_38 (by decide) (w1) (fun c1 => ?_) (fun c1 => ?_)
  · -- 0 ≤ s0
    refine G_aload_n dX11_readActs_49 rfl ?_
    refine G_getR (t := 167) dX11_readActs_50 fl_11_95 (by decide) sh_0 rr_0_12 ?_
    refine G_iload_n dX11_readActs_53 rfl ?_
    refine G_iload_n dX11_readActs_54 rfl ?_
    refine G_iast (mem2 := (up2 mem 167 a1 s0)) dX11_readActs_55 (by decide) sh_167 (by decide) (q2 c1).1 (q2 c1).2 rfl ?_
    refine G_aload_n dX11_readActs_56 rfl ?_
    refine G_getR (t := 1) dX11_readActs_57 fl_11_12 (by decide) sh_0 rr_0_0 ?_
    refine cb_X11_readActs_60 (ic_X9_isRead (a := (mem 1 2)) (b := (mem 1 1)) (by simp [up2, upr]) (by simp [up2, upr]) (w3 c1) (w4 c1) (fun c2 => ?_) (fun c3 => ?_))
    · -- (mem 1 1) ≤ (mem 1 2)
      refine G_if_eq (tgt := 70) dX11_readActs_63 (by decide) (by decide) (fun h => absurd h (by decide)) (fun _ => ?_)
      refine G_iload_n dX11_readActs_66 rfl ?_
      refine G_iconst (z := 1) dX11_readActs_67 rfl ?_
      refine G_iadd dX11_readActs_68 ?_
      exact G_iret dX11_readActs_69 rfl (Nat.zero_le _) (Nat.zero_le _) (Nat.le_refl _) ⟨rfl, k1 c1 c2⟩
    · -- ¬ (mem 1 1) ≤ (mem 1 2)
      refine G_if_eq (tgt := 70) dX11_readActs_63 (by decide) (by decide) (fun _ => ?_) (fun h => absurd h (by decide))
      refine G_aload_n dX11_readActs_70 rfl ?_
      refine G_getR (t := 1) dX11_readActs_71 fl_11_12 (by decide) sh_0 rr_0_0 ?_
      refine G_bipush (z := 59) dX11_readActs_74 rfl ?_
      refine cb_X11_readActs_76 (ic_X9_accept (z := (mem 1 2)) (t5 c1 c3) (by decide) (by simp [up2, upr]) (fun c4 => ?_) (fun c5 => ?_))
      · -- (lookM (up2 mem 167 a1 s0)) = 59
        refine G_if_ne (tgt := 90) dX11_readActs_79 (by decide) (by decide) (fun _ => ?_) (fun h => absurd h (by decide))
        refine G_iinc (z := (a1 + 1)) dX11_readActs_90 rfl rfl (by decide : 1 < 3) rfl ?_
        refine G_goto (tgt := 23) dX11_readActs_93 (by decide) ?_
        refine G_weak (lv2 := [.ref 0, vi (a1 + 1), un]) ⟨Or.inr rfl, Or.inr rfl, Or.inl rfl, trivial⟩ ?_
        exact k2 c1 c3 c4
      · -- ¬ (lookM (up2 mem 167 a1 s0)) = 59
        refine G_if_ne (tgt := 90) dX11_readActs_79 (by decide) (by decide) (fun h => absurd h (by decide)) (fun _ => ?_)
        refine G_aload_n dX11_readActs_82 rfl ?_
        refine G_getR (t := 1) dX11_readActs_83 fl_11_12 (by decide) sh_0 rr_0_0 ?_
        refine cb_X11_readActs_86 (ic_X9_fault (z := (mem 1 2)) (by simp [up2, upr]) ?_)
        exact G_iret dX11_readActs_89 rfl (Nat.zero_le _) (Nat.zero_le _) (Nat.le_refl _) ⟨rfl, k3 c1 c3 c5⟩
  · -- ¬ 0 ≤ s0
    refine G_aload_n dX11_readActs_41 rfl ?_
    refine G_getR (t := 1) dX11_readActs_42 fl_11_12 (by decide) sh_0 rr_0_0 ?_
    refine cb_X11_readActs_45 (ic_X9_fault (z := (mem 1 2)) rfl ?_)
    exact G_iret dX11_readActs_48 rfl (Nat.zero_le _) (Nat.zero_le _) (Nat.le_refl _) ⟨rfl, k4 c1⟩
set_option maxRecDepth 20000 in
set_option maxHeartbeats 8000000 in
theorem sg_X11_remember_0 {E : Nat × (Nat → Int32)} {P : Option Value → Mem → Prop} {mem : Mem} {a1 : Int} (w1 : -2147483648 ≤ a1 ∧ a1 < 2147483648)
    (k1 : a1 < 0 → P (some (vi a1)) mem)
    (k2 : ¬ a1 < 0 → GM E (m_X11_remember 4) P 8 [.ref 0, vi a1] [.ref 27] mem) :
    GM E (m_X11_remember 4) P 0 [.ref 0, vi a1] [] mem := by
  refine G_iload_n dX11_remember_0 rfl ?_
  refine G_if_lt (tgt := 11) dX11_remember_1 (by decide) (w1) (fun c1 => ?_) (fun c1 => ?_)
  · -- a1 < 0
    refine G_iload_n dX11_remember_11 rfl ?_
    exact G_iret dX11_remember_12 rfl (Nat.zero_le _) (Nat.zero_le _) (Nat.le_refl _) ⟨rfl, k1 c1⟩
  · -- ¬ a1 < 0
    refine G_aload_n dX11_remember_4 rfl ?_
    refine G_getR (t := 27) dX11_remember_5 fl_11_47 (by decide) sh_0 rr_0_5 ?_
    exact k2 c1
set_option maxRecDepth 20000 in
set_option maxHeartbeats 8000000 in
theorem sg_X11_remember_11 {E : Nat × (Nat → Int32)} {P : Option Value → Mem → Prop} {mem : Mem} {a1 : Int}
    (k1 : P (some (vi a1)) mem) :
    GM E (m_X11_remember 4) P 11 [.ref 0, vi a1] [] mem := by
  refine G_iload_n dX11_remember_11 rfl ?_
  exact G_iret dX11_remember_12 rfl (Nat.zero_le _) (Nat.zero_le _) (Nat.le_refl _) ⟨rfl, k1⟩
set_option maxRecDepth 20000 in
set_option maxHeartbeats 8000000 in
theorem sg_X11_right_0 {E : Nat × (Nat → Int32)} {P : Option Value → Mem → Prop} {mem : Mem} {a1 : Int} {a2 : Int} (q1 : 0 ≤ (mem 9 1) ∧ (mem 9 1) ≤ 6) (w2 : -2147483648 ≤ a1 ∧ a1 < 2147483648) (w3 : -2147483648 ≤ a2 ∧ a2 < 2147483648) (q4 : 0 ≤ a1 ∧ a1 < (mem 9 1) → ¬ a2 < 0 → a2 ≤ 10 → 0 ≤ a1 ∧ a1 < 6)
    (k1 : 0 ≤ a1 ∧ a1 < (mem 9 1) → a2 < 0 → P (some (vi (-1))) mem)
    (k2 : 0 ≤ a1 ∧ a1 < (mem 9 1) → ¬ a2 < 0 → a2 ≤ 10 → GM E (m_X11_right 2) P 31 [.ref 0, vi a1, vi a2, un, un, un, un, un, un, un] [vi (mem 24 a1)] mem)
    (k3 : 0 ≤ a1 ∧ a1 < (mem 9 1) → ¬ a2 < 0 → ¬ a2 ≤ 10 → P (some (vi (-1))) mem)
    (k4 : ¬ (0 ≤ a1 ∧ a1 < (mem 9 1)) → P (some (vi (-1))) mem) :
    GM E (m_X11_right 2) P 0 [.ref 0, vi a1, vi a2, un, un, un, un, un, un, un] [] mem := by
  refine G_aload_n dX11_right_0 rfl ?_
  refine G_getR (t := 9) dX11_right_1 fl_11_33 (by decide) sh_0 rr_0_3 ?_
  refine G_iload_n dX11_right_4 rfl ?_
  refine cb_X11_right_5 (ic_X10_at (z := (mem 9 1)) rfl (q1) (w2) (fun c1 => ?_) (fun c2 => ?_))
  · -- 0 ≤ a1 ∧ a1 < (mem 9 1)
    refine G_ifnull dX11_right_8 ?_
    refine G_iload_n dX11_right_11 rfl ?_
    refine G_if_lt (tgt := 21) dX11_right_12 (by decide) (w3) (fun c3 => ?_) (fun c3 => ?_)
    · -- a2 < 0
      refine G_iconst (z := (-1)) dX11_right_21 rfl ?_
      exact G_iret dX11_right_22 rfl (Nat.zero_le _) (Nat.zero_le _) (Nat.le_refl _) ⟨rfl, k1 c1 c3⟩
    · -- ¬ a2 < 0
      refine G_iload_n dX11_right_15 rfl ?_
      refine G_bipush (z := 10) dX11_right_16 rfl ?_
      refine G_icmp_le (tgt := 23) dX11_right_18 (by decide) (w3) (by decide) (fun c4 => ?_) (fun c4 => ?_)
      · -- a2 ≤ 10
        refine G_aload_n dX11_right_23 rfl ?_
        refine G_getR (t := 23) dX11_right_24 fl_11_40 (by decide) sh_0 rr_0_4 ?_
        refine G_iload_n dX11_right_27 rfl ?_
        refine cb_X11_right_28 (by decide) (ic_X7_outOf (z := (mem 24 a1)) (by decide) ⟨(q4 c1 c3 c4).1, (q4 c1 c3 c4).2⟩ rfl ?_)
        exact k2 c1 c3 c4
      · -- ¬ a2 ≤ 10
        refine G_iconst (z := (-1)) dX11_right_21 rfl ?_
        exact G_iret dX11_right_22 rfl (Nat.zero_le _) (Nat.zero_le _) (Nat.le_refl _) ⟨rfl, k3 c1 c3 c4⟩
  · -- ¬ (0 ≤ a1 ∧ a1 < (mem 9 1))
    refine G_ifnullZ (tgt := 21) dX11_right_8 (by decide) ?_
    refine G_iconst (z := (-1)) dX11_right_21 rfl ?_
    exact G_iret dX11_right_22 rfl (Nat.zero_le _) (Nat.zero_le _) (Nat.le_refl _) ⟨rfl, k4 c2⟩
set_option maxRecDepth 20000 in
set_option maxHeartbeats 8000000 in
theorem sg_X11_right_34 {E : Nat × (Nat → Int32)} {P : Option Value → Mem → Prop} {mem : Mem} {a1 : Int} {a2 : Int} {s0 : Int}
    (k1 : GM E (m_X11_right 2) P 37 [.ref 0, vi a1, vi a2, vi s0, un, un, un, un, un, un] [vi s0, vi a2] mem) :
    GM E (m_X11_right 2) P 34 [.ref 0, vi a1, vi a2, un, un, un, un, un, un, un] [vi s0] mem := by
  refine G_istore_n dX11_right_34 rfl (by decide : 3 < 10) rfl ?_
  refine G_iload_n dX11_right_35 rfl ?_
  refine G_iload_n dX11_right_36 rfl ?_
  exact k1
set_option maxRecDepth 20000 in
set_option maxHeartbeats 8000000 in
theorem sg_X11_right_40 {E : Nat × (Nat → Int32)} {P : Option Value → Mem → Prop} {mem : Mem} {a1 : Int} {a2 : Int} {a3 : Int} {s0 : Int}
    (k1 : GM E (m_X11_right 2) P 45 [.ref 0, vi a1, vi a2, vi a3, vl s0, un, un, un, un, un] [vi a3, vi 10] mem) :
    GM E (m_X11_right 2) P 40 [.ref 0, vi a1, vi a2, vi a3, un, un, un, un, un, un] [vl s0] mem := by
  refine G_lstore dX11_right_40 (by decide : 4 + 1 < 10) rfl ?_
  refine G_bipush (z := 10) dX11_right_42 rfl ?_
  refine G_iload_n dX11_right_44 rfl ?_
  exact k1
set_option maxRecDepth 20000 in
set_option maxHeartbeats 8000000 in
theorem sg_X11_right_48 {E : Nat × (Nat → Int32)} {P : Option Value → Mem → Prop} {mem : Mem} {a1 : Int} {a2 : Int} {a3 : Int} {a4 : Int} {s0 : Int}
    (k1 : GM E (m_X11_right 2) P 54 [.ref 0, vi a1, vi a2, vi a3, vl a4, un, vl s0, un, un, un] [vl a4, vl s0] mem) :
    GM E (m_X11_right 2) P 48 [.ref 0, vi a1, vi a2, vi a3, vl a4, un, un, un, un, un] [vl s0] mem := by
  refine G_lstore dX11_right_48 (by decide : 6 + 1 < 10) rfl ?_
  refine G_lload dX11_right_50 rfl ?_
  refine G_lload dX11_right_52 rfl ?_
  exact k1
set_option maxRecDepth 20000 in
set_option maxHeartbeats 8000000 in
theorem sg_X11_right_57 {E : Nat × (Nat → Int32)} {P : Option Value → Mem → Prop} {mem : Mem} {a1 : Int} {a2 : Int} {a3 : Int} {a4 : Int} {a6 : Int} {s0 : Int} (w1 : -9223372036854775808 ≤ s0 ∧ s0 < 9223372036854775808) (z2 : ¬ s0 ≤ 0 → s0 ≠ 0)
    (k1 : s0 ≤ 0 → P (some (vi 0)) (up2 (up2 (up2 (up2 (up2 mem 0 14 0) 168 0 a4) 0 14 1) 168 1 a6) 0 14 2))
    (k2 : ¬ s0 ≤ 0 → P (some (vi 0)) (up2 (up2 (up2 (up2 (up2 mem 0 14 0) 168 0 (divL a4 s0)) 0 14 1) 168 1 (divL a6 s0)) 0 14 2)) :
    GM E (m_X11_right 2) P 57 [.ref 0, vi a1, vi a2, vi a3, vl a4, un, vl a6, un, un, un] [vl s0] mem := by
  refine G_lstore dX11_right_57 (by decide : 8 + 1 < 10) rfl ?_
  refine G_lload dX11_right_59 rfl ?_
  refine G_lconst (z := 0) dX11_right_61 rfl ?_
  refine G_lcmp_le (tgt := 80) dX11_right_62 dX11_right_63 (by decide) (w1) (by decide) (fun c1 => ?_) (fun c1 => ?_)
  · -- s0 ≤ 0
    refine G_aload_n dX11_right_80 rfl ?_
    refine G_lload dX11_right_81 rfl ?_
    refine cb_X11_right_83 (ic_X11_tell ?_)
    refine G_aload_n dX11_right_86 rfl ?_
    refine G_lload dX11_right_87 rfl ?_
    refine cb_X11_right_89 (ic_X11_tellMore (z := 1) (z2 := 2) (by simp [up2, upr]) (by decide) rfl ?_)
    refine G_iconst (z := 0) dX11_right_92 rfl ?_
    exact G_iret dX11_right_93 rfl (Nat.zero_le _) (Nat.zero_le _) (Nat.le_refl _) ⟨rfl, k1 c1⟩
  · -- ¬ s0 ≤ 0
    refine G_lload dX11_right_66 rfl ?_
    refine G_lload dX11_right_68 rfl ?_
    refine G_ldiv (z := (divL a4 s0)) dX11_right_70 (iL_ne0 (w1) (z2 c1)) (iL_inv _) ?_
    refine G_lstore dX11_right_71 (by decide : 4 + 1 < 10) rfl ?_
    refine G_lload dX11_right_73 rfl ?_
    refine G_lload dX11_right_75 rfl ?_
    refine G_ldiv (z := (divL a6 s0)) dX11_right_77 (iL_ne0 (w1) (z2 c1)) (iL_inv _) ?_
    refine G_lstore dX11_right_78 (by decide : 6 + 1 < 10) rfl ?_
    refine G_aload_n dX11_right_80 rfl ?_
    refine G_lload dX11_right_81 rfl ?_
    refine cb_X11_right_83 (ic_X11_tell ?_)
    refine G_aload_n dX11_right_86 rfl ?_
    refine G_lload dX11_right_87 rfl ?_
    refine cb_X11_right_89 (ic_X11_tellMore (z := 1) (z2 := 2) (by simp [up2, upr]) (by decide) rfl ?_)
    refine G_iconst (z := 0) dX11_right_92 rfl ?_
    exact G_iret dX11_right_93 rfl (Nat.zero_le _) (Nat.zero_le _) (Nat.le_refl _) ⟨rfl, k2 c1⟩
set_option maxRecDepth 20000 in
set_option maxHeartbeats 8000000 in
theorem sg_X11_round_0 {E : Nat × (Nat → Int32)} {P : Option Value → Mem → Prop} {mem : Mem}
    (k1 : GM E (m_X11_round 7) P 1 [.ref 0, un, un, un, un] [.ref 0] mem) :
    GM E (m_X11_round 7) P 0 [.ref 0, un, un, un, un] [] mem := by
  refine G_aload_n dX11_round_0 rfl ?_
  exact k1
set_option maxRecDepth 20000 in
set_option maxHeartbeats 8000000 in
theorem sg_X11_round_4 {E : Nat × (Nat → Int32)} {P : Option Value → Mem → Prop} {mem : Mem} {s0 : Int} (w1 : -2147483648 ≤ s0 ∧ s0 < 2147483648)
    (k1 : 0 ≤ s0 → GM E (m_X11_round 7) P 26 [.ref 0, vi s0, un, un, un] [.ref 23, .ref 27] (up2 mem 1 1 0))
    (k2 : ¬ 0 ≤ s0 → P (some (vi s0)) (up2 mem 1 1 0)) :
    GM E (m_X11_round 7) P 4 [.ref 0, un, un, un, un] [vi s0] mem := by
  refine G_istore_n dX11_round_4 rfl (by decide : 1 < 5) rfl ?_
  refine G_aload_n dX11_round_5 rfl ?_
  refine G_getR (t := 1) dX11_round_6 fl_11_12 (by decide) sh_0 rr_0_0 ?_
  refine cb_X11_round_9 (ic_X9_clear ?_)
  refine G_iload_n dX11_round_12 rfl ?_
  refine G_if_ge (tgt := 18) dX11_round_13 (by decide) (w1) (fun c1 => ?_) (fun c1 => ?_)
  · -- 0 ≤ s0
    refine G_aload_n dX11_round_18 rfl ?_
    refine G_getR (t := 27) dX11_round_19 fl_11_47 (by decide) sh_0 rr_0_5 ?_
    refine G_aload_n dX11_round_22 rfl ?_
    refine G_getR (t := 23) dX11_round_23 fl_11_40 (by decide) sh_0 rr_0_4 ?_
    exact k1 c1
  · -- ¬ 0 ≤ s0
    refine G_iload_n dX11_round_16 rfl ?_
    exact G_iret dX11_round_17 rfl (Nat.zero_le _) (Nat.zero_le _) (Nat.le_refl _) ⟨rfl, k2 c1⟩
set_option maxRecDepth 20000 in
set_option maxHeartbeats 8000000 in
theorem sg_X11_round_29 {E : Nat × (Nat → Int32)} {P : Option Value → Mem → Prop} {mem : Mem} {a1 : Int}
    (k1 : GM E (m_X11_round 7) P 42 [.ref 0, vi a1, vi (mem 23 5), un, un] [vi 2, .ref 23] mem) :
    GM E (m_X11_round 7) P 29 [.ref 0, vi a1, un, un, un] [] mem := by
  refine G_aload_n dX11_round_29 rfl ?_
  refine G_getR (t := 23) dX11_round_30 fl_11_40 (by decide) sh_0 rr_0_4 ?_
  refine G_getI (z := (mem 23 5)) dX11_round_33 fl_11_253 (by decide) sh_23 rfl ?_
  refine G_istore_n dX11_round_36 rfl (by decide : 2 < 5) rfl ?_
  refine G_aload_n dX11_round_37 rfl ?_
  refine G_getR (t := 23) dX11_round_38 fl_11_40 (by decide) sh_0 rr_0_4 ?_
  refine G_iconst (z := 2) dX11_round_41 rfl ?_
  exact k1
set_option maxRecDepth 20000 in
set_option maxHeartbeats 8000000 in
theorem sg_X11_round_45 {E : Nat × (Nat → Int32)} {P : Option Value → Mem → Prop} {mem : Mem} {a1 : Int} {a2 : Int} {s0 : Int}
    (k1 : GM E (m_X11_round 7) P 49 [.ref 0, vi a1, vi a2, vi s0, vi 0] [] mem) :
    GM E (m_X11_round 7) P 45 [.ref 0, vi a1, vi a2, un, un] [vi s0] mem := by
  refine G_istore_n dX11_round_45 rfl (by decide : 3 < 5) rfl ?_
  refine G_iconst (z := 0) dX11_round_46 rfl ?_
  refine G_istore dX11_round_47 (by decide : 4 < 5) rfl ?_
  exact k1
set_option maxRecDepth 20000 in
set_option maxHeartbeats 8000000 in
theorem sg_X11_round_49 {E : Nat × (Nat → Int32)} {P : Option Value → Mem → Prop} {mem : Mem} {a1 : Int} {a2 : Int} {a3 : Int} {a4 : Int} (w1 : -2147483648 ≤ a4 ∧ a4 < 2147483648) (w2 : -2147483648 ≤ a1 ∧ a1 < 2147483648) (q3 : ¬ a1 ≤ a4 → ¬ 30 ≤ a4 → 0 ≤ a4 ∧ a4 < 30)
    (k1 : a1 ≤ a4 → a4 ≤ 0 → a1 ≤ a4 → GM E (m_X11_round 7) P 118 [.ref 0, vi a1, vi a2, vi a3, vi a4] [vi 2, .ref 23, .ref 0] (up2 (up2 (up2 mem 0 14 0) 168 0 0) 0 14 1))
    (k2 : a1 ≤ a4 → a4 ≤ 0 → ¬ a1 ≤ a4 → GM E (m_X11_round 7) P 118 [.ref 0, vi a1, vi a2, vi a3, vi a4] [vi 2, .ref 23, .ref 0] (up2 (up2 (up2 mem 0 14 0) 168 0 1) 0 14 1))
    (k3 : a1 ≤ a4 → ¬ a4 ≤ 0 → GM E (m_X11_round 7) P 94 [.ref 0, vi a1, vi a2, vi a3, vi a4] [.ref 27] mem)
    (k4 : ¬ a1 ≤ a4 → 30 ≤ a4 → a4 ≤ 0 → a1 ≤ a4 → GM E (m_X11_round 7) P 118 [.ref 0, vi a1, vi a2, vi a3, vi a4] [vi 2, .ref 23, .ref 0] (up2 (up2 (up2 mem 0 14 0) 168 0 0) 0 14 1))
    (k5 : ¬ a1 ≤ a4 → 30 ≤ a4 → a4 ≤ 0 → ¬ a1 ≤ a4 → GM E (m_X11_round 7) P 118 [.ref 0, vi a1, vi a2, vi a3, vi a4] [vi 2, .ref 23, .ref 0] (up2 (up2 (up2 mem 0 14 0) 168 0 1) 0 14 1))
    (k6 : ¬ a1 ≤ a4 → 30 ≤ a4 → ¬ a4 ≤ 0 → GM E (m_X11_round 7) P 94 [.ref 0, vi a1, vi a2, vi a3, vi a4] [.ref 27] mem)
    (k7 : ¬ a1 ≤ a4 → ¬ 30 ≤ a4 → GM E (m_X11_round 7) P 73 [.ref 0, vi a1, vi a2, vi a3, vi a4] [vi (mem 167 a4), .ref 0] mem) :
    GM E (m_X11_round 7) P 49 [.ref 0, vi a1, vi a2, vi a3, vi a4] [] mem := by
  refine G_iload dX11_round_49 rfl ?_
  refine G_iload_n dX11_round_51 rfl ?_
  refine G_icmp_ge (tgt := 85) dX11_round_52 (by decide) (w1) (w2) (fun c1 => ?_) (fun c1 => ?_)
  · -- a1 ≤ a4
    refine G_iload dX11_round_85 rfl ?_
    refine G_if_le (tgt := 97) dX11_round_87 (by decide) (w1) (fun c2 => ?_) (fun c2 => ?_)
    · -- a4 ≤ 0
      refine G_aload_n dX11_round_97 rfl ?_
      refine G_iload dX11_round_98 rfl ?_
      refine G_iload_n dX11_round_100 rfl ?_
      refine G_icmp_ge (tgt := 108) dX11_round_101 (by decide) (w1) (w2) (fun c3 => ?_) (fun c3 => ?_)
      · -- a1 ≤ a4
        refine G_lconst (z := 0) dX11_round_108 rfl ?_
        refine cb_X11_round_109 (ic_X11_tell ?_)
        refine G_aload_n dX11_round_112 rfl ?_
        refine G_aload_n dX11_round_113 rfl ?_
        refine G_getR (t := 23) dX11_round_114 fl_11_40 (by decide) sh_0 rr_0_4 ?_
        refine G_iconst (z := 2) dX11_round_117 rfl ?_
        exact k1 c1 c2 c3
      · -- ¬ a1 ≤ a4
        refine G_lconst (z := 1) dX11_round_104 rfl ?_
        refine G_goto (tgt := 109) dX11_round_105 (by decide) ?_
        refine cb_X11_round_109 (ic_X11_tell ?_)
        refine G_aload_n dX11_round_112 rfl ?_
        refine G_aload_n dX11_round_113 rfl ?_
        refine G_getR (t := 23) dX11_round_114 fl_11_40 (by decide) sh_0 rr_0_4 ?_
        refine G_iconst (z := 2) dX11_round_117 rfl ?_
        exact k2 c1 c2 c3
    · -- ¬ a4 ≤ 0
      refine G_aload_n dX11_round_90 rfl ?_
      refine G_getR (t := 27) dX11_round_91 fl_11_47 (by decide) sh_0 rr_0_5 ?_
      exact k3 c1 c2
  · -- ¬ a1 ≤ a4
    refine G_iload dX11_round_55 rfl ?_
    refine G_aload_n dX11_round_57 rfl ?_
    refine G_getR (t := 167) dX11_round_58 fl_11_95 (by decide) sh_0 rr_0_12 ?_
    refine G_alen (z := 30) dX11_round_61 (by decide) sh_167 (by decide) rfl ?_
    refine G_icmp_ge (tgt := 85) dX11_round_62 (by decide) (w1) (by decide) (fun c4 => ?_) (fun c4 => ?_)
    · -- 30 ≤ a4
      refine G_iload dX11_round_85 rfl ?_
      refine G_if_le (tgt := 97) dX11_round_87 (by decide) (w1) (fun c5 => ?_) (fun c5 => ?_)
      · -- a4 ≤ 0
        refine G_aload_n dX11_round_97 rfl ?_
        refine G_iload dX11_round_98 rfl ?_
        refine G_iload_n dX11_round_100 rfl ?_
        refine G_icmp_ge (tgt := 108) dX11_round_101 (by decide) (w1) (w2) (fun c6 => ?_) (fun c6 => ?_)
        · -- a1 ≤ a4
          refine G_lconst (z := 0) dX11_round_108 rfl ?_
          refine cb_X11_round_109 (ic_X11_tell ?_)
          refine G_aload_n dX11_round_112 rfl ?_
          refine G_aload_n dX11_round_113 rfl ?_
          refine G_getR (t := 23) dX11_round_114 fl_11_40 (by decide) sh_0 rr_0_4 ?_
          refine G_iconst (z := 2) dX11_round_117 rfl ?_
          exact k4 c1 c4 c5 c6
        · -- ¬ a1 ≤ a4
          refine G_lconst (z := 1) dX11_round_104 rfl ?_
          refine G_goto (tgt := 109) dX11_round_105 (by decide) ?_
          refine cb_X11_round_109 (ic_X11_tell ?_)
          refine G_aload_n dX11_round_112 rfl ?_
          refine G_aload_n dX11_round_113 rfl ?_
          refine G_getR (t := 23) dX11_round_114 fl_11_40 (by decide) sh_0 rr_0_4 ?_
          refine G_iconst (z := 2) dX11_round_117 rfl ?_
          exact k5 c1 c4 c5 c6
      · -- ¬ a4 ≤ 0
        refine G_aload_n dX11_round_90 rfl ?_
        refine G_getR (t := 27) dX11_round_91 fl_11_47 (by decide) sh_0 rr_0_5 ?_
        exact k6 c1 c4 c5
    · -- ¬ 30 ≤ a4
      refine G_aload_n dX11_round_65 rfl ?_
      refine G_aload_n dX11_round_66 rfl ?_
      refine G_getR (t := 167) dX11_round_67 fl_11_95 (by decide) sh_0 rr_0_12 ?_
      refine G_iload dX11_round_70 rfl ?_
      refine G_iald (z := (mem 167 a4)) dX11_round_72 (by decide) sh_167 (by decide) (q3 c1 c4).1 (q3 c1 c4).2 rfl ?_
      exact k7 c1 c4
set_option maxRecDepth 20000 in
set_option maxHeartbeats 8000000 in
theorem sg_X11_round_76 {E : Nat × (Nat → Int32)} {P : Option Value → Mem → Prop} {mem : Mem} {a1 : Int} {a2 : Int} {a3 : Int} {a4 : Int} {s0 : Int} (w1 : -2147483648 ≤ s0 ∧ s0 < 2147483648) (w2 : -2147483648 ≤ a4 ∧ a4 < 2147483648) (w3 : -2147483648 ≤ a1 ∧ a1 < 2147483648)
    (k1 : s0 < 0 → a4 ≤ 0 → a1 ≤ a4 → GM E (m_X11_round 7) P 118 [.ref 0, vi a1, vi a2, vi a3, vi a4] [vi 2, .ref 23, .ref 0] (up2 (up2 (up2 mem 0 14 0) 168 0 0) 0 14 1))
    (k2 : s0 < 0 → a4 ≤ 0 → ¬ a1 ≤ a4 → GM E (m_X11_round 7) P 118 [.ref 0, vi a1, vi a2, vi a3, vi a4] [vi 2, .ref 23, .ref 0] (up2 (up2 (up2 mem 0 14 0) 168 0 1) 0 14 1))
    (k3 : s0 < 0 → ¬ a4 ≤ 0 → GM E (m_X11_round 7) P 94 [.ref 0, vi a1, vi a2, vi a3, vi a4] [.ref 27] mem)
    (k4 : ¬ s0 < 0 → GM E (m_X11_round 7) P 49 [.ref 0, vi a1, vi a2, vi a3, vi (a4 + 1)] [] mem) :
    GM E (m_X11_round 7) P 76 [.ref 0, vi a1, vi a2, vi a3, vi a4] [vi s0] mem := by
  refine G_if_lt (tgt := 85) dX11_round_76 (by decide) (w1) (fun c1 => ?_) (fun c1 => ?_)
  · -- s0 < 0
    refine G_iload dX11_round_85 rfl ?_
    refine G_if_le (tgt := 97) dX11_round_87 (by decide) (w2) (fun c2 => ?_) (fun c2 => ?_)
    · -- a4 ≤ 0
      refine G_aload_n dX11_round_97 rfl ?_
      refine G_iload dX11_round_98 rfl ?_
      refine G_iload_n dX11_round_100 rfl ?_
      refine G_icmp_ge (tgt := 108) dX11_round_101 (by decide) (w2) (w3) (fun c3 => ?_) (fun c3 => ?_)
      · -- a1 ≤ a4
        refine G_lconst (z := 0) dX11_round_108 rfl ?_
        refine cb_X11_round_109 (ic_X11_tell ?_)
        refine G_aload_n dX11_round_112 rfl ?_
        refine G_aload_n dX11_round_113 rfl ?_
        refine G_getR (t := 23) dX11_round_114 fl_11_40 (by decide) sh_0 rr_0_4 ?_
        refine G_iconst (z := 2) dX11_round_117 rfl ?_
        exact k1 c1 c2 c3
      · -- ¬ a1 ≤ a4
        refine G_lconst (z := 1) dX11_round_104 rfl ?_
        refine G_goto (tgt := 109) dX11_round_105 (by decide) ?_
        refine cb_X11_round_109 (ic_X11_tell ?_)
        refine G_aload_n dX11_round_112 rfl ?_
        refine G_aload_n dX11_round_113 rfl ?_
        refine G_getR (t := 23) dX11_round_114 fl_11_40 (by decide) sh_0 rr_0_4 ?_
        refine G_iconst (z := 2) dX11_round_117 rfl ?_
        exact k2 c1 c2 c3
    · -- ¬ a4 ≤ 0
      refine G_aload_n dX11_round_90 rfl ?_
      refine G_getR (t := 27) dX11_round_91 fl_11_47 (by decide) sh_0 rr_0_5 ?_
      exact k3 c1 c2
  · -- ¬ s0 < 0
    refine G_iinc (z := (a4 + 1)) dX11_round_79 rfl rfl (by decide : 4 < 5) rfl ?_
    refine G_goto (tgt := 49) dX11_round_82 (by decide) ?_
    exact k4 c1
set_option maxRecDepth 20000 in
set_option maxHeartbeats 8000000 in
theorem sg_X11_round_97 {E : Nat × (Nat → Int32)} {P : Option Value → Mem → Prop} {mem : Mem} {a1 : Int} {a2 : Int} {a3 : Int} {a4 : Int} (w1 : -2147483648 ≤ a4 ∧ a4 < 2147483648) (w2 : -2147483648 ≤ a1 ∧ a1 < 2147483648)
    (k1 : a1 ≤ a4 → GM E (m_X11_round 7) P 118 [.ref 0, vi a1, vi a2, vi a3, vi a4] [vi 2, .ref 23, .ref 0] (up2 (up2 (up2 mem 0 14 0) 168 0 0) 0 14 1))
    (k2 : ¬ a1 ≤ a4 → GM E (m_X11_round 7) P 118 [.ref 0, vi a1, vi a2, vi a3, vi a4] [vi 2, .ref 23, .ref 0] (up2 (up2 (up2 mem 0 14 0) 168 0 1) 0 14 1)) :
    GM E (m_X11_round 7) P 97 [.ref 0, vi a1, vi a2, vi a3, vi a4] [] mem := by
  refine G_aload_n dX11_round_97 rfl ?_
  refine G_iload dX11_round_98 rfl ?_
  refine G_iload_n dX11_round_100 rfl ?_
  refine G_icmp_ge (tgt := 108) dX11_round_101 (by decide) (w1) (w2) (fun c1 => ?_) (fun c1 => ?_)
  · -- a1 ≤ a4
    refine G_lconst (z := 0) dX11_round_108 rfl ?_
    refine cb_X11_round_109 (ic_X11_tell ?_)
    refine G_aload_n dX11_round_112 rfl ?_
    refine G_aload_n dX11_round_113 rfl ?_
    refine G_getR (t := 23) dX11_round_114 fl_11_40 (by decide) sh_0 rr_0_4 ?_
    refine G_iconst (z := 2) dX11_round_117 rfl ?_
    exact k1 c1
  · -- ¬ a1 ≤ a4
    refine G_lconst (z := 1) dX11_round_104 rfl ?_
    refine G_goto (tgt := 109) dX11_round_105 (by decide) ?_
    refine cb_X11_round_109 (ic_X11_tell ?_)
    refine G_aload_n dX11_round_112 rfl ?_
    refine G_aload_n dX11_round_113 rfl ?_
    refine G_getR (t := 23) dX11_round_114 fl_11_40 (by decide) sh_0 rr_0_4 ?_
    refine G_iconst (z := 2) dX11_round_117 rfl ?_
    exact k2 c1
set_option maxRecDepth 20000 in
set_option maxHeartbeats 8000000 in
theorem sg_X11_round_121 {E : Nat × (Nat → Int32)} {P : Option Value → Mem → Prop} {mem : Mem} {a1 : Int} {a2 : Int} {a3 : Int} {a4 : Int} {s0 : Int} (w1 : -2147483648 ≤ (s0 - a3) ∧ (s0 - a3) < 2147483648) (q2 : 0 ≤ (mem 0 14) ∧ (mem 0 14) < 6) (w3 : -2147483648 ≤ ((mem 23 5) - a2) ∧ ((mem 23 5) - a2) < 2147483648) (q4 : 0 ≤ ((mem 0 14) + 1) ∧ ((mem 0 14) + 1) < 6)
    (k1 : P (some (vi a4)) (up2 (up2 (up2 (up2 mem 168 (mem 0 14) (s0 - a3)) 0 14 ((mem 0 14) + 1)) 168 ((mem 0 14) + 1) ((mem 23 5) - a2)) 0 14 (((mem 0 14) + 1) + 1))) :
    GM E (m_X11_round 7) P 121 [.ref 0, vi a1, vi a2, vi a3, vi a4] [vi s0, .ref 0] mem := by
  refine G_iload_n dX11_round_121 rfl ?_
  refine G_isub dX11_round_122 ?_
  refine G_i2l dX11_round_123 (w1) ?_
  refine cb_X11_round_124 (ic_X11_tellMore (z := (mem 0 14)) (z2 := ((mem 0 14) + 1)) rfl (q2) rfl ?_)
  refine G_aload_n dX11_round_127 rfl ?_
  refine G_aload_n dX11_round_128 rfl ?_
  refine G_getR (t := 23) dX11_round_129 fl_11_40 (by decide) sh_0 rr_0_4 ?_
  refine G_getI (z := (mem 23 5)) dX11_round_132 fl_11_253 (by decide) sh_23 (by simp [up2, upr]) ?_
  refine G_iload_n dX11_round_135 rfl ?_
  refine G_isub dX11_round_136 ?_
  refine G_i2l dX11_round_137 (w3) ?_
  refine cb_X11_round_138 (ic_X11_tellMore (z := ((mem 0 14) + 1)) (z2 := (((mem 0 14) + 1) + 1)) (by simp [up2, upr]) (q4) rfl ?_)
  refine G_iload dX11_round_141 rfl ?_
  exact G_iret dX11_round_143 rfl (Nat.zero_le _) (Nat.zero_le _) (Nat.le_refl _) ⟨rfl, k1⟩
set_option maxRecDepth 20000 in
set_option maxHeartbeats 8000000 in
theorem sg_X11_row_0 {E : Nat × (Nat → Int32)} {P : Option Value → Mem → Prop} {mem : Mem} {a1 : Int} (w1 : -2147483648 ≤ a1 ∧ a1 < 2147483648) (w2 : ¬ a1 < 0 → -2147483648 ≤ (mem 0 14) ∧ (mem 0 14) < 2147483648)
    (k1 : a1 < 0 → GM E (m_X11_row 0) P 21 [.ref 0, vi a1] [] mem)
    (k2 : ¬ a1 < 0 → (mem 0 14) ≤ a1 → GM E (m_X11_row 0) P 21 [.ref 0, vi a1] [] mem)
    (k3 : ¬ a1 < 0 → ¬ (mem 0 14) ≤ a1 → a1 < 6 → P (some (vl (mem 168 a1))) mem)
    (k4 : ¬ a1 < 0 → ¬ (mem 0 14) ≤ a1 → ¬ a1 < 6 → GM E (m_X11_row 0) P 21 [.ref 0, vi a1] [] mem) :
    GM E (m_X11_row 0) P 0 [.ref 0, vi a1] [] mem := by
  refine G_iload_n dX11_row_0 rfl ?_
  refine G_if_lt (tgt := 21) dX11_row_1 (by decide) (w1) (fun c1 => ?_) (fun c1 => ?_)
  · -- a1 < 0
    exact k1 c1
  · -- ¬ a1 < 0
    refine G_iload_n dX11_row_4 rfl ?_
    refine G_aload_n dX11_row_5 rfl ?_
    refine G_getI (z := (mem 0 14)) dX11_row_6 fl_11_465 (by decide) sh_0 rfl ?_
    refine G_icmp_ge (tgt := 21) dX11_row_9 (by decide) (w1) (w2 c1) (fun c2 => ?_) (fun c2 => ?_)
    · -- (mem 0 14) ≤ a1
      exact k2 c1 c2
    · -- ¬ (mem 0 14) ≤ a1
      refine G_iload_n dX11_row_12 rfl ?_
      refine G_aload_n dX11_row_13 rfl ?_
      refine G_getR (t := 168) dX11_row_14 fl_11_98 (by decide) sh_0 rr_0_13 ?_
      refine G_alen (z := 6) dX11_row_17 (by decide) sh_168 (by decide) rfl ?_
      refine G_icmp_lt (tgt := 32) dX11_row_18 (by decide) (w1) (by decide) (fun c3 => ?_) (fun c3 => ?_)
      · -- a1 < 6
        refine G_aload_n dX11_row_32 rfl ?_
        refine G_getR (t := 168) dX11_row_33 fl_11_98 (by decide) sh_0 rr_0_13 ?_
        refine G_iload_n dX11_row_36 rfl ?_
        refine G_lald (z := (mem 168 a1)) dX11_row_37 (by decide) sh_168 (by decide) (by omega) (by omega) rfl ?_
        exact G_lret dX11_row_38 rfl (Nat.zero_le _) (Nat.zero_le _) (Nat.le_refl _) ⟨rfl, k3 c1 c2 c3⟩
      · -- ¬ a1 < 6
        exact k4 c1 c2 c3
set_option maxRecDepth 20000 in
set_option maxHeartbeats 8000000 in
theorem sg_X11_rubble_0 {E : Nat × (Nat → Int32)} {P : Option Value → Mem → Prop} {mem : Mem}
    (k1 : GM E (m_X11_rubble 4) P 4 [.ref 0, un] [.ref 93] mem) :
    GM E (m_X11_rubble 4) P 0 [.ref 0, un] [] mem := by
  refine G_aload_n dX11_rubble_0 rfl ?_
  refine G_getR (t := 93) dX11_rubble_1 fl_11_56 (by decide) sh_0 rr_0_6 ?_
  exact k1
set_option maxRecDepth 20000 in
set_option maxHeartbeats 8000000 in
theorem sg_X11_rubble_7 {E : Nat × (Nat → Int32)} {P : Option Value → Mem → Prop} {mem : Mem}
    (k1 : GM E (m_X11_rubble 4) P 13 [.ref 0, vi 0] [] (up2 mem 0 14 0)) :
    GM E (m_X11_rubble 4) P 7 [.ref 0, un] [] mem := by
  refine G_aload_n dX11_rubble_7 rfl ?_
  refine cb_X11_rubble_8 (ic_X11_clearRow ?_)
  refine G_iconst (z := 0) dX11_rubble_11 rfl ?_
  refine G_istore_n dX11_rubble_12 rfl (by decide : 1 < 2) rfl ?_
  exact k1
set_option maxRecDepth 20000 in
set_option maxHeartbeats 8000000 in
theorem sg_X11_rubble_13 {E : Nat × (Nat → Int32)} {P : Option Value → Mem → Prop} {mem : Mem} {a1 : Int} (w1 : -2147483648 ≤ a1 ∧ a1 < 2147483648) (w2 : -2147483648 ≤ (mem 9 1) ∧ (mem 9 1) < 2147483648)
    (k1 : (mem 9 1) ≤ a1 → GM E (m_X11_rubble 4) P 90 [.ref 0, vi a1] [vi ((shlI 1 (mem 9 1)) - 1), .ref 93] mem)
    (k2 : ¬ (mem 9 1) ≤ a1 → GM E (m_X11_rubble 4) P 31 [.ref 0, vi a1] [vi (shlI 1 a1), .ref 93] mem) :
    GM E (m_X11_rubble 4) P 13 [.ref 0, vi a1] [] mem := by
  refine G_iload_n dX11_rubble_13 rfl ?_
  refine G_aload_n dX11_rubble_14 rfl ?_
  refine G_getR (t := 9) dX11_rubble_15 fl_11_33 (by decide) sh_0 rr_0_3 ?_
  refine G_getI (z := (mem 9 1)) dX11_rubble_18 fl_11_113 (by decide) sh_9 rfl ?_
  refine G_icmp_ge (tgt := 75) dX11_rubble_21 (by decide) (w1) (w2) (fun c1 => ?_) (fun c1 => ?_)
  · -- (mem 9 1) ≤ a1
    refine G_aload_n dX11_rubble_75 rfl ?_
    refine G_getR (t := 93) dX11_rubble_76 fl_11_56 (by decide) sh_0 rr_0_6 ?_
    refine G_iconst (z := 1) dX11_rubble_79 rfl ?_
    refine G_aload_n dX11_rubble_80 rfl ?_
    refine G_getR (t := 9) dX11_rubble_81 fl_11_33 (by decide) sh_0 rr_0_3 ?_
    refine G_getI (z := (mem 9 1)) dX11_rubble_84 fl_11_113 (by decide) sh_9 rfl ?_
    refine G_ishl (z := (shlI 1 (mem 9 1))) dX11_rubble_87 (iI_inv _) ?_
    refine G_iconst (z := 1) dX11_rubble_88 rfl ?_
    refine G_isub dX11_rubble_89 ?_
    exact k1 c1
  · -- ¬ (mem 9 1) ≤ a1
    refine G_aload_n dX11_rubble_24 rfl ?_
    refine G_getR (t := 93) dX11_rubble_25 fl_11_56 (by decide) sh_0 rr_0_6 ?_
    refine G_iconst (z := 1) dX11_rubble_28 rfl ?_
    refine G_iload_n dX11_rubble_29 rfl ?_
    refine G_ishl (z := (shlI 1 a1)) dX11_rubble_30 (iI_inv _) ?_
    exact k2 c1
set_option maxRecDepth 20000 in
set_option maxHeartbeats 8000000 in
theorem sg_X11_rubble_34 {E : Nat × (Nat → Int32)} {P : Option Value → Mem → Prop} {mem : Mem} {a1 : Int} {s0 : Int} (w1 : -2147483648 ≤ s0 ∧ s0 < 2147483648) (w2 : -2147483648 ≤ a1 ∧ a1 < 2147483648) (q3 : ¬ s0 ≤ 0 → 0 ≤ a1 ∧ a1 < 6) (w4 : ¬ s0 ≤ 0 → -2147483648 ≤ (mem 99 a1) ∧ (mem 99 a1) < 2147483648)
    (k1 : s0 ≤ 0 → GM E (m_X11_rubble 4) P 13 [.ref 0, vi (a1 + 1)] [] mem)
    (k2 : ¬ s0 ≤ 0 → GM E (m_X11_rubble 4) P 90 [.ref 0, vi a1] [vi ((shlI 1 (mem 9 1)) - 1), .ref 93] (up2 (up2 (up2 (up2 (up2 (up2 (up2 (up2 (up2 mem 0 14 0) 168 0 a1) 0 14 1) 168 1 0) 0 14 2) 168 2 0) 0 14 3) 168 3 (mem 99 a1)) 0 14 4)) :
    GM E (m_X11_rubble 4) P 34 [.ref 0, vi a1] [vi s0] mem := by
  refine G_if_le (tgt := 69) dX11_rubble_34 (by decide) (w1) (fun c1 => ?_) (fun c1 => ?_)
  · -- s0 ≤ 0
    refine G_iinc (z := (a1 + 1)) dX11_rubble_69 rfl rfl (by decide : 1 < 2) rfl ?_
    refine G_goto (tgt := 13) dX11_rubble_72 (by decide) ?_
    exact k1 c1
  · -- ¬ s0 ≤ 0
    refine G_aload_n dX11_rubble_37 rfl ?_
    refine G_iload_n dX11_rubble_38 rfl ?_
    refine G_i2l dX11_rubble_39 (w2) ?_
    refine cb_X11_rubble_40 (ic_X11_tell ?_)
    refine G_aload_n dX11_rubble_43 rfl ?_
    refine G_lconst (z := 0) dX11_rubble_44 rfl ?_
    refine cb_X11_rubble_45 (ic_X11_tellMore (z := 1) (z2 := 2) (by simp [up2, upr]) (by decide) rfl ?_)
    refine G_aload_n dX11_rubble_48 rfl ?_
    refine G_lconst (z := 0) dX11_rubble_49 rfl ?_
    refine cb_X11_rubble_50 (ic_X11_tellMore (z := 2) (z2 := 3) (by simp [up2, upr]) (by decide) rfl ?_)
    refine G_aload_n dX11_rubble_53 rfl ?_
    refine G_aload_n dX11_rubble_54 rfl ?_
    refine G_getR (t := 93) dX11_rubble_55 fl_11_56 (by decide) sh_0 rr_0_6 ?_
    refine G_iload_n dX11_rubble_58 rfl ?_
    refine cb_X11_rubble_59 (ic_X3_leastMoreOf (z := (mem 99 a1)) ⟨(q3 c1).1, (q3 c1).2⟩ (by simp [up2, upr]) ?_)
    refine G_i2l dX11_rubble_62 (w4 c1) ?_
    refine cb_X11_rubble_63 (ic_X11_tellMore (z := 3) (z2 := 4) (by simp [up2, upr]) (by decide) rfl ?_)
    refine G_goto (tgt := 75) dX11_rubble_66 (by decide) ?_
    refine G_aload_n dX11_rubble_75 rfl ?_
    refine G_getR (t := 93) dX11_rubble_76 fl_11_56 (by decide) sh_0 rr_0_6 ?_
    refine G_iconst (z := 1) dX11_rubble_79 rfl ?_
    refine G_aload_n dX11_rubble_80 rfl ?_
    refine G_getR (t := 9) dX11_rubble_81 fl_11_33 (by decide) sh_0 rr_0_3 ?_
    refine G_getI (z := (mem 9 1)) dX11_rubble_84 fl_11_113 (by decide) sh_9 (by simp [up2, upr]) ?_
    refine G_ishl (z := (shlI 1 (mem 9 1))) dX11_rubble_87 (iI_inv _) ?_
    refine G_iconst (z := 1) dX11_rubble_88 rfl ?_
    refine G_isub dX11_rubble_89 ?_
    exact k2 c1
set_option maxRecDepth 20000 in
set_option maxHeartbeats 8000000 in
theorem sg_X11_rubble_93 {E : Nat × (Nat → Int32)} {P : Option Value → Mem → Prop} {mem : Mem} {a1 : Int} {s0 : Int}
    (k1 : P (some (vi s0)) mem) :
    GM E (m_X11_rubble 4) P 93 [.ref 0, vi a1] [vi s0] mem := by
  exact G_iret dX11_rubble_93 rfl (Nat.zero_le _) (Nat.zero_le _) (Nat.le_refl _) ⟨rfl, k1⟩
set_option maxRecDepth 20000 in
set_option maxHeartbeats 8000000 in
theorem sg_X11_rule_0 {E : Nat × (Nat → Int32)} {P : Option Value → Mem → Prop} {mem : Mem}
    (k1 : GM E (m_X11_rule 202) P 8 [.ref 0, un] [.ref 1, .ref 5] mem) :
    GM E (m_X11_rule 202) P 0 [.ref 0, un] [] mem := by
  refine G_aload_n dX11_rule_0 rfl ?_
  refine G_getR (t := 5) dX11_rule_1 fl_11_26 (by decide) sh_0 rr_0_2 ?_
  refine G_aload_n dX11_rule_4 rfl ?_
  refine G_getR (t := 1) dX11_rule_5 fl_11_12 (by decide) sh_0 rr_0_0 ?_
  exact k1
set_option maxRecDepth 20000 in
set_option maxHeartbeats 8000000 in
theorem sg_X11_rule_11 {E : Nat × (Nat → Int32)} {P : Option Value → Mem → Prop} {mem : Mem} {s0 : Int}
    (k1 : P (some (vi s0)) (up2 mem 1 1 0)) :
    GM E (m_X11_rule 202) P 11 [.ref 0, un] [vi s0] mem := by
  refine G_istore_n dX11_rule_11 rfl (by decide : 1 < 2) rfl ?_
  refine G_aload_n dX11_rule_12 rfl ?_
  refine G_getR (t := 1) dX11_rule_13 fl_11_12 (by decide) sh_0 rr_0_0 ?_
  refine cb_X11_rule_16 (ic_X9_clear ?_)
  refine G_iload_n dX11_rule_19 rfl ?_
  exact G_iret dX11_rule_20 rfl (Nat.zero_le _) (Nat.zero_le _) (Nat.le_refl _) ⟨rfl, k1⟩
set_option maxRecDepth 20000 in
set_option maxHeartbeats 8000000 in
theorem sg_X11_set_0 {E : Nat × (Nat → Int32)} {P : Option Value → Mem → Prop} {mem : Mem} {a1 : Int} {a2 : Int} (w1 : -2147483648 ≤ a1 ∧ a1 < 2147483648) (w2 : -2147483648 ≤ a2 ∧ a2 < 2147483648) (w3 : a1 = 0 → -2147483648 ≤ (mem 23 3) ∧ (mem 23 3) < 2147483648)
    (k1 : a1 ≠ 0 → GM E (m_X11_set 1) P 23 [.ref 0, vi a1, vi a2] [vi a2, vi a1, .ref 3] mem)
    (k2 : a1 = 0 → (mem 23 3) ≤ a2 → GM E (m_X11_set 1) P 23 [.ref 0, vi a1, vi a2] [vi a2, vi a1, .ref 3] mem)
    (k3 : a1 = 0 → ¬ (mem 23 3) ≤ a2 → P (some (vi (-1))) mem) :
    GM E (m_X11_set 1) P 0 [.ref 0, vi a1, vi a2] [] mem := by
  refine G_iload_n dX11_set_0 rfl ?_
  refine G_if_ne (tgt := 17) dX11_set_1 (by decide) (w1) (fun c1 => ?_) (fun c1 => ?_)
  · -- a1 ≠ 0
    refine G_aload_n dX11_set_17 rfl ?_
    refine G_getR (t := 3) dX11_set_18 fl_11_19 (by decide) sh_0 rr_0_1 ?_
    refine G_iload_n dX11_set_21 rfl ?_
    refine G_iload_n dX11_set_22 rfl ?_
    exact k1 c1
  · -- a1 = 0
    refine G_iload_n dX11_set_4 rfl ?_
    refine G_aload_n dX11_set_5 rfl ?_
    refine G_getR (t := 23) dX11_set_6 fl_11_40 (by decide) sh_0 rr_0_4 ?_
    refine G_getI (z := (mem 23 3)) dX11_set_9 fl_11_203 (by decide) sh_23 rfl ?_
    refine G_icmp_ge (tgt := 17) dX11_set_12 (by decide) (w2) (w3 c1) (fun c2 => ?_) (fun c2 => ?_)
    · -- (mem 23 3) ≤ a2
      refine G_aload_n dX11_set_17 rfl ?_
      refine G_getR (t := 3) dX11_set_18 fl_11_19 (by decide) sh_0 rr_0_1 ?_
      refine G_iload_n dX11_set_21 rfl ?_
      refine G_iload_n dX11_set_22 rfl ?_
      exact k2 c1 c2
    · -- ¬ (mem 23 3) ≤ a2
      refine G_iconst (z := (-1)) dX11_set_15 rfl ?_
      exact G_iret dX11_set_16 rfl (Nat.zero_le _) (Nat.zero_le _) (Nat.le_refl _) ⟨rfl, k3 c1 c2⟩
set_option maxRecDepth 20000 in
set_option maxHeartbeats 8000000 in
theorem sg_X11_set_26 {E : Nat × (Nat → Int32)} {P : Option Value → Mem → Prop} {mem : Mem} {a1 : Int} {a2 : Int} {s0 : Int}
    (k1 : P (some (vi s0)) mem) :
    GM E (m_X11_set 1) P 26 [.ref 0, vi a1, vi a2] [vi s0] mem := by
  exact G_iret dX11_set_26 rfl (Nat.zero_le _) (Nat.zero_le _) (Nat.le_refl _) ⟨rfl, k1⟩
set_option maxRecDepth 20000 in
set_option maxHeartbeats 8000000 in
theorem sg_X11_share_0 {E : Nat × (Nat → Int32)} {P : Option Value → Mem → Prop} {mem : Mem} {a1 : Int}
    (k1 : (bandI a1 (-(shlI 1 (mem 9 1)))) = 0 → GM E (m_X11_share 7) P 14 [.ref 0, vi a1, un, un, un, un, un, un] [.ref 0] mem)
    (k2 : (bandI a1 (-(shlI 1 (mem 9 1)))) ≠ 0 → P (some (vi (-1))) mem) :
    GM E (m_X11_share 7) P 0 [.ref 0, vi a1, un, un, un, un, un, un] [] mem := by
  refine G_aload_n dX11_share_0 rfl ?_
  refine G_getR (t := 9) dX11_share_1 fl_11_33 (by decide) sh_0 rr_0_3 ?_
  refine G_iload_n dX11_share_4 rfl ?_
  refine cb_X11_share_5 (ic_X10_hasAll (z := (mem 9 1)) rfl (fun c1 => ?_) (fun c2 => ?_))
  · -- (bandI a1 (-(shlI 1 (mem 9 1)))) = 0
    refine G_if_ne (tgt := 13) dX11_share_8 (by decide) (by decide) (fun _ => ?_) (fun h => absurd h (by decide))
    refine G_aload_n dX11_share_13 rfl ?_
    exact k1 c1
  · -- (bandI a1 (-(shlI 1 (mem 9 1)))) ≠ 0
    refine G_if_ne (tgt := 13) dX11_share_8 (by decide) (by decide) (fun h => absurd h (by decide)) (fun _ => ?_)
    refine G_iconst (z := (-1)) dX11_share_11 rfl ?_
    exact G_iret dX11_share_12 rfl (Nat.zero_le _) (Nat.zero_le _) (Nat.le_refl _) ⟨rfl, k2 c2⟩
set_option maxRecDepth 20000 in
set_option maxHeartbeats 8000000 in
theorem sg_X11_share_17 {E : Nat × (Nat → Int32)} {P : Option Value → Mem → Prop} {mem : Mem} {a1 : Int}
    (k1 : GM E (m_X11_share 7) P 22 [.ref 0, vi a1, un, un, un, un, un, un] [vi a1, .ref 147] mem) :
    GM E (m_X11_share 7) P 17 [.ref 0, vi a1, un, un, un, un, un, un] [] mem := by
  refine G_aload_n dX11_share_17 rfl ?_
  refine G_getR (t := 147) dX11_share_18 fl_11_83 (by decide) sh_0 rr_0_9 ?_
  refine G_iload_n dX11_share_21 rfl ?_
  exact k1
set_option maxRecDepth 20000 in
set_option maxHeartbeats 8000000 in
theorem sg_X11_share_25 {E : Nat × (Nat → Int32)} {P : Option Value → Mem → Prop} {mem : Mem} {a1 : Int} {s0 : Int}
    (k1 : GM E (m_X11_share 7) P 34 [.ref 0, vi a1, vi s0, vi s0, vi 0, vi 1, un, un] [] mem) :
    GM E (m_X11_share 7) P 25 [.ref 0, vi a1, un, un, un, un, un, un] [vi s0] mem := by
  refine G_istore_n dX11_share_25 rfl (by decide : 2 < 8) rfl ?_
  refine G_iload_n dX11_share_26 rfl ?_
  refine G_istore_n dX11_share_27 rfl (by decide : 3 < 8) rfl ?_
  refine G_iconst (z := 0) dX11_share_28 rfl ?_
  refine G_istore dX11_share_29 (by decide : 4 < 8) rfl ?_
  refine G_iconst (z := 1) dX11_share_31 rfl ?_
  refine G_istore dX11_share_32 (by decide : 5 < 8) rfl ?_
  exact k1
set_option maxRecDepth 20000 in
set_option maxHeartbeats 8000000 in
theorem sg_X11_share_34 {E : Nat × (Nat → Int32)} {P : Option Value → Mem → Prop} {mem : Mem} {a1 : Int} {a2 : Int} {a3 : Int} {a4 : Int} {a5 : Int} (w1 : -2147483648 ≤ a5 ∧ a5 < 2147483648) (w2 : -2147483648 ≤ a4 ∧ a4 < 2147483648) (w3 : 64 ≤ a5 → -2147483648 ≤ (a2 - a3) ∧ (a2 - a3) < 2147483648)
    (k1 : 64 ≤ a5 → P (some (vi a3)) (up2 (up2 (up2 (up2 (up2 mem 0 14 0) 168 0 a4) 0 14 1) 168 1 (a2 - a3)) 0 14 2))
    (k2 : ¬ 64 ≤ a5 → GM E (m_X11_share 7) P 47 [.ref 0, vi a1, vi a2, vi a3, vi a4, vi a5, un, un] [vi a5, .ref 147] mem) :
    GM E (m_X11_share 7) P 34 [.ref 0, vi a1, vi a2, vi a3, vi a4, vi a5, un, un] [] mem := by
  refine G_iload dX11_share_34 rfl ?_
  refine G_bipush (z := 64) dX11_share_36 rfl ?_
  refine G_icmp_ge (tgt := 91) dX11_share_38 (by decide) (w1) (by decide) (fun c1 => ?_) (fun c1 => ?_)
  · -- 64 ≤ a5
    refine G_aload_n dX11_share_91 rfl ?_
    refine G_iload dX11_share_92 rfl ?_
    refine G_i2l dX11_share_94 (w2) ?_
    refine cb_X11_share_95 (ic_X11_tell ?_)
    refine G_aload_n dX11_share_98 rfl ?_
    refine G_iload_n dX11_share_99 rfl ?_
    refine G_iload_n dX11_share_100 rfl ?_
    refine G_isub dX11_share_101 ?_
    refine G_i2l dX11_share_102 (w3 c1) ?_
    refine cb_X11_share_103 (ic_X11_tellMore (z := 1) (z2 := 2) (by simp [up2, upr]) (by decide) rfl ?_)
    refine G_iload_n dX11_share_106 rfl ?_
    exact G_iret dX11_share_107 rfl (Nat.zero_le _) (Nat.zero_le _) (Nat.le_refl _) ⟨rfl, k1 c1⟩
  · -- ¬ 64 ≤ a5
    refine G_aload_n dX11_share_41 rfl ?_
    refine G_getR (t := 147) dX11_share_42 fl_11_83 (by decide) sh_0 rr_0_9 ?_
    refine G_iload dX11_share_45 rfl ?_
    exact k2 c1
set_option maxRecDepth 20000 in
set_option maxHeartbeats 8000000 in
theorem sg_X11_share_50 {E : Nat × (Nat → Int32)} {P : Option Value → Mem → Prop} {mem : Mem} {a1 : Int} {a2 : Int} {a3 : Int} {a4 : Int} {a5 : Int} {s0 : Int} (w1 : -2147483648 ≤ s0 ∧ s0 < 2147483648) (w2 : -2147483648 ≤ (a2 - s0) ∧ (a2 - s0) < 2147483648) (w3 : (bandI a5 (bxorI a1 (-1))) = 0 → -2147483648 ≤ (max s0 (a2 - s0)) ∧ (max s0 (a2 - s0)) < 2147483648) (w4 : -2147483648 ≤ a3 ∧ a3 < 2147483648)
    (k1 : GM E (m_X11_share 7) P 34 [.ref 0, vi a1, vi a2, vi (if (bandI a5 (bxorI a1 (-1))) ≠ 0 then a3 else (if a3 ≤ (max s0 (a2 - s0)) then a3 else (max s0 (a2 - s0)))), vi (if (bandI a5 (bxorI a1 (-1))) ≠ 0 then a4 else (if a3 ≤ (max s0 (a2 - s0)) then a4 else a5)), vi (a5 + 1), un, un] [] mem) :
    GM E (m_X11_share 7) P 50 [.ref 0, vi a1, vi a2, vi a3, vi a4, vi a5, un, un] [vi s0] mem := by
  refine G_istore dX11_share_50 (by decide : 6 < 8) rfl ?_
  refine G_iload dX11_share_52 rfl ?_
  refine G_iload_n dX11_share_54 rfl ?_
  refine G_iload dX11_share_55 rfl ?_
  refine G_isub dX11_share_57 ?_
  refine G_max (z := (max s0 (a2 - s0))) dX11_share_58 ml_11_397 mw_max (w1) (w2) ⟨by show 1 ≤ 7; first | decide | omega, by show 21 ≤ 40 * 7; first | decide | omega, Nat.zero_le _, Nat.zero_le _⟩ (Nat.le_of_ble_eq_true rfl) rfl ?_
  refine G_istore dX11_share_61 (by decide : 7 < 8) rfl ?_
  refine G_iload dX11_share_63 rfl ?_
  refine G_iload_n dX11_share_65 rfl ?_
  refine G_iconst (z := (-1)) dX11_share_66 rfl ?_
  refine G_ixor (z := (bxorI a1 (-1))) dX11_share_67 (iI_inv _) ?_
  refine G_iand (z := (bandI a5 (bxorI a1 (-1)))) dX11_share_68 (iI_inv _) ?_
  have j1 : GM E (m_X11_share 7) P 85 [.ref 0, vi a1, vi a2, vi (if (bandI a5 (bxorI a1 (-1))) ≠ 0 then a3 else (if a3 ≤ (max s0 (a2 - s0)) then a3 else (max s0 (a2 - s0)))), vi (if (bandI a5 (bxorI a1 (-1))) ≠ 0 then a4 else (if a3 ≤ (max s0 (a2 - s0)) then a4 else a5)), vi a5, vi s0, vi (max s0 (a2 - s0))] [] mem := by
    refine G_iinc (z := (a5 + 1)) dX11_share_85 rfl rfl (by decide : 5 < 8) rfl ?_
    refine G_goto (tgt := 34) dX11_share_88 (by decide) ?_
    refine G_weak (lv2 := [.ref 0, vi a1, vi a2, vi (if (bandI a5 (bxorI a1 (-1))) ≠ 0 then a3 else (if a3 ≤ (max s0 (a2 - s0)) then a3 else (max s0 (a2 - s0)))), vi (if (bandI a5 (bxorI a1 (-1))) ≠ 0 then a4 else (if a3 ≤ (max s0 (a2 - s0)) then a4 else a5)), vi (a5 + 1), un, un]) ⟨Or.inr rfl, Or.inr rfl, Or.inr rfl, Or.inr rfl, Or.inr rfl, Or.inr rfl, Or.inl rfl, Or.inl rfl, trivial⟩ ?_
    exact k1
  refine G_if_ne (tgt := 85) dX11_share_69 (by decide) (iI_rng _) (fun c1 => ?_) (fun c1 => ?_)
  · -- (bandI a5 (bxorI a1 (-1))) ≠ 0
    have qj1 := j1
    simp only [if_pos c1] at qj1
    exact qj1
  · -- (bandI a5 (bxorI a1 (-1))) = 0
    refine G_iload dX11_share_72 rfl ?_
    refine G_iload_n dX11_share_74 rfl ?_
    have j2 : GM E (m_X11_share 7) P 85 [.ref 0, vi a1, vi a2, vi (if a3 ≤ (max s0 (a2 - s0)) then a3 else (max s0 (a2 - s0))), vi (if a3 ≤ (max s0 (a2 - s0)) then a4 else a5), vi a5, vi s0, vi (max s0 (a2 - s0))] [] mem := by
      have qj1 := j1
      simp only [if_neg (show ¬ ((bandI a5 (bxorI a1 (-1))) ≠ 0) from fun q => q c1)] at qj1
      exact qj1
    refine G_icmp_ge (tgt := 85) dX11_share_75 (by decide) (w3 c1) (w4) (fun c2 => ?_) (fun c2 => ?_)
    · -- a3 ≤ (max s0 (a2 - s0))
      have qj2 := j2
      simp only [if_pos c2] at qj2
      exact qj2
    · -- ¬ a3 ≤ (max s0 (a2 - s0))
      refine G_iload dX11_share_78 rfl ?_
      refine G_istore_n dX11_share_80 rfl (by decide : 3 < 8) rfl ?_
      refine G_iload dX11_share_81 rfl ?_
      refine G_istore dX11_share_83 (by decide : 4 < 8) rfl ?_
      have qj2 := j2
      simp only [if_neg c2] at qj2
      exact qj2
set_option maxRecDepth 20000 in
set_option maxHeartbeats 8000000 in
theorem sg_X11_sheet_0 {E : Nat × (Nat → Int32)} {P : Option Value → Mem → Prop} {mem : Mem} {a1 : Int} {a2 : Int} {a3 : Int} {a4 : Int} (w1 : -2147483648 ≤ a1 ∧ a1 < 2147483648) (w2 : -2147483648 ≤ a2 ∧ a2 < 2147483648)
    (k1 : a1 < 0 → P (some (vi (-1))) mem)
    (k2 : ¬ a1 < 0 → 3 < a1 → P (some (vi (-1))) mem)
    (k3 : ¬ a1 < 0 → ¬ 3 < a1 → a2 ≤ 6 → a1 ≠ 3 → 0 ≤ a2 → GM E (m_X11_sheet 2) P 54 [.ref 0, vi a1, vi a2, vi a3, vi a4] [vi a4, vi a3, vi a2, vi a1, .ref 9] mem)
    (k4 : ¬ a1 < 0 → ¬ 3 < a1 → a2 ≤ 6 → a1 ≠ 3 → ¬ 0 ≤ a2 → P (some (vi (-2))) mem)
    (k5 : ¬ a1 < 0 → ¬ 3 < a1 → a2 ≤ 6 → a1 = 3 → GM E (m_X11_sheet 2) P 31 [.ref 0, vi a1, vi a2, vi a3, vi a4] [vi a4, vi a3, vi 0, vi a1, .ref 9] mem)
    (k6 : ¬ a1 < 0 → ¬ 3 < a1 → ¬ a2 ≤ 6 → P (some (vi (-1))) mem) :
    GM E (m_X11_sheet 2) P 0 [.ref 0, vi a1, vi a2, vi a3, vi a4] [] mem := by
  refine G_iload_n dX11_sheet_0 rfl ?_
  refine G_if_lt (tgt := 15) dX11_sheet_1 (by decide) (w1) (fun c1 => ?_) (fun c1 => ?_)
  · -- a1 < 0
    refine G_iconst (z := (-1)) dX11_sheet_15 rfl ?_
    exact G_iret dX11_sheet_16 rfl (Nat.zero_le _) (Nat.zero_le _) (Nat.le_refl _) ⟨rfl, k1 c1⟩
  · -- ¬ a1 < 0
    refine G_iload_n dX11_sheet_4 rfl ?_
    refine G_iconst (z := 3) dX11_sheet_5 rfl ?_
    refine G_icmp_gt (tgt := 15) dX11_sheet_6 (by decide) (w1) (by decide) (fun c2 => ?_) (fun c2 => ?_)
    · -- 3 < a1
      refine G_iconst (z := (-1)) dX11_sheet_15 rfl ?_
      exact G_iret dX11_sheet_16 rfl (Nat.zero_le _) (Nat.zero_le _) (Nat.le_refl _) ⟨rfl, k2 c1 c2⟩
    · -- ¬ 3 < a1
      refine G_iload_n dX11_sheet_9 rfl ?_
      refine G_bipush (z := 6) dX11_sheet_10 rfl ?_
      refine G_icmp_le (tgt := 17) dX11_sheet_12 (by decide) (w2) (by decide) (fun c3 => ?_) (fun c3 => ?_)
      · -- a2 ≤ 6
        refine G_iload_n dX11_sheet_17 rfl ?_
        refine G_iconst (z := 3) dX11_sheet_18 rfl ?_
        refine G_icmp_ne (tgt := 38) dX11_sheet_19 (by decide) (w1) (by decide) (fun c4 => ?_) (fun c4 => ?_)
        · -- a1 ≠ 3
          refine G_iload_n dX11_sheet_38 rfl ?_
          refine G_if_ge (tgt := 45) dX11_sheet_39 (by decide) (w2) (fun c5 => ?_) (fun c5 => ?_)
          · -- 0 ≤ a2
            refine G_aload_n dX11_sheet_45 rfl ?_
            refine G_getR (t := 9) dX11_sheet_46 fl_11_33 (by decide) sh_0 rr_0_3 ?_
            refine G_iload_n dX11_sheet_49 rfl ?_
            refine G_iload_n dX11_sheet_50 rfl ?_
            refine G_iload_n dX11_sheet_51 rfl ?_
            refine G_iload dX11_sheet_52 rfl ?_
            exact k3 c1 c2 c3 c4 c5
          · -- ¬ 0 ≤ a2
            refine G_bipush (z := (-2)) dX11_sheet_42 rfl ?_
            exact G_iret dX11_sheet_44 rfl (Nat.zero_le _) (Nat.zero_le _) (Nat.le_refl _) ⟨rfl, k4 c1 c2 c3 c4 c5⟩
        · -- a1 = 3
          refine G_aload_n dX11_sheet_22 rfl ?_
          refine G_getR (t := 9) dX11_sheet_23 fl_11_33 (by decide) sh_0 rr_0_3 ?_
          refine G_iload_n dX11_sheet_26 rfl ?_
          refine G_iconst (z := 0) dX11_sheet_27 rfl ?_
          refine G_iload_n dX11_sheet_28 rfl ?_
          refine G_iload dX11_sheet_29 rfl ?_
          exact k5 c1 c2 c3 c4
      · -- ¬ a2 ≤ 6
        refine G_iconst (z := (-1)) dX11_sheet_15 rfl ?_
        exact G_iret dX11_sheet_16 rfl (Nat.zero_le _) (Nat.zero_le _) (Nat.le_refl _) ⟨rfl, k6 c1 c2 c3⟩
set_option maxRecDepth 20000 in
set_option maxHeartbeats 8000000 in
theorem sg_X11_sheet_34 {E : Nat × (Nat → Int32)} {P : Option Value → Mem → Prop} {mem : Mem} {a1 : Int} {a2 : Int} {a3 : Int} {a4 : Int} {s0 : Int}
    (k1 : P (some (vi (-3))) mem) :
    GM E (m_X11_sheet 2) P 34 [.ref 0, vi a1, vi a2, vi a3, vi a4] [vi s0] mem := by
  refine G_pop dX11_sheet_34 rfl ?_
  refine G_bipush (z := (-3)) dX11_sheet_35 rfl ?_
  exact G_iret dX11_sheet_37 rfl (Nat.zero_le _) (Nat.zero_le _) (Nat.le_refl _) ⟨rfl, k1⟩
set_option maxRecDepth 20000 in
set_option maxHeartbeats 8000000 in
theorem sg_X11_sheet_57 {E : Nat × (Nat → Int32)} {P : Option Value → Mem → Prop} {mem : Mem} {a1 : Int} {a2 : Int} {a3 : Int} {a4 : Int} {s0 : Int}
    (k1 : P (some (vi s0)) mem) :
    GM E (m_X11_sheet 2) P 57 [.ref 0, vi a1, vi a2, vi a3, vi a4] [vi s0] mem := by
  exact G_iret dX11_sheet_57 rfl (Nat.zero_le _) (Nat.zero_le _) (Nat.le_refl _) ⟨rfl, k1⟩
set_option maxRecDepth 20000 in
set_option maxHeartbeats 8000000 in
theorem sg_X11_sign_0 {E : Nat × (Nat → Int32)} {P : Option Value → Mem → Prop} {mem : Mem} {a1 : Int}
    (k1 : GM E (m_X11_sign 1) P 5 [.ref 0, vi a1] [vi a1, .ref 1] mem) :
    GM E (m_X11_sign 1) P 0 [.ref 0, vi a1] [] mem := by
  refine G_aload_n dX11_sign_0 rfl ?_
  refine G_getR (t := 1) dX11_sign_1 fl_11_12 (by decide) sh_0 rr_0_0 ?_
  refine G_iload_n dX11_sign_4 rfl ?_
  exact k1
set_option maxRecDepth 20000 in
set_option maxHeartbeats 8000000 in
theorem sg_X11_sign_8 {E : Nat × (Nat → Int32)} {P : Option Value → Mem → Prop} {mem : Mem} {a1 : Int} {s0 : Int} (w1 : -2147483648 ≤ s0 ∧ s0 < 2147483648)
    (k1 : P (some (vi (if s0 = 0 then ((-1) : Int) else (mem 1 1)))) mem) :
    GM E (m_X11_sign 1) P 8 [.ref 0, vi a1] [vi s0] mem := by
  have j1 : GM E (m_X11_sign 1) P 22 [.ref 0, vi a1] [vi (if s0 = 0 then ((-1) : Int) else (mem 1 1))] mem := by
    exact G_iret dX11_sign_22 rfl (Nat.zero_le _) (Nat.zero_le _) (Nat.le_refl _) ⟨rfl, k1⟩
  refine G_if_eq (tgt := 21) dX11_sign_8 (by decide) (w1) (fun c1 => ?_) (fun c1 => ?_)
  · -- s0 = 0
    refine G_iconst (z := (-1)) dX11_sign_21 rfl ?_
    have qj1 := j1
    simp only [if_pos c1] at qj1
    exact qj1
  · -- ¬ s0 = 0
    refine G_aload_n dX11_sign_11 rfl ?_
    refine G_getR (t := 1) dX11_sign_12 fl_11_12 (by decide) sh_0 rr_0_0 ?_
    refine G_getI (z := (mem 1 1)) dX11_sign_15 fl_11_106 (by decide) sh_1 rfl ?_
    refine G_goto (tgt := 22) dX11_sign_18 (by decide) ?_
    have qj1 := j1
    simp only [if_neg c1] at qj1
    exact qj1
set_option maxRecDepth 20000 in
set_option maxHeartbeats 8000000 in
theorem sg_X11_soonest_0 {E : Nat × (Nat → Int32)} {P : Option Value → Mem → Prop} {mem : Mem} {a1 : Int} (w1 : -2147483648 ≤ a1 ∧ a1 < 2147483648)
    (k1 : a1 = 0 → P (some (vi (-1))) mem)
    (k2 : ¬ a1 = 0 → (bandI a1 (-(shlI 1 (mem 9 1)))) = 0 → GM E (m_X11_soonest 202) P 28 [.ref 0, vi a1, un] [.ref 24, .ref 106] mem)
    (k3 : ¬ a1 = 0 → (bandI a1 (-(shlI 1 (mem 9 1)))) ≠ 0 → P (some (vi (-1))) mem) :
    GM E (m_X11_soonest 202) P 0 [.ref 0, vi a1, un] [] mem := by
  refine G_iload_n dX11_soonest_0 rfl ?_
  refine G_if_eq (tgt := 15) dX11_soonest_1 (by decide) (w1) (fun c1 => ?_) (fun c1 => ?_)
  · -- a1 = 0
    refine G_iconst (z := (-1)) dX11_soonest_15 rfl ?_
    exact G_iret dX11_soonest_16 rfl (Nat.zero_le _) (Nat.zero_le _) (Nat.le_refl _) ⟨rfl, k1 c1⟩
  · -- ¬ a1 = 0
    refine G_aload_n dX11_soonest_4 rfl ?_
    refine G_getR (t := 9) dX11_soonest_5 fl_11_33 (by decide) sh_0 rr_0_3 ?_
    refine G_iload_n dX11_soonest_8 rfl ?_
    refine cb_X11_soonest_9 (ic_X10_hasAll (z := (mem 9 1)) rfl (fun c2 => ?_) (fun c3 => ?_))
    · -- (bandI a1 (-(shlI 1 (mem 9 1)))) = 0
      refine G_if_ne (tgt := 17) dX11_soonest_12 (by decide) (by decide) (fun _ => ?_) (fun h => absurd h (by decide))
      refine G_aload_n dX11_soonest_17 rfl ?_
      refine G_getR (t := 106) dX11_soonest_18 fl_11_74 (by decide) sh_0 rr_0_8 ?_
      refine G_aload_n dX11_soonest_21 rfl ?_
      refine G_getR (t := 23) dX11_soonest_22 fl_11_40 (by decide) sh_0 rr_0_4 ?_
      refine G_getR (t := 24) dX11_soonest_25 fl_11_352 (by decide) sh_23 (rrState_0 (by decide)) ?_
      exact k2 c1 c2
    · -- (bandI a1 (-(shlI 1 (mem 9 1)))) ≠ 0
      refine G_if_ne (tgt := 17) dX11_soonest_12 (by decide) (by decide) (fun h => absurd h (by decide)) (fun _ => ?_)
      refine G_iconst (z := (-1)) dX11_soonest_15 rfl ?_
      exact G_iret dX11_soonest_16 rfl (Nat.zero_le _) (Nat.zero_le _) (Nat.le_refl _) ⟨rfl, k3 c1 c3⟩
set_option maxRecDepth 20000 in
set_option maxHeartbeats 8000000 in
theorem sg_X11_soonest_31 {E : Nat × (Nat → Int32)} {P : Option Value → Mem → Prop} {mem : Mem} {a1 : Int}
    (k1 : GM E (m_X11_soonest 202) P 65 [.ref 0, vi a1, un] [vi (-1), vi a1, .ref 106] (up2 (up2 (up2 (up2 (up2 mem 106 6 (mem 23 3)) 106 7 (mem 23 4)) 106 8 (mem 23 5)) 106 9 0) 106 10 0)) :
    GM E (m_X11_soonest 202) P 31 [.ref 0, vi a1, un] [] mem := by
  refine G_aload_n dX11_soonest_31 rfl ?_
  refine G_getR (t := 106) dX11_soonest_32 fl_11_74 (by decide) sh_0 rr_0_8 ?_
  refine G_aload_n dX11_soonest_35 rfl ?_
  refine G_getR (t := 23) dX11_soonest_36 fl_11_40 (by decide) sh_0 rr_0_4 ?_
  refine G_getI (z := (mem 23 3)) dX11_soonest_39 fl_11_203 (by decide) sh_23 rfl ?_
  refine G_aload_n dX11_soonest_42 rfl ?_
  refine G_getR (t := 23) dX11_soonest_43 fl_11_40 (by decide) sh_0 rr_0_4 ?_
  refine G_getI (z := (mem 23 4)) dX11_soonest_46 fl_11_252 (by decide) sh_23 rfl ?_
  refine G_aload_n dX11_soonest_49 rfl ?_
  refine G_getR (t := 23) dX11_soonest_50 fl_11_40 (by decide) sh_0 rr_0_4 ?_
  refine G_getI (z := (mem 23 5)) dX11_soonest_53 fl_11_253 (by decide) sh_23 rfl ?_
  refine cb_X11_soonest_56 (ic_X4_start ?_)
  refine G_aload_n dX11_soonest_59 rfl ?_
  refine G_getR (t := 106) dX11_soonest_60 fl_11_74 (by decide) sh_0 rr_0_8 ?_
  refine G_iload_n dX11_soonest_63 rfl ?_
  refine G_iconst (z := (-1)) dX11_soonest_64 rfl ?_
  exact k1
set_option maxRecDepth 20000 in
set_option maxHeartbeats 8000000 in
theorem sg_X11_soonest_68 {E : Nat × (Nat → Int32)} {P : Option Value → Mem → Prop} {mem : Mem} {a1 : Int} (w1 : -2147483648 ≤ (mem 106 12) ∧ (mem 106 12) < 2147483648)
    (k1 : 0 ≤ (mem 106 12) → GM E (m_X11_soonest 202) P 87 [.ref 0, vi a1, vi 0] [] (up2 mem 0 14 0))
    (k2 : ¬ 0 ≤ (mem 106 12) → P (some (vi (-2))) mem) :
    GM E (m_X11_soonest 202) P 68 [.ref 0, vi a1, un] [] mem := by
  refine G_aload_n dX11_soonest_68 rfl ?_
  refine G_getR (t := 106) dX11_soonest_69 fl_11_74 (by decide) sh_0 rr_0_8 ?_
  refine G_getI (z := (mem 106 12)) dX11_soonest_72 fl_11_377 (by decide) sh_106 rfl ?_
  refine G_if_ge (tgt := 81) dX11_soonest_75 (by decide) (w1) (fun c1 => ?_) (fun c1 => ?_)
  · -- 0 ≤ (mem 106 12)
    refine G_aload_n dX11_soonest_81 rfl ?_
    refine cb_X11_soonest_82 (ic_X11_clearRow ?_)
    refine G_iconst (z := 0) dX11_soonest_85 rfl ?_
    refine G_istore_n dX11_soonest_86 rfl (by decide : 2 < 3) rfl ?_
    exact k1 c1
  · -- ¬ 0 ≤ (mem 106 12)
    refine G_bipush (z := (-2)) dX11_soonest_78 rfl ?_
    exact G_iret dX11_soonest_80 rfl (Nat.zero_le _) (Nat.zero_le _) (Nat.le_refl _) ⟨rfl, k2 c1⟩
set_option maxRecDepth 20000 in
set_option maxHeartbeats 8000000 in
theorem sg_X11_soonest_87 {E : Nat × (Nat → Int32)} {P : Option Value → Mem → Prop} {mem : Mem} {a1 : Int} {a2 : Int}
    (k1 : GM E (m_X11_soonest 202) P 89 [.ref 0, vi a1, vi a2] [vi a1, vi a2] mem) :
    GM E (m_X11_soonest 202) P 87 [.ref 0, vi a1, vi a2] [] mem := by
  refine G_iload_n dX11_soonest_87 rfl ?_
  refine G_iload_n dX11_soonest_88 rfl ?_
  exact k1
set_option maxRecDepth 20000 in
set_option maxHeartbeats 8000000 in
theorem sg_X11_soonest_92 {E : Nat × (Nat → Int32)} {P : Option Value → Mem → Prop} {mem : Mem} {a1 : Int} {a2 : Int} {s0 : Int} {s1 : Int} (w1 : -2147483648 ≤ s1 ∧ s1 < 2147483648) (w2 : -2147483648 ≤ s0 ∧ s0 < 2147483648) (q3 : ¬ s0 ≤ s1 → 0 ≤ a2 ∧ a2 < 6) (w4 : ¬ s0 ≤ s1 → -2147483648 ≤ (mem 110 a2) ∧ (mem 110 a2) < 2147483648) (q5 : ¬ s0 ≤ s1 → 0 ≤ (mem 0 14) ∧ (mem 0 14) < 6)
    (k1 : s0 ≤ s1 → P (some (vi ((mem 106 12) - (mem 23 5)))) mem)
    (k2 : ¬ s0 ≤ s1 → GM E (m_X11_soonest 202) P 87 [.ref 0, vi a1, vi (a2 + 1)] [] (up2 (up2 mem 168 (mem 0 14) (mem 110 a2)) 0 14 ((mem 0 14) + 1))) :
    GM E (m_X11_soonest 202) P 92 [.ref 0, vi a1, vi a2] [vi s0, vi s1] mem := by
  refine G_icmp_ge (tgt := 114) dX11_soonest_92 (by decide) (w1) (w2) (fun c1 => ?_) (fun c1 => ?_)
  · -- s0 ≤ s1
    refine G_aload_n dX11_soonest_114 rfl ?_
    refine G_getR (t := 106) dX11_soonest_115 fl_11_74 (by decide) sh_0 rr_0_8 ?_
    refine G_getI (z := (mem 106 12)) dX11_soonest_118 fl_11_377 (by decide) sh_106 rfl ?_
    refine G_aload_n dX11_soonest_121 rfl ?_
    refine G_getR (t := 23) dX11_soonest_122 fl_11_40 (by decide) sh_0 rr_0_4 ?_
    refine G_getI (z := (mem 23 5)) dX11_soonest_125 fl_11_253 (by decide) sh_23 rfl ?_
    refine G_isub dX11_soonest_128 ?_
    exact G_iret dX11_soonest_129 rfl (Nat.zero_le _) (Nat.zero_le _) (Nat.le_refl _) ⟨rfl, k1 c1⟩
  · -- ¬ s0 ≤ s1
    refine G_aload_n dX11_soonest_95 rfl ?_
    refine G_aload_n dX11_soonest_96 rfl ?_
    refine G_getR (t := 106) dX11_soonest_97 fl_11_74 (by decide) sh_0 rr_0_8 ?_
    refine G_iload_n dX11_soonest_100 rfl ?_
    refine cb_X11_soonest_101 (ic_X4_soonestAt (z := (mem 110 a2)) ⟨(q3 c1).1, (q3 c1).2⟩ rfl ?_)
    refine G_i2l dX11_soonest_104 (w4 c1) ?_
    refine cb_X11_soonest_105 (ic_X11_tellMore (z := (mem 0 14)) (z2 := ((mem 0 14) + 1)) rfl (q5 c1) rfl ?_)
    refine G_iinc (z := (a2 + 1)) dX11_soonest_108 rfl rfl (by decide : 2 < 3) rfl ?_
    refine G_goto (tgt := 87) dX11_soonest_111 (by decide) ?_
    exact k2 c1
set_option maxRecDepth 20000 in
set_option maxHeartbeats 8000000 in
theorem sg_X11_street_0 {E : Nat × (Nat → Int32)} {P : Option Value → Mem → Prop} {mem : Mem} {a1 : Int} {a2 : Int} (q1 : 0 ≤ (mem 9 1) ∧ (mem 9 1) ≤ 6) (w2 : -2147483648 ≤ a1 ∧ a1 < 2147483648) (w3 : -2147483648 ≤ a2 ∧ a2 < 2147483648) (w4 : 0 ≤ a1 ∧ a1 < (mem 9 1) → ¬ a2 = 0 → ¬ a2 = 1 → ¬ a2 = 2 → a2 = 3 → -2147483648 ≤ (mem (11 + 2 * (a1).toNat) 5) ∧ (mem (11 + 2 * (a1).toNat) 5) < 2147483648) (q5 : 0 ≤ a1 ∧ a1 < (mem 9 1) → ¬ a2 = 0 → ¬ a2 = 1 → ¬ a2 = 2 → ¬ a2 = 3 → ¬ a2 = 4 → ¬ a2 = 5 → ¬ a2 = 6 → a2 = 7 → 0 ≤ a1 ∧ a1 < 6) (q6 : 0 ≤ a1 ∧ a1 < (mem 9 1) → ¬ a2 = 0 → ¬ a2 = 1 → ¬ a2 = 2 → ¬ a2 = 3 → ¬ a2 = 4 → ¬ a2 = 5 → ¬ a2 = 6 → ¬ a2 = 7 → a2 = 8 → 0 ≤ a1 ∧ a1 < 6)
    (k1 : 0 ≤ a1 ∧ a1 < (mem 9 1) → a2 = 0 → P (some (vi (mem (11 + 2 * (a1).toNat) 2))) mem)
    (k2 : 0 ≤ a1 ∧ a1 < (mem 9 1) → ¬ a2 = 0 → a2 = 1 → P (some (vi (mem (11 + 2 * (a1).toNat) 3))) mem)
    (k3 : 0 ≤ a1 ∧ a1 < (mem 9 1) → ¬ a2 = 0 → ¬ a2 = 1 → a2 = 2 → P (some (vi (mem (11 + 2 * (a1).toNat) 4))) mem)
    (k4 : 0 ≤ a1 ∧ a1 < (mem 9 1) → ¬ a2 = 0 → ¬ a2 = 1 → ¬ a2 = 2 → a2 = 3 → (mem (11 + 2 * (a1).toNat) 5) = 0 → P (some (vi 0)) mem)
    (k5 : 0 ≤ a1 ∧ a1 < (mem 9 1) → ¬ a2 = 0 → ¬ a2 = 1 → ¬ a2 = 2 → a2 = 3 → ¬ (mem (11 + 2 * (a1).toNat) 5) = 0 → P (some (vi 1)) mem)
    (k6 : 0 ≤ a1 ∧ a1 < (mem 9 1) → ¬ a2 = 0 → ¬ a2 = 1 → ¬ a2 = 2 → ¬ a2 = 3 → a2 = 4 → P (some (vi (mem (11 + 2 * (a1).toNat) 6))) mem)
    (k7 : 0 ≤ a1 ∧ a1 < (mem 9 1) → ¬ a2 = 0 → ¬ a2 = 1 → ¬ a2 = 2 → ¬ a2 = 3 → ¬ a2 = 4 → a2 = 5 → P (some (vi (mem (11 + 2 * (a1).toNat) 7))) mem)
    (k8 : 0 ≤ a1 ∧ a1 < (mem 9 1) → ¬ a2 = 0 → ¬ a2 = 1 → ¬ a2 = 2 → ¬ a2 = 3 → ¬ a2 = 4 → ¬ a2 = 5 → a2 = 6 → P (some (vi (mem (11 + 2 * (a1).toNat) 8))) mem)
    (k9 : 0 ≤ a1 ∧ a1 < (mem 9 1) → ¬ a2 = 0 → ¬ a2 = 1 → ¬ a2 = 2 → ¬ a2 = 3 → ¬ a2 = 4 → ¬ a2 = 5 → ¬ a2 = 6 → a2 = 7 → GM E (m_X11_street 3) P 127 [.ref 0, vi a1, vi a2, .ref (11 + 2 * (a1).toNat)] [vi (mem 24 a1)] mem)
    (k10 : 0 ≤ a1 ∧ a1 < (mem 9 1) → ¬ a2 = 0 → ¬ a2 = 1 → ¬ a2 = 2 → ¬ a2 = 3 → ¬ a2 = 4 → ¬ a2 = 5 → ¬ a2 = 6 → ¬ a2 = 7 → a2 = 8 → GM E (m_X11_street 3) P 152 [.ref 0, vi a1, vi a2, .ref (11 + 2 * (a1).toNat)] [vi (mem 4 2), vi (mem 24 a1), .ref (11 + 2 * (a1).toNat), .ref 3] mem)
    (k11 : 0 ≤ a1 ∧ a1 < (mem 9 1) → ¬ a2 = 0 → ¬ a2 = 1 → ¬ a2 = 2 → ¬ a2 = 3 → ¬ a2 = 4 → ¬ a2 = 5 → ¬ a2 = 6 → ¬ a2 = 7 → ¬ a2 = 8 → GM E (m_X11_street 3) P 156 [.ref 0, vi a1, vi a2, .ref (11 + 2 * (a1).toNat)] [] mem)
    (k12 : ¬ (0 ≤ a1 ∧ a1 < (mem 9 1)) → GM E (m_X11_street 3) P 13 [.ref 0, vi a1, vi a2, .null] [] mem) :
    GM E (m_X11_street 3) P 0 [.ref 0, vi a1, vi a2, un] [] mem := by
  refine G_aload_n dX11_street_0 rfl ?_
  refine G_getR (t := 9) dX11_street_1 fl_11_33 (by decide) sh_0 rr_0_3 ?_
  refine G_iload_n dX11_street_4 rfl ?_
  refine cb_X11_street_5 (ic_X10_at (z := (mem 9 1)) rfl (q1) (w2) (fun c1 => ?_) (fun c2 => ?_))
  · -- 0 ≤ a1 ∧ a1 < (mem 9 1)
    refine G_astore_n dX11_street_8 rfl (by decide : 3 < 4) rfl ?_
    refine G_aload_n dX11_street_9 rfl ?_
    refine G_ifnonnull (tgt := 23) dX11_street_10 (by decide) ?_
    refine G_iload_n dX11_street_23 rfl ?_
    by_cases c3 : a2 = 0
    · refine G_tableIn (off := 52) (tgt := 76) dX11_street_24 (w3) (by omega) (by omega) (by rw [c3]; rfl) (by decide) ?_
      refine G_aload_n dX11_street_76 rfl ?_
      refine G_getI (z := (mem (11 + 2 * (a1).toNat) 2)) dX11_street_77 fl_11_144 (ltStreet0 (streetL_of c1.1 (Int.lt_of_lt_of_le c1.2 (q1).2))) (shStreet0 (streetL_of c1.1 (Int.lt_of_lt_of_le c1.2 (q1).2))) rfl ?_
      exact G_iret dX11_street_80 rfl (Nat.zero_le _) (Nat.zero_le _) (Nat.le_refl _) ⟨rfl, k1 c1 c3⟩
    by_cases c4 : a2 = 1
    · refine G_tableIn (off := 57) (tgt := 81) dX11_street_24 (w3) (by omega) (by omega) (by rw [c4]; rfl) (by decide) ?_
      refine G_aload_n dX11_street_81 rfl ?_
      refine G_getI (z := (mem (11 + 2 * (a1).toNat) 3)) dX11_street_82 fl_11_149 (ltStreet0 (streetL_of c1.1 (Int.lt_of_lt_of_le c1.2 (q1).2))) (shStreet0 (streetL_of c1.1 (Int.lt_of_lt_of_le c1.2 (q1).2))) rfl ?_
      exact G_iret dX11_street_85 rfl (Nat.zero_le _) (Nat.zero_le _) (Nat.le_refl _) ⟨rfl, k2 c1 c3 c4⟩
    by_cases c5 : a2 = 2
    · refine G_tableIn (off := 62) (tgt := 86) dX11_street_24 (w3) (by omega) (by omega) (by rw [c5]; rfl) (by decide) ?_
      refine G_aload_n dX11_street_86 rfl ?_
      refine G_getI (z := (mem (11 + 2 * (a1).toNat) 4)) dX11_street_87 fl_11_152 (ltStreet0 (streetL_of c1.1 (Int.lt_of_lt_of_le c1.2 (q1).2))) (shStreet0 (streetL_of c1.1 (Int.lt_of_lt_of_le c1.2 (q1).2))) rfl ?_
      exact G_iret dX11_street_90 rfl (Nat.zero_le _) (Nat.zero_le _) (Nat.le_refl _) ⟨rfl, k3 c1 c3 c4 c5⟩
    by_cases c6 : a2 = 3
    · refine G_tableIn (off := 67) (tgt := 91) dX11_street_24 (w3) (by omega) (by omega) (by rw [c6]; rfl) (by decide) ?_
      refine G_aload_n dX11_street_91 rfl ?_
      refine G_getI (z := (mem (11 + 2 * (a1).toNat) 5)) dX11_street_92 fl_11_155 (ltStreet0 (streetL_of c1.1 (Int.lt_of_lt_of_le c1.2 (q1).2))) (shStreet0 (streetL_of c1.1 (Int.lt_of_lt_of_le c1.2 (q1).2))) rfl ?_
      refine G_if_eq (tgt := 102) dX11_street_95 (by decide) (w4 c1 c3 c4 c5 c6) (fun c7 => ?_) (fun c7 => ?_)
      · -- (mem (11 + 2 * (a1).toNat) 5) = 0
        refine G_iconst (z := 0) dX11_street_102 rfl ?_
        exact G_iret dX11_street_103 rfl (Nat.zero_le _) (Nat.zero_le _) (Nat.le_refl _) ⟨rfl, k4 c1 c3 c4 c5 c6 c7⟩
      · -- ¬ (mem (11 + 2 * (a1).toNat) 5) = 0
        refine G_iconst (z := 1) dX11_street_98 rfl ?_
        refine G_goto (tgt := 103) dX11_street_99 (by decide) ?_
        exact G_iret dX11_street_103 rfl (Nat.zero_le _) (Nat.zero_le _) (Nat.le_refl _) ⟨rfl, k5 c1 c3 c4 c5 c6 c7⟩
    by_cases c8 : a2 = 4
    · refine G_tableIn (off := 80) (tgt := 104) dX11_street_24 (w3) (by omega) (by omega) (by rw [c8]; rfl) (by decide) ?_
      refine G_aload_n dX11_street_104 rfl ?_
      refine G_getI (z := (mem (11 + 2 * (a1).toNat) 6)) dX11_street_105 fl_11_159 (ltStreet0 (streetL_of c1.1 (Int.lt_of_lt_of_le c1.2 (q1).2))) (shStreet0 (streetL_of c1.1 (Int.lt_of_lt_of_le c1.2 (q1).2))) rfl ?_
      exact G_iret dX11_street_108 rfl (Nat.zero_le _) (Nat.zero_le _) (Nat.le_refl _) ⟨rfl, k6 c1 c3 c4 c5 c6 c8⟩
    by_cases c9 : a2 = 5
    · refine G_tableIn (off := 85) (tgt := 109) dX11_street_24 (w3) (by omega) (by omega) (by rw [c9]; rfl) (by decide) ?_
      refine G_aload_n dX11_street_109 rfl ?_
      refine G_getI (z := (mem (11 + 2 * (a1).toNat) 7)) dX11_street_110 fl_11_162 (ltStreet0 (streetL_of c1.1 (Int.lt_of_lt_of_le c1.2 (q1).2))) (shStreet0 (streetL_of c1.1 (Int.lt_of_lt_of_le c1.2 (q1).2))) rfl ?_
      exact G_iret dX11_street_113 rfl (Nat.zero_le _) (Nat.zero_le _) (Nat.le_refl _) ⟨rfl, k7 c1 c3 c4 c5 c6 c8 c9⟩
    by_cases c10 : a2 = 6
    · refine G_tableIn (off := 90) (tgt := 114) dX11_street_24 (w3) (by omega) (by omega) (by rw [c10]; rfl) (by decide) ?_
      refine G_aload_n dX11_street_114 rfl ?_
      refine G_getI (z := (mem (11 + 2 * (a1).toNat) 8)) dX11_street_115 fl_11_165 (ltStreet0 (streetL_of c1.1 (Int.lt_of_lt_of_le c1.2 (q1).2))) (shStreet0 (streetL_of c1.1 (Int.lt_of_lt_of_le c1.2 (q1).2))) rfl ?_
      exact G_iret dX11_street_118 rfl (Nat.zero_le _) (Nat.zero_le _) (Nat.le_refl _) ⟨rfl, k8 c1 c3 c4 c5 c6 c8 c9 c10⟩
    by_cases c11 : a2 = 7
    · refine G_tableIn (off := 95) (tgt := 119) dX11_street_24 (w3) (by omega) (by omega) (by rw [c11]; rfl) (by decide) ?_
      refine G_aload_n dX11_street_119 rfl ?_
      refine G_getR (t := 23) dX11_street_120 fl_11_40 (by decide) sh_0 rr_0_4 ?_
      refine G_iload_n dX11_street_123 rfl ?_
      refine cb_X11_street_124 (by decide) (ic_X7_outOf (z := (mem 24 a1)) (by decide) ⟨(q5 c1 c3 c4 c5 c6 c8 c9 c10 c11).1, (q5 c1 c3 c4 c5 c6 c8 c9 c10 c11).2⟩ rfl ?_)
      exact k9 c1 c3 c4 c5 c6 c8 c9 c10 c11
    by_cases c12 : a2 = 8
    · refine G_tableIn (off := 107) (tgt := 131) dX11_street_24 (w3) (by omega) (by omega) (by rw [c12]; rfl) (by decide) ?_
      refine G_aload_n dX11_street_131 rfl ?_
      refine G_getR (t := 3) dX11_street_132 fl_11_19 (by decide) sh_0 rr_0_1 ?_
      refine G_aload_n dX11_street_135 rfl ?_
      refine G_aload_n dX11_street_136 rfl ?_
      refine G_getR (t := 23) dX11_street_137 fl_11_40 (by decide) sh_0 rr_0_4 ?_
      refine G_iload_n dX11_street_140 rfl ?_
      refine cb_X11_street_141 (by decide) (ic_X7_outOf (z := (mem 24 a1)) (by decide) ⟨(q6 c1 c3 c4 c5 c6 c8 c9 c10 c11 c12).1, (q6 c1 c3 c4 c5 c6 c8 c9 c10 c11 c12).2⟩ rfl ?_)
      refine G_aload_n dX11_street_144 rfl ?_
      refine G_getR (t := 3) dX11_street_145 fl_11_19 (by decide) sh_0 rr_0_1 ?_
      refine G_iconst (z := 2) dX11_street_148 rfl ?_
      refine cb_X11_street_149 (ic_X6_get (z := (mem 4 2)) (by decide) rfl ?_)
      exact k10 c1 c3 c4 c5 c6 c8 c9 c10 c11 c12
    refine G_tableOut (tgt := 156) dX11_street_24 (w3) (by omega) (by decide) ?_
    exact k11 c1 c3 c4 c5 c6 c8 c9 c10 c11 c12
  · -- ¬ (0 ≤ a1 ∧ a1 < (mem 9 1))
    refine G_astoreNull_n dX11_street_8 rfl (by decide : 3 < 4) rfl ?_
    refine G_aloadNull_n dX11_street_9 rfl ?_
    refine G_ifnonnullZ dX11_street_10 ?_
    exact k12 c2
set_option maxRecDepth 20000 in
set_option maxHeartbeats 8000000 in
theorem sg_X11_street_130 {E : Nat × (Nat → Int32)} {P : Option Value → Mem → Prop} {mem : Mem} {a1 : Int} {a2 : Int} {o3 : Nat} {s0 : Int} (ho3 : o3 ∈ streetL)
    (k1 : P (some (vi s0)) mem) :
    GM E (m_X11_street 3) P 130 [.ref 0, vi a1, vi a2, .ref o3] [vi s0] mem := by
  exact G_iret dX11_street_130 rfl (Nat.zero_le _) (Nat.zero_le _) (Nat.le_refl _) ⟨rfl, k1⟩
set_option maxRecDepth 20000 in
set_option maxHeartbeats 8000000 in
theorem sg_X11_street_155 {E : Nat × (Nat → Int32)} {P : Option Value → Mem → Prop} {mem : Mem} {a1 : Int} {a2 : Int} {o3 : Nat} {s0 : Int} (ho3 : o3 ∈ streetL)
    (k1 : P (some (vi s0)) mem) :
    GM E (m_X11_street 3) P 155 [.ref 0, vi a1, vi a2, .ref o3] [vi s0] mem := by
  exact G_iret dX11_street_155 rfl (Nat.zero_le _) (Nat.zero_le _) (Nat.le_refl _) ⟨rfl, k1⟩
set_option maxRecDepth 20000 in
set_option maxHeartbeats 8000000 in
theorem sg_X11_streets_0 {E : Nat × (Nat → Int32)} {P : Option Value → Mem → Prop} {mem : Mem}
    (k1 : GM E (m_X11_streets 6) P 16 [.ref 0, vi (mem 9 1), un, un] [.ref 1, .ref 9] mem) :
    GM E (m_X11_streets 6) P 0 [.ref 0, un, un, un] [] mem := by
  refine G_aload_n dX11_streets_0 rfl ?_
  refine G_getR (t := 9) dX11_streets_1 fl_11_33 (by decide) sh_0 rr_0_3 ?_
  refine G_getI (z := (mem 9 1)) dX11_streets_4 fl_11_113 (by decide) sh_9 rfl ?_
  refine G_istore_n dX11_streets_7 rfl (by decide : 1 < 4) rfl ?_
  refine G_aload_n dX11_streets_8 rfl ?_
  refine G_getR (t := 9) dX11_streets_9 fl_11_33 (by decide) sh_0 rr_0_3 ?_
  refine G_aload_n dX11_streets_12 rfl ?_
  refine G_getR (t := 1) dX11_streets_13 fl_11_12 (by decide) sh_0 rr_0_0 ?_
  exact k1
set_option maxRecDepth 20000 in
set_option maxHeartbeats 8000000 in
theorem sg_X11_streets_19 {E : Nat × (Nat → Int32)} {P : Option Value → Mem → Prop} {mem : Mem} {a1 : Int} {s0 : Int}
    (k1 : GM E (m_X11_streets 6) P 29 [.ref 0, vi a1, vi s0, vi a1] [] (up2 mem 1 1 0)) :
    GM E (m_X11_streets 6) P 19 [.ref 0, vi a1, un, un] [vi s0] mem := by
  refine G_istore_n dX11_streets_19 rfl (by decide : 2 < 4) rfl ?_
  refine G_aload_n dX11_streets_20 rfl ?_
  refine G_getR (t := 1) dX11_streets_21 fl_11_12 (by decide) sh_0 rr_0_0 ?_
  refine cb_X11_streets_24 (ic_X9_clear ?_)
  refine G_iload_n dX11_streets_27 rfl ?_
  refine G_istore_n dX11_streets_28 rfl (by decide : 3 < 4) rfl ?_
  exact k1
set_option maxRecDepth 20000 in
set_option maxHeartbeats 8000000 in
theorem sg_X11_streets_29 {E : Nat × (Nat → Int32)} {P : Option Value → Mem → Prop} {mem : Mem} {a1 : Int} {a2 : Int} {a3 : Int} (w1 : -2147483648 ≤ a3 ∧ a3 < 2147483648) (w2 : -2147483648 ≤ (mem 9 1) ∧ (mem 9 1) < 2147483648) (w3 : -2147483648 ≤ a2 ∧ a2 < 2147483648)
    (k1 : (mem 9 1) ≤ a3 → a2 ≤ 0 → P (some (vi a2)) mem)
    (k2 : (mem 9 1) ≤ a3 → ¬ a2 ≤ 0 → P (some (vi a2)) (up2 mem 27 2 0))
    (k3 : ¬ (mem 9 1) ≤ a3 → GM E (m_X11_streets 6) P 50 [.ref 0, vi a1, vi a2, vi a3] [vi a3, .ref 9, vi a3, .ref 23] mem) :
    GM E (m_X11_streets 6) P 29 [.ref 0, vi a1, vi a2, vi a3] [] mem := by
  refine G_iload_n dX11_streets_29 rfl ?_
  refine G_aload_n dX11_streets_30 rfl ?_
  refine G_getR (t := 9) dX11_streets_31 fl_11_33 (by decide) sh_0 rr_0_3 ?_
  refine G_getI (z := (mem 9 1)) dX11_streets_34 fl_11_113 (by decide) sh_9 rfl ?_
  refine G_icmp_ge (tgt := 62) dX11_streets_37 (by decide) (w1) (w2) (fun c1 => ?_) (fun c1 => ?_)
  · -- (mem 9 1) ≤ a3
    refine G_iload_n dX11_streets_62 rfl ?_
    refine G_if_le (tgt := 73) dX11_streets_63 (by decide) (w3) (fun c2 => ?_) (fun c2 => ?_)
    · -- a2 ≤ 0
      refine G_iload_n dX11_streets_73 rfl ?_
      exact G_iret dX11_streets_74 rfl (Nat.zero_le _) (Nat.zero_le _) (Nat.le_refl _) ⟨rfl, k1 c1 c2⟩
    · -- ¬ a2 ≤ 0
      refine G_aload_n dX11_streets_66 rfl ?_
      refine G_getR (t := 27) dX11_streets_67 fl_11_47 (by decide) sh_0 rr_0_5 ?_
      refine cb_X11_streets_70 (ic_X1_clear ?_)
      refine G_iload_n dX11_streets_73 rfl ?_
      exact G_iret dX11_streets_74 rfl (Nat.zero_le _) (Nat.zero_le _) (Nat.le_refl _) ⟨rfl, k2 c1 c2⟩
  · -- ¬ (mem 9 1) ≤ a3
    refine G_aload_n dX11_streets_40 rfl ?_
    refine G_getR (t := 23) dX11_streets_41 fl_11_40 (by decide) sh_0 rr_0_4 ?_
    refine G_iload_n dX11_streets_44 rfl ?_
    refine G_aload_n dX11_streets_45 rfl ?_
    refine G_getR (t := 9) dX11_streets_46 fl_11_33 (by decide) sh_0 rr_0_3 ?_
    refine G_iload_n dX11_streets_49 rfl ?_
    exact k3 c1
set_option maxRecDepth 20000 in
set_option maxHeartbeats 8000000 in
theorem sg_X11_streets_53 {E : Nat × (Nat → Int32)} {P : Option Value → Mem → Prop} {mem : Mem} {a1 : Int} {a2 : Int} {a3 : Int} {s0 : Int} {s1 : Int}
    (k1 : GM E (m_X11_streets 6) P 53 [.ref 0, vi a1, vi a2, vi a3] [vi s0, vi s1, .ref 23] mem) :
    GM E (m_X11_streets 6) P 53 [.ref 0, vi a1, vi a2, vi a3] [vi s0, vi s1, .ref 23] mem := by
  exact k1
set_option maxRecDepth 20000 in
set_option maxHeartbeats 8000000 in
theorem sg_X11_streets_56 {E : Nat × (Nat → Int32)} {P : Option Value → Mem → Prop} {mem : Mem} {a1 : Int} {a2 : Int} {a3 : Int}
    (k1 : GM E (m_X11_streets 6) P 29 [.ref 0, vi a1, vi a2, vi (a3 + 1)] [] mem) :
    GM E (m_X11_streets 6) P 56 [.ref 0, vi a1, vi a2, vi a3] [] mem := by
  refine G_iinc (z := (a3 + 1)) dX11_streets_56 rfl rfl (by decide : 3 < 4) rfl ?_
  refine G_goto (tgt := 29) dX11_streets_59 (by decide) ?_
  exact k1
set_option maxRecDepth 20000 in
set_option maxHeartbeats 8000000 in
theorem sg_X11_takes_0 {E : Nat × (Nat → Int32)} {P : Option Value → Mem → Prop} {mem : Mem} {a1 : Int} {a2 : Int} (q1 : 0 ≤ (mem 9 1) ∧ (mem 9 1) ≤ 6) (w2 : -2147483648 ≤ a1 ∧ a1 < 2147483648) (w3 : -2147483648 ≤ a2 ∧ a2 < 2147483648) (w4 : 0 ≤ a1 ∧ a1 < (mem 9 1) → ¬ a2 < 0 → a2 < 3 → -2147483648 ≤ (mem 4 1) ∧ (mem 4 1) < 2147483648) (q5 : 0 ≤ a1 ∧ a1 < (mem 9 1) → ¬ a2 < 0 → a2 < 3 → 0 ≤ a1 ∧ a1 < 6)
    (k1 : 0 ≤ a1 ∧ a1 < (mem 9 1) → a2 < 0 → P (some (vi (-1))) mem)
    (k2 : 0 ≤ a1 ∧ a1 < (mem 9 1) → ¬ a2 < 0 → a2 < 3 → GM E (m_X11_takes 5) P 57 [.ref 0, vi a1, vi a2, .ref (11 + 2 * (a1).toNat)] [vi (mem 24 a1), vi a2, .ref (11 + 2 * (a1).toNat), .ref 100] (up2 (up2 mem 100 7 (max 1 (mem 4 1))) 100 8 (mem (11 + 2 * (a1).toNat) 4)))
    (k3 : 0 ≤ a1 ∧ a1 < (mem 9 1) → ¬ a2 < 0 → ¬ a2 < 3 → P (some (vi (-1))) mem)
    (k4 : ¬ (0 ≤ a1 ∧ a1 < (mem 9 1)) → P (some (vi (-1))) mem) :
    GM E (m_X11_takes 5) P 0 [.ref 0, vi a1, vi a2, un] [] mem := by
  refine G_aload_n dX11_takes_0 rfl ?_
  refine G_getR (t := 9) dX11_takes_1 fl_11_33 (by decide) sh_0 rr_0_3 ?_
  refine G_iload_n dX11_takes_4 rfl ?_
  refine cb_X11_takes_5 (ic_X10_at (z := (mem 9 1)) rfl (q1) (w2) (fun c1 => ?_) (fun c2 => ?_))
  · -- 0 ≤ a1 ∧ a1 < (mem 9 1)
    refine G_astore_n dX11_takes_8 rfl (by decide : 3 < 4) rfl ?_
    refine G_aload_n dX11_takes_9 rfl ?_
    refine G_ifnull dX11_takes_10 ?_
    refine G_iload_n dX11_takes_13 rfl ?_
    refine G_if_lt (tgt := 22) dX11_takes_14 (by decide) (w3) (fun c3 => ?_) (fun c3 => ?_)
    · -- a2 < 0
      refine G_iconst (z := (-1)) dX11_takes_22 rfl ?_
      exact G_iret dX11_takes_23 rfl (Nat.zero_le _) (Nat.zero_le _) (Nat.le_refl _) ⟨rfl, k1 c1 c3⟩
    · -- ¬ a2 < 0
      refine G_iload_n dX11_takes_17 rfl ?_
      refine G_iconst (z := 3) dX11_takes_18 rfl ?_
      refine G_icmp_lt (tgt := 24) dX11_takes_19 (by decide) (w3) (by decide) (fun c4 => ?_) (fun c4 => ?_)
      · -- a2 < 3
        refine G_aload_n dX11_takes_24 rfl ?_
        refine G_getR (t := 100) dX11_takes_25 fl_11_65 (by decide) sh_0 rr_0_7 ?_
        refine G_aload_n dX11_takes_28 rfl ?_
        refine G_getR (t := 3) dX11_takes_29 fl_11_19 (by decide) sh_0 rr_0_1 ?_
        refine G_iconst (z := 1) dX11_takes_32 rfl ?_
        refine cb_X11_takes_33 (ic_X6_get (z := (mem 4 1)) (by decide) rfl ?_)
        refine G_aload_n dX11_takes_36 rfl ?_
        refine G_getI (z := (mem (11 + 2 * (a1).toNat) 4)) dX11_takes_37 fl_11_152 (ltStreet0 (streetL_of c1.1 (Int.lt_of_lt_of_le c1.2 (q1).2))) (shStreet0 (streetL_of c1.1 (Int.lt_of_lt_of_le c1.2 (q1).2))) rfl ?_
        refine cb_X11_takes_40 (by decide) (ic_X2_think (by decide) (w4 c1 c3 c4) ?_)
        refine G_aload_n dX11_takes_43 rfl ?_
        refine G_getR (t := 100) dX11_takes_44 fl_11_65 (by decide) sh_0 rr_0_7 ?_
        refine G_aload_n dX11_takes_47 rfl ?_
        refine G_iload_n dX11_takes_48 rfl ?_
        refine G_aload_n dX11_takes_49 rfl ?_
        refine G_getR (t := 23) dX11_takes_50 fl_11_40 (by decide) sh_0 rr_0_4 ?_
        refine G_iload_n dX11_takes_53 rfl ?_
        refine cb_X11_takes_54 (by decide) (ic_X7_outOf (z := (mem 24 a1)) (by decide) ⟨(q5 c1 c3 c4).1, (q5 c1 c3 c4).2⟩ (by simp [up2, upr]) ?_)
        exact k2 c1 c3 c4
      · -- ¬ a2 < 3
        refine G_iconst (z := (-1)) dX11_takes_22 rfl ?_
        exact G_iret dX11_takes_23 rfl (Nat.zero_le _) (Nat.zero_le _) (Nat.le_refl _) ⟨rfl, k3 c1 c3 c4⟩
  · -- ¬ (0 ≤ a1 ∧ a1 < (mem 9 1))
    refine G_astoreNull_n dX11_takes_8 rfl (by decide : 3 < 4) rfl ?_
    refine G_aloadNull_n dX11_takes_9 rfl ?_
    refine G_ifnullZ (tgt := 22) dX11_takes_10 (by decide) ?_
    refine G_iconst (z := (-1)) dX11_takes_22 rfl ?_
    exact G_iret dX11_takes_23 rfl (Nat.zero_le _) (Nat.zero_le _) (Nat.le_refl _) ⟨rfl, k4 c2⟩
set_option maxRecDepth 20000 in
set_option maxHeartbeats 8000000 in
theorem sg_X11_takes_60 {E : Nat × (Nat → Int32)} {P : Option Value → Mem → Prop} {mem : Mem} {a1 : Int} {a2 : Int} {o3 : Nat} (ho3 : o3 ∈ streetL)
    (k1 : GM E (m_X11_takes 5) P 68 [.ref 0, vi a1, vi a2, .ref o3] [vi 1000000, vi 0, .ref 100] mem) :
    GM E (m_X11_takes 5) P 60 [.ref 0, vi a1, vi a2, .ref o3] [] mem := by
  refine G_aload_n dX11_takes_60 rfl ?_
  refine G_getR (t := 100) dX11_takes_61 fl_11_65 (by decide) sh_0 rr_0_7 ?_
  refine G_iconst (z := 0) dX11_takes_64 rfl ?_
  refine G_ldcw (z := 1000000) dX11_takes_65 kc_11_317 ?_
  exact k1
set_option maxRecDepth 20000 in
set_option maxHeartbeats 8000000 in
theorem sg_X11_takes_71 {E : Nat × (Nat → Int32)} {P : Option Value → Mem → Prop} {mem : Mem} {a1 : Int} {a2 : Int} {o3 : Nat} (ho3 : o3 ∈ streetL) (w1 : -2147483648 ≤ (mem 100 18) ∧ (mem 100 18) < 2147483648) (w2 : -2147483648 ≤ (mem 100 11) ∧ (mem 100 11) < 2147483648)
    (k1 : P (some (vi ((mem 100 18) + (mem 100 11)))) (up2 (up2 (up2 (up2 (up2 mem 0 14 0) 168 0 (mem 100 18)) 0 14 1) 168 1 (mem 100 11)) 0 14 2)) :
    GM E (m_X11_takes 5) P 71 [.ref 0, vi a1, vi a2, .ref o3] [] mem := by
  refine G_aload_n dX11_takes_71 rfl ?_
  refine G_aload_n dX11_takes_72 rfl ?_
  refine G_getR (t := 100) dX11_takes_73 fl_11_65 (by decide) sh_0 rr_0_7 ?_
  refine G_getI (z := (mem 100 18)) dX11_takes_76 fl_11_318 (by decide) sh_100 rfl ?_
  refine G_i2l dX11_takes_79 (w1) ?_
  refine cb_X11_takes_80 (ic_X11_tell ?_)
  refine G_aload_n dX11_takes_83 rfl ?_
  refine G_aload_n dX11_takes_84 rfl ?_
  refine G_getR (t := 100) dX11_takes_85 fl_11_65 (by decide) sh_0 rr_0_7 ?_
  refine G_getI (z := (mem 100 11)) dX11_takes_88 fl_11_321 (by decide) sh_100 (by simp [up2, upr]) ?_
  refine G_i2l dX11_takes_91 (w2) ?_
  refine cb_X11_takes_92 (ic_X11_tellMore (z := 1) (z2 := 2) (by simp [up2, upr]) (by decide) rfl ?_)
  refine G_aload_n dX11_takes_95 rfl ?_
  refine G_getR (t := 100) dX11_takes_96 fl_11_65 (by decide) sh_0 rr_0_7 ?_
  refine cb_X11_takes_99 (by decide) (ic_X2_seconds (a := (mem 100 18)) (b := (mem 100 11)) (by decide) (by simp [up2, upr]) (by simp [up2, upr]) ?_)
  exact G_iret dX11_takes_102 rfl (Nat.zero_le _) (Nat.zero_le _) (Nat.le_refl _) ⟨rfl, k1⟩
set_option maxRecDepth 20000 in
set_option maxHeartbeats 8000000 in
theorem sg_X11_tip_0 {E : Nat × (Nat → Int32)} {P : Option Value → Mem → Prop} {mem : Mem}
    (k1 : GM E (m_X11_tip 5) P 8 [.ref 0, un, un] [.ref 23, .ref 27] mem) :
    GM E (m_X11_tip 5) P 0 [.ref 0, un, un] [] mem := by
  refine G_aload_n dX11_tip_0 rfl ?_
  refine G_getR (t := 27) dX11_tip_1 fl_11_47 (by decide) sh_0 rr_0_5 ?_
  refine G_aload_n dX11_tip_4 rfl ?_
  refine G_getR (t := 23) dX11_tip_5 fl_11_40 (by decide) sh_0 rr_0_4 ?_
  exact k1
set_option maxRecDepth 20000 in
set_option maxHeartbeats 8000000 in
theorem sg_X11_tip_11 {E : Nat × (Nat → Int32)} {P : Option Value → Mem → Prop} {mem : Mem}
    (k1 : GM E (m_X11_tip 5) P 21 [.ref 0, vi (mem 23 3), un] [.ref 0, .ref 0] mem) :
    GM E (m_X11_tip 5) P 11 [.ref 0, un, un] [] mem := by
  refine G_aload_n dX11_tip_11 rfl ?_
  refine G_getR (t := 23) dX11_tip_12 fl_11_40 (by decide) sh_0 rr_0_4 ?_
  refine G_getI (z := (mem 23 3)) dX11_tip_15 fl_11_203 (by decide) sh_23 rfl ?_
  refine G_istore_n dX11_tip_18 rfl (by decide : 1 < 3) rfl ?_
  refine G_aload_n dX11_tip_19 rfl ?_
  refine G_aload_n dX11_tip_20 rfl ?_
  exact k1
set_option maxRecDepth 20000 in
set_option maxHeartbeats 8000000 in
theorem sg_X11_tip_24 {E : Nat × (Nat → Int32)} {P : Option Value → Mem → Prop} {mem : Mem} {a1 : Int} {s0 : Int}
    (k1 : GM E (m_X11_tip 5) P 24 [.ref 0, vi a1, un] [vi s0, .ref 0] mem) :
    GM E (m_X11_tip 5) P 24 [.ref 0, vi a1, un] [vi s0, .ref 0] mem := by
  exact k1
set_option maxRecDepth 20000 in
set_option maxHeartbeats 8000000 in
theorem sg_X11_tip_27 {E : Nat × (Nat → Int32)} {P : Option Value → Mem → Prop} {mem : Mem} {a1 : Int} {s0 : Int} (w1 : -2147483648 ≤ s0 ∧ s0 < 2147483648) (w2 : -2147483648 ≤ a1 ∧ a1 < 2147483648)
    (k1 : s0 < 0 → P (some (vi s0)) mem)
    (k2 : ¬ s0 < 0 → P (some (vi s0)) (up2 (up2 (up2 mem 0 14 0) 168 0 a1) 0 14 1)) :
    GM E (m_X11_tip 5) P 27 [.ref 0, vi a1, un] [vi s0] mem := by
  refine G_istore_n dX11_tip_27 rfl (by decide : 2 < 3) rfl ?_
  refine G_iload_n dX11_tip_28 rfl ?_
  refine G_if_lt (tgt := 38) dX11_tip_29 (by decide) (w1) (fun c1 => ?_) (fun c1 => ?_)
  · -- s0 < 0
    refine G_iload_n dX11_tip_38 rfl ?_
    exact G_iret dX11_tip_39 rfl (Nat.zero_le _) (Nat.zero_le _) (Nat.le_refl _) ⟨rfl, k1 c1⟩
  · -- ¬ s0 < 0
    refine G_aload_n dX11_tip_32 rfl ?_
    refine G_iload_n dX11_tip_33 rfl ?_
    refine G_i2l dX11_tip_34 (w2) ?_
    refine cb_X11_tip_35 (ic_X11_tell ?_)
    refine G_iload_n dX11_tip_38 rfl ?_
    exact G_iret dX11_tip_39 rfl (Nat.zero_le _) (Nat.zero_le _) (Nat.le_refl _) ⟨rfl, k2 c1⟩
set_option maxRecDepth 20000 in
set_option maxHeartbeats 8000000 in
theorem sg_X11_tipnow_0 {E : Nat × (Nat → Int32)} {P : Option Value → Mem → Prop} {mem : Mem} {a1 : Int} (q1 : 0 ≤ (mem 9 1) ∧ (mem 9 1) ≤ 6) (w2 : -2147483648 ≤ a1 ∧ a1 < 2147483648)
    (k1 : 0 ≤ a1 ∧ a1 < (mem 9 1) → GM E (m_X11_tipnow 7) P 38 [.ref 0, vi a1, .ref (11 + 2 * (a1).toNat), vi (mem 4 5), un, un, un] [vi (mem (11 + 2 * (a1).toNat) 4), vi (mem 4 1), .ref (11 + 2 * (a1).toNat), .ref 0] mem)
    (k2 : ¬ (0 ≤ a1 ∧ a1 < (mem 9 1)) → P (some (vi (-1))) mem) :
    GM E (m_X11_tipnow 7) P 0 [.ref 0, vi a1, un, un, un, un, un] [] mem := by
  refine G_aload_n dX11_tipnow_0 rfl ?_
  refine G_getR (t := 9) dX11_tipnow_1 fl_11_33 (by decide) sh_0 rr_0_3 ?_
  refine G_iload_n dX11_tipnow_4 rfl ?_
  refine cb_X11_tipnow_5 (ic_X10_at (z := (mem 9 1)) rfl (q1) (w2) (fun c1 => ?_) (fun c2 => ?_))
  · -- 0 ≤ a1 ∧ a1 < (mem 9 1)
    refine G_astore_n dX11_tipnow_8 rfl (by decide : 2 < 7) rfl ?_
    refine G_aload_n dX11_tipnow_9 rfl ?_
    refine G_ifnonnull (tgt := 15) dX11_tipnow_10 (by decide) ?_
    refine G_aload_n dX11_tipnow_15 rfl ?_
    refine G_getR (t := 3) dX11_tipnow_16 fl_11_19 (by decide) sh_0 rr_0_1 ?_
    refine G_iconst (z := 5) dX11_tipnow_19 rfl ?_
    refine cb_X11_tipnow_20 (ic_X6_get (z := (mem 4 5)) (by decide) rfl ?_)
    refine G_istore_n dX11_tipnow_23 rfl (by decide : 3 < 7) rfl ?_
    refine G_aload_n dX11_tipnow_24 rfl ?_
    refine G_aload_n dX11_tipnow_25 rfl ?_
    refine G_aload_n dX11_tipnow_26 rfl ?_
    refine G_getR (t := 3) dX11_tipnow_27 fl_11_19 (by decide) sh_0 rr_0_1 ?_
    refine G_iconst (z := 1) dX11_tipnow_30 rfl ?_
    refine cb_X11_tipnow_31 (ic_X6_get (z := (mem 4 1)) (by decide) rfl ?_)
    refine G_aload_n dX11_tipnow_34 rfl ?_
    refine G_getI (z := (mem (11 + 2 * (a1).toNat) 4)) dX11_tipnow_35 fl_11_152 (ltStreet0 (streetL_of c1.1 (Int.lt_of_lt_of_le c1.2 (q1).2))) (shStreet0 (streetL_of c1.1 (Int.lt_of_lt_of_le c1.2 (q1).2))) rfl ?_
    exact k1 c1
  · -- ¬ (0 ≤ a1 ∧ a1 < (mem 9 1))
    refine G_astoreNull_n dX11_tipnow_8 rfl (by decide : 2 < 7) rfl ?_
    refine G_aloadNull_n dX11_tipnow_9 rfl ?_
    refine G_ifnonnullZ dX11_tipnow_10 ?_
    refine G_iconst (z := (-1)) dX11_tipnow_13 rfl ?_
    exact G_iret dX11_tipnow_14 rfl (Nat.zero_le _) (Nat.zero_le _) (Nat.le_refl _) ⟨rfl, k2 c2⟩
set_option maxRecDepth 20000 in
set_option maxHeartbeats 8000000 in
theorem sg_X11_tipnow_41 {E : Nat × (Nat → Int32)} {P : Option Value → Mem → Prop} {mem : Mem} {a1 : Int} {o2 : Nat} {a3 : Int} {s0 : Int} (ho2 : o2 ∈ streetL) (w1 : -2147483648 ≤ ((mem o2 2) - a3) ∧ ((mem o2 2) - a3) < 2147483648) (w2 : -2147483648 ≤ ((mem 23 4) - a3) ∧ ((mem 23 4) - a3) < 2147483648) (w3 : -2147483648 ≤ (a3 - (mem o2 2)) ∧ (a3 - (mem o2 2)) < 2147483648) (w4 : -2147483648 ≤ ((mem 23 4) - (mem o2 2)) ∧ ((mem 23 4) - (mem o2 2)) < 2147483648) (w5 : -2147483648 ≤ (mem 100 12) ∧ (mem 100 12) < 2147483648) (w6 : -2147483648 ≤ (mem 4 0) ∧ (mem 4 0) < 2147483648) (w7 : (mem 100 12) ≤ (mem 4 0) → -2147483648 ≤ ((((10 * (if 0 ≤ ((mem 23 4) - a3) then ((mem 23 4) - a3) else -((mem 23 4) - a3))) + 300) + (10 * (if 0 ≤ (a3 - (mem o2 2)) then (a3 - (mem o2 2)) else -(a3 - (mem o2 2))))) + ((s0 + (10 * (if 0 ≤ ((mem o2 2) - a3) then ((mem o2 2) - a3) else -((mem o2 2) - a3)))) + 300)) ∧ ((((10 * (if 0 ≤ ((mem 23 4) - a3) then ((mem 23 4) - a3) else -((mem 23 4) - a3))) + 300) + (10 * (if 0 ≤ (a3 - (mem o2 2)) then (a3 - (mem o2 2)) else -(a3 - (mem o2 2))))) + ((s0 + (10 * (if 0 ≤ ((mem o2 2) - a3) then ((mem o2 2) - a3) else -((mem o2 2) - a3)))) + 300)) < 2147483648) (w8 : (mem 100 12) ≤ (mem 4 0) → -2147483648 ≤ ((mem 23 3) + (mem 100 12)) ∧ ((mem 23 3) + (mem 100 12)) < 2147483648) (w9 : (mem 100 12) ≤ (mem 4 0) → ((mem 23 3) + (mem 100 12)) ≤ (mem 4 0) → -2147483648 ≤ ((10 * (if 0 ≤ ((mem 23 4) - (mem o2 2)) then ((mem 23 4) - (mem o2 2)) else -((mem 23 4) - (mem o2 2)))) + ((s0 + (10 * (if 0 ≤ ((mem o2 2) - a3) then ((mem o2 2) - a3) else -((mem o2 2) - a3)))) + 300)) ∧ ((10 * (if 0 ≤ ((mem 23 4) - (mem o2 2)) then ((mem 23 4) - (mem o2 2)) else -((mem 23 4) - (mem o2 2)))) + ((s0 + (10 * (if 0 ≤ ((mem o2 2) - a3) then ((mem o2 2) - a3) else -((mem o2 2) - a3)))) + 300)) < 2147483648) (w10 : (mem 100 12) ≤ (mem 4 0) → ((mem 23 3) + (mem 100 12)) ≤ (mem 4 0) → -2147483648 ≤ (mem 23 3) ∧ (mem 23 3) < 2147483648)
    (k1 : (mem 100 12) ≤ (mem 4 0) → ((mem 23 3) + (mem 100 12)) ≤ (mem 4 0) → (mem 23 3) = 0 → P (some (vi 0)) (up2 (up2 (up2 (up2 (up2 mem 0 14 0) 168 0 ((((10 * (if 0 ≤ ((mem 23 4) - a3) then ((mem 23 4) - a3) else -((mem 23 4) - a3))) + 300) + (10 * (if 0 ≤ (a3 - (mem o2 2)) then (a3 - (mem o2 2)) else -(a3 - (mem o2 2))))) + ((s0 + (10 * (if 0 ≤ ((mem o2 2) - a3) then ((mem o2 2) - a3) else -((mem o2 2) - a3)))) + 300))) 0 14 1) 168 1 ((10 * (if 0 ≤ ((mem 23 4) - (mem o2 2)) then ((mem 23 4) - (mem o2 2)) else -((mem 23 4) - (mem o2 2)))) + ((s0 + (10 * (if 0 ≤ ((mem o2 2) - a3) then ((mem o2 2) - a3) else -((mem o2 2) - a3)))) + 300))) 0 14 2))
    (k2 : (mem 100 12) ≤ (mem 4 0) → ((mem 23 3) + (mem 100 12)) ≤ (mem 4 0) → ¬ (mem 23 3) = 0 → ((10 * (if 0 ≤ ((mem 23 4) - (mem o2 2)) then ((mem 23 4) - (mem o2 2)) else -((mem 23 4) - (mem o2 2)))) + ((s0 + (10 * (if 0 ≤ ((mem o2 2) - a3) then ((mem o2 2) - a3) else -((mem o2 2) - a3)))) + 300)) ≤ ((((10 * (if 0 ≤ ((mem 23 4) - a3) then ((mem 23 4) - a3) else -((mem 23 4) - a3))) + 300) + (10 * (if 0 ≤ (a3 - (mem o2 2)) then (a3 - (mem o2 2)) else -(a3 - (mem o2 2))))) + ((s0 + (10 * (if 0 ≤ ((mem o2 2) - a3) then ((mem o2 2) - a3) else -((mem o2 2) - a3)))) + 300)) → P (some (vi 0)) (up2 (up2 (up2 (up2 (up2 mem 0 14 0) 168 0 ((((10 * (if 0 ≤ ((mem 23 4) - a3) then ((mem 23 4) - a3) else -((mem 23 4) - a3))) + 300) + (10 * (if 0 ≤ (a3 - (mem o2 2)) then (a3 - (mem o2 2)) else -(a3 - (mem o2 2))))) + ((s0 + (10 * (if 0 ≤ ((mem o2 2) - a3) then ((mem o2 2) - a3) else -((mem o2 2) - a3)))) + 300))) 0 14 1) 168 1 ((10 * (if 0 ≤ ((mem 23 4) - (mem o2 2)) then ((mem 23 4) - (mem o2 2)) else -((mem 23 4) - (mem o2 2)))) + ((s0 + (10 * (if 0 ≤ ((mem o2 2) - a3) then ((mem o2 2) - a3) else -((mem o2 2) - a3)))) + 300))) 0 14 2))
    (k3 : (mem 100 12) ≤ (mem 4 0) → ((mem 23 3) + (mem 100 12)) ≤ (mem 4 0) → ¬ (mem 23 3) = 0 → ¬ ((10 * (if 0 ≤ ((mem 23 4) - (mem o2 2)) then ((mem 23 4) - (mem o2 2)) else -((mem 23 4) - (mem o2 2)))) + ((s0 + (10 * (if 0 ≤ ((mem o2 2) - a3) then ((mem o2 2) - a3) else -((mem o2 2) - a3)))) + 300)) ≤ ((((10 * (if 0 ≤ ((mem 23 4) - a3) then ((mem 23 4) - a3) else -((mem 23 4) - a3))) + 300) + (10 * (if 0 ≤ (a3 - (mem o2 2)) then (a3 - (mem o2 2)) else -(a3 - (mem o2 2))))) + ((s0 + (10 * (if 0 ≤ ((mem o2 2) - a3) then ((mem o2 2) - a3) else -((mem o2 2) - a3)))) + 300)) → P (some (vi 1)) (up2 (up2 (up2 (up2 (up2 mem 0 14 0) 168 0 ((((10 * (if 0 ≤ ((mem 23 4) - a3) then ((mem 23 4) - a3) else -((mem 23 4) - a3))) + 300) + (10 * (if 0 ≤ (a3 - (mem o2 2)) then (a3 - (mem o2 2)) else -(a3 - (mem o2 2))))) + ((s0 + (10 * (if 0 ≤ ((mem o2 2) - a3) then ((mem o2 2) - a3) else -((mem o2 2) - a3)))) + 300))) 0 14 1) 168 1 ((10 * (if 0 ≤ ((mem 23 4) - (mem o2 2)) then ((mem 23 4) - (mem o2 2)) else -((mem 23 4) - (mem o2 2)))) + ((s0 + (10 * (if 0 ≤ ((mem o2 2) - a3) then ((mem o2 2) - a3) else -((mem o2 2) - a3)))) + 300))) 0 14 2))
    (k4 : (mem 100 12) ≤ (mem 4 0) → ¬ ((mem 23 3) + (mem 100 12)) ≤ (mem 4 0) → P (some (vi 2)) (up2 (up2 (up2 (up2 (up2 mem 0 14 0) 168 0 ((((10 * (if 0 ≤ ((mem 23 4) - a3) then ((mem 23 4) - a3) else -((mem 23 4) - a3))) + 300) + (10 * (if 0 ≤ (a3 - (mem o2 2)) then (a3 - (mem o2 2)) else -(a3 - (mem o2 2))))) + ((s0 + (10 * (if 0 ≤ ((mem o2 2) - a3) then ((mem o2 2) - a3) else -((mem o2 2) - a3)))) + 300))) 0 14 1) 168 1 (-1)) 0 14 2))
    (k5 : ¬ (mem 100 12) ≤ (mem 4 0) → P (some (vi (-2))) mem) :
    GM E (m_X11_tipnow 7) P 41 [.ref 0, vi a1, .ref o2, vi a3, un, un, un] [vi s0] mem := by
  refine G_aload_n dX11_tipnow_41 rfl ?_
  refine G_getI (z := (mem o2 2)) dX11_tipnow_42 fl_11_144 (ltStreet0 ho2) (shStreet0 ho2) rfl ?_
  refine G_iload_n dX11_tipnow_45 rfl ?_
  refine cb_X11_tipnow_46 (ic_X11_driving (w1) ?_)
  refine G_iadd dX11_tipnow_49 ?_
  refine G_sipush (z := 300) dX11_tipnow_50 rfl ?_
  refine G_iadd dX11_tipnow_53 ?_
  refine G_istore dX11_tipnow_54 (by decide : 4 < 7) rfl ?_
  refine G_aload_n dX11_tipnow_56 rfl ?_
  refine G_getR (t := 23) dX11_tipnow_57 fl_11_40 (by decide) sh_0 rr_0_4 ?_
  refine G_getI (z := (mem 23 4)) dX11_tipnow_60 fl_11_252 (by decide) sh_23 rfl ?_
  refine G_iload_n dX11_tipnow_63 rfl ?_
  refine cb_X11_tipnow_64 (ic_X11_driving (w2) ?_)
  refine G_sipush (z := 300) dX11_tipnow_67 rfl ?_
  refine G_iadd dX11_tipnow_70 ?_
  refine G_iload_n dX11_tipnow_71 rfl ?_
  refine G_aload_n dX11_tipnow_72 rfl ?_
  refine G_getI (z := (mem o2 2)) dX11_tipnow_73 fl_11_144 (ltStreet0 ho2) (shStreet0 ho2) rfl ?_
  refine cb_X11_tipnow_76 (ic_X11_driving (w3) ?_)
  refine G_iadd dX11_tipnow_79 ?_
  refine G_iload dX11_tipnow_80 rfl ?_
  refine G_iadd dX11_tipnow_82 ?_
  refine G_istore dX11_tipnow_83 (by decide : 5 < 7) rfl ?_
  refine G_aload_n dX11_tipnow_85 rfl ?_
  refine G_getR (t := 23) dX11_tipnow_86 fl_11_40 (by decide) sh_0 rr_0_4 ?_
  refine G_getI (z := (mem 23 4)) dX11_tipnow_89 fl_11_252 (by decide) sh_23 rfl ?_
  refine G_aload_n dX11_tipnow_92 rfl ?_
  refine G_getI (z := (mem o2 2)) dX11_tipnow_93 fl_11_144 (ltStreet0 ho2) (shStreet0 ho2) rfl ?_
  refine cb_X11_tipnow_96 (ic_X11_driving (w4) ?_)
  refine G_iload dX11_tipnow_99 rfl ?_
  refine G_iadd dX11_tipnow_101 ?_
  refine G_istore dX11_tipnow_102 (by decide : 6 < 7) rfl ?_
  refine G_aload_n dX11_tipnow_104 rfl ?_
  refine G_getR (t := 100) dX11_tipnow_105 fl_11_65 (by decide) sh_0 rr_0_7 ?_
  refine G_getI (z := (mem 100 12)) dX11_tipnow_108 fl_11_390 (by decide) sh_100 rfl ?_
  refine G_aload_n dX11_tipnow_111 rfl ?_
  refine G_getR (t := 3) dX11_tipnow_112 fl_11_19 (by decide) sh_0 rr_0_1 ?_
  refine G_iconst (z := 0) dX11_tipnow_115 rfl ?_
  refine cb_X11_tipnow_116 (ic_X6_get (z := (mem 4 0)) (by decide) rfl ?_)
  refine G_icmp_le (tgt := 125) dX11_tipnow_119 (by decide) (w5) (w6) (fun c1 => ?_) (fun c1 => ?_)
  · -- (mem 100 12) ≤ (mem 4 0)
    refine G_aload_n dX11_tipnow_125 rfl ?_
    refine G_iload dX11_tipnow_126 rfl ?_
    refine G_i2l dX11_tipnow_128 (w7 c1) ?_
    refine cb_X11_tipnow_129 (ic_X11_tell ?_)
    refine G_aload_n dX11_tipnow_132 rfl ?_
    refine G_getR (t := 23) dX11_tipnow_133 fl_11_40 (by decide) sh_0 rr_0_4 ?_
    refine G_getI (z := (mem 23 3)) dX11_tipnow_136 fl_11_203 (by decide) sh_23 (by simp [up2, upr]) ?_
    refine G_aload_n dX11_tipnow_139 rfl ?_
    refine G_getR (t := 100) dX11_tipnow_140 fl_11_65 (by decide) sh_0 rr_0_7 ?_
    refine G_getI (z := (mem 100 12)) dX11_tipnow_143 fl_11_390 (by decide) sh_100 (by simp [up2, upr]) ?_
    refine G_iadd dX11_tipnow_146 ?_
    refine G_aload_n dX11_tipnow_147 rfl ?_
    refine G_getR (t := 3) dX11_tipnow_148 fl_11_19 (by decide) sh_0 rr_0_1 ?_
    refine G_iconst (z := 0) dX11_tipnow_151 rfl ?_
    refine cb_X11_tipnow_152 (ic_X6_get (z := (mem 4 0)) (by decide) (by simp [up2, upr]) ?_)
    refine G_icmp_le (tgt := 167) dX11_tipnow_155 (by decide) (w8 c1) (w6) (fun c2 => ?_) (fun c2 => ?_)
    · -- ((mem 23 3) + (mem 100 12)) ≤ (mem 4 0)
      refine G_aload_n dX11_tipnow_167 rfl ?_
      refine G_iload dX11_tipnow_168 rfl ?_
      refine G_i2l dX11_tipnow_170 (w9 c1 c2) ?_
      refine cb_X11_tipnow_171 (ic_X11_tellMore (z := 1) (z2 := 2) (by simp [up2, upr]) (by decide) rfl ?_)
      refine G_aload_n dX11_tipnow_174 rfl ?_
      refine G_getR (t := 23) dX11_tipnow_175 fl_11_40 (by decide) sh_0 rr_0_4 ?_
      refine G_getI (z := (mem 23 3)) dX11_tipnow_178 fl_11_203 (by decide) sh_23 (by simp [up2, upr]) ?_
      refine G_if_eq (tgt := 195) dX11_tipnow_181 (by decide) (w10 c1 c2) (fun c3 => ?_) (fun c3 => ?_)
      · -- (mem 23 3) = 0
        refine G_iconst (z := 0) dX11_tipnow_195 rfl ?_
        exact G_iret dX11_tipnow_196 rfl (Nat.zero_le _) (Nat.zero_le _) (Nat.le_refl _) ⟨rfl, k1 c1 c2 c3⟩
      · -- ¬ (mem 23 3) = 0
        refine G_iload dX11_tipnow_184 rfl ?_
        refine G_iload dX11_tipnow_186 rfl ?_
        refine G_icmp_ge (tgt := 195) dX11_tipnow_188 (by decide) (w7 c1) (w9 c1 c2) (fun c4 => ?_) (fun c4 => ?_)
        · -- ((10 * (if 0 ≤ ((mem 23 4) - (mem o2 2)) then ((mem 23 4) - (mem o2 2)) else -((mem 23 4) - (mem o2 2)))) + ((s0 + (10 * (if 0 ≤ ((mem o2 2) - a3) then ((mem o2 2) - a3) else -((mem o2 2) - a3)))) + 300)) ≤ ((((10 * (if 0 ≤ ((mem 23 4) - a3) then ((mem 23 4) - a3) else -((mem 23 4) - a3))) + 300) + (10 * (if 0 ≤ (a3 - (mem o2 2)) then (a3 - (mem o2 2)) else -(a3 - (mem o2 2))))) + ((s0 + (10 * (if 0 ≤ ((mem o2 2) - a3) then ((mem o2 2) - a3) else -((mem o2 2) - a3)))) + 300))
          refine G_iconst (z := 0) dX11_tipnow_195 rfl ?_
          exact G_iret dX11_tipnow_196 rfl (Nat.zero_le _) (Nat.zero_le _) (Nat.le_refl _) ⟨rfl, k2 c1 c2 c3 c4⟩
        · -- ¬ ((10 * (if 0 ≤ ((mem 23 4) - (mem o2 2)) then ((mem 23 4) - (mem o2 2)) else -((mem 23 4) - (mem o2 2)))) + ((s0 + (10 * (if 0 ≤ ((mem o2 2) - a3) then ((mem o2 2) - a3) else -((mem o2 2) - a3)))) + 300)) ≤ ((((10 * (if 0 ≤ ((mem 23 4) - a3) then ((mem 23 4) - a3) else -((mem 23 4) - a3))) + 300) + (10 * (if 0 ≤ (a3 - (mem o2 2)) then (a3 - (mem o2 2)) else -(a3 - (mem o2 2))))) + ((s0 + (10 * (if 0 ≤ ((mem o2 2) - a3) then ((mem o2 2) - a3) else -((mem o2 2) - a3)))) + 300))
          refine G_iconst (z := 1) dX11_tipnow_191 rfl ?_
          refine G_goto (tgt := 196) dX11_tipnow_192 (by decide) ?_
          exact G_iret dX11_tipnow_196 rfl (Nat.zero_le _) (Nat.zero_le _) (Nat.le_refl _) ⟨rfl, k3 c1 c2 c3 c4⟩
    · -- ¬ ((mem 23 3) + (mem 100 12)) ≤ (mem 4 0)
      refine G_aload_n dX11_tipnow_158 rfl ?_
      refine G_ldc2 (z := (-1)) dX11_tipnow_159 kc_11_342 ?_
      refine cb_X11_tipnow_162 (ic_X11_tellMore (z := 1) (z2 := 2) (by simp [up2, upr]) (by decide) rfl ?_)
      refine G_iconst (z := 2) dX11_tipnow_165 rfl ?_
      exact G_iret dX11_tipnow_166 rfl (Nat.zero_le _) (Nat.zero_le _) (Nat.le_refl _) ⟨rfl, k4 c1 c2⟩
  · -- ¬ (mem 100 12) ≤ (mem 4 0)
    refine G_bipush (z := (-2)) dX11_tipnow_122 rfl ?_
    exact G_iret dX11_tipnow_124 rfl (Nat.zero_le _) (Nat.zero_le _) (Nat.le_refl _) ⟨rfl, k5 c1⟩
set_option maxRecDepth 20000 in
set_option maxHeartbeats 8000000 in
theorem sg_X11_undo_0 {E : Nat × (Nat → Int32)} {P : Option Value → Mem → Prop} {mem : Mem}
    (k1 : GM E (m_X11_undo 4) P 8 [.ref 0] [.ref 23, .ref 27] mem) :
    GM E (m_X11_undo 4) P 0 [.ref 0] [] mem := by
  refine G_aload_n dX11_undo_0 rfl ?_
  refine G_getR (t := 27) dX11_undo_1 fl_11_47 (by decide) sh_0 rr_0_5 ?_
  refine G_aload_n dX11_undo_4 rfl ?_
  refine G_getR (t := 23) dX11_undo_5 fl_11_40 (by decide) sh_0 rr_0_4 ?_
  exact k1
set_option maxRecDepth 20000 in
set_option maxHeartbeats 8000000 in
theorem sg_X11_undo_11 {E : Nat × (Nat → Int32)} {P : Option Value → Mem → Prop} {mem : Mem} {s0 : Int} (w1 : -2147483648 ≤ s0 ∧ s0 < 2147483648)
    (k1 : P (some (vi (if s0 = 0 then ((-1) : Int) else (mem 27 2)))) mem) :
    GM E (m_X11_undo 4) P 11 [.ref 0] [vi s0] mem := by
  have j1 : GM E (m_X11_undo 4) P 25 [.ref 0] [vi (if s0 = 0 then ((-1) : Int) else (mem 27 2))] mem := by
    exact G_iret dX11_undo_25 rfl (Nat.zero_le _) (Nat.zero_le _) (Nat.le_refl _) ⟨rfl, k1⟩
  refine G_if_eq (tgt := 24) dX11_undo_11 (by decide) (w1) (fun c1 => ?_) (fun c1 => ?_)
  · -- s0 = 0
    refine G_iconst (z := (-1)) dX11_undo_24 rfl ?_
    have qj1 := j1
    simp only [if_pos c1] at qj1
    exact qj1
  · -- ¬ s0 = 0
    refine G_aload_n dX11_undo_14 rfl ?_
    refine G_getR (t := 27) dX11_undo_15 fl_11_47 (by decide) sh_0 rr_0_5 ?_
    refine G_getI (z := (mem 27 2)) dX11_undo_18 fl_11_272 (by decide) sh_27 rfl ?_
    refine G_goto (tgt := 25) dX11_undo_21 (by decide) ?_
    have qj1 := j1
    simp only [if_neg c1] at qj1
    exact qj1
set_option maxRecDepth 20000 in
set_option maxHeartbeats 8000000 in
theorem sg_X11_waitFor_0 {E : Nat × (Nat → Int32)} {P : Option Value → Mem → Prop} {mem : Mem} {a1 : Int} (w1 : -2147483648 ≤ a1 ∧ a1 < 2147483648)
    (k1 : a1 < 0 → P (some (vi (-1))) mem)
    (k2 : ¬ a1 < 0 → a1 ≤ 9999 → P (some (vi ((mem 23 5) + a1))) (up2 mem 23 5 ((mem 23 5) + a1)))
    (k3 : ¬ a1 < 0 → ¬ a1 ≤ 9999 → P (some (vi (-1))) mem) :
    GM E (m_X11_waitFor 0) P 0 [.ref 0, vi a1] [] mem := by
  refine G_iload_n dX11_waitFor_0 rfl ?_
  refine G_if_lt (tgt := 11) dX11_waitFor_1 (by decide) (w1) (fun c1 => ?_) (fun c1 => ?_)
  · -- a1 < 0
    refine G_iconst (z := (-1)) dX11_waitFor_11 rfl ?_
    exact G_iret dX11_waitFor_12 rfl (Nat.zero_le _) (Nat.zero_le _) (Nat.le_refl _) ⟨rfl, k1 c1⟩
  · -- ¬ a1 < 0
    refine G_iload_n dX11_waitFor_4 rfl ?_
    refine G_sipush (z := 9999) dX11_waitFor_5 rfl ?_
    refine G_icmp_le (tgt := 13) dX11_waitFor_8 (by decide) (w1) (by decide) (fun c2 => ?_) (fun c2 => ?_)
    · -- a1 ≤ 9999
      refine G_aload_n dX11_waitFor_13 rfl ?_
      refine G_getR (t := 23) dX11_waitFor_14 fl_11_40 (by decide) sh_0 rr_0_4 ?_
      refine G_dup dX11_waitFor_17 rfl ?_
      refine G_getI (z := (mem 23 5)) dX11_waitFor_18 fl_11_253 (by decide) sh_23 rfl ?_
      refine G_iload_n dX11_waitFor_21 rfl ?_
      refine G_iadd dX11_waitFor_22 ?_
      refine G_putI (mem2 := (up2 mem 23 5 ((mem 23 5) + a1))) dX11_waitFor_23 fp_11_253 (by decide) sh_23 rfl ?_
      refine G_aload_n dX11_waitFor_26 rfl ?_
      refine G_getR (t := 23) dX11_waitFor_27 fl_11_40 (by decide) sh_0 rr_0_4 ?_
      refine G_getI (z := ((mem 23 5) + a1)) dX11_waitFor_30 fl_11_253 (by decide) sh_23 (by simp [up2, upr]) ?_
      exact G_iret dX11_waitFor_33 rfl (Nat.zero_le _) (Nat.zero_le _) (Nat.le_refl _) ⟨rfl, k2 c1 c2⟩
    · -- ¬ a1 ≤ 9999
      refine G_iconst (z := (-1)) dX11_waitFor_11 rfl ?_
      exact G_iret dX11_waitFor_12 rfl (Nat.zero_le _) (Nat.zero_le _) (Nat.le_refl _) ⟨rfl, k3 c1 c2⟩
set_option maxRecDepth 20000 in
set_option maxHeartbeats 8000000 in
theorem sg_X11_week_0 {E : Nat × (Nat → Int32)} {P : Option Value → Mem → Prop} {mem : Mem}
    (k1 : GM E (m_X11_week 5) P 8 [.ref 0, un] [.ref 23, .ref 27] mem) :
    GM E (m_X11_week 5) P 0 [.ref 0, un] [] mem := by
  refine G_aload_n dX11_week_0 rfl ?_
  refine G_getR (t := 27) dX11_week_1 fl_11_47 (by decide) sh_0 rr_0_5 ?_
  refine G_aload_n dX11_week_4 rfl ?_
  refine G_getR (t := 23) dX11_week_5 fl_11_40 (by decide) sh_0 rr_0_4 ?_
  exact k1
set_option maxRecDepth 20000 in
set_option maxHeartbeats 8000000 in
theorem sg_X11_week_11 {E : Nat × (Nat → Int32)} {P : Option Value → Mem → Prop} {mem : Mem}
    (k1 : GM E (m_X11_week 5) P 13 [.ref 0, vi 0] [] mem) :
    GM E (m_X11_week 5) P 11 [.ref 0, un] [] mem := by
  refine G_iconst (z := 0) dX11_week_11 rfl ?_
  refine G_istore_n dX11_week_12 rfl (by decide : 1 < 2) rfl ?_
  exact k1
set_option maxRecDepth 20000 in
set_option maxHeartbeats 8000000 in
theorem sg_X11_week_13 {E : Nat × (Nat → Int32)} {P : Option Value → Mem → Prop} {mem : Mem} {a1 : Int} (w1 : -2147483648 ≤ a1 ∧ a1 < 2147483648) (w2 : -2147483648 ≤ (mem 9 1) ∧ (mem 9 1) < 2147483648)
    (k1 : (mem 9 1) ≤ a1 → GM E (m_X11_week 5) P 76 [.ref 0, vi a1] [vi 1, .ref 23, .ref 0] (up2 (up2 (up2 mem 23 3 0) 23 4 0) 23 5 0))
    (k2 : ¬ (mem 9 1) ≤ a1 → GM E (m_X11_week 5) P 34 [.ref 0, vi a1] [vi a1, .ref 9, vi a1, .ref 23] mem) :
    GM E (m_X11_week 5) P 13 [.ref 0, vi a1] [] mem := by
  refine G_iload_n dX11_week_13 rfl ?_
  refine G_aload_n dX11_week_14 rfl ?_
  refine G_getR (t := 9) dX11_week_15 fl_11_33 (by decide) sh_0 rr_0_3 ?_
  refine G_getI (z := (mem 9 1)) dX11_week_18 fl_11_113 (by decide) sh_9 rfl ?_
  refine G_icmp_ge (tgt := 46) dX11_week_21 (by decide) (w1) (w2) (fun c1 => ?_) (fun c1 => ?_)
  · -- (mem 9 1) ≤ a1
    refine G_aload_n dX11_week_46 rfl ?_
    refine G_getR (t := 23) dX11_week_47 fl_11_40 (by decide) sh_0 rr_0_4 ?_
    refine G_iconst (z := 0) dX11_week_50 rfl ?_
    refine G_putI (mem2 := (up2 mem 23 3 0)) dX11_week_51 fp_11_203 (by decide) sh_23 rfl ?_
    refine G_aload_n dX11_week_54 rfl ?_
    refine G_getR (t := 23) dX11_week_55 fl_11_40 (by decide) sh_0 rr_0_4 ?_
    refine G_iconst (z := 0) dX11_week_58 rfl ?_
    refine G_putI (mem2 := (up2 (up2 mem 23 3 0) 23 4 0)) dX11_week_59 fp_11_252 (by decide) sh_23 rfl ?_
    refine G_aload_n dX11_week_62 rfl ?_
    refine G_getR (t := 23) dX11_week_63 fl_11_40 (by decide) sh_0 rr_0_4 ?_
    refine G_iconst (z := 0) dX11_week_66 rfl ?_
    refine G_putI (mem2 := (up2 (up2 (up2 mem 23 3 0) 23 4 0) 23 5 0)) dX11_week_67 fp_11_253 (by decide) sh_23 rfl ?_
    refine G_aload_n dX11_week_70 rfl ?_
    refine G_aload_n dX11_week_71 rfl ?_
    refine G_getR (t := 23) dX11_week_72 fl_11_40 (by decide) sh_0 rr_0_4 ?_
    refine G_iconst (z := 1) dX11_week_75 rfl ?_
    exact k1 c1
  · -- ¬ (mem 9 1) ≤ a1
    refine G_aload_n dX11_week_24 rfl ?_
    refine G_getR (t := 23) dX11_week_25 fl_11_40 (by decide) sh_0 rr_0_4 ?_
    refine G_iload_n dX11_week_28 rfl ?_
    refine G_aload_n dX11_week_29 rfl ?_
    refine G_getR (t := 9) dX11_week_30 fl_11_33 (by decide) sh_0 rr_0_3 ?_
    refine G_iload_n dX11_week_33 rfl ?_
    exact k2 c1
set_option maxRecDepth 20000 in
set_option maxHeartbeats 8000000 in
theorem sg_X11_week_37 {E : Nat × (Nat → Int32)} {P : Option Value → Mem → Prop} {mem : Mem} {a1 : Int} {s0 : Int} {s1 : Int}
    (k1 : GM E (m_X11_week 5) P 37 [.ref 0, vi a1] [vi s0, vi s1, .ref 23] mem) :
    GM E (m_X11_week 5) P 37 [.ref 0, vi a1] [vi s0, vi s1, .ref 23] mem := by
  exact k1
set_option maxRecDepth 20000 in
set_option maxHeartbeats 8000000 in
theorem sg_X11_week_40 {E : Nat × (Nat → Int32)} {P : Option Value → Mem → Prop} {mem : Mem} {a1 : Int}
    (k1 : GM E (m_X11_week 5) P 13 [.ref 0, vi (a1 + 1)] [] mem) :
    GM E (m_X11_week 5) P 40 [.ref 0, vi a1] [] mem := by
  refine G_iinc (z := (a1 + 1)) dX11_week_40 rfl rfl (by decide : 1 < 2) rfl ?_
  refine G_goto (tgt := 13) dX11_week_43 (by decide) ?_
  exact k1
set_option maxRecDepth 20000 in
set_option maxHeartbeats 8000000 in
theorem sg_X11_week_79 {E : Nat × (Nat → Int32)} {P : Option Value → Mem → Prop} {mem : Mem} {a1 : Int} {s0 : Int}
    (k1 : GM E (m_X11_week 5) P 79 [.ref 0, vi a1] [vi s0, .ref 0] mem) :
    GM E (m_X11_week 5) P 79 [.ref 0, vi a1] [vi s0, .ref 0] mem := by
  exact k1
set_option maxRecDepth 20000 in
set_option maxHeartbeats 8000000 in
theorem sg_X11_week_82 {E : Nat × (Nat → Int32)} {P : Option Value → Mem → Prop} {mem : Mem} {a1 : Int} {s0 : Int}
    (k1 : P (some (vi s0)) mem) :
    GM E (m_X11_week 5) P 82 [.ref 0, vi a1] [vi s0] mem := by
  exact G_iret dX11_week_82 rfl (Nat.zero_le _) (Nat.zero_le _) (Nat.le_refl _) ⟨rfl, k1⟩
set_option maxRecDepth 20000 in
set_option maxHeartbeats 8000000 in
theorem sg_X11_weeks_0 {E : Nat × (Nat → Int32)} {P : Option Value → Mem → Prop} {mem : Mem} {a1 : Int} {a2 : Int} {a3 : Int} (w1 : -2147483648 ≤ (mem 9 1) ∧ (mem 9 1) < 2147483648) (w2 : -2147483648 ≤ a2 ∧ a2 < 2147483648) (w3 : -2147483648 ≤ a3 ∧ a3 < 2147483648)
    (k1 : (mem 9 1) = 0 → P (some (vi (-1))) mem)
    (k2 : ¬ (mem 9 1) = 0 → a2 < 1 → P (some (vi (-1))) mem)
    (k3 : ¬ (mem 9 1) = 0 → ¬ a2 < 1 → 20 < a2 → P (some (vi (-1))) mem)
    (k4 : ¬ (mem 9 1) = 0 → ¬ a2 < 1 → ¬ 20 < a2 → a3 < 0 → P (some (vi (-1))) mem)
    (k5 : ¬ (mem 9 1) = 0 → ¬ a2 < 1 → ¬ 20 < a2 → ¬ a3 < 0 → a3 ≤ 10 → GM E (m_X11_weeks 7) P 42 [.ref 0, vi a1, vi a2, vi a3, un, un, un, un] [.ref 106] (up2 mem 0 15 a1))
    (k6 : ¬ (mem 9 1) = 0 → ¬ a2 < 1 → ¬ 20 < a2 → ¬ a3 < 0 → ¬ a3 ≤ 10 → P (some (vi (-1))) mem) :
    GM E (m_X11_weeks 7) P 0 [.ref 0, vi a1, vi a2, vi a3, un, un, un, un] [] mem := by
  refine G_aload_n dX11_weeks_0 rfl ?_
  refine G_getR (t := 9) dX11_weeks_1 fl_11_33 (by decide) sh_0 rr_0_3 ?_
  refine G_getI (z := (mem 9 1)) dX11_weeks_4 fl_11_113 (by decide) sh_9 rfl ?_
  refine G_if_eq (tgt := 31) dX11_weeks_7 (by decide) (w1) (fun c1 => ?_) (fun c1 => ?_)
  · -- (mem 9 1) = 0
    refine G_iconst (z := (-1)) dX11_weeks_31 rfl ?_
    exact G_iret dX11_weeks_32 rfl (Nat.zero_le _) (Nat.zero_le _) (Nat.le_refl _) ⟨rfl, k1 c1⟩
  · -- ¬ (mem 9 1) = 0
    refine G_iload_n dX11_weeks_10 rfl ?_
    refine G_iconst (z := 1) dX11_weeks_11 rfl ?_
    refine G_icmp_lt (tgt := 31) dX11_weeks_12 (by decide) (w2) (by decide) (fun c2 => ?_) (fun c2 => ?_)
    · -- a2 < 1
      refine G_iconst (z := (-1)) dX11_weeks_31 rfl ?_
      exact G_iret dX11_weeks_32 rfl (Nat.zero_le _) (Nat.zero_le _) (Nat.le_refl _) ⟨rfl, k2 c1 c2⟩
    · -- ¬ a2 < 1
      refine G_iload_n dX11_weeks_15 rfl ?_
      refine G_bipush (z := 20) dX11_weeks_16 rfl ?_
      refine G_icmp_gt (tgt := 31) dX11_weeks_18 (by decide) (w2) (by decide) (fun c3 => ?_) (fun c3 => ?_)
      · -- 20 < a2
        refine G_iconst (z := (-1)) dX11_weeks_31 rfl ?_
        exact G_iret dX11_weeks_32 rfl (Nat.zero_le _) (Nat.zero_le _) (Nat.le_refl _) ⟨rfl, k3 c1 c2 c3⟩
      · -- ¬ 20 < a2
        refine G_iload_n dX11_weeks_21 rfl ?_
        refine G_if_lt (tgt := 31) dX11_weeks_22 (by decide) (w3) (fun c4 => ?_) (fun c4 => ?_)
        · -- a3 < 0
          refine G_iconst (z := (-1)) dX11_weeks_31 rfl ?_
          exact G_iret dX11_weeks_32 rfl (Nat.zero_le _) (Nat.zero_le _) (Nat.le_refl _) ⟨rfl, k4 c1 c2 c3 c4⟩
        · -- ¬ a3 < 0
          refine G_iload_n dX11_weeks_25 rfl ?_
          refine G_bipush (z := 10) dX11_weeks_26 rfl ?_
          refine G_icmp_le (tgt := 33) dX11_weeks_28 (by decide) (w3) (by decide) (fun c5 => ?_) (fun c5 => ?_)
          · -- a3 ≤ 10
            refine G_aload_n dX11_weeks_33 rfl ?_
            refine G_iload_n dX11_weeks_34 rfl ?_
            refine G_putI (mem2 := (up2 mem 0 15 a1)) dX11_weeks_35 fp_11_445 (by decide) sh_0 rfl ?_
            refine G_aload_n dX11_weeks_38 rfl ?_
            refine G_getR (t := 106) dX11_weeks_39 fl_11_74 (by decide) sh_0 rr_0_8 ?_
            exact k5 c1 c2 c3 c4 c5
          · -- ¬ a3 ≤ 10
            refine G_iconst (z := (-1)) dX11_weeks_31 rfl ?_
            exact G_iret dX11_weeks_32 rfl (Nat.zero_le _) (Nat.zero_le _) (Nat.le_refl _) ⟨rfl, k6 c1 c2 c3 c4 c5⟩
set_option maxRecDepth 20000 in
set_option maxHeartbeats 8000000 in
theorem sg_X11_weeks_45 {E : Nat × (Nat → Int32)} {P : Option Value → Mem → Prop} {mem : Mem} {a1 : Int} {a2 : Int} {a3 : Int}
    (k1 : GM E (m_X11_weeks 7) P 57 [.ref 0, vi a1, vi a2, vi a3, vi 0, vi (-1), vi (-1), vi 0] [] mem) :
    GM E (m_X11_weeks 7) P 45 [.ref 0, vi a1, vi a2, vi a3, un, un, un, un] [] mem := by
  refine G_iconst (z := 0) dX11_weeks_45 rfl ?_
  refine G_istore dX11_weeks_46 (by decide : 4 < 8) rfl ?_
  refine G_iconst (z := (-1)) dX11_weeks_48 rfl ?_
  refine G_istore dX11_weeks_49 (by decide : 5 < 8) rfl ?_
  refine G_iconst (z := (-1)) dX11_weeks_51 rfl ?_
  refine G_istore dX11_weeks_52 (by decide : 6 < 8) rfl ?_
  refine G_iconst (z := 0) dX11_weeks_54 rfl ?_
  refine G_istore dX11_weeks_55 (by decide : 7 < 8) rfl ?_
  exact k1
set_option maxRecDepth 20000 in
set_option maxHeartbeats 8000000 in
theorem sg_X11_weeks_57 {E : Nat × (Nat → Int32)} {P : Option Value → Mem → Prop} {mem : Mem} {a1 : Int} {a2 : Int} {a3 : Int} {a4 : Int} {a5 : Int} {a6 : Int} {a7 : Int} (w1 : -2147483648 ≤ a7 ∧ a7 < 2147483648) (w2 : -2147483648 ≤ a2 ∧ a2 < 2147483648) (w3 : -2147483648 ≤ a5 ∧ a5 < 2147483648) (w4 : -2147483648 ≤ a6 ∧ a6 < 2147483648)
    (k1 : a2 ≤ a7 → P (some (vi a4)) (up2 (up2 (up2 (up2 (up2 mem 0 14 0) 168 0 a5) 0 14 1) 168 1 a6) 0 14 2))
    (k2 : ¬ a2 ≤ a7 → GM E (m_X11_weeks 7) P 69 [.ref 0, vi a1, vi a2, vi a3, vi a4, vi a5, vi a6, vi a7] [vi a3, .ref 0, .ref 106] mem) :
    GM E (m_X11_weeks 7) P 57 [.ref 0, vi a1, vi a2, vi a3, vi a4, vi a5, vi a6, vi a7] [] mem := by
  refine G_iload dX11_weeks_57 rfl ?_
  refine G_iload_n dX11_weeks_59 rfl ?_
  refine G_icmp_ge (tgt := 147) dX11_weeks_60 (by decide) (w1) (w2) (fun c1 => ?_) (fun c1 => ?_)
  · -- a2 ≤ a7
    refine G_aload_n dX11_weeks_147 rfl ?_
    refine G_iload dX11_weeks_148 rfl ?_
    refine G_i2l dX11_weeks_150 (w3) ?_
    refine cb_X11_weeks_151 (ic_X11_tell ?_)
    refine G_aload_n dX11_weeks_154 rfl ?_
    refine G_iload dX11_weeks_155 rfl ?_
    refine G_i2l dX11_weeks_157 (w4) ?_
    refine cb_X11_weeks_158 (ic_X11_tellMore (z := 1) (z2 := 2) (by simp [up2, upr]) (by decide) rfl ?_)
    refine G_iload dX11_weeks_161 rfl ?_
    exact G_iret dX11_weeks_163 rfl (Nat.zero_le _) (Nat.zero_le _) (Nat.le_refl _) ⟨rfl, k1 c1⟩
  · -- ¬ a2 ≤ a7
    refine G_aload_n dX11_weeks_63 rfl ?_
    refine G_getR (t := 106) dX11_weeks_64 fl_11_74 (by decide) sh_0 rr_0_8 ?_
    refine G_aload_n dX11_weeks_67 rfl ?_
    refine G_iload_n dX11_weeks_68 rfl ?_
    exact k2 c1
set_option maxRecDepth 20000 in
set_option maxHeartbeats 8000000 in
theorem sg_X11_weeks_72 {E : Nat × (Nat → Int32)} {P : Option Value → Mem → Prop} {mem : Mem} {a1 : Int} {a2 : Int} {a3 : Int} {a4 : Int} {a5 : Int} {a6 : Int} {a7 : Int}
    (k1 : GM E (m_X11_weeks 7) P 72 [.ref 0, vi a1, vi a2, vi a3, vi a4, vi a5, vi a6, vi a7] [.ref 108, .ref 106] mem) :
    GM E (m_X11_weeks 7) P 72 [.ref 0, vi a1, vi a2, vi a3, vi a4, vi a5, vi a6, vi a7] [.ref 108, .ref 106] mem := by
  exact k1
set_option maxRecDepth 20000 in
set_option maxHeartbeats 8000000 in
theorem sg_X11_weeks_75 {E : Nat × (Nat → Int32)} {P : Option Value → Mem → Prop} {mem : Mem} {a1 : Int} {a2 : Int} {a3 : Int} {a4 : Int} {a5 : Int} {a6 : Int} {a7 : Int}
    (k1 : GM E (m_X11_weeks 7) P 89 [.ref 0, vi a1, vi a2, vi a3, vi a4, vi a5, vi a6, vi a7] [.ref 106] (up2 (up2 (up2 (up2 (up2 mem 106 6 0) 106 7 0) 106 8 0) 106 9 0) 106 10 0)) :
    GM E (m_X11_weeks 7) P 75 [.ref 0, vi a1, vi a2, vi a3, vi a4, vi a5, vi a6, vi a7] [] mem := by
  refine G_aload_n dX11_weeks_75 rfl ?_
  refine G_getR (t := 106) dX11_weeks_76 fl_11_74 (by decide) sh_0 rr_0_8 ?_
  refine G_iconst (z := 0) dX11_weeks_79 rfl ?_
  refine G_iconst (z := 0) dX11_weeks_80 rfl ?_
  refine G_iconst (z := 0) dX11_weeks_81 rfl ?_
  refine cb_X11_weeks_82 (ic_X4_start ?_)
  refine G_aload_n dX11_weeks_85 rfl ?_
  refine G_getR (t := 106) dX11_weeks_86 fl_11_74 (by decide) sh_0 rr_0_8 ?_
  exact k1
set_option maxRecDepth 20000 in
set_option maxHeartbeats 8000000 in
theorem sg_X11_weeks_92 {E : Nat × (Nat → Int32)} {P : Option Value → Mem → Prop} {mem : Mem} {a1 : Int} {a2 : Int} {a3 : Int} {a4 : Int} {a5 : Int} {a6 : Int} {a7 : Int} {s0 : Int} (w1 : -2147483648 ≤ s0 ∧ s0 < 2147483648) (w2 : -2147483648 ≤ a4 ∧ a4 < 2147483648) (w3 : -2147483648 ≤ a5 ∧ a5 < 2147483648) (w4 : ¬ s0 = 0 → a4 ≠ 0 → -2147483648 ≤ (mem 106 8) ∧ (mem 106 8) < 2147483648) (w5 : -2147483648 ≤ a6 ∧ a6 < 2147483648) (w6 : ¬ s0 = 0 → -2147483648 ≤ (mem 106 8) ∧ (mem 106 8) < 2147483648)
    (k1 : GM E (m_X11_weeks 7) P 57 [.ref 0, vi a1, vi a2, vi a3, vi (if s0 = 0 then a4 else (a4 + 1)), vi (if s0 = 0 then a5 else (if a4 ≠ 0 then (min a5 (mem 106 8)) else (mem 106 8))), vi (if s0 = 0 then a6 else (max a6 (mem 106 8))), vi (a7 + 1)] [] mem) :
    GM E (m_X11_weeks 7) P 92 [.ref 0, vi a1, vi a2, vi a3, vi a4, vi a5, vi a6, vi a7] [vi s0] mem := by
  have j1 : GM E (m_X11_weeks 7) P 141 [.ref 0, vi a1, vi a2, vi a3, vi (if s0 = 0 then a4 else (a4 + 1)), vi (if s0 = 0 then a5 else (if a4 ≠ 0 then (min a5 (mem 106 8)) else (mem 106 8))), vi (if s0 = 0 then a6 else (max a6 (mem 106 8))), vi a7] [] mem := by
    refine G_iinc (z := (a7 + 1)) dX11_weeks_141 rfl rfl (by decide : 7 < 8) rfl ?_
    refine G_goto (tgt := 57) dX11_weeks_144 (by decide) ?_
    exact k1
  refine G_if_eq (tgt := 141) dX11_weeks_92 (by decide) (w1) (fun c1 => ?_) (fun c1 => ?_)
  · -- s0 = 0
    have qj1 := j1
    simp only [if_pos c1] at qj1
    exact qj1
  · -- ¬ s0 = 0
    refine G_iload dX11_weeks_95 rfl ?_
    have j2 : GM E (m_X11_weeks 7) P 122 [.ref 0, vi a1, vi a2, vi a3, vi a4, vi a5, vi a6, vi a7] [vi (if a4 ≠ 0 then (min a5 (mem 106 8)) else (mem 106 8))] mem := by
      refine G_istore dX11_weeks_122 (by decide : 5 < 8) rfl ?_
      refine G_iload dX11_weeks_124 rfl ?_
      refine G_aload_n dX11_weeks_126 rfl ?_
      refine G_getR (t := 106) dX11_weeks_127 fl_11_74 (by decide) sh_0 rr_0_8 ?_
      refine G_getI (z := (mem 106 8)) dX11_weeks_130 fl_11_370 (by decide) sh_106 rfl ?_
      refine G_max (z := (max a6 (mem 106 8))) dX11_weeks_133 ml_11_397 mw_max (w5) (w6 c1) ⟨by show 1 ≤ 7; first | decide | omega, by show 21 ≤ 40 * 7; first | decide | omega, Nat.zero_le _, Nat.zero_le _⟩ (Nat.le_of_ble_eq_true rfl) rfl ?_
      refine G_istore dX11_weeks_136 (by decide : 6 < 8) rfl ?_
      refine G_iinc (z := (a4 + 1)) dX11_weeks_138 rfl rfl (by decide : 4 < 8) rfl ?_
      have qj1 := j1
      simp only [if_neg c1] at qj1
      exact qj1
    refine G_if_ne (tgt := 110) dX11_weeks_97 (by decide) (w2) (fun c2 => ?_) (fun c2 => ?_)
    · -- a4 ≠ 0
      refine G_iload dX11_weeks_110 rfl ?_
      refine G_aload_n dX11_weeks_112 rfl ?_
      refine G_getR (t := 106) dX11_weeks_113 fl_11_74 (by decide) sh_0 rr_0_8 ?_
      refine G_getI (z := (mem 106 8)) dX11_weeks_116 fl_11_370 (by decide) sh_106 rfl ?_
      refine G_min (z := (min a5 (mem 106 8))) dX11_weeks_119 ml_11_337 mw_min (w3) (w4 c1 c2) ⟨by show 1 ≤ 7; first | decide | omega, by show 21 ≤ 40 * 7; first | decide | omega, Nat.zero_le _, Nat.zero_le _⟩ (Nat.le_of_ble_eq_true rfl) rfl ?_
      have qj2 := j2
      simp only [if_pos c2] at qj2
      exact qj2
    · -- a4 = 0
      refine G_aload_n dX11_weeks_100 rfl ?_
      refine G_getR (t := 106) dX11_weeks_101 fl_11_74 (by decide) sh_0 rr_0_8 ?_
      refine G_getI (z := (mem 106 8)) dX11_weeks_104 fl_11_370 (by decide) sh_106 rfl ?_
      refine G_goto (tgt := 122) dX11_weeks_107 (by decide) ?_
      have qj2 := j2
      simp only [if_neg (show ¬ (a4 ≠ 0) from fun q => q c2)] at qj2
      exact qj2
set_option maxRecDepth 20000 in
set_option maxHeartbeats 8000000 in
theorem sg_X11_weighed_0 {E : Nat × (Nat → Int32)} {P : Option Value → Mem → Prop} {mem : Mem} {a1 : Int} {a2 : Int} (w1 : -2147483648 ≤ a2 ∧ a2 < 2147483648)
    (k1 : (bandI a1 (-(shlI 1 (mem 9 1)))) = 0 → a2 < 0 → P (some (vi (-1))) mem)
    (k2 : (bandI a1 (-(shlI 1 (mem 9 1)))) = 0 → ¬ a2 < 0 → a2 ≤ 9999 → GM E (m_X11_weighed 1) P 30 [.ref 0, vi a1, vi a2] [vi a2, vi a1, .ref 93] mem)
    (k3 : (bandI a1 (-(shlI 1 (mem 9 1)))) = 0 → ¬ a2 < 0 → ¬ a2 ≤ 9999 → P (some (vi (-1))) mem)
    (k4 : (bandI a1 (-(shlI 1 (mem 9 1)))) ≠ 0 → P (some (vi (-1))) mem) :
    GM E (m_X11_weighed 1) P 0 [.ref 0, vi a1, vi a2] [] mem := by
  refine G_aload_n dX11_weighed_0 rfl ?_
  refine G_getR (t := 9) dX11_weighed_1 fl_11_33 (by decide) sh_0 rr_0_3 ?_
  refine G_iload_n dX11_weighed_4 rfl ?_
  refine cb_X11_weighed_5 (ic_X10_hasAll (z := (mem 9 1)) rfl (fun c1 => ?_) (fun c2 => ?_))
  · -- (bandI a1 (-(shlI 1 (mem 9 1)))) = 0
    refine G_if_eq (tgt := 22) dX11_weighed_8 (by decide) (by decide) (fun h => absurd h (by decide)) (fun _ => ?_)
    refine G_iload_n dX11_weighed_11 rfl ?_
    refine G_if_lt (tgt := 22) dX11_weighed_12 (by decide) (w1) (fun c3 => ?_) (fun c3 => ?_)
    · -- a2 < 0
      refine G_iconst (z := (-1)) dX11_weighed_22 rfl ?_
      exact G_iret dX11_weighed_23 rfl (Nat.zero_le _) (Nat.zero_le _) (Nat.le_refl _) ⟨rfl, k1 c1 c3⟩
    · -- ¬ a2 < 0
      refine G_iload_n dX11_weighed_15 rfl ?_
      refine G_sipush (z := 9999) dX11_weighed_16 rfl ?_
      refine G_icmp_le (tgt := 24) dX11_weighed_19 (by decide) (w1) (by decide) (fun c4 => ?_) (fun c4 => ?_)
      · -- a2 ≤ 9999
        refine G_aload_n dX11_weighed_24 rfl ?_
        refine G_getR (t := 93) dX11_weighed_25 fl_11_56 (by decide) sh_0 rr_0_6 ?_
        refine G_iload_n dX11_weighed_28 rfl ?_
        refine G_iload_n dX11_weighed_29 rfl ?_
        exact k2 c1 c3 c4
      · -- ¬ a2 ≤ 9999
        refine G_iconst (z := (-1)) dX11_weighed_22 rfl ?_
        exact G_iret dX11_weighed_23 rfl (Nat.zero_le _) (Nat.zero_le _) (Nat.le_refl _) ⟨rfl, k3 c1 c3 c4⟩
  · -- (bandI a1 (-(shlI 1 (mem 9 1)))) ≠ 0
    refine G_if_eq (tgt := 22) dX11_weighed_8 (by decide) (by decide) (fun _ => ?_) (fun h => absurd h (by decide))
    refine G_iconst (z := (-1)) dX11_weighed_22 rfl ?_
    exact G_iret dX11_weighed_23 rfl (Nat.zero_le _) (Nat.zero_le _) (Nat.le_refl _) ⟨rfl, k4 c2⟩
set_option maxRecDepth 20000 in
set_option maxHeartbeats 8000000 in
theorem sg_X11_weighed_33 {E : Nat × (Nat → Int32)} {P : Option Value → Mem → Prop} {mem : Mem} {a1 : Int} {a2 : Int} {s0 : Int} (w1 : -2147483648 ≤ s0 ∧ s0 < 2147483648)
    (k1 : P (some (vi (if s0 = 0 then ((-1) : Int) else (mem 93 4)))) mem) :
    GM E (m_X11_weighed 1) P 33 [.ref 0, vi a1, vi a2] [vi s0] mem := by
  have j1 : GM E (m_X11_weighed 1) P 47 [.ref 0, vi a1, vi a2] [vi (if s0 = 0 then ((-1) : Int) else (mem 93 4))] mem := by
    exact G_iret dX11_weighed_47 rfl (Nat.zero_le _) (Nat.zero_le _) (Nat.le_refl _) ⟨rfl, k1⟩
  refine G_if_eq (tgt := 46) dX11_weighed_33 (by decide) (w1) (fun c1 => ?_) (fun c1 => ?_)
  · -- s0 = 0
    refine G_iconst (z := (-1)) dX11_weighed_46 rfl ?_
    have qj1 := j1
    simp only [if_pos c1] at qj1
    exact qj1
  · -- ¬ s0 = 0
    refine G_aload_n dX11_weighed_36 rfl ?_
    refine G_getR (t := 93) dX11_weighed_37 fl_11_56 (by decide) sh_0 rr_0_6 ?_
    refine G_getI (z := (mem 93 4)) dX11_weighed_40 fl_11_422 (by decide) sh_93 rfl ?_
    refine G_goto (tgt := 47) dX11_weighed_43 (by decide) ?_
    have qj1 := j1
    simp only [if_neg c1] at qj1
    exact qj1
