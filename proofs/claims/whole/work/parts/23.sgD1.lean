abbrev m_X11_act (d : Nat) : Mu := (cX11_act, 3, RX11, (some .int), ⟨d, 0, 0, 40 * d⟩, "act")
set_option maxRecDepth 20000 in
set_option maxHeartbeats 1000000 in
theorem sg_X11_act_0 {E : Nat × (Nat → Int32)} {d : Nat} {P : Option Value → Mem → Prop} {mem : Mem} {a1 : Int}
    (k1 : (divI a1 10000) = 0 → GM E (m_X11_act d) P 42 [.ref 0, vi a1, vi (remI a1 10000)] [vi (remI a1 10000), .ref 0] mem)
    (k2 : ¬ (divI a1 10000) = 0 → (divI a1 10000) = 1 → GM E (m_X11_act d) P 55 [.ref 0, vi a1, vi (remI a1 10000)] [vi (remI (remI a1 10000) 10), vi (divI (remI a1 10000) 10), .ref 0] mem)
    (k3 : ¬ (divI a1 10000) = 0 → ¬ (divI a1 10000) = 1 → (divI a1 10000) = 2 → GM E (m_X11_act d) P 60 [.ref 0, vi a1, vi (remI a1 10000)] [.ref 0] mem)
    (k4 : ¬ (divI a1 10000) = 0 → ¬ (divI a1 10000) = 1 → ¬ (divI a1 10000) = 2 → (divI a1 10000) = 3 → GM E (m_X11_act d) P 66 [.ref 0, vi a1, vi (remI a1 10000)] [vi (remI a1 10000), .ref 0] mem)
    (k5 : ¬ (divI a1 10000) = 0 → ¬ (divI a1 10000) = 1 → ¬ (divI a1 10000) = 2 → ¬ (divI a1 10000) = 3 → P (some (vi (-1))) mem) :
    GM E (m_X11_act d) P 0 [.ref 0, vi a1, un] [] mem := by
  refine G_iload_n dX11_act_0 rfl ?_
  refine G_sipush (z := 10000) dX11_act_1 rfl ?_
  refine G_irem (z := (remI a1 10000)) dX11_act_4 (iI_ne0 (by decide) (by decide)) (iI_inv _) ?_
  refine G_istore_n dX11_act_5 rfl (by decide : 2 < 3) rfl ?_
  refine G_iload_n dX11_act_6 rfl ?_
  refine G_sipush (z := 10000) dX11_act_7 rfl ?_
  refine G_idiv (z := (divI a1 10000)) dX11_act_10 (iI_ne0 (by decide) (by decide)) (iI_inv _) ?_
  by_cases c1 : (divI a1 10000) = 0
  · refine G_tableIn (off := 29) (tgt := 40) dX11_act_11 (iI_rng _) (by omega) (by omega) (by rw [c1]; rfl) (by decide) ?_
    refine G_aload_n dX11_act_40 rfl ?_
    refine G_iload_n dX11_act_41 rfl ?_
    exact k1 c1
  by_cases c2 : (divI a1 10000) = 1
  · refine G_tableIn (off := 35) (tgt := 46) dX11_act_11 (iI_rng _) (by omega) (by omega) (by rw [c2]; rfl) (by decide) ?_
    refine G_aload_n dX11_act_46 rfl ?_
    refine G_iload_n dX11_act_47 rfl ?_
    refine G_bipush (z := 10) dX11_act_48 rfl ?_
    refine G_idiv (z := (divI (remI a1 10000) 10)) dX11_act_50 (iI_ne0 (by decide) (by decide)) (iI_inv _) ?_
    refine G_iload_n dX11_act_51 rfl ?_
    refine G_bipush (z := 10) dX11_act_52 rfl ?_
    refine G_irem (z := (remI (remI a1 10000) 10)) dX11_act_54 (iI_ne0 (by decide) (by decide)) (iI_inv _) ?_
    exact k2 c1 c2
  by_cases c3 : (divI a1 10000) = 2
  · refine G_tableIn (off := 48) (tgt := 59) dX11_act_11 (iI_rng _) (by omega) (by omega) (by rw [c3]; rfl) (by decide) ?_
    refine G_aload_n dX11_act_59 rfl ?_
    exact k3 c1 c2 c3
  by_cases c4 : (divI a1 10000) = 3
  · refine G_tableIn (off := 53) (tgt := 64) dX11_act_11 (iI_rng _) (by omega) (by omega) (by rw [c4]; rfl) (by decide) ?_
    refine G_aload_n dX11_act_64 rfl ?_
    refine G_iload_n dX11_act_65 rfl ?_
    exact k4 c1 c2 c3 c4
  refine G_tableOut (tgt := 70) dX11_act_11 (iI_rng _) (by omega) (by decide) ?_
  refine G_iconst (z := (-1)) dX11_act_70 rfl ?_
  exact G_iret dX11_act_71 rfl (Nat.zero_le _) (Nat.zero_le _) (Nat.le_refl _) ⟨rfl, k5 c1 c2 c3 c4⟩
set_option maxRecDepth 20000 in
set_option maxHeartbeats 1000000 in
theorem sg_X11_act_45 {E : Nat × (Nat → Int32)} {d : Nat} {P : Option Value → Mem → Prop} {mem : Mem} {a1 : Int} {a2 : Int} {s0 : Int}
    (k1 : P (some (vi s0)) mem) :
    GM E (m_X11_act d) P 45 [.ref 0, vi a1, vi a2] [vi s0] mem := by
  exact G_iret dX11_act_45 rfl (Nat.zero_le _) (Nat.zero_le _) (Nat.le_refl _) ⟨rfl, k1⟩
set_option maxRecDepth 20000 in
set_option maxHeartbeats 1000000 in
theorem sg_X11_act_58 {E : Nat × (Nat → Int32)} {d : Nat} {P : Option Value → Mem → Prop} {mem : Mem} {a1 : Int} {a2 : Int} {s0 : Int}
    (k1 : P (some (vi s0)) mem) :
    GM E (m_X11_act d) P 58 [.ref 0, vi a1, vi a2] [vi s0] mem := by
  exact G_iret dX11_act_58 rfl (Nat.zero_le _) (Nat.zero_le _) (Nat.le_refl _) ⟨rfl, k1⟩
set_option maxRecDepth 20000 in
set_option maxHeartbeats 1000000 in
theorem sg_X11_act_63 {E : Nat × (Nat → Int32)} {d : Nat} {P : Option Value → Mem → Prop} {mem : Mem} {a1 : Int} {a2 : Int} {s0 : Int}
    (k1 : P (some (vi s0)) mem) :
    GM E (m_X11_act d) P 63 [.ref 0, vi a1, vi a2] [vi s0] mem := by
  exact G_iret dX11_act_63 rfl (Nat.zero_le _) (Nat.zero_le _) (Nat.le_refl _) ⟨rfl, k1⟩
set_option maxRecDepth 20000 in
set_option maxHeartbeats 1000000 in
theorem sg_X11_act_69 {E : Nat × (Nat → Int32)} {d : Nat} {P : Option Value → Mem → Prop} {mem : Mem} {a1 : Int} {a2 : Int} {s0 : Int}
    (k1 : P (some (vi s0)) mem) :
    GM E (m_X11_act d) P 69 [.ref 0, vi a1, vi a2] [vi s0] mem := by
  exact G_iret dX11_act_69 rfl (Nat.zero_le _) (Nat.zero_le _) (Nat.le_refl _) ⟨rfl, k1⟩
abbrev m_X11_again (d : Nat) : Mu := (cX11_again, 2, RX11, (some .boolean), ⟨d, 0, 0, 40 * d⟩, "again")
set_option maxRecDepth 20000 in
set_option maxHeartbeats 1000000 in
theorem sg_X11_again_0 {E : Nat × (Nat → Int32)} {d : Nat} {P : Option Value → Mem → Prop} {mem : Mem} {a1 : Int} (w1 : -2147483648 ≤ a1 ∧ a1 < 2147483648) (w2 : ¬ a1 < 0 → ¬ 3 ≤ a1 → -2147483648 ≤ (mem 166 a1) ∧ (mem 166 a1) < 2147483648) (w3 : ¬ a1 < 0 → ¬ 3 ≤ a1 → -2147483648 ≤ (mem 9 1) ∧ (mem 9 1) < 2147483648)
    (k1 : a1 < 0 → P (some (vi 0)) mem)
    (k2 : ¬ a1 < 0 → 3 ≤ a1 → P (some (vi 0)) mem)
    (k3 : ¬ a1 < 0 → ¬ 3 ≤ a1 → (mem 166 a1) ≠ (mem 9 1) → P (some (vi 0)) mem)
    (k4 : ¬ a1 < 0 → ¬ 3 ≤ a1 → (mem 166 a1) = (mem 9 1) → GM E (m_X11_again d) P 43 [.ref 0, vi a1] [vi 0, .ref 3, vi (mem (154 + 4 * (a1).toNat) 3)] mem) :
    GM E (m_X11_again d) P 0 [.ref 0, vi a1] [] mem := by
  refine G_iload_n dX11_again_0 rfl ?_
  refine G_if_lt (tgt := 49) dX11_again_1 (by decide) (w1) (fun c1 => ?_) (fun c1 => ?_)
  · -- a1 < 0
    refine G_iconst (z := 0) dX11_again_49 rfl ?_
    exact G_zret dX11_again_50 rfl (nar_zb (by decide)) (Nat.zero_le _) (Nat.zero_le _) (Nat.le_refl _) ⟨rfl, k1 c1⟩
  · -- ¬ a1 < 0
    refine G_iload_n dX11_again_4 rfl ?_
    refine G_aload_n dX11_again_5 rfl ?_
    refine G_getR (t := 153) dX11_again_6 fl_11_87 (by decide) sh_0 rr_0_10 ?_
    refine G_alen (z := 3) dX11_again_9 (by decide) sh_153 (by decide) rfl ?_
    refine G_icmp_ge (tgt := 49) dX11_again_10 (by decide) (w1) (by decide) (fun c2 => ?_) (fun c2 => ?_)
    · -- 3 ≤ a1
      refine G_iconst (z := 0) dX11_again_49 rfl ?_
      exact G_zret dX11_again_50 rfl (nar_zb (by decide)) (Nat.zero_le _) (Nat.zero_le _) (Nat.le_refl _) ⟨rfl, k2 c1 c2⟩
    · -- ¬ 3 ≤ a1
      refine G_aload_n dX11_again_13 rfl ?_
      refine G_getR (t := 166) dX11_again_14 fl_11_91 (by decide) sh_0 rr_0_11 ?_
      refine G_iload_n dX11_again_17 rfl ?_
      refine G_iald (z := (mem 166 a1)) dX11_again_18 (by decide) sh_166 (by decide) (by omega) (by omega) rfl ?_
      refine G_aload_n dX11_again_19 rfl ?_
      refine G_getR (t := 9) dX11_again_20 fl_11_33 (by decide) sh_0 rr_0_3 ?_
      refine G_getI (z := (mem 9 1)) dX11_again_23 fl_11_113 (by decide) sh_9 rfl ?_
      refine G_icmp_ne (tgt := 49) dX11_again_26 (by decide) (w2 c1 c2) (w3 c1 c2) (fun c3 => ?_) (fun c3 => ?_)
      · -- (mem 166 a1) ≠ (mem 9 1)
        refine G_iconst (z := 0) dX11_again_49 rfl ?_
        exact G_zret dX11_again_50 rfl (nar_zb (by decide)) (Nat.zero_le _) (Nat.zero_le _) (Nat.le_refl _) ⟨rfl, k3 c1 c2 c3⟩
      · -- (mem 166 a1) = (mem 9 1)
        refine G_aload_n dX11_again_29 rfl ?_
        refine G_getR (t := 153) dX11_again_30 fl_11_87 (by decide) sh_0 rr_0_10 ?_
        refine G_iload_n dX11_again_33 rfl ?_
        refine G_aald4S (t := (154 + 4 * (a1).toNat)) dX11_again_34 (by decide) sh_153 (by decide) (by omega) (by omega) (rr_kept (by omega) (by omega)) ?_
        refine G_getI (z := (mem (154 + 4 * (a1).toNat) 3)) dX11_again_35 fl_11_203 (ltState0 (keptL_of (by omega) (by omega))) (shState0 (keptL_of (by omega) (by omega))) rfl ?_
        refine G_aload_n dX11_again_38 rfl ?_
        refine G_getR (t := 3) dX11_again_39 fl_11_19 (by decide) sh_0 rr_0_1 ?_
        refine G_iconst (z := 0) dX11_again_42 rfl ?_
        exact k4 c1 c2 c3
set_option maxRecDepth 20000 in
set_option maxHeartbeats 1000000 in
theorem sg_X11_again_46 {E : Nat × (Nat → Int32)} {d : Nat} {P : Option Value → Mem → Prop} {mem : Mem} {a1 : Int} {s0 : Int} {s1 : Int} (w1 : -2147483648 ≤ s1 ∧ s1 < 2147483648) (w2 : -2147483648 ≤ s0 ∧ s0 < 2147483648) (q3 : s1 ≤ s0 → 0 ≤ a1 ∧ a1 < 3)
    (k1 : s1 ≤ s0 → GM E (m_X11_again d) P 61 [.ref 0, vi a1] [.ref (154 + 4 * (a1).toNat), .ref 23] mem)
    (k2 : ¬ s1 ≤ s0 → P (some (vi 0)) mem) :
    GM E (m_X11_again d) P 46 [.ref 0, vi a1] [vi s0, vi s1] mem := by
  refine G_icmp_le (tgt := 51) dX11_again_46 (by decide) (w1) (w2) (fun c1 => ?_) (fun c1 => ?_)
  · -- s1 ≤ s0
    refine G_aload_n dX11_again_51 rfl ?_
    refine G_getR (t := 23) dX11_again_52 fl_11_40 (by decide) sh_0 rr_0_4 ?_
    refine G_aload_n dX11_again_55 rfl ?_
    refine G_getR (t := 153) dX11_again_56 fl_11_87 (by decide) sh_0 rr_0_10 ?_
    refine G_iload_n dX11_again_59 rfl ?_
    refine G_aald4S (t := (154 + 4 * (a1).toNat)) dX11_again_60 (by decide) sh_153 (by decide) (q3 c1).1 (q3 c1).2 (rr_kept (q3 c1).1 (q3 c1).2) ?_
    exact k1 c1
  · -- ¬ s1 ≤ s0
    refine G_iconst (z := 0) dX11_again_49 rfl ?_
    exact G_zret dX11_again_50 rfl (nar_zb (by decide)) (Nat.zero_le _) (Nat.zero_le _) (Nat.le_refl _) ⟨rfl, k2 c1⟩
set_option maxRecDepth 20000 in
set_option maxHeartbeats 1000000 in
theorem sg_X11_again_64 {E : Nat × (Nat → Int32)} {d : Nat} {P : Option Value → Mem → Prop} {mem : Mem} {a1 : Int}
    (k1 : GM E (m_X11_again d) P 68 [.ref 0, vi a1] [.ref 27] mem) :
    GM E (m_X11_again d) P 64 [.ref 0, vi a1] [] mem := by
  refine G_aload_n dX11_again_64 rfl ?_
  refine G_getR (t := 27) dX11_again_65 fl_11_47 (by decide) sh_0 rr_0_5 ?_
  exact k1
set_option maxRecDepth 20000 in
set_option maxHeartbeats 1000000 in
theorem sg_X11_again_71 {E : Nat × (Nat → Int32)} {d : Nat} {P : Option Value → Mem → Prop} {mem : Mem} {a1 : Int}
    (k1 : P (some (vi 1)) mem) :
    GM E (m_X11_again d) P 71 [.ref 0, vi a1] [] mem := by
  refine G_iconst (z := 1) dX11_again_71 rfl ?_
  exact G_zret dX11_again_72 rfl (nar_zb (by decide)) (Nat.zero_le _) (Nat.zero_le _) (Nat.le_refl _) ⟨rfl, k1⟩
abbrev m_X11_best (d : Nat) : Mu := (cX11_best, 4, RX11, (some .int), ⟨d, 0, 0, 40 * d⟩, "best")
set_option maxRecDepth 20000 in
set_option maxHeartbeats 1000000 in
theorem sg_X11_best_0 {E : Nat × (Nat → Int32)} {d : Nat} {P : Option Value → Mem → Prop} {mem : Mem} {a1 : Int}
    (k1 : GM E (m_X11_best d) P 5 [.ref 0, vi a1, un, un] [vi a1, .ref 9] mem) :
    GM E (m_X11_best d) P 0 [.ref 0, vi a1, un, un] [] mem := by
  refine G_aload_n dX11_best_0 rfl ?_
  refine G_getR (t := 9) dX11_best_1 fl_11_33 (by decide) sh_0 rr_0_3 ?_
  refine G_iload_n dX11_best_4 rfl ?_
  exact k1
set_option maxRecDepth 20000 in
set_option maxHeartbeats 1000000 in
theorem sg_X11_best_8n {E : Nat × (Nat → Int32)} {d : Nat} {P : Option Value → Mem → Prop} {mem : Mem} {a1 : Int}
    (k1 : P (some (vi (-1))) mem) :
    GM E (m_X11_best d) P 8 [.ref 0, vi a1, un, un] [.null] mem := by
  refine G_astoreNull_n dX11_best_8 rfl (by decide : 2 < 4) rfl ?_
  refine G_aloadNull_n dX11_best_9 rfl ?_
  refine G_ifnonnullZ dX11_best_10 ?_
  refine G_iconst (z := (-1)) dX11_best_13 rfl ?_
  exact G_iret dX11_best_14 rfl (Nat.zero_le _) (Nat.zero_le _) (Nat.le_refl _) ⟨rfl, k1⟩
set_option maxRecDepth 20000 in
set_option maxHeartbeats 1000000 in
theorem sg_X11_best_8r {E : Nat × (Nat → Int32)} {d : Nat} {P : Option Value → Mem → Prop} {mem : Mem} {a1 : Int} {os0 : Nat} (hos0 : os0 ∈ streetL)
    (k1 : GM E (m_X11_best d) P 24 [.ref 0, vi a1, .ref os0, un] [vi 1, .ref 3, .ref 100] mem) :
    GM E (m_X11_best d) P 8 [.ref 0, vi a1, un, un] [.ref os0] mem := by
  refine G_astore_n dX11_best_8 rfl (by decide : 2 < 4) rfl ?_
  refine G_aload_n dX11_best_9 rfl ?_
  refine G_ifnonnull (tgt := 15) dX11_best_10 (by decide) ?_
  refine G_aload_n dX11_best_15 rfl ?_
  refine G_getR (t := 100) dX11_best_16 fl_11_65 (by decide) sh_0 rr_0_7 ?_
  refine G_aload_n dX11_best_19 rfl ?_
  refine G_getR (t := 3) dX11_best_20 fl_11_19 (by decide) sh_0 rr_0_1 ?_
  refine G_iconst (z := 1) dX11_best_23 rfl ?_
  exact k1
set_option maxRecDepth 20000 in
set_option maxHeartbeats 1000000 in
theorem sg_X11_best_27 {E : Nat × (Nat → Int32)} {d : Nat} {P : Option Value → Mem → Prop} {mem : Mem} {a1 : Int} {o2 : Nat} {s0 : Int} (ho2 : o2 ∈ streetL)
    (k1 : GM E (m_X11_best d) P 31 [.ref 0, vi a1, .ref o2, un] [vi (mem o2 4), vi s0, .ref 100] mem) :
    GM E (m_X11_best d) P 27 [.ref 0, vi a1, .ref o2, un] [vi s0, .ref 100] mem := by
  refine G_aload_n dX11_best_27 rfl ?_
  refine G_getI (z := (mem o2 4)) dX11_best_28 fl_11_152 (ltStreet0 ho2) (shStreet0 ho2) rfl ?_
  exact k1
set_option maxRecDepth 20000 in
set_option maxHeartbeats 1000000 in
theorem sg_X11_best_34 {E : Nat × (Nat → Int32)} {d : Nat} {P : Option Value → Mem → Prop} {mem : Mem} {a1 : Int} {o2 : Nat} (ho2 : o2 ∈ streetL)
    (k1 : GM E (m_X11_best d) P 44 [.ref 0, vi a1, .ref o2, un] [vi a1, .ref 23, .ref o2, .ref 100] mem) :
    GM E (m_X11_best d) P 34 [.ref 0, vi a1, .ref o2, un] [] mem := by
  refine G_aload_n dX11_best_34 rfl ?_
  refine G_getR (t := 100) dX11_best_35 fl_11_65 (by decide) sh_0 rr_0_7 ?_
  refine G_aload_n dX11_best_38 rfl ?_
  refine G_aload_n dX11_best_39 rfl ?_
  refine G_getR (t := 23) dX11_best_40 fl_11_40 (by decide) sh_0 rr_0_4 ?_
  refine G_iload_n dX11_best_43 rfl ?_
  exact k1
set_option maxRecDepth 20000 in
set_option maxHeartbeats 1000000 in
theorem sg_X11_best_47 {E : Nat × (Nat → Int32)} {d : Nat} {P : Option Value → Mem → Prop} {mem : Mem} {a1 : Int} {o2 : Nat} {s0 : Int} (ho2 : o2 ∈ streetL)
    (k1 : GM E (m_X11_best d) P 47 [.ref 0, vi a1, .ref o2, un] [vi s0, .ref o2, .ref 100] mem) :
    GM E (m_X11_best d) P 47 [.ref 0, vi a1, .ref o2, un] [vi s0, .ref o2, .ref 100] mem := by
  exact k1
set_option maxRecDepth 20000 in
set_option maxHeartbeats 1000000 in
theorem sg_X11_best_50 {E : Nat × (Nat → Int32)} {d : Nat} {P : Option Value → Mem → Prop} {mem : Mem} {a1 : Int} {o2 : Nat} {s0 : Int} (ho2 : o2 ∈ streetL)
    (k1 : GM E (m_X11_best d) P 57 [.ref 0, vi a1, .ref o2, vi s0] [vi 0, .ref 100, .ref 0] mem) :
    GM E (m_X11_best d) P 50 [.ref 0, vi a1, .ref o2, un] [vi s0] mem := by
  refine G_istore_n dX11_best_50 rfl (by decide : 3 < 4) rfl ?_
  refine G_aload_n dX11_best_51 rfl ?_
  refine G_aload_n dX11_best_52 rfl ?_
  refine G_getR (t := 100) dX11_best_53 fl_11_65 (by decide) sh_0 rr_0_7 ?_
  refine G_iconst (z := 0) dX11_best_56 rfl ?_
  exact k1
set_option maxRecDepth 20000 in
set_option maxHeartbeats 1000000 in
theorem sg_X11_best_60 {E : Nat × (Nat → Int32)} {d : Nat} {P : Option Value → Mem → Prop} {mem : Mem} {a1 : Int} {o2 : Nat} {a3 : Int} {s0 : Int} (ho2 : o2 ∈ streetL) (w1 : -2147483648 ≤ s0 ∧ s0 < 2147483648)
    (k1 : GM E (m_X11_best d) P 61 [.ref 0, vi a1, .ref o2, vi a3] [vl s0, .ref 0] mem) :
    GM E (m_X11_best d) P 60 [.ref 0, vi a1, .ref o2, vi a3] [vi s0, .ref 0] mem := by
  refine G_i2l dX11_best_60 (w1) ?_
  exact k1
set_option maxRecDepth 20000 in
set_option maxHeartbeats 1000000 in
theorem sg_X11_best_64 {E : Nat × (Nat → Int32)} {d : Nat} {P : Option Value → Mem → Prop} {mem : Mem} {a1 : Int} {o2 : Nat} {a3 : Int} (ho2 : o2 ∈ streetL)
    (k1 : GM E (m_X11_best d) P 70 [.ref 0, vi a1, .ref o2, vi a3] [vi 1, .ref 100, .ref 0] mem) :
    GM E (m_X11_best d) P 64 [.ref 0, vi a1, .ref o2, vi a3] [] mem := by
  refine G_aload_n dX11_best_64 rfl ?_
  refine G_aload_n dX11_best_65 rfl ?_
  refine G_getR (t := 100) dX11_best_66 fl_11_65 (by decide) sh_0 rr_0_7 ?_
  refine G_iconst (z := 1) dX11_best_69 rfl ?_
  exact k1
set_option maxRecDepth 20000 in
set_option maxHeartbeats 1000000 in
theorem sg_X11_best_73 {E : Nat × (Nat → Int32)} {d : Nat} {P : Option Value → Mem → Prop} {mem : Mem} {a1 : Int} {o2 : Nat} {a3 : Int} {s0 : Int} (ho2 : o2 ∈ streetL) (w1 : -2147483648 ≤ s0 ∧ s0 < 2147483648)
    (k1 : GM E (m_X11_best d) P 74 [.ref 0, vi a1, .ref o2, vi a3] [vl s0, .ref 0] mem) :
    GM E (m_X11_best d) P 73 [.ref 0, vi a1, .ref o2, vi a3] [vi s0, .ref 0] mem := by
  refine G_i2l dX11_best_73 (w1) ?_
  exact k1
set_option maxRecDepth 20000 in
set_option maxHeartbeats 1000000 in
theorem sg_X11_best_77 {E : Nat × (Nat → Int32)} {d : Nat} {P : Option Value → Mem → Prop} {mem : Mem} {a1 : Int} {o2 : Nat} {a3 : Int} (ho2 : o2 ∈ streetL)
    (k1 : GM E (m_X11_best d) P 83 [.ref 0, vi a1, .ref o2, vi a3] [vi 2, .ref 100, .ref 0] mem) :
    GM E (m_X11_best d) P 77 [.ref 0, vi a1, .ref o2, vi a3] [] mem := by
  refine G_aload_n dX11_best_77 rfl ?_
  refine G_aload_n dX11_best_78 rfl ?_
  refine G_getR (t := 100) dX11_best_79 fl_11_65 (by decide) sh_0 rr_0_7 ?_
  refine G_iconst (z := 2) dX11_best_82 rfl ?_
  exact k1
set_option maxRecDepth 20000 in
set_option maxHeartbeats 1000000 in
theorem sg_X11_best_86 {E : Nat × (Nat → Int32)} {d : Nat} {P : Option Value → Mem → Prop} {mem : Mem} {a1 : Int} {o2 : Nat} {a3 : Int} {s0 : Int} (ho2 : o2 ∈ streetL) (w1 : -2147483648 ≤ s0 ∧ s0 < 2147483648)
    (k1 : GM E (m_X11_best d) P 87 [.ref 0, vi a1, .ref o2, vi a3] [vl s0, .ref 0] mem) :
    GM E (m_X11_best d) P 86 [.ref 0, vi a1, .ref o2, vi a3] [vi s0, .ref 0] mem := by
  refine G_i2l dX11_best_86 (w1) ?_
  exact k1
set_option maxRecDepth 20000 in
set_option maxHeartbeats 1000000 in
theorem sg_X11_best_90 {E : Nat × (Nat → Int32)} {d : Nat} {P : Option Value → Mem → Prop} {mem : Mem} {a1 : Int} {o2 : Nat} {a3 : Int} (ho2 : o2 ∈ streetL)
    (k1 : P (some (vi a3)) mem) :
    GM E (m_X11_best d) P 90 [.ref 0, vi a1, .ref o2, vi a3] [] mem := by
  refine G_iload_n dX11_best_90 rfl ?_
  exact G_iret dX11_best_91 rfl (Nat.zero_le _) (Nat.zero_le _) (Nat.le_refl _) ⟨rfl, k1⟩
abbrev m_X11_bin (d : Nat) : Mu := (cX11_bin, 7, RX11, (some .int), ⟨d, 0, 0, 40 * d⟩, "bin")
set_option maxRecDepth 20000 in
set_option maxHeartbeats 1000000 in
theorem sg_X11_bin_0 {E : Nat × (Nat → Int32)} {d : Nat} {P : Option Value → Mem → Prop} {mem : Mem} {a1 : Int} {a2 : Int} {a3 : Int} {a4 : Int}
    (k1 : GM E (m_X11_bin d) P 5 [.ref 0, vi a1, vi a2, vi a3, vi a4, un, un] [vi a1, .ref 9] mem) :
    GM E (m_X11_bin d) P 0 [.ref 0, vi a1, vi a2, vi a3, vi a4, un, un] [] mem := by
  refine G_aload_n dX11_bin_0 rfl ?_
  refine G_getR (t := 9) dX11_bin_1 fl_11_33 (by decide) sh_0 rr_0_3 ?_
  refine G_iload_n dX11_bin_4 rfl ?_
  exact k1
set_option maxRecDepth 20000 in
set_option maxHeartbeats 1000000 in
theorem sg_X11_bin_8n {E : Nat × (Nat → Int32)} {d : Nat} {P : Option Value → Mem → Prop} {mem : Mem} {a1 : Int} {a2 : Int} {a3 : Int} {a4 : Int}
    (k1 : GM E (m_X11_bin d) P 37 [.ref 0, vi a1, vi a2, vi a3, vi a4, .null, un] [] mem) :
    GM E (m_X11_bin d) P 8 [.ref 0, vi a1, vi a2, vi a3, vi a4, un, un] [.null] mem := by
  refine G_astoreNull dX11_bin_8 (by decide : 5 < 7) rfl ?_
  refine G_aloadNull dX11_bin_10 rfl ?_
  refine G_ifnullZ (tgt := 37) dX11_bin_12 (by decide) ?_
  exact k1
set_option maxRecDepth 20000 in
set_option maxHeartbeats 1000000 in
theorem sg_X11_bin_8r {E : Nat × (Nat → Int32)} {d : Nat} {P : Option Value → Mem → Prop} {mem : Mem} {a1 : Int} {a2 : Int} {a3 : Int} {a4 : Int} {os0 : Nat} (hos0 : os0 ∈ streetL) (w1 : -2147483648 ≤ a2 ∧ a2 < 2147483648) (w2 : -2147483648 ≤ a3 ∧ a3 < 2147483648) (w3 : ¬ a2 < 0 → ¬ 1 < a2 → ¬ a3 < 0 → -2147483648 ≤ (mem os0 3) ∧ (mem os0 3) < 2147483648) (w4 : -2147483648 ≤ a4 ∧ a4 < 2147483648)
    (k1 : a2 < 0 → GM E (m_X11_bin d) P 37 [.ref 0, vi a1, vi a2, vi a3, vi a4, .ref os0, un] [] mem)
    (k2 : ¬ a2 < 0 → 1 < a2 → GM E (m_X11_bin d) P 37 [.ref 0, vi a1, vi a2, vi a3, vi a4, .ref os0, un] [] mem)
    (k3 : ¬ a2 < 0 → ¬ 1 < a2 → a3 < 0 → GM E (m_X11_bin d) P 37 [.ref 0, vi a1, vi a2, vi a3, vi a4, .ref os0, un] [] mem)
    (k4 : ¬ a2 < 0 → ¬ 1 < a2 → ¬ a3 < 0 → a3 < (mem os0 3) → a4 = 0 → GM E (m_X11_bin d) P 92 [.ref 0, vi a1, vi a2, vi a3, vi a4, .ref os0, vi ((a2 * 8) + a3)] [vi ((a2 * 8) + a3), .ref os0] mem)
    (k5 : ¬ a2 < 0 → ¬ 1 < a2 → ¬ a3 < 0 → a3 < (mem os0 3) → ¬ a4 = 0 → a4 = 1 → GM E (m_X11_bin d) P 104 [.ref 0, vi a1, vi a2, vi a3, vi a4, .ref os0, vi ((a2 * 8) + a3)] [vi ((a2 * 8) + a3), .ref os0, .ref 3] mem)
    (k6 : ¬ a2 < 0 → ¬ 1 < a2 → ¬ a3 < 0 → a3 < (mem os0 3) → ¬ a4 = 0 → ¬ a4 = 1 → a4 = 2 → GM E (m_X11_bin d) P 126 [.ref 0, vi a1, vi a2, vi a3, vi a4, .ref os0, vi ((a2 * 8) + a3)] [vi ((a2 * 8) + a3), vi a1, .ref 23] mem)
    (k7 : ¬ a2 < 0 → ¬ 1 < a2 → ¬ a3 < 0 → a3 < (mem os0 3) → ¬ a4 = 0 → ¬ a4 = 1 → ¬ a4 = 2 → a4 = 3 → GM E (m_X11_bin d) P 139 [.ref 0, vi a1, vi a2, vi a3, vi a4, .ref os0, vi ((a2 * 8) + a3)] [vi 1, .ref 3, .ref 100] mem)
    (k8 : ¬ a2 < 0 → ¬ 1 < a2 → ¬ a3 < 0 → a3 < (mem os0 3) → ¬ a4 = 0 → ¬ a4 = 1 → ¬ a4 = 2 → ¬ a4 = 3 → GM E (m_X11_bin d) P 163 [.ref 0, vi a1, vi a2, vi a3, vi a4, .ref os0, vi ((a2 * 8) + a3)] [] mem)
    (k9 : ¬ a2 < 0 → ¬ 1 < a2 → ¬ a3 < 0 → ¬ a3 < (mem os0 3) → GM E (m_X11_bin d) P 37 [.ref 0, vi a1, vi a2, vi a3, vi a4, .ref os0, un] [] mem) :
    GM E (m_X11_bin d) P 8 [.ref 0, vi a1, vi a2, vi a3, vi a4, un, un] [.ref os0] mem := by
  refine G_astore dX11_bin_8 (by decide : 5 < 7) rfl ?_
  refine G_aload dX11_bin_10 rfl ?_
  refine G_ifnull dX11_bin_12 ?_
  refine G_iload_n dX11_bin_15 rfl ?_
  refine G_if_lt (tgt := 37) dX11_bin_16 (by decide) (w1) (fun c1 => ?_) (fun c1 => ?_)
  · -- a2 < 0
    exact k1 c1
  · -- ¬ a2 < 0
    refine G_iload_n dX11_bin_19 rfl ?_
    refine G_iconst (z := 1) dX11_bin_20 rfl ?_
    refine G_icmp_gt (tgt := 37) dX11_bin_21 (by decide) (w1) (by decide) (fun c2 => ?_) (fun c2 => ?_)
    · -- 1 < a2
      exact k2 c1 c2
    · -- ¬ 1 < a2
      refine G_iload_n dX11_bin_24 rfl ?_
      refine G_if_lt (tgt := 37) dX11_bin_25 (by decide) (w2) (fun c3 => ?_) (fun c3 => ?_)
      · -- a3 < 0
        exact k3 c1 c2 c3
      · -- ¬ a3 < 0
        refine G_iload_n dX11_bin_28 rfl ?_
        refine G_aload dX11_bin_29 rfl ?_
        refine G_getI (z := (mem os0 3)) dX11_bin_31 fl_11_149 (ltStreet0 hos0) (shStreet0 hos0) rfl ?_
        refine G_icmp_lt (tgt := 47) dX11_bin_34 (by decide) (w2) (w3 c1 c2 c3) (fun c4 => ?_) (fun c4 => ?_)
        · -- a3 < (mem os0 3)
          refine G_iload_n dX11_bin_47 rfl ?_
          refine G_bipush (z := 8) dX11_bin_48 rfl ?_
          refine G_imul dX11_bin_50 ?_
          refine G_iload_n dX11_bin_51 rfl ?_
          refine G_iadd dX11_bin_52 ?_
          refine G_istore dX11_bin_53 (by decide : 6 < 7) rfl ?_
          refine G_iload dX11_bin_55 rfl ?_
          by_cases c5 : a4 = 0
          · refine G_tableIn (off := 31) (tgt := 88) dX11_bin_57 (w4) (by omega) (by omega) (by rw [c5]; rfl) (by decide) ?_
            refine G_aload dX11_bin_88 rfl ?_
            refine G_iload dX11_bin_90 rfl ?_
            exact k4 c1 c2 c3 c4 c5
          by_cases c6 : a4 = 1
          · refine G_tableIn (off := 39) (tgt := 96) dX11_bin_57 (w4) (by omega) (by omega) (by rw [c6]; rfl) (by decide) ?_
            refine G_aload_n dX11_bin_96 rfl ?_
            refine G_getR (t := 3) dX11_bin_97 fl_11_19 (by decide) sh_0 rr_0_1 ?_
            refine G_aload dX11_bin_100 rfl ?_
            refine G_iload dX11_bin_102 rfl ?_
            exact k5 c1 c2 c3 c4 c5 c6
          by_cases c7 : a4 = 2
          · refine G_tableIn (off := 62) (tgt := 119) dX11_bin_57 (w4) (by omega) (by omega) (by rw [c7]; rfl) (by decide) ?_
            refine G_aload_n dX11_bin_119 rfl ?_
            refine G_getR (t := 23) dX11_bin_120 fl_11_40 (by decide) sh_0 rr_0_4 ?_
            refine G_iload_n dX11_bin_123 rfl ?_
            refine G_iload dX11_bin_124 rfl ?_
            exact k6 c1 c2 c3 c4 c5 c6 c7
          by_cases c8 : a4 = 3
          · refine G_tableIn (off := 73) (tgt := 130) dX11_bin_57 (w4) (by omega) (by omega) (by rw [c8]; rfl) (by decide) ?_
            refine G_aload_n dX11_bin_130 rfl ?_
            refine G_getR (t := 100) dX11_bin_131 fl_11_65 (by decide) sh_0 rr_0_7 ?_
            refine G_aload_n dX11_bin_134 rfl ?_
            refine G_getR (t := 3) dX11_bin_135 fl_11_19 (by decide) sh_0 rr_0_1 ?_
            refine G_iconst (z := 1) dX11_bin_138 rfl ?_
            exact k7 c1 c2 c3 c4 c5 c6 c7 c8
          refine G_tableOut (tgt := 163) dX11_bin_57 (w4) (by omega) (by decide) ?_
          exact k8 c1 c2 c3 c4 c5 c6 c7 c8
        · -- ¬ a3 < (mem os0 3)
          exact k9 c1 c2 c3 c4
set_option maxRecDepth 20000 in
set_option maxHeartbeats 1000000 in
theorem sg_X11_bin_95 {E : Nat × (Nat → Int32)} {d : Nat} {P : Option Value → Mem → Prop} {mem : Mem} {a1 : Int} {a2 : Int} {a3 : Int} {a4 : Int} {o5 : Nat} {a6 : Int} {s0 : Int} (ho5 : o5 ∈ streetL)
    (k1 : P (some (vi s0)) mem) :
    GM E (m_X11_bin d) P 95 [.ref 0, vi a1, vi a2, vi a3, vi a4, .ref o5, vi a6] [vi s0] mem := by
  exact G_iret dX11_bin_95 rfl (Nat.zero_le _) (Nat.zero_le _) (Nat.le_refl _) ⟨rfl, k1⟩
set_option maxRecDepth 20000 in
set_option maxHeartbeats 1000000 in
theorem sg_X11_bin_107 {E : Nat × (Nat → Int32)} {d : Nat} {P : Option Value → Mem → Prop} {mem : Mem} {a1 : Int} {a2 : Int} {a3 : Int} {a4 : Int} {o5 : Nat} {a6 : Int} {s0 : Int} (ho5 : o5 ∈ streetL)
    (k1 : GM E (m_X11_bin d) P 112 [.ref 0, vi a1, vi a2, vi a3, vi a4, .ref o5, vi a6] [vi 2, .ref 3, vi s0, .ref 3] mem) :
    GM E (m_X11_bin d) P 107 [.ref 0, vi a1, vi a2, vi a3, vi a4, .ref o5, vi a6] [vi s0, .ref 3] mem := by
  refine G_aload_n dX11_bin_107 rfl ?_
  refine G_getR (t := 3) dX11_bin_108 fl_11_19 (by decide) sh_0 rr_0_1 ?_
  refine G_iconst (z := 2) dX11_bin_111 rfl ?_
  exact k1
set_option maxRecDepth 20000 in
set_option maxHeartbeats 1000000 in
theorem sg_X11_bin_115 {E : Nat × (Nat → Int32)} {d : Nat} {P : Option Value → Mem → Prop} {mem : Mem} {a1 : Int} {a2 : Int} {a3 : Int} {a4 : Int} {o5 : Nat} {a6 : Int} {s0 : Int} {s1 : Int} (ho5 : o5 ∈ streetL)
    (k1 : GM E (m_X11_bin d) P 115 [.ref 0, vi a1, vi a2, vi a3, vi a4, .ref o5, vi a6] [vi s0, vi s1, .ref 3] mem) :
    GM E (m_X11_bin d) P 115 [.ref 0, vi a1, vi a2, vi a3, vi a4, .ref o5, vi a6] [vi s0, vi s1, .ref 3] mem := by
  exact k1
set_option maxRecDepth 20000 in
set_option maxHeartbeats 1000000 in
theorem sg_X11_bin_118 {E : Nat × (Nat → Int32)} {d : Nat} {P : Option Value → Mem → Prop} {mem : Mem} {a1 : Int} {a2 : Int} {a3 : Int} {a4 : Int} {o5 : Nat} {a6 : Int} {s0 : Int} (ho5 : o5 ∈ streetL)
    (k1 : P (some (vi s0)) mem) :
    GM E (m_X11_bin d) P 118 [.ref 0, vi a1, vi a2, vi a3, vi a4, .ref o5, vi a6] [vi s0] mem := by
  exact G_iret dX11_bin_118 rfl (Nat.zero_le _) (Nat.zero_le _) (Nat.le_refl _) ⟨rfl, k1⟩
set_option maxRecDepth 20000 in
set_option maxHeartbeats 1000000 in
theorem sg_X11_bin_129 {E : Nat × (Nat → Int32)} {d : Nat} {P : Option Value → Mem → Prop} {mem : Mem} {a1 : Int} {a2 : Int} {a3 : Int} {a4 : Int} {o5 : Nat} {a6 : Int} {s0 : Int} (ho5 : o5 ∈ streetL)
    (k1 : P (some (vi s0)) mem) :
    GM E (m_X11_bin d) P 129 [.ref 0, vi a1, vi a2, vi a3, vi a4, .ref o5, vi a6] [vi s0] mem := by
  exact G_iret dX11_bin_129 rfl (Nat.zero_le _) (Nat.zero_le _) (Nat.le_refl _) ⟨rfl, k1⟩
set_option maxRecDepth 20000 in
set_option maxHeartbeats 1000000 in
theorem sg_X11_bin_142 {E : Nat × (Nat → Int32)} {d : Nat} {P : Option Value → Mem → Prop} {mem : Mem} {a1 : Int} {a2 : Int} {a3 : Int} {a4 : Int} {o5 : Nat} {a6 : Int} {s0 : Int} (ho5 : o5 ∈ streetL)
    (k1 : GM E (m_X11_bin d) P 147 [.ref 0, vi a1, vi a2, vi a3, vi a4, .ref o5, vi a6] [vi (mem o5 4), vi s0, .ref 100] mem) :
    GM E (m_X11_bin d) P 142 [.ref 0, vi a1, vi a2, vi a3, vi a4, .ref o5, vi a6] [vi s0, .ref 100] mem := by
  refine G_aload dX11_bin_142 rfl ?_
  refine G_getI (z := (mem o5 4)) dX11_bin_144 fl_11_152 (ltStreet0 ho5) (shStreet0 ho5) rfl ?_
  exact k1
set_option maxRecDepth 20000 in
set_option maxHeartbeats 1000000 in
theorem sg_X11_bin_150 {E : Nat × (Nat → Int32)} {d : Nat} {P : Option Value → Mem → Prop} {mem : Mem} {a1 : Int} {a2 : Int} {a3 : Int} {a4 : Int} {o5 : Nat} {a6 : Int} (ho5 : o5 ∈ streetL)
    (k1 : GM E (m_X11_bin d) P 159 [.ref 0, vi a1, vi a2, vi a3, vi a4, .ref o5, vi a6] [vi 0, vi a6, .ref o5, .ref 100] mem) :
    GM E (m_X11_bin d) P 150 [.ref 0, vi a1, vi a2, vi a3, vi a4, .ref o5, vi a6] [] mem := by
  refine G_aload_n dX11_bin_150 rfl ?_
  refine G_getR (t := 100) dX11_bin_151 fl_11_65 (by decide) sh_0 rr_0_7 ?_
  refine G_aload dX11_bin_154 rfl ?_
  refine G_iload dX11_bin_156 rfl ?_
  refine G_iconst (z := 0) dX11_bin_158 rfl ?_
  exact k1
set_option maxRecDepth 20000 in
set_option maxHeartbeats 1000000 in
theorem sg_X11_bin_162 {E : Nat × (Nat → Int32)} {d : Nat} {P : Option Value → Mem → Prop} {mem : Mem} {a1 : Int} {a2 : Int} {a3 : Int} {a4 : Int} {o5 : Nat} {a6 : Int} {s0 : Int} (ho5 : o5 ∈ streetL)
    (k1 : P (some (vi s0)) mem) :
    GM E (m_X11_bin d) P 162 [.ref 0, vi a1, vi a2, vi a3, vi a4, .ref o5, vi a6] [vi s0] mem := by
  exact G_iret dX11_bin_162 rfl (Nat.zero_le _) (Nat.zero_le _) (Nat.le_refl _) ⟨rfl, k1⟩
abbrev m_X11_busiest (d : Nat) : Mu := (cX11_busiest, 4, RX11, (some .int), ⟨d, 0, 0, 40 * d⟩, "busiest")
set_option maxRecDepth 20000 in
set_option maxHeartbeats 1000000 in
theorem sg_X11_busiest_0 {E : Nat × (Nat → Int32)} {d : Nat} {P : Option Value → Mem → Prop} {mem : Mem}
    (k1 : GM E (m_X11_busiest d) P 1 [.ref 0, un, un, un] [.ref 0] mem) :
    GM E (m_X11_busiest d) P 0 [.ref 0, un, un, un] [] mem := by
  refine G_aload_n dX11_busiest_0 rfl ?_
  exact k1
set_option maxRecDepth 20000 in
set_option maxHeartbeats 1000000 in
theorem sg_X11_busiest_4 {E : Nat × (Nat → Int32)} {d : Nat} {P : Option Value → Mem → Prop} {mem : Mem}
    (k1 : GM E (m_X11_busiest d) P 10 [.ref 0, vi 0, vi 0, vi 1] [] mem) :
    GM E (m_X11_busiest d) P 4 [.ref 0, un, un, un] [] mem := by
  refine G_iconst (z := 0) dX11_busiest_4 rfl ?_
  refine G_istore_n dX11_busiest_5 rfl (by decide : 1 < 4) rfl ?_
  refine G_iconst (z := 0) dX11_busiest_6 rfl ?_
  refine G_istore_n dX11_busiest_7 rfl (by decide : 2 < 4) rfl ?_
  refine G_iconst (z := 1) dX11_busiest_8 rfl ?_
  refine G_istore_n dX11_busiest_9 rfl (by decide : 3 < 4) rfl ?_
  exact k1
set_option maxRecDepth 20000 in
set_option maxHeartbeats 1000000 in
theorem sg_X11_busiest_10 {E : Nat × (Nat → Int32)} {d : Nat} {P : Option Value → Mem → Prop} {mem : Mem} {a1 : Int} {a2 : Int} {a3 : Int} (w1 : -2147483648 ≤ a3 ∧ a3 < 2147483648)
    (k1 : 7 ≤ a3 → GM E (m_X11_busiest d) P 70 [.ref 0, vi a1, vi a2, vi a3] [vi a1, .ref 147, .ref 0] mem)
    (k2 : ¬ 7 ≤ a3 → GM E (m_X11_busiest d) P 21 [.ref 0, vi a1, vi a2, vi a3] [vi a3, .ref 147] mem) :
    GM E (m_X11_busiest d) P 10 [.ref 0, vi a1, vi a2, vi a3] [] mem := by
  refine G_iload_n dX11_busiest_10 rfl ?_
  refine G_bipush (z := 7) dX11_busiest_11 rfl ?_
  refine G_icmp_ge (tgt := 64) dX11_busiest_13 (by decide) (w1) (by decide) (fun c1 => ?_) (fun c1 => ?_)
  · -- 7 ≤ a3
    refine G_aload_n dX11_busiest_64 rfl ?_
    refine G_aload_n dX11_busiest_65 rfl ?_
    refine G_getR (t := 147) dX11_busiest_66 fl_11_83 (by decide) sh_0 rr_0_9 ?_
    refine G_iload_n dX11_busiest_69 rfl ?_
    exact k1 c1
  · -- ¬ 7 ≤ a3
    refine G_aload_n dX11_busiest_16 rfl ?_
    refine G_getR (t := 147) dX11_busiest_17 fl_11_83 (by decide) sh_0 rr_0_9 ?_
    refine G_iload_n dX11_busiest_20 rfl ?_
    exact k2 c1
set_option maxRecDepth 20000 in
set_option maxHeartbeats 1000000 in
theorem sg_X11_busiest_24 {E : Nat × (Nat → Int32)} {d : Nat} {P : Option Value → Mem → Prop} {mem : Mem} {a1 : Int} {a2 : Int} {a3 : Int} {s0 : Int}
    (k1 : GM E (m_X11_busiest d) P 29 [.ref 0, vi a1, vi a2, vi a3] [vi a1, .ref 147, vi s0] mem) :
    GM E (m_X11_busiest d) P 24 [.ref 0, vi a1, vi a2, vi a3] [vi s0] mem := by
  refine G_aload_n dX11_busiest_24 rfl ?_
  refine G_getR (t := 147) dX11_busiest_25 fl_11_83 (by decide) sh_0 rr_0_9 ?_
  refine G_iload_n dX11_busiest_28 rfl ?_
  exact k1
set_option maxRecDepth 20000 in
set_option maxHeartbeats 1000000 in
theorem sg_X11_busiest_32 {E : Nat × (Nat → Int32)} {d : Nat} {P : Option Value → Mem → Prop} {mem : Mem} {a1 : Int} {a2 : Int} {a3 : Int} {s0 : Int} {s1 : Int} (w1 : -2147483648 ≤ s1 ∧ s1 < 2147483648) (w2 : -2147483648 ≤ s0 ∧ s0 < 2147483648)
    (k1 : s1 ≤ s0 → GM E (m_X11_busiest d) P 42 [.ref 0, vi a1, vi a2, vi a3] [vi a3, .ref 147] mem)
    (k2 : ¬ s1 ≤ s0 → GM E (m_X11_busiest d) P 42 [.ref 0, vi a3, vi a2, vi a3] [vi a3, .ref 147] mem) :
    GM E (m_X11_busiest d) P 32 [.ref 0, vi a1, vi a2, vi a3] [vi s0, vi s1] mem := by
  refine G_icmp_le (tgt := 37) dX11_busiest_32 (by decide) (w1) (w2) (fun c1 => ?_) (fun c1 => ?_)
  · -- s1 ≤ s0
    refine G_aload_n dX11_busiest_37 rfl ?_
    refine G_getR (t := 147) dX11_busiest_38 fl_11_83 (by decide) sh_0 rr_0_9 ?_
    refine G_iload_n dX11_busiest_41 rfl ?_
    exact k1 c1
  · -- ¬ s1 ≤ s0
    refine G_iload_n dX11_busiest_35 rfl ?_
    refine G_istore_n dX11_busiest_36 rfl (by decide : 1 < 4) rfl ?_
    refine G_aload_n dX11_busiest_37 rfl ?_
    refine G_getR (t := 147) dX11_busiest_38 fl_11_83 (by decide) sh_0 rr_0_9 ?_
    refine G_iload_n dX11_busiest_41 rfl ?_
    exact k2 c1
set_option maxRecDepth 20000 in
set_option maxHeartbeats 1000000 in
theorem sg_X11_busiest_45 {E : Nat × (Nat → Int32)} {d : Nat} {P : Option Value → Mem → Prop} {mem : Mem} {a1 : Int} {a2 : Int} {a3 : Int} {s0 : Int}
    (k1 : GM E (m_X11_busiest d) P 50 [.ref 0, vi a1, vi a2, vi a3] [vi a2, .ref 147, vi s0] mem) :
    GM E (m_X11_busiest d) P 45 [.ref 0, vi a1, vi a2, vi a3] [vi s0] mem := by
  refine G_aload_n dX11_busiest_45 rfl ?_
  refine G_getR (t := 147) dX11_busiest_46 fl_11_83 (by decide) sh_0 rr_0_9 ?_
  refine G_iload_n dX11_busiest_49 rfl ?_
  exact k1
set_option maxRecDepth 20000 in
set_option maxHeartbeats 1000000 in
theorem sg_X11_busiest_53 {E : Nat × (Nat → Int32)} {d : Nat} {P : Option Value → Mem → Prop} {mem : Mem} {a1 : Int} {a2 : Int} {a3 : Int} {s0 : Int} {s1 : Int} (w1 : -2147483648 ≤ s1 ∧ s1 < 2147483648) (w2 : -2147483648 ≤ s0 ∧ s0 < 2147483648)
    (k1 : s0 ≤ s1 → GM E (m_X11_busiest d) P 10 [.ref 0, vi a1, vi a2, vi (a3 + 1)] [] mem)
    (k2 : ¬ s0 ≤ s1 → GM E (m_X11_busiest d) P 10 [.ref 0, vi a1, vi a3, vi (a3 + 1)] [] mem) :
    GM E (m_X11_busiest d) P 53 [.ref 0, vi a1, vi a2, vi a3] [vi s0, vi s1] mem := by
  refine G_icmp_ge (tgt := 58) dX11_busiest_53 (by decide) (w1) (w2) (fun c1 => ?_) (fun c1 => ?_)
  · -- s0 ≤ s1
    refine G_iinc (z := (a3 + 1)) dX11_busiest_58 rfl rfl (by decide : 3 < 4) rfl ?_
    refine G_goto (tgt := 10) dX11_busiest_61 (by decide) ?_
    exact k1 c1
  · -- ¬ s0 ≤ s1
    refine G_iload_n dX11_busiest_56 rfl ?_
    refine G_istore_n dX11_busiest_57 rfl (by decide : 2 < 4) rfl ?_
    refine G_iinc (z := (a3 + 1)) dX11_busiest_58 rfl rfl (by decide : 3 < 4) rfl ?_
    refine G_goto (tgt := 10) dX11_busiest_61 (by decide) ?_
    exact k2 c1
set_option maxRecDepth 20000 in
set_option maxHeartbeats 1000000 in
theorem sg_X11_busiest_73 {E : Nat × (Nat → Int32)} {d : Nat} {P : Option Value → Mem → Prop} {mem : Mem} {a1 : Int} {a2 : Int} {a3 : Int} {s0 : Int} (w1 : -2147483648 ≤ s0 ∧ s0 < 2147483648)
    (k1 : GM E (m_X11_busiest d) P 74 [.ref 0, vi a1, vi a2, vi a3] [vl s0, .ref 0] mem) :
    GM E (m_X11_busiest d) P 73 [.ref 0, vi a1, vi a2, vi a3] [vi s0, .ref 0] mem := by
  refine G_i2l dX11_busiest_73 (w1) ?_
  exact k1
set_option maxRecDepth 20000 in
set_option maxHeartbeats 1000000 in
theorem sg_X11_busiest_77 {E : Nat × (Nat → Int32)} {d : Nat} {P : Option Value → Mem → Prop} {mem : Mem} {a1 : Int} {a2 : Int} {a3 : Int}
    (k1 : GM E (m_X11_busiest d) P 83 [.ref 0, vi a1, vi a2, vi a3] [vi a2, .ref 147, .ref 0] mem) :
    GM E (m_X11_busiest d) P 77 [.ref 0, vi a1, vi a2, vi a3] [] mem := by
  refine G_aload_n dX11_busiest_77 rfl ?_
  refine G_aload_n dX11_busiest_78 rfl ?_
  refine G_getR (t := 147) dX11_busiest_79 fl_11_83 (by decide) sh_0 rr_0_9 ?_
  refine G_iload_n dX11_busiest_82 rfl ?_
  exact k1
set_option maxRecDepth 20000 in
set_option maxHeartbeats 1000000 in
theorem sg_X11_busiest_86 {E : Nat × (Nat → Int32)} {d : Nat} {P : Option Value → Mem → Prop} {mem : Mem} {a1 : Int} {a2 : Int} {a3 : Int} {s0 : Int} (w1 : -2147483648 ≤ s0 ∧ s0 < 2147483648)
    (k1 : GM E (m_X11_busiest d) P 87 [.ref 0, vi a1, vi a2, vi a3] [vl s0, .ref 0] mem) :
    GM E (m_X11_busiest d) P 86 [.ref 0, vi a1, vi a2, vi a3] [vi s0, .ref 0] mem := by
  refine G_i2l dX11_busiest_86 (w1) ?_
  exact k1
set_option maxRecDepth 20000 in
set_option maxHeartbeats 1000000 in
theorem sg_X11_busiest_90 {E : Nat × (Nat → Int32)} {d : Nat} {P : Option Value → Mem → Prop} {mem : Mem} {a1 : Int} {a2 : Int} {a3 : Int}
    (k1 : P (some (vi a1)) mem) :
    GM E (m_X11_busiest d) P 90 [.ref 0, vi a1, vi a2, vi a3] [] mem := by
  refine G_iload_n dX11_busiest_90 rfl ?_
  exact G_iret dX11_busiest_91 rfl (Nat.zero_le _) (Nat.zero_le _) (Nat.le_refl _) ⟨rfl, k1⟩
abbrev m_X11_care (d : Nat) : Mu := (cX11_care, 5, RX11, (some .int), ⟨d, 0, 0, 40 * d⟩, "care")
set_option maxRecDepth 20000 in
set_option maxHeartbeats 1000000 in
theorem sg_X11_care_0 {E : Nat × (Nat → Int32)} {d : Nat} {P : Option Value → Mem → Prop} {mem : Mem} {a1 : Int} {a2 : Int}
    (k1 : GM E (m_X11_care d) P 5 [.ref 0, vi a1, vi a2, un, un] [vi a1, .ref 9] mem) :
    GM E (m_X11_care d) P 0 [.ref 0, vi a1, vi a2, un, un] [] mem := by
  refine G_aload_n dX11_care_0 rfl ?_
  refine G_getR (t := 9) dX11_care_1 fl_11_33 (by decide) sh_0 rr_0_3 ?_
  refine G_iload_n dX11_care_4 rfl ?_
  exact k1
set_option maxRecDepth 20000 in
set_option maxHeartbeats 1000000 in
theorem sg_X11_care_8n {E : Nat × (Nat → Int32)} {d : Nat} {P : Option Value → Mem → Prop} {mem : Mem} {a1 : Int} {a2 : Int}
    (k1 : P (some (vi (-1))) mem) :
    GM E (m_X11_care d) P 8 [.ref 0, vi a1, vi a2, un, un] [.null] mem := by
  refine G_ifnullZ (tgt := 21) dX11_care_8 (by decide) ?_
  refine G_iconst (z := (-1)) dX11_care_21 rfl ?_
  exact G_iret dX11_care_22 rfl (Nat.zero_le _) (Nat.zero_le _) (Nat.le_refl _) ⟨rfl, k1⟩
set_option maxRecDepth 20000 in
set_option maxHeartbeats 1000000 in
theorem sg_X11_care_8r {E : Nat × (Nat → Int32)} {d : Nat} {P : Option Value → Mem → Prop} {mem : Mem} {a1 : Int} {a2 : Int} {os0 : Nat} (hos0 : os0 ∈ streetL) (w1 : -2147483648 ≤ a2 ∧ a2 < 2147483648)
    (k1 : a2 < 0 → P (some (vi (-1))) mem)
    (k2 : ¬ a2 < 0 → a2 ≤ 100 → GM E (m_X11_care d) P 28 [.ref 0, vi a1, vi a2, un, un] [vi a1, .ref 23] mem)
    (k3 : ¬ a2 < 0 → ¬ a2 ≤ 100 → P (some (vi (-1))) mem) :
    GM E (m_X11_care d) P 8 [.ref 0, vi a1, vi a2, un, un] [.ref os0] mem := by
  refine G_ifnull dX11_care_8 ?_
  refine G_iload_n dX11_care_11 rfl ?_
  refine G_if_lt (tgt := 21) dX11_care_12 (by decide) (w1) (fun c1 => ?_) (fun c1 => ?_)
  · -- a2 < 0
    refine G_iconst (z := (-1)) dX11_care_21 rfl ?_
    exact G_iret dX11_care_22 rfl (Nat.zero_le _) (Nat.zero_le _) (Nat.le_refl _) ⟨rfl, k1 c1⟩
  · -- ¬ a2 < 0
    refine G_iload_n dX11_care_15 rfl ?_
    refine G_bipush (z := 100) dX11_care_16 rfl ?_
    refine G_icmp_le (tgt := 23) dX11_care_18 (by decide) (w1) (by decide) (fun c2 => ?_) (fun c2 => ?_)
    · -- a2 ≤ 100
      refine G_aload_n dX11_care_23 rfl ?_
      refine G_getR (t := 23) dX11_care_24 fl_11_40 (by decide) sh_0 rr_0_4 ?_
      refine G_iload_n dX11_care_27 rfl ?_
      exact k2 c1 c2
    · -- ¬ a2 ≤ 100
      refine G_iconst (z := (-1)) dX11_care_21 rfl ?_
      exact G_iret dX11_care_22 rfl (Nat.zero_le _) (Nat.zero_le _) (Nat.le_refl _) ⟨rfl, k3 c1 c2⟩
set_option maxRecDepth 20000 in
set_option maxHeartbeats 1000000 in
theorem sg_X11_care_31 {E : Nat × (Nat → Int32)} {d : Nat} {P : Option Value → Mem → Prop} {mem : Mem} {a1 : Int} {a2 : Int} {s0 : Int}
    (k1 : GM E (m_X11_care d) P 31 [.ref 0, vi a1, vi a2, un, un] [vi s0] mem) :
    GM E (m_X11_care d) P 31 [.ref 0, vi a1, vi a2, un, un] [vi s0] mem := by
  exact k1
set_option maxRecDepth 20000 in
set_option maxHeartbeats 1000000 in
theorem sg_X11_care_34 {E : Nat × (Nat → Int32)} {d : Nat} {P : Option Value → Mem → Prop} {mem : Mem} {a1 : Int} {a2 : Int} {s0 : Int}
    (k1 : GM E (m_X11_care d) P 38 [.ref 0, vi a1, vi a2, vi s0, vi 0] [] mem) :
    GM E (m_X11_care d) P 34 [.ref 0, vi a1, vi a2, un, un] [vi s0] mem := by
  refine G_istore_n dX11_care_34 rfl (by decide : 3 < 5) rfl ?_
  refine G_iconst (z := 0) dX11_care_35 rfl ?_
  refine G_istore dX11_care_36 (by decide : 4 < 5) rfl ?_
  exact k1
set_option maxRecDepth 20000 in
set_option maxHeartbeats 1000000 in
theorem sg_X11_care_38 {E : Nat × (Nat → Int32)} {d : Nat} {P : Option Value → Mem → Prop} {mem : Mem} {a1 : Int} {a2 : Int} {a3 : Int} {a4 : Int} (w1 : -2147483648 ≤ a4 ∧ a4 < 2147483648)
    (k1 : 10 ≤ a4 → P (some (vi 10)) mem)
    (k2 : ¬ 10 ≤ a4 → GM E (m_X11_care d) P 48 [.ref 0, vi a1, vi a2, vi a3, vi a4] [vi a3, vi a4] mem) :
    GM E (m_X11_care d) P 38 [.ref 0, vi a1, vi a2, vi a3, vi a4] [] mem := by
  refine G_iload dX11_care_38 rfl ?_
  refine G_bipush (z := 10) dX11_care_40 rfl ?_
  refine G_icmp_ge (tgt := 77) dX11_care_42 (by decide) (w1) (by decide) (fun c1 => ?_) (fun c1 => ?_)
  · -- 10 ≤ a4
    refine G_bipush (z := 10) dX11_care_77 rfl ?_
    exact G_iret dX11_care_79 rfl (Nat.zero_le _) (Nat.zero_le _) (Nat.le_refl _) ⟨rfl, k1 c1⟩
  · -- ¬ 10 ≤ a4
    refine G_iload dX11_care_45 rfl ?_
    refine G_iload_n dX11_care_47 rfl ?_
    exact k2 c1
set_option maxRecDepth 20000 in
set_option maxHeartbeats 1000000 in
theorem sg_X11_care_51 {E : Nat × (Nat → Int32)} {d : Nat} {P : Option Value → Mem → Prop} {mem : Mem} {a1 : Int} {a2 : Int} {a3 : Int} {a4 : Int} {s0 : Int}
    (k1 : GM E (m_X11_care d) P 58 [.ref 0, vi a1, vi a2, vi a3, vi a4] [vi a3, vi 10, vl (s0 * 100)] mem) :
    GM E (m_X11_care d) P 51 [.ref 0, vi a1, vi a2, vi a3, vi a4] [vl s0] mem := by
  refine G_ldc2 (z := 100) dX11_care_51 kc_11_443 ?_
  refine G_lmul dX11_care_54 ?_
  refine G_bipush (z := 10) dX11_care_55 rfl ?_
  refine G_iload_n dX11_care_57 rfl ?_
  exact k1
set_option maxRecDepth 20000 in
set_option maxHeartbeats 1000000 in
theorem sg_X11_care_61 {E : Nat × (Nat → Int32)} {d : Nat} {P : Option Value → Mem → Prop} {mem : Mem} {a1 : Int} {a2 : Int} {a3 : Int} {a4 : Int} {s0 : Int} {s1 : Int} (w1 : -2147483648 ≤ a2 ∧ a2 < 2147483648) (w2 : -9223372036854775808 ≤ s1 ∧ s1 < 9223372036854775808) (w3 : -9223372036854775808 ≤ (s0 * a2) ∧ (s0 * a2) < 9223372036854775808)
    (k1 : s1 < (s0 * a2) → GM E (m_X11_care d) P 38 [.ref 0, vi a1, vi a2, vi a3, vi (a4 + 1)] [] mem)
    (k2 : ¬ s1 < (s0 * a2) → P (some (vi a4)) mem) :
    GM E (m_X11_care d) P 61 [.ref 0, vi a1, vi a2, vi a3, vi a4] [vl s0, vl s1] mem := by
  refine G_iload_n dX11_care_61 rfl ?_
  refine G_i2l dX11_care_62 (w1) ?_
  refine G_lmul dX11_care_63 ?_
  refine G_lcmp_lt (tgt := 71) dX11_care_64 dX11_care_65 (by decide) (w2) (w3) (fun c1 => ?_) (fun c1 => ?_)
  · -- s1 < (s0 * a2)
    refine G_iinc (z := (a4 + 1)) dX11_care_71 rfl rfl (by decide : 4 < 5) rfl ?_
    refine G_goto (tgt := 38) dX11_care_74 (by decide) ?_
    exact k1 c1
  · -- ¬ s1 < (s0 * a2)
    refine G_iload dX11_care_68 rfl ?_
    exact G_iret dX11_care_70 rfl (Nat.zero_le _) (Nat.zero_le _) (Nat.le_refl _) ⟨rfl, k2 c1⟩
abbrev m_X11_clearRow (d : Nat) : Mu := (cX11_clearRow, 1, RX11, none, ⟨d, 0, 0, 40 * d⟩, "clearRow")
set_option maxRecDepth 20000 in
set_option maxHeartbeats 1000000 in
theorem sg_X11_clearRow_0 {E : Nat × (Nat → Int32)} {d : Nat} {P : Option Value → Mem → Prop} {mem : Mem}
    (k1 : P none (up2 mem 0 14 0)) :
    GM E (m_X11_clearRow d) P 0 [.ref 0] [] mem := by
  refine G_aload_n dX11_clearRow_0 rfl ?_
  refine G_iconst (z := 0) dX11_clearRow_1 rfl ?_
  refine G_putI (mem2 := (up2 mem 0 14 0)) dX11_clearRow_2 fp_11_465 (by decide) sh_0 rfl ?_
  exact G_vret dX11_clearRow_5 rfl (Nat.zero_le _) (Nat.zero_le _) (Nat.le_refl _) ⟨rfl, k1⟩
abbrev m_X11_commonDivisor (d : Nat) : Mu := (cX11_commonDivisor, 11, RX11, (some .long), ⟨d, 0, 0, 40 * d⟩, "commonDivisor")
set_option maxRecDepth 20000 in
set_option maxHeartbeats 1000000 in
theorem sg_X11_commonDivisor_0 {E : Nat × (Nat → Int32)} {d : Nat} {P : Option Value → Mem → Prop} {mem : Mem} {a0 : Int} {a2 : Int}
    (k1 : GM E (m_X11_commonDivisor d) P 9 [vl a0, un, vl a2, un, vl a0, un, vl a2, un, vi 0, un, un] [] mem) :
    GM E (m_X11_commonDivisor d) P 0 [vl a0, un, vl a2, un, un, un, un, un, un, un, un] [] mem := by
  refine G_lload_n dX11_commonDivisor_0 rfl ?_
  refine G_lstore dX11_commonDivisor_1 (by decide : 4 + 1 < 11) rfl ?_
  refine G_lload_n dX11_commonDivisor_3 rfl ?_
  refine G_lstore dX11_commonDivisor_4 (by decide : 6 + 1 < 11) rfl ?_
  refine G_iconst (z := 0) dX11_commonDivisor_6 rfl ?_
  refine G_istore dX11_commonDivisor_7 (by decide : 8 < 11) rfl ?_
  exact k1
set_option maxRecDepth 20000 in
set_option maxHeartbeats 1000000 in
theorem sg_X11_commonDivisor_9 {E : Nat × (Nat → Int32)} {d : Nat} {P : Option Value → Mem → Prop} {mem : Mem} {a0 : Int} {a2 : Int} {a4 : Int} {a6 : Int} {a8 : Int} (w1 : -2147483648 ≤ a8 ∧ a8 < 2147483648) (w2 : -9223372036854775808 ≤ a6 ∧ a6 < 9223372036854775808) (z3 : ¬ 100 ≤ a8 → ¬ a6 = 0 → a6 ≠ 0)
    (k1 : 100 ≤ a8 → P (some (vl a4)) mem)
    (k2 : ¬ 100 ≤ a8 → a6 = 0 → P (some (vl a4)) mem)
    (k3 : ¬ 100 ≤ a8 → ¬ a6 = 0 → GM E (m_X11_commonDivisor d) P 9 [vl a0, un, vl a2, un, vl a6, un, vl (remL a4 a6), un, vi (a8 + 1), vl (remL a4 a6), un] [] mem) :
    GM E (m_X11_commonDivisor d) P 9 [vl a0, un, vl a2, un, vl a4, un, vl a6, un, vi a8, un, un] [] mem := by
  refine G_iload dX11_commonDivisor_9 rfl ?_
  refine G_bipush (z := 100) dX11_commonDivisor_11 rfl ?_
  refine G_icmp_ge (tgt := 44) dX11_commonDivisor_13 (by decide) (w1) (by decide) (fun c1 => ?_) (fun c1 => ?_)
  · -- 100 ≤ a8
    refine G_lload dX11_commonDivisor_44 rfl ?_
    exact G_lret dX11_commonDivisor_46 rfl (Nat.zero_le _) (Nat.zero_le _) (Nat.le_refl _) ⟨rfl, k1 c1⟩
  · -- ¬ 100 ≤ a8
    refine G_lload dX11_commonDivisor_16 rfl ?_
    refine G_lconst (z := 0) dX11_commonDivisor_18 rfl ?_
    refine G_lcmp_eq (tgt := 44) dX11_commonDivisor_19 dX11_commonDivisor_20 (by decide) (w2) (by decide) (fun c2 => ?_) (fun c2 => ?_)
    · -- a6 = 0
      refine G_lload dX11_commonDivisor_44 rfl ?_
      exact G_lret dX11_commonDivisor_46 rfl (Nat.zero_le _) (Nat.zero_le _) (Nat.le_refl _) ⟨rfl, k2 c1 c2⟩
    · -- ¬ a6 = 0
      refine G_lload dX11_commonDivisor_23 rfl ?_
      refine G_lload dX11_commonDivisor_25 rfl ?_
      refine G_lrem (z := (remL a4 a6)) dX11_commonDivisor_27 (iL_ne0 (w2) (z3 c1 c2)) (iL_inv _) ?_
      refine G_lstore dX11_commonDivisor_28 (by decide : 9 + 1 < 11) rfl ?_
      refine G_lload dX11_commonDivisor_30 rfl ?_
      refine G_lstore dX11_commonDivisor_32 (by decide : 4 + 1 < 11) rfl ?_
      refine G_lload dX11_commonDivisor_34 rfl ?_
      refine G_lstore dX11_commonDivisor_36 (by decide : 6 + 1 < 11) rfl ?_
      refine G_iinc (z := (a8 + 1)) dX11_commonDivisor_38 rfl rfl (by decide : 8 < 11) rfl ?_
      refine G_goto (tgt := 9) dX11_commonDivisor_41 (by decide) ?_
      exact k3 c1 c2
abbrev m_X11_count (d : Nat) : Mu := (cX11_count, 2, RX11, (some .int), ⟨d, 0, 0, 40 * d⟩, "count")
set_option maxRecDepth 20000 in
set_option maxHeartbeats 1000000 in
theorem sg_X11_count_0 {E : Nat × (Nat → Int32)} {d : Nat} {P : Option Value → Mem → Prop} {mem : Mem} {a1 : Int} (w1 : -2147483648 ≤ a1 ∧ a1 < 2147483648)
    (k1 : a1 = 0 → P (some (vi (mem 9 1))) mem)
    (k2 : ¬ a1 = 0 → a1 = 1 → P (some (vi (mem 23 4))) mem)
    (k3 : ¬ a1 = 0 → ¬ a1 = 1 → a1 = 2 → P (some (vi (mem 23 3))) mem)
    (k4 : ¬ a1 = 0 → ¬ a1 = 1 → ¬ a1 = 2 → a1 = 3 → P (some (vi (mem 23 5))) mem)
    (k5 : ¬ a1 = 0 → ¬ a1 = 1 → ¬ a1 = 2 → ¬ a1 = 3 → a1 = 4 → GM E (m_X11_count d) P 101 [.ref 0, vi a1] [vi 1, .ref 23] mem)
    (k6 : ¬ a1 = 0 → ¬ a1 = 1 → ¬ a1 = 2 → ¬ a1 = 3 → ¬ a1 = 4 → a1 = 5 → GM E (m_X11_count d) P 110 [.ref 0, vi a1] [vi 2, .ref 23] mem)
    (k7 : ¬ a1 = 0 → ¬ a1 = 1 → ¬ a1 = 2 → ¬ a1 = 3 → ¬ a1 = 4 → ¬ a1 = 5 → a1 = 6 → GM E (m_X11_count d) P 119 [.ref 0, vi a1] [vi 3, .ref 23] mem)
    (k8 : ¬ a1 = 0 → ¬ a1 = 1 → ¬ a1 = 2 → ¬ a1 = 3 → ¬ a1 = 4 → ¬ a1 = 5 → ¬ a1 = 6 → a1 = 7 → P (some (vi (mem 93 4))) mem)
    (k9 : ¬ a1 = 0 → ¬ a1 = 1 → ¬ a1 = 2 → ¬ a1 = 3 → ¬ a1 = 4 → ¬ a1 = 5 → ¬ a1 = 6 → ¬ a1 = 7 → a1 = 8 → P (some (vi (mem 27 2))) mem)
    (k10 : ¬ a1 = 0 → ¬ a1 = 1 → ¬ a1 = 2 → ¬ a1 = 3 → ¬ a1 = 4 → ¬ a1 = 5 → ¬ a1 = 6 → ¬ a1 = 7 → ¬ a1 = 8 → a1 = 9 → P (some (vi (mem 0 14))) mem)
    (k11 : ¬ a1 = 0 → ¬ a1 = 1 → ¬ a1 = 2 → ¬ a1 = 3 → ¬ a1 = 4 → ¬ a1 = 5 → ¬ a1 = 6 → ¬ a1 = 7 → ¬ a1 = 8 → ¬ a1 = 9 → a1 = 10 → P (some (vi (mem 1 1))) mem)
    (k12 : ¬ a1 = 0 → ¬ a1 = 1 → ¬ a1 = 2 → ¬ a1 = 3 → ¬ a1 = 4 → ¬ a1 = 5 → ¬ a1 = 6 → ¬ a1 = 7 → ¬ a1 = 8 → ¬ a1 = 9 → ¬ a1 = 10 → a1 = 11 → GM E (m_X11_count d) P 157 [.ref 0, vi a1] [vi 0, .ref 3] mem)
    (k13 : ¬ a1 = 0 → ¬ a1 = 1 → ¬ a1 = 2 → ¬ a1 = 3 → ¬ a1 = 4 → ¬ a1 = 5 → ¬ a1 = 6 → ¬ a1 = 7 → ¬ a1 = 8 → ¬ a1 = 9 → ¬ a1 = 10 → ¬ a1 = 11 → P (some (vi (-100))) mem) :
    GM E (m_X11_count d) P 0 [.ref 0, vi a1] [] mem := by
  refine G_iload_n dX11_count_0 rfl ?_
  by_cases c1 : a1 = 0
  · refine G_tableIn (off := 63) (tgt := 64) dX11_count_1 (w1) (by omega) (by omega) (by rw [c1]; rfl) (by decide) ?_
    refine G_aload_n dX11_count_64 rfl ?_
    refine G_getR (t := 9) dX11_count_65 fl_11_33 (by decide) sh_0 rr_0_3 ?_
    refine G_getI (z := (mem 9 1)) dX11_count_68 fl_11_113 (by decide) sh_9 rfl ?_
    exact G_iret dX11_count_71 rfl (Nat.zero_le _) (Nat.zero_le _) (Nat.le_refl _) ⟨rfl, k1 c1⟩
  by_cases c2 : a1 = 1
  · refine G_tableIn (off := 71) (tgt := 72) dX11_count_1 (w1) (by omega) (by omega) (by rw [c2]; rfl) (by decide) ?_
    refine G_aload_n dX11_count_72 rfl ?_
    refine G_getR (t := 23) dX11_count_73 fl_11_40 (by decide) sh_0 rr_0_4 ?_
    refine G_getI (z := (mem 23 4)) dX11_count_76 fl_11_252 (by decide) sh_23 rfl ?_
    exact G_iret dX11_count_79 rfl (Nat.zero_le _) (Nat.zero_le _) (Nat.le_refl _) ⟨rfl, k2 c1 c2⟩
  by_cases c3 : a1 = 2
  · refine G_tableIn (off := 79) (tgt := 80) dX11_count_1 (w1) (by omega) (by omega) (by rw [c3]; rfl) (by decide) ?_
    refine G_aload_n dX11_count_80 rfl ?_
    refine G_getR (t := 23) dX11_count_81 fl_11_40 (by decide) sh_0 rr_0_4 ?_
    refine G_getI (z := (mem 23 3)) dX11_count_84 fl_11_203 (by decide) sh_23 rfl ?_
    exact G_iret dX11_count_87 rfl (Nat.zero_le _) (Nat.zero_le _) (Nat.le_refl _) ⟨rfl, k3 c1 c2 c3⟩
  by_cases c4 : a1 = 3
  · refine G_tableIn (off := 87) (tgt := 88) dX11_count_1 (w1) (by omega) (by omega) (by rw [c4]; rfl) (by decide) ?_
    refine G_aload_n dX11_count_88 rfl ?_
    refine G_getR (t := 23) dX11_count_89 fl_11_40 (by decide) sh_0 rr_0_4 ?_
    refine G_getI (z := (mem 23 5)) dX11_count_92 fl_11_253 (by decide) sh_23 rfl ?_
    exact G_iret dX11_count_95 rfl (Nat.zero_le _) (Nat.zero_le _) (Nat.le_refl _) ⟨rfl, k4 c1 c2 c3 c4⟩
  by_cases c5 : a1 = 4
  · refine G_tableIn (off := 95) (tgt := 96) dX11_count_1 (w1) (by omega) (by omega) (by rw [c5]; rfl) (by decide) ?_
    refine G_aload_n dX11_count_96 rfl ?_
    refine G_getR (t := 23) dX11_count_97 fl_11_40 (by decide) sh_0 rr_0_4 ?_
    refine G_iconst (z := 1) dX11_count_100 rfl ?_
    exact k5 c1 c2 c3 c4 c5
  by_cases c6 : a1 = 5
  · refine G_tableIn (off := 104) (tgt := 105) dX11_count_1 (w1) (by omega) (by omega) (by rw [c6]; rfl) (by decide) ?_
    refine G_aload_n dX11_count_105 rfl ?_
    refine G_getR (t := 23) dX11_count_106 fl_11_40 (by decide) sh_0 rr_0_4 ?_
    refine G_iconst (z := 2) dX11_count_109 rfl ?_
    exact k6 c1 c2 c3 c4 c5 c6
  by_cases c7 : a1 = 6
  · refine G_tableIn (off := 113) (tgt := 114) dX11_count_1 (w1) (by omega) (by omega) (by rw [c7]; rfl) (by decide) ?_
    refine G_aload_n dX11_count_114 rfl ?_
    refine G_getR (t := 23) dX11_count_115 fl_11_40 (by decide) sh_0 rr_0_4 ?_
    refine G_iconst (z := 3) dX11_count_118 rfl ?_
    exact k7 c1 c2 c3 c4 c5 c6 c7
  by_cases c8 : a1 = 7
  · refine G_tableIn (off := 122) (tgt := 123) dX11_count_1 (w1) (by omega) (by omega) (by rw [c8]; rfl) (by decide) ?_
    refine G_aload_n dX11_count_123 rfl ?_
    refine G_getR (t := 93) dX11_count_124 fl_11_56 (by decide) sh_0 rr_0_6 ?_
    refine G_getI (z := (mem 93 4)) dX11_count_127 fl_11_422 (by decide) sh_93 rfl ?_
    exact G_iret dX11_count_130 rfl (Nat.zero_le _) (Nat.zero_le _) (Nat.le_refl _) ⟨rfl, k8 c1 c2 c3 c4 c5 c6 c7 c8⟩
  by_cases c9 : a1 = 8
  · refine G_tableIn (off := 130) (tgt := 131) dX11_count_1 (w1) (by omega) (by omega) (by rw [c9]; rfl) (by decide) ?_
    refine G_aload_n dX11_count_131 rfl ?_
    refine G_getR (t := 27) dX11_count_132 fl_11_47 (by decide) sh_0 rr_0_5 ?_
    refine G_getI (z := (mem 27 2)) dX11_count_135 fl_11_272 (by decide) sh_27 rfl ?_
    exact G_iret dX11_count_138 rfl (Nat.zero_le _) (Nat.zero_le _) (Nat.le_refl _) ⟨rfl, k9 c1 c2 c3 c4 c5 c6 c7 c8 c9⟩
  by_cases c10 : a1 = 9
  · refine G_tableIn (off := 138) (tgt := 139) dX11_count_1 (w1) (by omega) (by omega) (by rw [c10]; rfl) (by decide) ?_
    refine G_aload_n dX11_count_139 rfl ?_
    refine G_getI (z := (mem 0 14)) dX11_count_140 fl_11_465 (by decide) sh_0 rfl ?_
    exact G_iret dX11_count_143 rfl (Nat.zero_le _) (Nat.zero_le _) (Nat.le_refl _) ⟨rfl, k10 c1 c2 c3 c4 c5 c6 c7 c8 c9 c10⟩
  by_cases c11 : a1 = 10
  · refine G_tableIn (off := 143) (tgt := 144) dX11_count_1 (w1) (by omega) (by omega) (by rw [c11]; rfl) (by decide) ?_
    refine G_aload_n dX11_count_144 rfl ?_
    refine G_getR (t := 1) dX11_count_145 fl_11_12 (by decide) sh_0 rr_0_0 ?_
    refine G_getI (z := (mem 1 1)) dX11_count_148 fl_11_106 (by decide) sh_1 rfl ?_
    exact G_iret dX11_count_151 rfl (Nat.zero_le _) (Nat.zero_le _) (Nat.le_refl _) ⟨rfl, k11 c1 c2 c3 c4 c5 c6 c7 c8 c9 c10 c11⟩
  by_cases c12 : a1 = 11
  · refine G_tableIn (off := 151) (tgt := 152) dX11_count_1 (w1) (by omega) (by omega) (by rw [c12]; rfl) (by decide) ?_
    refine G_aload_n dX11_count_152 rfl ?_
    refine G_getR (t := 3) dX11_count_153 fl_11_19 (by decide) sh_0 rr_0_1 ?_
    refine G_iconst (z := 0) dX11_count_156 rfl ?_
    exact k12 c1 c2 c3 c4 c5 c6 c7 c8 c9 c10 c11 c12
  refine G_tableOut (tgt := 161) dX11_count_1 (w1) (by omega) (by decide) ?_
  refine G_bipush (z := (-100)) dX11_count_161 rfl ?_
  exact G_iret dX11_count_163 rfl (Nat.zero_le _) (Nat.zero_le _) (Nat.le_refl _) ⟨rfl, k13 c1 c2 c3 c4 c5 c6 c7 c8 c9 c10 c11 c12⟩
set_option maxRecDepth 20000 in
set_option maxHeartbeats 1000000 in
theorem sg_X11_count_104 {E : Nat × (Nat → Int32)} {d : Nat} {P : Option Value → Mem → Prop} {mem : Mem} {a1 : Int} {s0 : Int}
    (k1 : P (some (vi s0)) mem) :
    GM E (m_X11_count d) P 104 [.ref 0, vi a1] [vi s0] mem := by
  exact G_iret dX11_count_104 rfl (Nat.zero_le _) (Nat.zero_le _) (Nat.le_refl _) ⟨rfl, k1⟩
set_option maxRecDepth 20000 in
set_option maxHeartbeats 1000000 in
theorem sg_X11_count_113 {E : Nat × (Nat → Int32)} {d : Nat} {P : Option Value → Mem → Prop} {mem : Mem} {a1 : Int} {s0 : Int}
    (k1 : P (some (vi s0)) mem) :
    GM E (m_X11_count d) P 113 [.ref 0, vi a1] [vi s0] mem := by
  exact G_iret dX11_count_113 rfl (Nat.zero_le _) (Nat.zero_le _) (Nat.le_refl _) ⟨rfl, k1⟩
set_option maxRecDepth 20000 in
set_option maxHeartbeats 1000000 in
theorem sg_X11_count_122 {E : Nat × (Nat → Int32)} {d : Nat} {P : Option Value → Mem → Prop} {mem : Mem} {a1 : Int} {s0 : Int}
    (k1 : P (some (vi s0)) mem) :
    GM E (m_X11_count d) P 122 [.ref 0, vi a1] [vi s0] mem := by
  exact G_iret dX11_count_122 rfl (Nat.zero_le _) (Nat.zero_le _) (Nat.le_refl _) ⟨rfl, k1⟩
set_option maxRecDepth 20000 in
set_option maxHeartbeats 1000000 in
theorem sg_X11_count_160 {E : Nat × (Nat → Int32)} {d : Nat} {P : Option Value → Mem → Prop} {mem : Mem} {a1 : Int} {s0 : Int}
    (k1 : P (some (vi s0)) mem) :
    GM E (m_X11_count d) P 160 [.ref 0, vi a1] [vi s0] mem := by
  exact G_iret dX11_count_160 rfl (Nat.zero_le _) (Nat.zero_le _) (Nat.le_refl _) ⟨rfl, k1⟩
abbrev m_X11_dayOf (d : Nat) : Mu := (cX11_dayOf, 5, RX11, (some .int), ⟨d, 0, 0, 40 * d⟩, "dayOf")
set_option maxRecDepth 20000 in
set_option maxHeartbeats 1000000 in
theorem sg_X11_dayOf_0 {E : Nat × (Nat → Int32)} {d : Nat} {P : Option Value → Mem → Prop} {mem : Mem} {a1 : Int} {a2 : Int}
    (k1 : GM E (m_X11_dayOf d) P 5 [.ref 0, vi a1, vi a2, un, un] [vi a1, .ref 9] mem) :
    GM E (m_X11_dayOf d) P 0 [.ref 0, vi a1, vi a2, un, un] [] mem := by
  refine G_aload_n dX11_dayOf_0 rfl ?_
  refine G_getR (t := 9) dX11_dayOf_1 fl_11_33 (by decide) sh_0 rr_0_3 ?_
  refine G_iload_n dX11_dayOf_4 rfl ?_
  exact k1
set_option maxRecDepth 20000 in
set_option maxHeartbeats 1000000 in
theorem sg_X11_dayOf_8n {E : Nat × (Nat → Int32)} {d : Nat} {P : Option Value → Mem → Prop} {mem : Mem} {a1 : Int} {a2 : Int}
    (k1 : P (some (vi (-1))) mem) :
    GM E (m_X11_dayOf d) P 8 [.ref 0, vi a1, vi a2, un, un] [.null] mem := by
  refine G_astoreNull_n dX11_dayOf_8 rfl (by decide : 3 < 5) rfl ?_
  refine G_aloadNull_n dX11_dayOf_9 rfl ?_
  refine G_ifnullZ (tgt := 23) dX11_dayOf_10 (by decide) ?_
  refine G_iconst (z := (-1)) dX11_dayOf_23 rfl ?_
  exact G_iret dX11_dayOf_24 rfl (Nat.zero_le _) (Nat.zero_le _) (Nat.le_refl _) ⟨rfl, k1⟩
set_option maxRecDepth 20000 in
set_option maxHeartbeats 1000000 in
theorem sg_X11_dayOf_8r {E : Nat × (Nat → Int32)} {d : Nat} {P : Option Value → Mem → Prop} {mem : Mem} {a1 : Int} {a2 : Int} {os0 : Nat} (hos0 : os0 ∈ streetL) (w1 : -2147483648 ≤ a2 ∧ a2 < 2147483648)
    (k1 : a2 < 0 → P (some (vi (-1))) mem)
    (k2 : ¬ a2 < 0 → a2 < 7 → P (some (vi (mem os0 6))) (up2 mem os0 6 a2))
    (k3 : ¬ a2 < 0 → ¬ a2 < 7 → P (some (vi (-1))) mem) :
    GM E (m_X11_dayOf d) P 8 [.ref 0, vi a1, vi a2, un, un] [.ref os0] mem := by
  refine G_astore_n dX11_dayOf_8 rfl (by decide : 3 < 5) rfl ?_
  refine G_aload_n dX11_dayOf_9 rfl ?_
  refine G_ifnull dX11_dayOf_10 ?_
  refine G_iload_n dX11_dayOf_13 rfl ?_
  refine G_if_lt (tgt := 23) dX11_dayOf_14 (by decide) (w1) (fun c1 => ?_) (fun c1 => ?_)
  · -- a2 < 0
    refine G_iconst (z := (-1)) dX11_dayOf_23 rfl ?_
    exact G_iret dX11_dayOf_24 rfl (Nat.zero_le _) (Nat.zero_le _) (Nat.le_refl _) ⟨rfl, k1 c1⟩
  · -- ¬ a2 < 0
    refine G_iload_n dX11_dayOf_17 rfl ?_
    refine G_bipush (z := 7) dX11_dayOf_18 rfl ?_
    refine G_icmp_lt (tgt := 25) dX11_dayOf_20 (by decide) (w1) (by decide) (fun c2 => ?_) (fun c2 => ?_)
    · -- a2 < 7
      refine G_aload_n dX11_dayOf_25 rfl ?_
      refine G_getI (z := (mem os0 6)) dX11_dayOf_26 fl_11_159 (ltStreet0 hos0) (shStreet0 hos0) rfl ?_
      refine G_istore dX11_dayOf_29 (by decide : 4 < 5) rfl ?_
      refine G_aload_n dX11_dayOf_31 rfl ?_
      refine G_iload_n dX11_dayOf_32 rfl ?_
      refine G_putI (mem2 := (up2 mem os0 6 a2)) dX11_dayOf_33 fp_11_159 (ltStreet0 hos0) (shStreet0 hos0) rfl ?_
      refine G_iload dX11_dayOf_36 rfl ?_
      exact G_iret dX11_dayOf_38 rfl (Nat.zero_le _) (Nat.zero_le _) (Nat.le_refl _) ⟨rfl, k2 c1 c2⟩
    · -- ¬ a2 < 7
      refine G_iconst (z := (-1)) dX11_dayOf_23 rfl ?_
      exact G_iret dX11_dayOf_24 rfl (Nat.zero_le _) (Nat.zero_le _) (Nat.le_refl _) ⟨rfl, k3 c1 c2⟩
abbrev m_X11_drawOut (d : Nat) : Mu := (cX11_drawOut, 7, RX11, (some (.array .int)), ⟨d, 0, 0, 40 * d⟩, "drawOut")
set_option maxRecDepth 20000 in
set_option maxHeartbeats 1000000 in
theorem sg_X11_drawOut_0 {E : Nat × (Nat → Int32)} {d : Nat} {P : Option Value → Mem → Prop} {mem : Mem} {a1 : Int}
    (k1 : GM E (m_X11_drawOut d) P 10 [.ref 0, vi a1, .ref 108, vi 0, un, un, un] [] mem) :
    GM E (m_X11_drawOut d) P 0 [.ref 0, vi a1, un, un, un, un, un] [] mem := by
  refine G_aload_n dX11_drawOut_0 rfl ?_
  refine G_getR (t := 106) dX11_drawOut_1 fl_11_74 (by decide) sh_0 rr_0_8 ?_
  refine G_getR (t := 108) dX11_drawOut_4 fl_11_455 (by decide) sh_106 rr_106_3 ?_
  refine G_astore_n dX11_drawOut_7 rfl (by decide : 2 < 7) rfl ?_
  refine G_iconst (z := 0) dX11_drawOut_8 rfl ?_
  refine G_istore_n dX11_drawOut_9 rfl (by decide : 3 < 7) rfl ?_
  exact k1
set_option maxRecDepth 20000 in
set_option maxHeartbeats 1000000 in
theorem sg_X11_drawOut_10 {E : Nat × (Nat → Int32)} {d : Nat} {P : Option Value → Mem → Prop} {mem : Mem} {a1 : Int} {a3 : Int} (w1 : -2147483648 ≤ a3 ∧ a3 < 2147483648) (w2 : -2147483648 ≤ (mem 9 1) ∧ (mem 9 1) < 2147483648)
    (k1 : (mem 9 1) ≤ a3 → P (some (.ref 108)) mem)
    (k2 : ¬ (mem 9 1) ≤ a3 → 6 ≤ a3 → P (some (.ref 108)) mem)
    (k3 : ¬ (mem 9 1) ≤ a3 → ¬ 6 ≤ a3 → GM E (m_X11_drawOut d) P 32 [.ref 0, vi a1, .ref 108, vi a3, un, un, un] [vi a3, .ref 9] mem) :
    GM E (m_X11_drawOut d) P 10 [.ref 0, vi a1, .ref 108, vi a3, un, un, un] [] mem := by
  refine G_iload_n dX11_drawOut_10 rfl ?_
  refine G_aload_n dX11_drawOut_11 rfl ?_
  refine G_getR (t := 9) dX11_drawOut_12 fl_11_33 (by decide) sh_0 rr_0_3 ?_
  refine G_getI (z := (mem 9 1)) dX11_drawOut_15 fl_11_113 (by decide) sh_9 rfl ?_
  refine G_icmp_ge (tgt := 94) dX11_drawOut_18 (by decide) (w1) (w2) (fun c1 => ?_) (fun c1 => ?_)
  · -- (mem 9 1) ≤ a3
    refine G_aload_n dX11_drawOut_94 rfl ?_
    exact G_aret dX11_drawOut_95 rfl rfl (Nat.zero_le _) (Nat.zero_le _) (Nat.le_refl _) ⟨rfl, k1 c1⟩
  · -- ¬ (mem 9 1) ≤ a3
    refine G_iload_n dX11_drawOut_21 rfl ?_
    refine G_aload_n dX11_drawOut_22 rfl ?_
    refine G_alen (z := 6) dX11_drawOut_23 (by decide) sh_108 (by decide) rfl ?_
    refine G_icmp_ge (tgt := 94) dX11_drawOut_24 (by decide) (w1) (by decide) (fun c2 => ?_) (fun c2 => ?_)
    · -- 6 ≤ a3
      refine G_aload_n dX11_drawOut_94 rfl ?_
      exact G_aret dX11_drawOut_95 rfl rfl (Nat.zero_le _) (Nat.zero_le _) (Nat.le_refl _) ⟨rfl, k2 c1 c2⟩
    · -- ¬ 6 ≤ a3
      refine G_aload_n dX11_drawOut_27 rfl ?_
      refine G_getR (t := 9) dX11_drawOut_28 fl_11_33 (by decide) sh_0 rr_0_3 ?_
      refine G_iload_n dX11_drawOut_31 rfl ?_
      exact k3 c1 c2
set_option maxRecDepth 20000 in
set_option maxHeartbeats 1000000 in
theorem sg_X11_drawOut_35 {E : Nat × (Nat → Int32)} {d : Nat} {P : Option Value → Mem → Prop} {mem : Mem} {a1 : Int} {a3 : Int} {s0 : Int}
    (k1 : GM E (m_X11_drawOut d) P 43 [.ref 0, vi a1, .ref 108, vi a3, vi s0, vi 0, vi 0] [] mem) :
    GM E (m_X11_drawOut d) P 35 [.ref 0, vi a1, .ref 108, vi a3, un, un, un] [vi s0] mem := by
  refine G_istore dX11_drawOut_35 (by decide : 4 < 7) rfl ?_
  refine G_iconst (z := 0) dX11_drawOut_37 rfl ?_
  refine G_istore dX11_drawOut_38 (by decide : 5 < 7) rfl ?_
  refine G_iconst (z := 0) dX11_drawOut_40 rfl ?_
  refine G_istore dX11_drawOut_41 (by decide : 6 < 7) rfl ?_
  exact k1
set_option maxRecDepth 20000 in
set_option maxHeartbeats 1000000 in
theorem sg_X11_drawOut_43 {E : Nat × (Nat → Int32)} {d : Nat} {P : Option Value → Mem → Prop} {mem : Mem} {a1 : Int} {a3 : Int} {a4 : Int} {a5 : Int} {a6 : Int} (w1 : -2147483648 ≤ a6 ∧ a6 < 2147483648) (q2 : 16 ≤ a6 → 0 ≤ a3 ∧ a3 < 6)
    (k1 : 16 ≤ a6 → GM E (m_X11_drawOut d) P 10 [.ref 0, vi a1, .ref 108, vi (a3 + 1), vi a4, vi a5, vi a6] [] (up2 mem 108 a3 a5))
    (k2 : ¬ 16 ≤ a6 → (bandI (shrI a4 a6) 1) = 0 → GM E (m_X11_drawOut d) P 43 [.ref 0, vi a1, .ref 108, vi a3, vi a4, vi a5, vi (a6 + 1)] [] mem)
    (k3 : ¬ 16 ≤ a6 → ¬ (bandI (shrI a4 a6) 1) = 0 → GM E (m_X11_drawOut d) P 61 [.ref 0, vi a1, .ref 108, vi a3, vi a4, vi a5, vi a6] [.ref 0] mem) :
    GM E (m_X11_drawOut d) P 43 [.ref 0, vi a1, .ref 108, vi a3, vi a4, vi a5, vi a6] [] mem := by
  refine G_iload dX11_drawOut_43 rfl ?_
  refine G_bipush (z := 16) dX11_drawOut_45 rfl ?_
  refine G_icmp_ge (tgt := 83) dX11_drawOut_47 (by decide) (w1) (by decide) (fun c1 => ?_) (fun c1 => ?_)
  · -- 16 ≤ a6
    refine G_aload_n dX11_drawOut_83 rfl ?_
    refine G_iload_n dX11_drawOut_84 rfl ?_
    refine G_iload dX11_drawOut_85 rfl ?_
    refine G_iast (mem2 := (up2 mem 108 a3 a5)) dX11_drawOut_87 (by decide) sh_108 (by decide) (q2 c1).1 (q2 c1).2 rfl ?_
    refine G_iinc (z := (a3 + 1)) dX11_drawOut_88 rfl rfl (by decide : 3 < 7) rfl ?_
    refine G_goto (tgt := 10) dX11_drawOut_91 (by decide) ?_
    exact k1 c1
  · -- ¬ 16 ≤ a6
    refine G_iload dX11_drawOut_50 rfl ?_
    refine G_iload dX11_drawOut_52 rfl ?_
    refine G_ishr (z := (shrI a4 a6)) dX11_drawOut_54 (iI_inv _) ?_
    refine G_iconst (z := 1) dX11_drawOut_55 rfl ?_
    refine G_iand (z := (bandI (shrI a4 a6) 1)) dX11_drawOut_56 (iI_inv _) ?_
    refine G_if_eq (tgt := 77) dX11_drawOut_57 (by decide) (iI_rng _) (fun c2 => ?_) (fun c2 => ?_)
    · -- (bandI (shrI a4 a6) 1) = 0
      refine G_iinc (z := (a6 + 1)) dX11_drawOut_77 rfl rfl (by decide : 6 < 7) rfl ?_
      refine G_goto (tgt := 43) dX11_drawOut_80 (by decide) ?_
      exact k2 c1 c2
    · -- ¬ (bandI (shrI a4 a6) 1) = 0
      refine G_aload_n dX11_drawOut_60 rfl ?_
      exact k3 c1 c2
set_option maxRecDepth 20000 in
set_option maxHeartbeats 1000000 in
theorem sg_X11_drawOut_64 {E : Nat × (Nat → Int32)} {d : Nat} {P : Option Value → Mem → Prop} {mem : Mem} {a1 : Int} {a3 : Int} {a4 : Int} {a5 : Int} {a6 : Int} {s0 : Int} (w1 : -2147483648 ≤ s0 ∧ s0 < 2147483648) (w2 : -2147483648 ≤ a1 ∧ a1 < 2147483648)
    (k1 : a1 ≤ s0 → GM E (m_X11_drawOut d) P 43 [.ref 0, vi a1, .ref 108, vi a3, vi a4, vi a5, vi (a6 + 1)] [] mem)
    (k2 : ¬ a1 ≤ s0 → GM E (m_X11_drawOut d) P 43 [.ref 0, vi a1, .ref 108, vi a3, vi a4, vi (borI a5 (shlI 1 a6)), vi (a6 + 1)] [] mem) :
    GM E (m_X11_drawOut d) P 64 [.ref 0, vi a1, .ref 108, vi a3, vi a4, vi a5, vi a6] [vi s0] mem := by
  refine G_iload_n dX11_drawOut_64 rfl ?_
  refine G_icmp_ge (tgt := 77) dX11_drawOut_65 (by decide) (w1) (w2) (fun c1 => ?_) (fun c1 => ?_)
  · -- a1 ≤ s0
    refine G_iinc (z := (a6 + 1)) dX11_drawOut_77 rfl rfl (by decide : 6 < 7) rfl ?_
    refine G_goto (tgt := 43) dX11_drawOut_80 (by decide) ?_
    exact k1 c1
  · -- ¬ a1 ≤ s0
    refine G_iload dX11_drawOut_68 rfl ?_
    refine G_iconst (z := 1) dX11_drawOut_70 rfl ?_
    refine G_iload dX11_drawOut_71 rfl ?_
    refine G_ishl (z := (shlI 1 a6)) dX11_drawOut_73 (iI_inv _) ?_
    refine G_ior (z := (borI a5 (shlI 1 a6))) dX11_drawOut_74 (iI_inv _) ?_
    refine G_istore dX11_drawOut_75 (by decide : 5 < 7) rfl ?_
    refine G_iinc (z := (a6 + 1)) dX11_drawOut_77 rfl rfl (by decide : 6 < 7) rfl ?_
    refine G_goto (tgt := 43) dX11_drawOut_80 (by decide) ?_
    exact k2 c1
abbrev m_X11_drawTenth (d : Nat) : Mu := (cX11_drawTenth, 1, RX11, (some .int), ⟨d, 0, 0, 40 * d⟩, "drawTenth")
set_option maxRecDepth 20000 in
set_option maxHeartbeats 1000000 in
theorem sg_X11_drawTenth_0 {E : Nat × (Nat → Int32)} {d : Nat} {P : Option Value → Mem → Prop} {mem : Mem}
    (k1 : P (some (vi (remI (ushrI (((mem 0 15) * 1103515245) + 12345) 16) 10))) (up2 mem 0 15 (((mem 0 15) * 1103515245) + 12345))) :
    GM E (m_X11_drawTenth d) P 0 [.ref 0] [] mem := by
  refine G_aload_n dX11_drawTenth_0 rfl ?_
  refine G_aload_n dX11_drawTenth_1 rfl ?_
  refine G_getI (z := (mem 0 15)) dX11_drawTenth_2 fl_11_445 (by decide) sh_0 rfl ?_
  refine G_ldcw (z := 1103515245) dX11_drawTenth_5 kc_11_461 ?_
  refine G_imul dX11_drawTenth_8 ?_
  refine G_sipush (z := 12345) dX11_drawTenth_9 rfl ?_
  refine G_iadd dX11_drawTenth_12 ?_
  refine G_putI (mem2 := (up2 mem 0 15 (((mem 0 15) * 1103515245) + 12345))) dX11_drawTenth_13 fp_11_445 (by decide) sh_0 rfl ?_
  refine G_aload_n dX11_drawTenth_16 rfl ?_
  refine G_getI (z := (((mem 0 15) * 1103515245) + 12345)) dX11_drawTenth_17 fl_11_445 (by decide) sh_0 (by simp [up2, upr]) ?_
  refine G_bipush (z := 16) dX11_drawTenth_20 rfl ?_
  refine G_iushr (z := (ushrI (((mem 0 15) * 1103515245) + 12345) 16)) dX11_drawTenth_22 (iI_inv _) ?_
  refine G_bipush (z := 10) dX11_drawTenth_23 rfl ?_
  refine G_irem (z := (remI (ushrI (((mem 0 15) * 1103515245) + 12345) 16) 10)) dX11_drawTenth_25 (iI_ne0 (by decide) (by decide)) (iI_inv _) ?_
  exact G_iret dX11_drawTenth_26 rfl (Nat.zero_le _) (Nat.zero_le _) (Nat.le_refl _) ⟨rfl, k1⟩
abbrev m_X11_drive (d : Nat) : Mu := (cX11_drive, 2, RX11, (some .int), ⟨d, 0, 0, 40 * d⟩, "drive")
set_option maxRecDepth 20000 in
set_option maxHeartbeats 1000000 in
theorem sg_X11_drive_0 {E : Nat × (Nat → Int32)} {d : Nat} {P : Option Value → Mem → Prop} {mem : Mem} {a1 : Int}
    (k1 : GM E (m_X11_drive d) P 8 [.ref 0, vi a1] [.ref 23, .ref 27] mem) :
    GM E (m_X11_drive d) P 0 [.ref 0, vi a1] [] mem := by
  refine G_aload_n dX11_drive_0 rfl ?_
  refine G_getR (t := 27) dX11_drive_1 fl_11_47 (by decide) sh_0 rr_0_5 ?_
  refine G_aload_n dX11_drive_4 rfl ?_
  refine G_getR (t := 23) dX11_drive_5 fl_11_40 (by decide) sh_0 rr_0_4 ?_
  exact k1
set_option maxRecDepth 20000 in
set_option maxHeartbeats 1000000 in
theorem sg_X11_drive_11 {E : Nat × (Nat → Int32)} {d : Nat} {P : Option Value → Mem → Prop} {mem : Mem} {a1 : Int}
    (k1 : GM E (m_X11_drive d) P 14 [.ref 0, vi a1] [vi a1, .ref 0, .ref 0] mem) :
    GM E (m_X11_drive d) P 11 [.ref 0, vi a1] [] mem := by
  refine G_aload_n dX11_drive_11 rfl ?_
  refine G_aload_n dX11_drive_12 rfl ?_
  refine G_iload_n dX11_drive_13 rfl ?_
  exact k1
set_option maxRecDepth 20000 in
set_option maxHeartbeats 1000000 in
theorem sg_X11_drive_17 {E : Nat × (Nat → Int32)} {d : Nat} {P : Option Value → Mem → Prop} {mem : Mem} {a1 : Int} {s0 : Int}
    (k1 : GM E (m_X11_drive d) P 17 [.ref 0, vi a1] [vi s0, .ref 0] mem) :
    GM E (m_X11_drive d) P 17 [.ref 0, vi a1] [vi s0, .ref 0] mem := by
  exact k1
set_option maxRecDepth 20000 in
set_option maxHeartbeats 1000000 in
theorem sg_X11_drive_20 {E : Nat × (Nat → Int32)} {d : Nat} {P : Option Value → Mem → Prop} {mem : Mem} {a1 : Int} {s0 : Int}
    (k1 : P (some (vi s0)) mem) :
    GM E (m_X11_drive d) P 20 [.ref 0, vi a1] [vi s0] mem := by
  exact G_iret dX11_drive_20 rfl (Nat.zero_le _) (Nat.zero_le _) (Nat.le_refl _) ⟨rfl, k1⟩
abbrev m_X11_driving (d : Nat) : Mu := (cX11_driving, 2, RX11, (some .int), ⟨d, 0, 0, 40 * d⟩, "driving")
set_option maxRecDepth 20000 in
set_option maxHeartbeats 1000000 in
theorem sg_X11_driving_0 {E : Nat × (Nat → Int32)} {d : Nat} (hd : 1 ≤ d) {P : Option Value → Mem → Prop} {mem : Mem} {a0 : Int} {a1 : Int} (w1 : -2147483648 ≤ (a0 - a1) ∧ (a0 - a1) < 2147483648)
    (k1 : P (some (vi (10 * (if 0 ≤ (a0 - a1) then (a0 - a1) else -(a0 - a1))))) mem) :
    GM E (m_X11_driving d) P 0 [vi a0, vi a1] [] mem := by
  refine G_bipush (z := 10) dX11_driving_0 rfl ?_
  refine G_iload_n dX11_driving_2 rfl ?_
  refine G_iload_n dX11_driving_3 rfl ?_
  refine G_isub dX11_driving_4 ?_
  refine G_abs (z := (if 0 ≤ (a0 - a1) then (a0 - a1) else -(a0 - a1))) dX11_driving_5 ml_11_470 mw_abs (w1) ⟨by show 1 ≤ d; omega, by show 21 ≤ 40 * d; omega, Nat.zero_le _, Nat.zero_le _⟩ (Nat.le_of_ble_eq_true rfl) rfl ?_
  refine G_imul dX11_driving_8 ?_
  exact G_iret dX11_driving_9 rfl (Nat.zero_le _) (Nat.zero_le _) (Nat.le_refl _) ⟨rfl, k1⟩
abbrev m_X11_empty (d : Nat) : Mu := (cX11_empty, 4, RX11, (some .int), ⟨d, 0, 0, 40 * d⟩, "empty")
set_option maxRecDepth 20000 in
set_option maxHeartbeats 1000000 in
theorem sg_X11_empty_0 {E : Nat × (Nat → Int32)} {d : Nat} {P : Option Value → Mem → Prop} {mem : Mem} {a1 : Int} {a2 : Int}
    (k1 : GM E (m_X11_empty d) P 8 [.ref 0, vi a1, vi a2, un] [.ref 23, .ref 27] mem) :
    GM E (m_X11_empty d) P 0 [.ref 0, vi a1, vi a2, un] [] mem := by
  refine G_aload_n dX11_empty_0 rfl ?_
  refine G_getR (t := 27) dX11_empty_1 fl_11_47 (by decide) sh_0 rr_0_5 ?_
  refine G_aload_n dX11_empty_4 rfl ?_
  refine G_getR (t := 23) dX11_empty_5 fl_11_40 (by decide) sh_0 rr_0_4 ?_
  exact k1
set_option maxRecDepth 20000 in
set_option maxHeartbeats 1000000 in
theorem sg_X11_empty_11 {E : Nat × (Nat → Int32)} {d : Nat} {P : Option Value → Mem → Prop} {mem : Mem} {a1 : Int} {a2 : Int}
    (k1 : GM E (m_X11_empty d) P 15 [.ref 0, vi a1, vi a2, un] [vi a2, vi a1, .ref 0, .ref 0] mem) :
    GM E (m_X11_empty d) P 11 [.ref 0, vi a1, vi a2, un] [] mem := by
  refine G_aload_n dX11_empty_11 rfl ?_
  refine G_aload_n dX11_empty_12 rfl ?_
  refine G_iload_n dX11_empty_13 rfl ?_
  refine G_iload_n dX11_empty_14 rfl ?_
  exact k1
set_option maxRecDepth 20000 in
set_option maxHeartbeats 1000000 in
theorem sg_X11_empty_18 {E : Nat × (Nat → Int32)} {d : Nat} {P : Option Value → Mem → Prop} {mem : Mem} {a1 : Int} {a2 : Int} {s0 : Int}
    (k1 : GM E (m_X11_empty d) P 18 [.ref 0, vi a1, vi a2, un] [vi s0, .ref 0] mem) :
    GM E (m_X11_empty d) P 18 [.ref 0, vi a1, vi a2, un] [vi s0, .ref 0] mem := by
  exact k1
set_option maxRecDepth 20000 in
set_option maxHeartbeats 1000000 in
theorem sg_X11_empty_21 {E : Nat × (Nat → Int32)} {d : Nat} {P : Option Value → Mem → Prop} {mem : Mem} {a1 : Int} {a2 : Int} {s0 : Int} (w1 : -2147483648 ≤ s0 ∧ s0 < 2147483648)
    (k1 : s0 < 0 → P (some (vi s0)) mem)
    (k2 : ¬ s0 < 0 → GM E (m_X11_empty d) P 34 [.ref 0, vi a1, vi a2, vi s0] [vi (mem 100 14), .ref 0] mem) :
    GM E (m_X11_empty d) P 21 [.ref 0, vi a1, vi a2, un] [vi s0] mem := by
  refine G_istore_n dX11_empty_21 rfl (by decide : 3 < 4) rfl ?_
  refine G_iload_n dX11_empty_22 rfl ?_
  refine G_if_lt (tgt := 80) dX11_empty_23 (by decide) (w1) (fun c1 => ?_) (fun c1 => ?_)
  · -- s0 < 0
    refine G_iload_n dX11_empty_80 rfl ?_
    exact G_iret dX11_empty_81 rfl (Nat.zero_le _) (Nat.zero_le _) (Nat.le_refl _) ⟨rfl, k1 c1⟩
  · -- ¬ s0 < 0
    refine G_aload_n dX11_empty_26 rfl ?_
    refine G_aload_n dX11_empty_27 rfl ?_
    refine G_getR (t := 100) dX11_empty_28 fl_11_65 (by decide) sh_0 rr_0_7 ?_
    refine G_getI (z := (mem 100 14)) dX11_empty_31 fl_11_226 (by decide) sh_100 rfl ?_
    exact k2 c1
set_option maxRecDepth 20000 in
set_option maxHeartbeats 1000000 in
theorem sg_X11_empty_37 {E : Nat × (Nat → Int32)} {d : Nat} {P : Option Value → Mem → Prop} {mem : Mem} {a1 : Int} {a2 : Int} {a3 : Int} {s0 : Int} (w1 : -2147483648 ≤ s0 ∧ s0 < 2147483648)
    (k1 : GM E (m_X11_empty d) P 38 [.ref 0, vi a1, vi a2, vi a3] [vl s0, .ref 0] mem) :
    GM E (m_X11_empty d) P 37 [.ref 0, vi a1, vi a2, vi a3] [vi s0, .ref 0] mem := by
  refine G_i2l dX11_empty_37 (w1) ?_
  exact k1
set_option maxRecDepth 20000 in
set_option maxHeartbeats 1000000 in
theorem sg_X11_empty_41 {E : Nat × (Nat → Int32)} {d : Nat} {P : Option Value → Mem → Prop} {mem : Mem} {a1 : Int} {a2 : Int} {a3 : Int}
    (k1 : GM E (m_X11_empty d) P 49 [.ref 0, vi a1, vi a2, vi a3] [vi (mem 100 15), .ref 0] mem) :
    GM E (m_X11_empty d) P 41 [.ref 0, vi a1, vi a2, vi a3] [] mem := by
  refine G_aload_n dX11_empty_41 rfl ?_
  refine G_aload_n dX11_empty_42 rfl ?_
  refine G_getR (t := 100) dX11_empty_43 fl_11_65 (by decide) sh_0 rr_0_7 ?_
  refine G_getI (z := (mem 100 15)) dX11_empty_46 fl_11_233 (by decide) sh_100 rfl ?_
  exact k1
set_option maxRecDepth 20000 in
set_option maxHeartbeats 1000000 in
theorem sg_X11_empty_52 {E : Nat × (Nat → Int32)} {d : Nat} {P : Option Value → Mem → Prop} {mem : Mem} {a1 : Int} {a2 : Int} {a3 : Int} {s0 : Int} (w1 : -2147483648 ≤ s0 ∧ s0 < 2147483648)
    (k1 : GM E (m_X11_empty d) P 53 [.ref 0, vi a1, vi a2, vi a3] [vl s0, .ref 0] mem) :
    GM E (m_X11_empty d) P 52 [.ref 0, vi a1, vi a2, vi a3] [vi s0, .ref 0] mem := by
  refine G_i2l dX11_empty_52 (w1) ?_
  exact k1
set_option maxRecDepth 20000 in
set_option maxHeartbeats 1000000 in
theorem sg_X11_empty_56 {E : Nat × (Nat → Int32)} {d : Nat} {P : Option Value → Mem → Prop} {mem : Mem} {a1 : Int} {a2 : Int} {a3 : Int} (w1 : -2147483648 ≤ (mem 100 16) ∧ (mem 100 16) < 2147483648)
    (k1 : GM E (m_X11_empty d) P 65 [.ref 0, vi a1, vi a2, vi a3] [vl (mem 100 16), .ref 0] mem) :
    GM E (m_X11_empty d) P 56 [.ref 0, vi a1, vi a2, vi a3] [] mem := by
  refine G_aload_n dX11_empty_56 rfl ?_
  refine G_aload_n dX11_empty_57 rfl ?_
  refine G_getR (t := 100) dX11_empty_58 fl_11_65 (by decide) sh_0 rr_0_7 ?_
  refine G_getI (z := (mem 100 16)) dX11_empty_61 fl_11_239 (by decide) sh_100 rfl ?_
  refine G_i2l dX11_empty_64 (w1) ?_
  exact k1
set_option maxRecDepth 20000 in
set_option maxHeartbeats 1000000 in
theorem sg_X11_empty_68 {E : Nat × (Nat → Int32)} {d : Nat} {P : Option Value → Mem → Prop} {mem : Mem} {a1 : Int} {a2 : Int} {a3 : Int} (w1 : -2147483648 ≤ (mem 100 17) ∧ (mem 100 17) < 2147483648)
    (k1 : GM E (m_X11_empty d) P 77 [.ref 0, vi a1, vi a2, vi a3] [vl (mem 100 17), .ref 0] mem) :
    GM E (m_X11_empty d) P 68 [.ref 0, vi a1, vi a2, vi a3] [] mem := by
  refine G_aload_n dX11_empty_68 rfl ?_
  refine G_aload_n dX11_empty_69 rfl ?_
  refine G_getR (t := 100) dX11_empty_70 fl_11_65 (by decide) sh_0 rr_0_7 ?_
  refine G_getI (z := (mem 100 17)) dX11_empty_73 fl_11_242 (by decide) sh_100 rfl ?_
  refine G_i2l dX11_empty_76 (w1) ?_
  exact k1
set_option maxRecDepth 20000 in
set_option maxHeartbeats 1000000 in
theorem sg_X11_empty_80 {E : Nat × (Nat → Int32)} {d : Nat} {P : Option Value → Mem → Prop} {mem : Mem} {a1 : Int} {a2 : Int} {a3 : Int}
    (k1 : P (some (vi a3)) mem) :
    GM E (m_X11_empty d) P 80 [.ref 0, vi a1, vi a2, vi a3] [] mem := by
  refine G_iload_n dX11_empty_80 rfl ?_
  exact G_iret dX11_empty_81 rfl (Nat.zero_le _) (Nat.zero_le _) (Nat.le_refl _) ⟨rfl, k1⟩
abbrev m_X11_emptyBins (d : Nat) : Mu := (cX11_emptyBins, 4, RX11, (some .int), ⟨d, 0, 0, 40 * d⟩, "emptyBins")
set_option maxRecDepth 20000 in
set_option maxHeartbeats 1000000 in
theorem sg_X11_emptyBins_0 {E : Nat × (Nat → Int32)} {d : Nat} {P : Option Value → Mem → Prop} {mem : Mem} {a1 : Int} {a2 : Int}
    (k1 : GM E (m_X11_emptyBins d) P 5 [.ref 0, vi a1, vi a2, un] [vi a1, .ref 9] mem) :
    GM E (m_X11_emptyBins d) P 0 [.ref 0, vi a1, vi a2, un] [] mem := by
  refine G_aload_n dX11_emptyBins_0 rfl ?_
  refine G_getR (t := 9) dX11_emptyBins_1 fl_11_33 (by decide) sh_0 rr_0_3 ?_
  refine G_iload_n dX11_emptyBins_4 rfl ?_
  exact k1
set_option maxRecDepth 20000 in
set_option maxHeartbeats 1000000 in
theorem sg_X11_emptyBins_8n {E : Nat × (Nat → Int32)} {d : Nat} {P : Option Value → Mem → Prop} {mem : Mem} {a1 : Int} {a2 : Int}
    (k1 : P (some (vi (-1))) mem) :
    GM E (m_X11_emptyBins d) P 8 [.ref 0, vi a1, vi a2, un] [.null] mem := by
  refine G_astoreNull_n dX11_emptyBins_8 rfl (by decide : 3 < 4) rfl ?_
  refine G_aloadNull_n dX11_emptyBins_9 rfl ?_
  refine G_ifnullZ (tgt := 22) dX11_emptyBins_10 (by decide) ?_
  refine G_iconst (z := (-1)) dX11_emptyBins_22 rfl ?_
  exact G_iret dX11_emptyBins_23 rfl (Nat.zero_le _) (Nat.zero_le _) (Nat.le_refl _) ⟨rfl, k1⟩
set_option maxRecDepth 20000 in
set_option maxHeartbeats 1000000 in
theorem sg_X11_emptyBins_8r {E : Nat × (Nat → Int32)} {d : Nat} {P : Option Value → Mem → Prop} {mem : Mem} {a1 : Int} {a2 : Int} {os0 : Nat} (hos0 : os0 ∈ streetL) (w1 : -2147483648 ≤ a2 ∧ a2 < 2147483648) (w2 : ¬ a2 < 0 → a2 < 3 → -2147483648 ≤ (mem 23 4) ∧ (mem 23 4) < 2147483648) (w3 : ¬ a2 < 0 → a2 < 3 → -2147483648 ≤ (mem os0 2) ∧ (mem os0 2) < 2147483648)
    (k1 : a2 < 0 → P (some (vi (-1))) mem)
    (k2 : ¬ a2 < 0 → a2 < 3 → (mem 23 4) = (mem os0 2) → GM E (m_X11_emptyBins d) P 49 [.ref 0, vi a1, vi a2, .ref os0] [vi (mem 23 5), .ref os0] mem)
    (k3 : ¬ a2 < 0 → a2 < 3 → ¬ (mem 23 4) = (mem os0 2) → P (some (vi (-2))) mem)
    (k4 : ¬ a2 < 0 → ¬ a2 < 3 → P (some (vi (-1))) mem) :
    GM E (m_X11_emptyBins d) P 8 [.ref 0, vi a1, vi a2, un] [.ref os0] mem := by
  refine G_astore_n dX11_emptyBins_8 rfl (by decide : 3 < 4) rfl ?_
  refine G_aload_n dX11_emptyBins_9 rfl ?_
  refine G_ifnull dX11_emptyBins_10 ?_
  refine G_iload_n dX11_emptyBins_13 rfl ?_
  refine G_if_lt (tgt := 22) dX11_emptyBins_14 (by decide) (w1) (fun c1 => ?_) (fun c1 => ?_)
  · -- a2 < 0
    refine G_iconst (z := (-1)) dX11_emptyBins_22 rfl ?_
    exact G_iret dX11_emptyBins_23 rfl (Nat.zero_le _) (Nat.zero_le _) (Nat.le_refl _) ⟨rfl, k1 c1⟩
  · -- ¬ a2 < 0
    refine G_iload_n dX11_emptyBins_17 rfl ?_
    refine G_iconst (z := 3) dX11_emptyBins_18 rfl ?_
    refine G_icmp_lt (tgt := 24) dX11_emptyBins_19 (by decide) (w1) (by decide) (fun c2 => ?_) (fun c2 => ?_)
    · -- a2 < 3
      refine G_aload_n dX11_emptyBins_24 rfl ?_
      refine G_getR (t := 23) dX11_emptyBins_25 fl_11_40 (by decide) sh_0 rr_0_4 ?_
      refine G_getI (z := (mem 23 4)) dX11_emptyBins_28 fl_11_252 (by decide) sh_23 rfl ?_
      refine G_aload_n dX11_emptyBins_31 rfl ?_
      refine G_getI (z := (mem os0 2)) dX11_emptyBins_32 fl_11_144 (ltStreet0 hos0) (shStreet0 hos0) rfl ?_
      refine G_icmp_eq (tgt := 41) dX11_emptyBins_35 (by decide) (w2 c1 c2) (w3 c1 c2) (fun c3 => ?_) (fun c3 => ?_)
      · -- (mem 23 4) = (mem os0 2)
        refine G_aload_n dX11_emptyBins_41 rfl ?_
        refine G_aload_n dX11_emptyBins_42 rfl ?_
        refine G_getR (t := 23) dX11_emptyBins_43 fl_11_40 (by decide) sh_0 rr_0_4 ?_
        refine G_getI (z := (mem 23 5)) dX11_emptyBins_46 fl_11_253 (by decide) sh_23 rfl ?_
        exact k2 c1 c2 c3
      · -- ¬ (mem 23 4) = (mem os0 2)
        refine G_bipush (z := (-2)) dX11_emptyBins_38 rfl ?_
        exact G_iret dX11_emptyBins_40 rfl (Nat.zero_le _) (Nat.zero_le _) (Nat.le_refl _) ⟨rfl, k3 c1 c2 c3⟩
    · -- ¬ a2 < 3
      refine G_iconst (z := (-1)) dX11_emptyBins_22 rfl ?_
      exact G_iret dX11_emptyBins_23 rfl (Nat.zero_le _) (Nat.zero_le _) (Nat.le_refl _) ⟨rfl, k4 c1 c2⟩
set_option maxRecDepth 20000 in
set_option maxHeartbeats 1000000 in
theorem sg_X11_emptyBins_52 {E : Nat × (Nat → Int32)} {d : Nat} {P : Option Value → Mem → Prop} {mem : Mem} {a1 : Int} {a2 : Int} {o3 : Nat} {s0 : Int} (ho3 : o3 ∈ streetL) (w1 : -2147483648 ≤ s0 ∧ s0 < 2147483648)
    (k1 : s0 = 0 → GM E (m_X11_emptyBins d) P 67 [.ref 0, vi a1, vi a2, .ref o3] [vi 1, .ref 3, .ref 100] mem)
    (k2 : ¬ s0 = 0 → P (some (vi (-3))) mem) :
    GM E (m_X11_emptyBins d) P 52 [.ref 0, vi a1, vi a2, .ref o3] [vi s0] mem := by
  refine G_if_eq (tgt := 58) dX11_emptyBins_52 (by decide) (w1) (fun c1 => ?_) (fun c1 => ?_)
  · -- s0 = 0
    refine G_aload_n dX11_emptyBins_58 rfl ?_
    refine G_getR (t := 100) dX11_emptyBins_59 fl_11_65 (by decide) sh_0 rr_0_7 ?_
    refine G_aload_n dX11_emptyBins_62 rfl ?_
    refine G_getR (t := 3) dX11_emptyBins_63 fl_11_19 (by decide) sh_0 rr_0_1 ?_
    refine G_iconst (z := 1) dX11_emptyBins_66 rfl ?_
    exact k1 c1
  · -- ¬ s0 = 0
    refine G_bipush (z := (-3)) dX11_emptyBins_55 rfl ?_
    exact G_iret dX11_emptyBins_57 rfl (Nat.zero_le _) (Nat.zero_le _) (Nat.le_refl _) ⟨rfl, k2 c1⟩
set_option maxRecDepth 20000 in
set_option maxHeartbeats 1000000 in
theorem sg_X11_emptyBins_70 {E : Nat × (Nat → Int32)} {d : Nat} {P : Option Value → Mem → Prop} {mem : Mem} {a1 : Int} {a2 : Int} {o3 : Nat} {s0 : Int} (ho3 : o3 ∈ streetL)
    (k1 : GM E (m_X11_emptyBins d) P 74 [.ref 0, vi a1, vi a2, .ref o3] [vi (mem o3 4), vi s0, .ref 100] mem) :
    GM E (m_X11_emptyBins d) P 70 [.ref 0, vi a1, vi a2, .ref o3] [vi s0, .ref 100] mem := by
  refine G_aload_n dX11_emptyBins_70 rfl ?_
  refine G_getI (z := (mem o3 4)) dX11_emptyBins_71 fl_11_152 (ltStreet0 ho3) (shStreet0 ho3) rfl ?_
  exact k1
set_option maxRecDepth 20000 in
set_option maxHeartbeats 1000000 in
theorem sg_X11_emptyBins_77 {E : Nat × (Nat → Int32)} {d : Nat} {P : Option Value → Mem → Prop} {mem : Mem} {a1 : Int} {a2 : Int} {o3 : Nat} (ho3 : o3 ∈ streetL)
    (k1 : GM E (m_X11_emptyBins d) P 88 [.ref 0, vi a1, vi a2, .ref o3] [vi a1, .ref 23, vi a2, .ref o3, .ref 100] mem) :
    GM E (m_X11_emptyBins d) P 77 [.ref 0, vi a1, vi a2, .ref o3] [] mem := by
  refine G_aload_n dX11_emptyBins_77 rfl ?_
  refine G_getR (t := 100) dX11_emptyBins_78 fl_11_65 (by decide) sh_0 rr_0_7 ?_
  refine G_aload_n dX11_emptyBins_81 rfl ?_
  refine G_iload_n dX11_emptyBins_82 rfl ?_
  refine G_aload_n dX11_emptyBins_83 rfl ?_
  refine G_getR (t := 23) dX11_emptyBins_84 fl_11_40 (by decide) sh_0 rr_0_4 ?_
  refine G_iload_n dX11_emptyBins_87 rfl ?_
  exact k1
set_option maxRecDepth 20000 in
set_option maxHeartbeats 1000000 in
theorem sg_X11_emptyBins_91 {E : Nat × (Nat → Int32)} {d : Nat} {P : Option Value → Mem → Prop} {mem : Mem} {a1 : Int} {a2 : Int} {o3 : Nat} {s0 : Int} {s1 : Int} (ho3 : o3 ∈ streetL)
    (k1 : GM E (m_X11_emptyBins d) P 91 [.ref 0, vi a1, vi a2, .ref o3] [vi s0, vi s1, .ref o3, .ref 100] mem) :
    GM E (m_X11_emptyBins d) P 91 [.ref 0, vi a1, vi a2, .ref o3] [vi s0, vi s1, .ref o3, .ref 100] mem := by
  exact k1
set_option maxRecDepth 20000 in
set_option maxHeartbeats 1000000 in
theorem sg_X11_emptyBins_94 {E : Nat × (Nat → Int32)} {d : Nat} {P : Option Value → Mem → Prop} {mem : Mem} {a1 : Int} {a2 : Int} {o3 : Nat} (ho3 : o3 ∈ streetL)
    (k1 : GM E (m_X11_emptyBins d) P 110 [.ref 0, vi a1, vi a2, .ref o3] [vi 0, .ref 3, vi (mem 23 3), .ref 100] mem) :
    GM E (m_X11_emptyBins d) P 94 [.ref 0, vi a1, vi a2, .ref o3] [] mem := by
  refine G_aload_n dX11_emptyBins_94 rfl ?_
  refine G_getR (t := 100) dX11_emptyBins_95 fl_11_65 (by decide) sh_0 rr_0_7 ?_
  refine G_aload_n dX11_emptyBins_98 rfl ?_
  refine G_getR (t := 23) dX11_emptyBins_99 fl_11_40 (by decide) sh_0 rr_0_4 ?_
  refine G_getI (z := (mem 23 3)) dX11_emptyBins_102 fl_11_203 (by decide) sh_23 rfl ?_
  refine G_aload_n dX11_emptyBins_105 rfl ?_
  refine G_getR (t := 3) dX11_emptyBins_106 fl_11_19 (by decide) sh_0 rr_0_1 ?_
  refine G_iconst (z := 0) dX11_emptyBins_109 rfl ?_
  exact k1
set_option maxRecDepth 20000 in
set_option maxHeartbeats 1000000 in
theorem sg_X11_emptyBins_113 {E : Nat × (Nat → Int32)} {d : Nat} {P : Option Value → Mem → Prop} {mem : Mem} {a1 : Int} {a2 : Int} {o3 : Nat} {s0 : Int} {s1 : Int} (ho3 : o3 ∈ streetL)
    (k1 : GM E (m_X11_emptyBins d) P 113 [.ref 0, vi a1, vi a2, .ref o3] [vi s0, vi s1, .ref 100] mem) :
    GM E (m_X11_emptyBins d) P 113 [.ref 0, vi a1, vi a2, .ref o3] [vi s0, vi s1, .ref 100] mem := by
  exact k1
set_option maxRecDepth 20000 in
set_option maxHeartbeats 1000000 in
theorem sg_X11_emptyBins_116 {E : Nat × (Nat → Int32)} {d : Nat} {P : Option Value → Mem → Prop} {mem : Mem} {a1 : Int} {a2 : Int} {o3 : Nat} (ho3 : o3 ∈ streetL)
    (k1 : GM E (m_X11_emptyBins d) P 125 [.ref 0, vi a1, vi a2, .ref o3] [.ref 100, vi a1, .ref 23] mem) :
    GM E (m_X11_emptyBins d) P 116 [.ref 0, vi a1, vi a2, .ref o3] [] mem := by
  refine G_aload_n dX11_emptyBins_116 rfl ?_
  refine G_getR (t := 23) dX11_emptyBins_117 fl_11_40 (by decide) sh_0 rr_0_4 ?_
  refine G_iload_n dX11_emptyBins_120 rfl ?_
  refine G_aload_n dX11_emptyBins_121 rfl ?_
  refine G_getR (t := 100) dX11_emptyBins_122 fl_11_65 (by decide) sh_0 rr_0_7 ?_
  exact k1
set_option maxRecDepth 20000 in
set_option maxHeartbeats 1000000 in
theorem sg_X11_emptyBins_128 {E : Nat × (Nat → Int32)} {d : Nat} {P : Option Value → Mem → Prop} {mem : Mem} {a1 : Int} {a2 : Int} {o3 : Nat} (ho3 : o3 ∈ streetL)
    (k1 : GM E (m_X11_emptyBins d) P 132 [.ref 0, vi a1, vi a2, .ref o3] [.ref 100] mem) :
    GM E (m_X11_emptyBins d) P 128 [.ref 0, vi a1, vi a2, .ref o3] [] mem := by
  refine G_aload_n dX11_emptyBins_128 rfl ?_
  refine G_getR (t := 100) dX11_emptyBins_129 fl_11_65 (by decide) sh_0 rr_0_7 ?_
  exact k1
set_option maxRecDepth 20000 in
set_option maxHeartbeats 1000000 in
theorem sg_X11_emptyBins_135 {E : Nat × (Nat → Int32)} {d : Nat} {P : Option Value → Mem → Prop} {mem : Mem} {a1 : Int} {a2 : Int} {o3 : Nat} {s0 : Int} (ho3 : o3 ∈ streetL)
    (k1 : P (some (vi s0)) mem) :
    GM E (m_X11_emptyBins d) P 135 [.ref 0, vi a1, vi a2, .ref o3] [vi s0] mem := by
  exact G_iret dX11_emptyBins_135 rfl (Nat.zero_le _) (Nat.zero_le _) (Nat.le_refl _) ⟨rfl, k1⟩
abbrev m_X11_end (d : Nat) : Mu := (cX11_end, 2, RX11, (some .boolean), ⟨d, 0, 0, 40 * d⟩, "end")
set_option maxRecDepth 20000 in
set_option maxHeartbeats 1000000 in
theorem sg_X11_end_0 {E : Nat × (Nat → Int32)} {d : Nat} {P : Option Value → Mem → Prop} {mem : Mem} {a1 : Int}
    (k1 : GM E (m_X11_end d) P 5 [.ref 0, vi a1] [vi a1, .ref 1] mem) :
    GM E (m_X11_end d) P 0 [.ref 0, vi a1] [] mem := by
  refine G_aload_n dX11_end_0 rfl ?_
  refine G_getR (t := 1) dX11_end_1 fl_11_12 (by decide) sh_0 rr_0_0 ?_
  refine G_iload_n dX11_end_4 rfl ?_
  exact k1
set_option maxRecDepth 20000 in
set_option maxHeartbeats 1000000 in
theorem sg_X11_end_8 {E : Nat × (Nat → Int32)} {d : Nat} {P : Option Value → Mem → Prop} {mem : Mem} {a1 : Int} {s0 : Int} (b1 : s0 = 0 ∨ s0 = 1)
    (k1 : P (some (vi s0)) mem) :
    GM E (m_X11_end d) P 8 [.ref 0, vi a1] [vi s0] mem := by
  exact G_zret dX11_end_8 rfl (nar_zb (b1)) (Nat.zero_le _) (Nat.zero_le _) (Nat.le_refl _) ⟨rfl, k1⟩
abbrev m_X11_forget (d : Nat) : Mu := (cX11_forget, 2, RX11, (some .int), ⟨d, 0, 0, 40 * d⟩, "forget")
set_option maxRecDepth 20000 in
set_option maxHeartbeats 1000000 in
theorem sg_X11_forget_0 {E : Nat × (Nat → Int32)} {d : Nat} {P : Option Value → Mem → Prop} {mem : Mem}
    (k1 : P (some (vi (mem 93 4))) (up2 mem 93 4 0)) :
    GM E (m_X11_forget d) P 0 [.ref 0, un] [] mem := by
  refine G_aload_n dX11_forget_0 rfl ?_
  refine G_getR (t := 93) dX11_forget_1 fl_11_56 (by decide) sh_0 rr_0_6 ?_
  refine G_getI (z := (mem 93 4)) dX11_forget_4 fl_11_422 (by decide) sh_93 rfl ?_
  refine G_istore_n dX11_forget_7 rfl (by decide : 1 < 2) rfl ?_
  refine G_aload_n dX11_forget_8 rfl ?_
  refine G_getR (t := 93) dX11_forget_9 fl_11_56 (by decide) sh_0 rr_0_6 ?_
  refine G_iconst (z := 0) dX11_forget_12 rfl ?_
  refine G_putI (mem2 := (up2 mem 93 4 0)) dX11_forget_13 fp_11_422 (by decide) sh_93 rfl ?_
  refine G_iload_n dX11_forget_16 rfl ?_
  exact G_iret dX11_forget_17 rfl (Nat.zero_le _) (Nat.zero_le _) (Nat.le_refl _) ⟨rfl, k1⟩
abbrev m_X11_goTip (d : Nat) : Mu := (cX11_goTip, 2, RX11, (some .int), ⟨d, 0, 0, 40 * d⟩, "goTip")
set_option maxRecDepth 20000 in
set_option maxHeartbeats 1000000 in
theorem sg_X11_goTip_0 {E : Nat × (Nat → Int32)} {d : Nat} {P : Option Value → Mem → Prop} {mem : Mem}
    (k1 : GM E (m_X11_goTip d) P 12 [.ref 0, un] [vi 5, .ref 3, vi (mem 23 4)] mem) :
    GM E (m_X11_goTip d) P 0 [.ref 0, un] [] mem := by
  refine G_aload_n dX11_goTip_0 rfl ?_
  refine G_getR (t := 23) dX11_goTip_1 fl_11_40 (by decide) sh_0 rr_0_4 ?_
  refine G_getI (z := (mem 23 4)) dX11_goTip_4 fl_11_252 (by decide) sh_23 rfl ?_
  refine G_aload_n dX11_goTip_7 rfl ?_
  refine G_getR (t := 3) dX11_goTip_8 fl_11_19 (by decide) sh_0 rr_0_1 ?_
  refine G_iconst (z := 5) dX11_goTip_11 rfl ?_
  exact k1
set_option maxRecDepth 20000 in
set_option maxHeartbeats 1000000 in
theorem sg_X11_goTip_15 {E : Nat × (Nat → Int32)} {d : Nat} {P : Option Value → Mem → Prop} {mem : Mem} {s0 : Int} {s1 : Int}
    (k1 : GM E (m_X11_goTip d) P 15 [.ref 0, un] [vi s0, vi s1] mem) :
    GM E (m_X11_goTip d) P 15 [.ref 0, un] [vi s0, vi s1] mem := by
  exact k1
set_option maxRecDepth 20000 in
set_option maxHeartbeats 1000000 in
theorem sg_X11_goTip_18 {E : Nat × (Nat → Int32)} {d : Nat} {P : Option Value → Mem → Prop} {mem : Mem} {s0 : Int}
    (k1 : GM E (m_X11_goTip d) P 37 [.ref 0, vi s0] [vi 6, .ref 3, vi (divI ((mem 23 5) + s0) 60)] mem) :
    GM E (m_X11_goTip d) P 18 [.ref 0, un] [vi s0] mem := by
  refine G_istore_n dX11_goTip_18 rfl (by decide : 1 < 2) rfl ?_
  refine G_aload_n dX11_goTip_19 rfl ?_
  refine G_getR (t := 23) dX11_goTip_20 fl_11_40 (by decide) sh_0 rr_0_4 ?_
  refine G_getI (z := (mem 23 5)) dX11_goTip_23 fl_11_253 (by decide) sh_23 rfl ?_
  refine G_iload_n dX11_goTip_26 rfl ?_
  refine G_iadd dX11_goTip_27 ?_
  refine G_bipush (z := 60) dX11_goTip_28 rfl ?_
  refine G_idiv (z := (divI ((mem 23 5) + s0) 60)) dX11_goTip_30 (iI_ne0 (by decide) (by decide)) (iI_inv _) ?_
  refine G_aload_n dX11_goTip_31 rfl ?_
  refine G_getR (t := 3) dX11_goTip_32 fl_11_19 (by decide) sh_0 rr_0_1 ?_
  refine G_bipush (z := 6) dX11_goTip_35 rfl ?_
  exact k1
set_option maxRecDepth 20000 in
set_option maxHeartbeats 1000000 in
theorem sg_X11_goTip_40 {E : Nat × (Nat → Int32)} {d : Nat} {P : Option Value → Mem → Prop} {mem : Mem} {a1 : Int} {s0 : Int} {s1 : Int} (w1 : -2147483648 ≤ s1 ∧ s1 < 2147483648) (w2 : -2147483648 ≤ s0 ∧ s0 < 2147483648)
    (k1 : s1 ≤ s0 → GM E (m_X11_goTip d) P 72 [.ref 0, vi a1] [vi 5, .ref 3, .ref 23] (up2 mem 23 5 ((mem 23 5) + (a1 + 300))))
    (k2 : ¬ s1 ≤ s0 → P (some (vi (-2))) mem) :
    GM E (m_X11_goTip d) P 40 [.ref 0, vi a1] [vi s0, vi s1] mem := by
  refine G_icmp_le (tgt := 46) dX11_goTip_40 (by decide) (w1) (w2) (fun c1 => ?_) (fun c1 => ?_)
  · -- s1 ≤ s0
    refine G_aload_n dX11_goTip_46 rfl ?_
    refine G_getR (t := 23) dX11_goTip_47 fl_11_40 (by decide) sh_0 rr_0_4 ?_
    refine G_dup dX11_goTip_50 rfl ?_
    refine G_getI (z := (mem 23 5)) dX11_goTip_51 fl_11_253 (by decide) sh_23 rfl ?_
    refine G_iload_n dX11_goTip_54 rfl ?_
    refine G_sipush (z := 300) dX11_goTip_55 rfl ?_
    refine G_iadd dX11_goTip_58 ?_
    refine G_iadd dX11_goTip_59 ?_
    refine G_putI (mem2 := (up2 mem 23 5 ((mem 23 5) + (a1 + 300)))) dX11_goTip_60 fp_11_253 (by decide) sh_23 rfl ?_
    refine G_aload_n dX11_goTip_63 rfl ?_
    refine G_getR (t := 23) dX11_goTip_64 fl_11_40 (by decide) sh_0 rr_0_4 ?_
    refine G_aload_n dX11_goTip_67 rfl ?_
    refine G_getR (t := 3) dX11_goTip_68 fl_11_19 (by decide) sh_0 rr_0_1 ?_
    refine G_iconst (z := 5) dX11_goTip_71 rfl ?_
    exact k1 c1
  · -- ¬ s1 ≤ s0
    refine G_bipush (z := (-2)) dX11_goTip_43 rfl ?_
    exact G_iret dX11_goTip_45 rfl (Nat.zero_le _) (Nat.zero_le _) (Nat.le_refl _) ⟨rfl, k2 c1⟩
set_option maxRecDepth 20000 in
set_option maxHeartbeats 1000000 in
theorem sg_X11_goTip_75 {E : Nat × (Nat → Int32)} {d : Nat} {P : Option Value → Mem → Prop} {mem : Mem} {a1 : Int} {s0 : Int}
    (k1 : P (some (vi (a1 + 300))) (up2 (up2 mem 23 4 s0) 23 3 0)) :
    GM E (m_X11_goTip d) P 75 [.ref 0, vi a1] [vi s0, .ref 23] mem := by
  refine G_putI (mem2 := (up2 mem 23 4 s0)) dX11_goTip_75 fp_11_252 (by decide) sh_23 rfl ?_
  refine G_aload_n dX11_goTip_78 rfl ?_
  refine G_getR (t := 23) dX11_goTip_79 fl_11_40 (by decide) sh_0 rr_0_4 ?_
  refine G_iconst (z := 0) dX11_goTip_82 rfl ?_
  refine G_putI (mem2 := (up2 (up2 mem 23 4 s0) 23 3 0)) dX11_goTip_83 fp_11_203 (by decide) sh_23 rfl ?_
  refine G_iload_n dX11_goTip_86 rfl ?_
  refine G_sipush (z := 300) dX11_goTip_87 rfl ?_
  refine G_iadd dX11_goTip_90 ?_
  exact G_iret dX11_goTip_91 rfl (Nat.zero_le _) (Nat.zero_le _) (Nat.le_refl _) ⟨rfl, k1⟩
abbrev m_X11_goTo (d : Nat) : Mu := (cX11_goTo, 4, RX11, (some .int), ⟨d, 0, 0, 40 * d⟩, "goTo")
set_option maxRecDepth 20000 in
set_option maxHeartbeats 1000000 in
theorem sg_X11_goTo_0 {E : Nat × (Nat → Int32)} {d : Nat} {P : Option Value → Mem → Prop} {mem : Mem} {a1 : Int}
    (k1 : GM E (m_X11_goTo d) P 5 [.ref 0, vi a1, un, un] [vi a1, .ref 9] mem) :
    GM E (m_X11_goTo d) P 0 [.ref 0, vi a1, un, un] [] mem := by
  refine G_aload_n dX11_goTo_0 rfl ?_
  refine G_getR (t := 9) dX11_goTo_1 fl_11_33 (by decide) sh_0 rr_0_3 ?_
  refine G_iload_n dX11_goTo_4 rfl ?_
  exact k1
set_option maxRecDepth 20000 in
set_option maxHeartbeats 1000000 in
theorem sg_X11_goTo_8n {E : Nat × (Nat → Int32)} {d : Nat} {P : Option Value → Mem → Prop} {mem : Mem} {a1 : Int}
    (k1 : P (some (vi (-1))) mem) :
    GM E (m_X11_goTo d) P 8 [.ref 0, vi a1, un, un] [.null] mem := by
  refine G_astoreNull_n dX11_goTo_8 rfl (by decide : 2 < 4) rfl ?_
  refine G_aloadNull_n dX11_goTo_9 rfl ?_
  refine G_ifnonnullZ dX11_goTo_10 ?_
  refine G_iconst (z := (-1)) dX11_goTo_13 rfl ?_
  exact G_iret dX11_goTo_14 rfl (Nat.zero_le _) (Nat.zero_le _) (Nat.le_refl _) ⟨rfl, k1⟩
set_option maxRecDepth 20000 in
set_option maxHeartbeats 1000000 in
theorem sg_X11_goTo_8r {E : Nat × (Nat → Int32)} {d : Nat} {P : Option Value → Mem → Prop} {mem : Mem} {a1 : Int} {os0 : Nat} (hos0 : os0 ∈ streetL)
    (k1 : GM E (m_X11_goTo d) P 26 [.ref 0, vi a1, .ref os0, un] [vi (mem os0 2), vi (mem 23 4)] mem) :
    GM E (m_X11_goTo d) P 8 [.ref 0, vi a1, un, un] [.ref os0] mem := by
  refine G_astore_n dX11_goTo_8 rfl (by decide : 2 < 4) rfl ?_
  refine G_aload_n dX11_goTo_9 rfl ?_
  refine G_ifnonnull (tgt := 15) dX11_goTo_10 (by decide) ?_
  refine G_aload_n dX11_goTo_15 rfl ?_
  refine G_getR (t := 23) dX11_goTo_16 fl_11_40 (by decide) sh_0 rr_0_4 ?_
  refine G_getI (z := (mem 23 4)) dX11_goTo_19 fl_11_252 (by decide) sh_23 rfl ?_
  refine G_aload_n dX11_goTo_22 rfl ?_
  refine G_getI (z := (mem os0 2)) dX11_goTo_23 fl_11_144 (ltStreet0 hos0) (shStreet0 hos0) rfl ?_
  exact k1
set_option maxRecDepth 20000 in
set_option maxHeartbeats 1000000 in
theorem sg_X11_goTo_29 {E : Nat × (Nat → Int32)} {d : Nat} {P : Option Value → Mem → Prop} {mem : Mem} {a1 : Int} {o2 : Nat} {s0 : Int} (ho2 : o2 ∈ streetL)
    (k1 : P (some (vi s0)) (up2 (up2 mem 23 4 (mem o2 2)) 23 5 ((mem 23 5) + s0))) :
    GM E (m_X11_goTo d) P 29 [.ref 0, vi a1, .ref o2, un] [vi s0] mem := by
  refine G_istore_n dX11_goTo_29 rfl (by decide : 3 < 4) rfl ?_
  refine G_aload_n dX11_goTo_30 rfl ?_
  refine G_getR (t := 23) dX11_goTo_31 fl_11_40 (by decide) sh_0 rr_0_4 ?_
  refine G_aload_n dX11_goTo_34 rfl ?_
  refine G_getI (z := (mem o2 2)) dX11_goTo_35 fl_11_144 (ltStreet0 ho2) (shStreet0 ho2) rfl ?_
  refine G_putI (mem2 := (up2 mem 23 4 (mem o2 2))) dX11_goTo_38 fp_11_252 (by decide) sh_23 rfl ?_
  refine G_aload_n dX11_goTo_41 rfl ?_
  refine G_getR (t := 23) dX11_goTo_42 fl_11_40 (by decide) sh_0 rr_0_4 ?_
  refine G_dup dX11_goTo_45 rfl ?_
  refine G_getI (z := (mem 23 5)) dX11_goTo_46 fl_11_253 (by decide) sh_23 (by simp [up2, upr]) ?_
  refine G_iload_n dX11_goTo_49 rfl ?_
  refine G_iadd dX11_goTo_50 ?_
  refine G_putI (mem2 := (up2 (up2 mem 23 4 (mem o2 2)) 23 5 ((mem 23 5) + s0))) dX11_goTo_51 fp_11_253 (by decide) sh_23 rfl ?_
  refine G_iload_n dX11_goTo_54 rfl ?_
  exact G_iret dX11_goTo_55 rfl (Nat.zero_le _) (Nat.zero_le _) (Nat.le_refl _) ⟨rfl, k1⟩
abbrev m_X11_hill (d : Nat) : Mu := (cX11_hill, 4, RX11, (some .int), ⟨d, 0, 0, 40 * d⟩, "hill")
set_option maxRecDepth 20000 in
set_option maxHeartbeats 1000000 in
theorem sg_X11_hill_0 {E : Nat × (Nat → Int32)} {d : Nat} {P : Option Value → Mem → Prop} {mem : Mem} {a1 : Int}
    (k1 : GM E (m_X11_hill d) P 5 [.ref 0, vi a1, un, un] [vi a1, .ref 9] mem) :
    GM E (m_X11_hill d) P 0 [.ref 0, vi a1, un, un] [] mem := by
  refine G_aload_n dX11_hill_0 rfl ?_
  refine G_getR (t := 9) dX11_hill_1 fl_11_33 (by decide) sh_0 rr_0_3 ?_
  refine G_iload_n dX11_hill_4 rfl ?_
  exact k1
set_option maxRecDepth 20000 in
set_option maxHeartbeats 1000000 in
theorem sg_X11_hill_8n {E : Nat × (Nat → Int32)} {d : Nat} {P : Option Value → Mem → Prop} {mem : Mem} {a1 : Int}
    (k1 : GM E (m_X11_hill d) P 13 [.ref 0, vi a1, .null, un] [] mem) :
    GM E (m_X11_hill d) P 8 [.ref 0, vi a1, un, un] [.null] mem := by
  refine G_astoreNull_n dX11_hill_8 rfl (by decide : 2 < 4) rfl ?_
  refine G_aloadNull_n dX11_hill_9 rfl ?_
  refine G_ifnonnullZ dX11_hill_10 ?_
  exact k1
set_option maxRecDepth 20000 in
set_option maxHeartbeats 1000000 in
theorem sg_X11_hill_8r {E : Nat × (Nat → Int32)} {d : Nat} {P : Option Value → Mem → Prop} {mem : Mem} {a1 : Int} {os0 : Nat} (hos0 : os0 ∈ streetL)
    (k1 : GM E (m_X11_hill d) P 28 [.ref 0, vi a1, .ref os0, un] [vi 1, .ref 3] mem) :
    GM E (m_X11_hill d) P 8 [.ref 0, vi a1, un, un] [.ref os0] mem := by
  refine G_astore_n dX11_hill_8 rfl (by decide : 2 < 4) rfl ?_
  refine G_aload_n dX11_hill_9 rfl ?_
  refine G_ifnonnull (tgt := 23) dX11_hill_10 (by decide) ?_
  refine G_aload_n dX11_hill_23 rfl ?_
  refine G_getR (t := 3) dX11_hill_24 fl_11_19 (by decide) sh_0 rr_0_1 ?_
  refine G_iconst (z := 1) dX11_hill_27 rfl ?_
  exact k1
set_option maxRecDepth 20000 in
set_option maxHeartbeats 1000000 in
theorem sg_X11_hill_31 {E : Nat × (Nat → Int32)} {d : Nat} {P : Option Value → Mem → Prop} {mem : Mem} {a1 : Int} {o2 : Nat} {s0 : Int} (ho2 : o2 ∈ streetL)
    (k1 : GM E (m_X11_hill d) P 39 [.ref 0, vi a1, .ref o2, vi s0] [vi (mem o2 4), vi s0, .ref o2, .ref 0] mem) :
    GM E (m_X11_hill d) P 31 [.ref 0, vi a1, .ref o2, un] [vi s0] mem := by
  refine G_istore_n dX11_hill_31 rfl (by decide : 3 < 4) rfl ?_
  refine G_aload_n dX11_hill_32 rfl ?_
  refine G_aload_n dX11_hill_33 rfl ?_
  refine G_iload_n dX11_hill_34 rfl ?_
  refine G_aload_n dX11_hill_35 rfl ?_
  refine G_getI (z := (mem o2 4)) dX11_hill_36 fl_11_152 (ltStreet0 ho2) (shStreet0 ho2) rfl ?_
  exact k1
set_option maxRecDepth 20000 in
set_option maxHeartbeats 1000000 in
theorem sg_X11_hill_42 {E : Nat × (Nat → Int32)} {d : Nat} {P : Option Value → Mem → Prop} {mem : Mem} {a1 : Int} {o2 : Nat} {a3 : Int} {s0 : Int} (ho2 : o2 ∈ streetL)
    (k1 : GM E (m_X11_hill d) P 46 [.ref 0, vi a1, .ref o2, vi a3] [vi (-1), vi a3, .ref o2, .ref 0, vi s0] mem) :
    GM E (m_X11_hill d) P 42 [.ref 0, vi a1, .ref o2, vi a3] [vi s0] mem := by
  refine G_aload_n dX11_hill_42 rfl ?_
  refine G_aload_n dX11_hill_43 rfl ?_
  refine G_iload_n dX11_hill_44 rfl ?_
  refine G_iconst (z := (-1)) dX11_hill_45 rfl ?_
  exact k1
set_option maxRecDepth 20000 in
set_option maxHeartbeats 1000000 in
theorem sg_X11_hill_49 {E : Nat × (Nat → Int32)} {d : Nat} {P : Option Value → Mem → Prop} {mem : Mem} {a1 : Int} {o2 : Nat} {a3 : Int} {s0 : Int} {s1 : Int} (ho2 : o2 ∈ streetL)
    (k1 : P (some (vi (s1 - s0))) mem) :
    GM E (m_X11_hill d) P 49 [.ref 0, vi a1, .ref o2, vi a3] [vi s0, vi s1] mem := by
  refine G_isub dX11_hill_49 ?_
  exact G_iret dX11_hill_50 rfl (Nat.zero_le _) (Nat.zero_le _) (Nat.le_refl _) ⟨rfl, k1⟩
abbrev m_X11_holiday (d : Nat) : Mu := (cX11_holiday, 6, RX11, (some .int), ⟨d, 0, 0, 40 * d⟩, "holiday")
set_option maxRecDepth 20000 in
set_option maxHeartbeats 1000000 in
theorem sg_X11_holiday_0 {E : Nat × (Nat → Int32)} {d : Nat} {P : Option Value → Mem → Prop} {mem : Mem} {a1 : Int} {a2 : Int} (w1 : -2147483648 ≤ a1 ∧ a1 < 2147483648) (w2 : -2147483648 ≤ a2 ∧ a2 < 2147483648)
    (k1 : a1 < 0 → P (some (vi (-1))) mem)
    (k2 : ¬ a1 < 0 → 7 ≤ a1 → P (some (vi (-1))) mem)
    (k3 : ¬ a1 < 0 → ¬ 7 ≤ a1 → a2 < 0 → P (some (vi (-1))) mem)
    (k4 : ¬ a1 < 0 → ¬ 7 ≤ a1 → ¬ a2 < 0 → a2 ≤ 99999 → GM E (m_X11_holiday d) P 24 [.ref 0, vi a1, vi a2, un, un, un] [.ref 0] mem)
    (k5 : ¬ a1 < 0 → ¬ 7 ≤ a1 → ¬ a2 < 0 → ¬ a2 ≤ 99999 → P (some (vi (-1))) mem) :
    GM E (m_X11_holiday d) P 0 [.ref 0, vi a1, vi a2, un, un, un] [] mem := by
  refine G_iload_n dX11_holiday_0 rfl ?_
  refine G_if_lt (tgt := 21) dX11_holiday_1 (by decide) (w1) (fun c1 => ?_) (fun c1 => ?_)
  · -- a1 < 0
    refine G_iconst (z := (-1)) dX11_holiday_21 rfl ?_
    exact G_iret dX11_holiday_22 rfl (Nat.zero_le _) (Nat.zero_le _) (Nat.le_refl _) ⟨rfl, k1 c1⟩
  · -- ¬ a1 < 0
    refine G_iload_n dX11_holiday_4 rfl ?_
    refine G_bipush (z := 7) dX11_holiday_5 rfl ?_
    refine G_icmp_ge (tgt := 21) dX11_holiday_7 (by decide) (w1) (by decide) (fun c2 => ?_) (fun c2 => ?_)
    · -- 7 ≤ a1
      refine G_iconst (z := (-1)) dX11_holiday_21 rfl ?_
      exact G_iret dX11_holiday_22 rfl (Nat.zero_le _) (Nat.zero_le _) (Nat.le_refl _) ⟨rfl, k2 c1 c2⟩
    · -- ¬ 7 ≤ a1
      refine G_iload_n dX11_holiday_10 rfl ?_
      refine G_if_lt (tgt := 21) dX11_holiday_11 (by decide) (w2) (fun c3 => ?_) (fun c3 => ?_)
      · -- a2 < 0
        refine G_iconst (z := (-1)) dX11_holiday_21 rfl ?_
        exact G_iret dX11_holiday_22 rfl (Nat.zero_le _) (Nat.zero_le _) (Nat.le_refl _) ⟨rfl, k3 c1 c2 c3⟩
      · -- ¬ a2 < 0
        refine G_iload_n dX11_holiday_14 rfl ?_
        refine G_ldcw (z := 99999) dX11_holiday_15 kc_11_386 ?_
        refine G_icmp_le (tgt := 23) dX11_holiday_18 (by decide) (w2) (by decide) (fun c4 => ?_) (fun c4 => ?_)
        · -- a2 ≤ 99999
          refine G_aload_n dX11_holiday_23 rfl ?_
          exact k4 c1 c2 c3 c4
        · -- ¬ a2 ≤ 99999
          refine G_iconst (z := (-1)) dX11_holiday_21 rfl ?_
          exact G_iret dX11_holiday_22 rfl (Nat.zero_le _) (Nat.zero_le _) (Nat.le_refl _) ⟨rfl, k5 c1 c2 c3 c4⟩
set_option maxRecDepth 20000 in
set_option maxHeartbeats 1000000 in
theorem sg_X11_holiday_27 {E : Nat × (Nat → Int32)} {d : Nat} {P : Option Value → Mem → Prop} {mem : Mem} {a1 : Int} {a2 : Int}
    (k1 : GM E (m_X11_holiday d) P 32 [.ref 0, vi a1, vi a2, un, un, un] [vi a1, .ref 147] mem) :
    GM E (m_X11_holiday d) P 27 [.ref 0, vi a1, vi a2, un, un, un] [] mem := by
  refine G_aload_n dX11_holiday_27 rfl ?_
  refine G_getR (t := 147) dX11_holiday_28 fl_11_83 (by decide) sh_0 rr_0_9 ?_
  refine G_iload_n dX11_holiday_31 rfl ?_
  exact k1
set_option maxRecDepth 20000 in
set_option maxHeartbeats 1000000 in
theorem sg_X11_holiday_35 {E : Nat × (Nat → Int32)} {d : Nat} {P : Option Value → Mem → Prop} {mem : Mem} {a1 : Int} {a2 : Int} {s0 : Int} (w1 : -2147483648 ≤ s0 ∧ s0 < 2147483648)
    (k1 : s0 ≠ 0 → GM E (m_X11_holiday d) P 51 [.ref 0, vi a1, vi a2, vi s0, vi (a1 + 1), un] [] mem)
    (k2 : s0 = 0 → GM E (m_X11_holiday d) P 41 [.ref 0, vi a1, vi a2, vi s0, un, un] [.ref 0] mem) :
    GM E (m_X11_holiday d) P 35 [.ref 0, vi a1, vi a2, un, un, un] [vi s0] mem := by
  refine G_istore_n dX11_holiday_35 rfl (by decide : 3 < 6) rfl ?_
  refine G_iload_n dX11_holiday_36 rfl ?_
  refine G_if_ne (tgt := 46) dX11_holiday_37 (by decide) (w1) (fun c1 => ?_) (fun c1 => ?_)
  · -- s0 ≠ 0
    refine G_iload_n dX11_holiday_46 rfl ?_
    refine G_iconst (z := 1) dX11_holiday_47 rfl ?_
    refine G_iadd dX11_holiday_48 ?_
    refine G_istore dX11_holiday_49 (by decide : 4 < 6) rfl ?_
    exact k1 c1
  · -- s0 = 0
    refine G_aload_n dX11_holiday_40 rfl ?_
    exact k2 c1
set_option maxRecDepth 20000 in
set_option maxHeartbeats 1000000 in
theorem sg_X11_holiday_44 {E : Nat × (Nat → Int32)} {d : Nat} {P : Option Value → Mem → Prop} {mem : Mem} {a1 : Int} {a2 : Int} {a3 : Int}
    (k1 : P (some (vi 0)) mem) :
    GM E (m_X11_holiday d) P 44 [.ref 0, vi a1, vi a2, vi a3, un, un] [] mem := by
  refine G_iconst (z := 0) dX11_holiday_44 rfl ?_
  exact G_iret dX11_holiday_45 rfl (Nat.zero_le _) (Nat.zero_le _) (Nat.le_refl _) ⟨rfl, k1⟩
set_option maxRecDepth 20000 in
set_option maxHeartbeats 1000000 in
theorem sg_X11_holiday_51 {E : Nat × (Nat → Int32)} {d : Nat} {P : Option Value → Mem → Prop} {mem : Mem} {a1 : Int} {a2 : Int} {a3 : Int} {a4 : Int} (w1 : -2147483648 ≤ a4 ∧ a4 < 2147483648)
    (k1 : 7 ≤ a4 → P (some (vi (-2))) mem)
    (k2 : ¬ 7 ≤ a4 → GM E (m_X11_holiday d) P 68 [.ref 0, vi a1, vi a2, vi a3, vi a4, un] [vi a2, vi a4, vi (a1 + 1), .ref 147] mem) :
    GM E (m_X11_holiday d) P 51 [.ref 0, vi a1, vi a2, vi a3, vi a4, un] [] mem := by
  refine G_iload dX11_holiday_51 rfl ?_
  refine G_bipush (z := 7) dX11_holiday_53 rfl ?_
  refine G_icmp_ge (tgt := 118) dX11_holiday_55 (by decide) (w1) (by decide) (fun c1 => ?_) (fun c1 => ?_)
  · -- 7 ≤ a4
    refine G_bipush (z := (-2)) dX11_holiday_118 rfl ?_
    exact G_iret dX11_holiday_120 rfl (Nat.zero_le _) (Nat.zero_le _) (Nat.le_refl _) ⟨rfl, k1 c1⟩
  · -- ¬ 7 ≤ a4
    refine G_aload_n dX11_holiday_58 rfl ?_
    refine G_getR (t := 147) dX11_holiday_59 fl_11_83 (by decide) sh_0 rr_0_9 ?_
    refine G_iload_n dX11_holiday_62 rfl ?_
    refine G_iconst (z := 1) dX11_holiday_63 rfl ?_
    refine G_iadd dX11_holiday_64 ?_
    refine G_iload dX11_holiday_65 rfl ?_
    refine G_iload_n dX11_holiday_67 rfl ?_
    exact k2 c1
set_option maxRecDepth 20000 in
set_option maxHeartbeats 1000000 in
theorem sg_X11_holiday_71 {E : Nat × (Nat → Int32)} {d : Nat} {P : Option Value → Mem → Prop} {mem : Mem} {a1 : Int} {a2 : Int} {a3 : Int} {a4 : Int} {s0 : Int} (w1 : -2147483648 ≤ s0 ∧ s0 < 2147483648)
    (k1 : s0 = 0 → GM E (m_X11_holiday d) P 51 [.ref 0, vi a1, vi a2, vi a3, vi (a4 + 1), un] [] mem)
    (k2 : ¬ s0 = 0 → GM E (m_X11_holiday d) P 75 [.ref 0, vi a1, vi a2, vi a3, vi a4, un] [.ref 0] mem) :
    GM E (m_X11_holiday d) P 71 [.ref 0, vi a1, vi a2, vi a3, vi a4, un] [vi s0] mem := by
  refine G_if_eq (tgt := 112) dX11_holiday_71 (by decide) (w1) (fun c1 => ?_) (fun c1 => ?_)
  · -- s0 = 0
    refine G_iinc (z := (a4 + 1)) dX11_holiday_112 rfl rfl (by decide : 4 < 6) rfl ?_
    refine G_goto (tgt := 51) dX11_holiday_115 (by decide) ?_
    exact k1 c1
  · -- ¬ s0 = 0
    refine G_aload_n dX11_holiday_74 rfl ?_
    exact k2 c1
set_option maxRecDepth 20000 in
set_option maxHeartbeats 1000000 in
theorem sg_X11_holiday_78 {E : Nat × (Nat → Int32)} {d : Nat} {P : Option Value → Mem → Prop} {mem : Mem} {a1 : Int} {a2 : Int} {a3 : Int} {a4 : Int}
    (k1 : GM E (m_X11_holiday d) P 81 [.ref 0, vi a1, vi a2, vi a3, vi a4, vi 0] [] mem) :
    GM E (m_X11_holiday d) P 78 [.ref 0, vi a1, vi a2, vi a3, vi a4, un] [] mem := by
  refine G_iconst (z := 0) dX11_holiday_78 rfl ?_
  refine G_istore dX11_holiday_79 (by decide : 5 < 6) rfl ?_
  exact k1
set_option maxRecDepth 20000 in
set_option maxHeartbeats 1000000 in
theorem sg_X11_holiday_81 {E : Nat × (Nat → Int32)} {d : Nat} {P : Option Value → Mem → Prop} {mem : Mem} {a1 : Int} {a2 : Int} {a3 : Int} {a4 : Int} {a5 : Int} (w1 : -2147483648 ≤ a5 ∧ a5 < 2147483648) (w2 : -2147483648 ≤ a3 ∧ a3 < 2147483648)
    (k1 : a3 ≤ a5 → P (some (vi (a4 - a1))) mem)
    (k2 : ¬ a3 ≤ a5 → GM E (m_X11_holiday d) P 94 [.ref 0, vi a1, vi a2, vi a3, vi a4, vi a5] [vi a5, .ref 147, .ref 0] mem) :
    GM E (m_X11_holiday d) P 81 [.ref 0, vi a1, vi a2, vi a3, vi a4, vi a5] [] mem := by
  refine G_iload dX11_holiday_81 rfl ?_
  refine G_iload_n dX11_holiday_83 rfl ?_
  refine G_icmp_ge (tgt := 107) dX11_holiday_84 (by decide) (w1) (w2) (fun c1 => ?_) (fun c1 => ?_)
  · -- a3 ≤ a5
    refine G_iload dX11_holiday_107 rfl ?_
    refine G_iload_n dX11_holiday_109 rfl ?_
    refine G_isub dX11_holiday_110 ?_
    exact G_iret dX11_holiday_111 rfl (Nat.zero_le _) (Nat.zero_le _) (Nat.le_refl _) ⟨rfl, k1 c1⟩
  · -- ¬ a3 ≤ a5
    refine G_aload_n dX11_holiday_87 rfl ?_
    refine G_aload_n dX11_holiday_88 rfl ?_
    refine G_getR (t := 147) dX11_holiday_89 fl_11_83 (by decide) sh_0 rr_0_9 ?_
    refine G_iload dX11_holiday_92 rfl ?_
    exact k2 c1
set_option maxRecDepth 20000 in
set_option maxHeartbeats 1000000 in
theorem sg_X11_holiday_97 {E : Nat × (Nat → Int32)} {d : Nat} {P : Option Value → Mem → Prop} {mem : Mem} {a1 : Int} {a2 : Int} {a3 : Int} {a4 : Int} {a5 : Int} {s0 : Int} (w1 : -2147483648 ≤ s0 ∧ s0 < 2147483648)
    (k1 : GM E (m_X11_holiday d) P 98 [.ref 0, vi a1, vi a2, vi a3, vi a4, vi a5] [vl s0, .ref 0] mem) :
    GM E (m_X11_holiday d) P 97 [.ref 0, vi a1, vi a2, vi a3, vi a4, vi a5] [vi s0, .ref 0] mem := by
  refine G_i2l dX11_holiday_97 (w1) ?_
  exact k1
set_option maxRecDepth 20000 in
set_option maxHeartbeats 1000000 in
theorem sg_X11_holiday_101 {E : Nat × (Nat → Int32)} {d : Nat} {P : Option Value → Mem → Prop} {mem : Mem} {a1 : Int} {a2 : Int} {a3 : Int} {a4 : Int} {a5 : Int}
    (k1 : GM E (m_X11_holiday d) P 81 [.ref 0, vi a1, vi a2, vi a3, vi a4, vi (a5 + 1)] [] mem) :
    GM E (m_X11_holiday d) P 101 [.ref 0, vi a1, vi a2, vi a3, vi a4, vi a5] [] mem := by
  refine G_iinc (z := (a5 + 1)) dX11_holiday_101 rfl rfl (by decide : 5 < 6) rfl ?_
  refine G_goto (tgt := 81) dX11_holiday_104 (by decide) ?_
  exact k1
abbrev m_X11_keep (d : Nat) : Mu := (cX11_keep, 2, RX11, (some .boolean), ⟨d, 0, 0, 40 * d⟩, "keep")
set_option maxRecDepth 20000 in
set_option maxHeartbeats 1000000 in
theorem sg_X11_keep_0 {E : Nat × (Nat → Int32)} {d : Nat} {P : Option Value → Mem → Prop} {mem : Mem} {a1 : Int} (w1 : -2147483648 ≤ a1 ∧ a1 < 2147483648)
    (k1 : a1 < 0 → P (some (vi 0)) mem)
    (k2 : ¬ a1 < 0 → a1 < 3 → GM E (m_X11_keep d) P 25 [.ref 0, vi a1] [.ref 23, .ref (154 + 4 * (a1).toNat)] mem)
    (k3 : ¬ a1 < 0 → ¬ a1 < 3 → P (some (vi 0)) mem) :
    GM E (m_X11_keep d) P 0 [.ref 0, vi a1] [] mem := by
  refine G_iload_n dX11_keep_0 rfl ?_
  refine G_if_lt (tgt := 13) dX11_keep_1 (by decide) (w1) (fun c1 => ?_) (fun c1 => ?_)
  · -- a1 < 0
    refine G_iconst (z := 0) dX11_keep_13 rfl ?_
    exact G_zret dX11_keep_14 rfl (nar_zb (by decide)) (Nat.zero_le _) (Nat.zero_le _) (Nat.le_refl _) ⟨rfl, k1 c1⟩
  · -- ¬ a1 < 0
    refine G_iload_n dX11_keep_4 rfl ?_
    refine G_aload_n dX11_keep_5 rfl ?_
    refine G_getR (t := 153) dX11_keep_6 fl_11_87 (by decide) sh_0 rr_0_10 ?_
    refine G_alen (z := 3) dX11_keep_9 (by decide) sh_153 (by decide) rfl ?_
    refine G_icmp_lt (tgt := 15) dX11_keep_10 (by decide) (w1) (by decide) (fun c2 => ?_) (fun c2 => ?_)
    · -- a1 < 3
      refine G_aload_n dX11_keep_15 rfl ?_
      refine G_getR (t := 153) dX11_keep_16 fl_11_87 (by decide) sh_0 rr_0_10 ?_
      refine G_iload_n dX11_keep_19 rfl ?_
      refine G_aald4S (t := (154 + 4 * (a1).toNat)) dX11_keep_20 (by decide) sh_153 (by decide) (by omega) (by omega) (rr_kept (by omega) (by omega)) ?_
      refine G_aload_n dX11_keep_21 rfl ?_
      refine G_getR (t := 23) dX11_keep_22 fl_11_40 (by decide) sh_0 rr_0_4 ?_
      exact k2 c1 c2
    · -- ¬ a1 < 3
      refine G_iconst (z := 0) dX11_keep_13 rfl ?_
      exact G_zret dX11_keep_14 rfl (nar_zb (by decide)) (Nat.zero_le _) (Nat.zero_le _) (Nat.le_refl _) ⟨rfl, k3 c1 c2⟩
set_option maxRecDepth 20000 in
set_option maxHeartbeats 1000000 in
theorem sg_X11_keep_28 {E : Nat × (Nat → Int32)} {d : Nat} {P : Option Value → Mem → Prop} {mem : Mem} {a1 : Int} (q1 : 0 ≤ a1 ∧ a1 < 3)
    (k1 : P (some (vi 1)) (up2 mem 166 a1 (mem 9 1))) :
    GM E (m_X11_keep d) P 28 [.ref 0, vi a1] [] mem := by
  refine G_aload_n dX11_keep_28 rfl ?_
  refine G_getR (t := 166) dX11_keep_29 fl_11_91 (by decide) sh_0 rr_0_11 ?_
  refine G_iload_n dX11_keep_32 rfl ?_
  refine G_aload_n dX11_keep_33 rfl ?_
  refine G_getR (t := 9) dX11_keep_34 fl_11_33 (by decide) sh_0 rr_0_3 ?_
  refine G_getI (z := (mem 9 1)) dX11_keep_37 fl_11_113 (by decide) sh_9 rfl ?_
  refine G_iast (mem2 := (up2 mem 166 a1 (mem 9 1))) dX11_keep_40 (by decide) sh_166 (by decide) (q1).1 (q1).2 rfl ?_
  refine G_iconst (z := 1) dX11_keep_41 rfl ?_
  exact G_zret dX11_keep_42 rfl (nar_zb (by decide)) (Nat.zero_le _) (Nat.zero_le _) (Nat.le_refl _) ⟨rfl, k1⟩
abbrev m_X11_less (d : Nat) : Mu := (cX11_less, 6, RX11, (some .int), ⟨d, 0, 0, 40 * d⟩, "less")
set_option maxRecDepth 20000 in
set_option maxHeartbeats 1000000 in
theorem sg_X11_less_0 {E : Nat × (Nat → Int32)} {d : Nat} {P : Option Value → Mem → Prop} {mem : Mem} {a1 : Int}
    (k1 : GM E (m_X11_less d) P 5 [.ref 0, vi a1, un, un, un, un] [vi a1, .ref 9] mem) :
    GM E (m_X11_less d) P 0 [.ref 0, vi a1, un, un, un, un] [] mem := by
  refine G_aload_n dX11_less_0 rfl ?_
  refine G_getR (t := 9) dX11_less_1 fl_11_33 (by decide) sh_0 rr_0_3 ?_
  refine G_iload_n dX11_less_4 rfl ?_
  exact k1
set_option maxRecDepth 20000 in
set_option maxHeartbeats 1000000 in
theorem sg_X11_less_8n {E : Nat × (Nat → Int32)} {d : Nat} {P : Option Value → Mem → Prop} {mem : Mem} {a1 : Int}
    (k1 : P (some (vi (-1))) mem) :
    GM E (m_X11_less d) P 8 [.ref 0, vi a1, un, un, un, un] [.null] mem := by
  refine G_astoreNull_n dX11_less_8 rfl (by decide : 2 < 6) rfl ?_
  refine G_aloadNull_n dX11_less_9 rfl ?_
  refine G_ifnonnullZ dX11_less_10 ?_
  refine G_iconst (z := (-1)) dX11_less_13 rfl ?_
  exact G_iret dX11_less_14 rfl (Nat.zero_le _) (Nat.zero_le _) (Nat.le_refl _) ⟨rfl, k1⟩
set_option maxRecDepth 20000 in
set_option maxHeartbeats 1000000 in
theorem sg_X11_less_8r {E : Nat × (Nat → Int32)} {d : Nat} {P : Option Value → Mem → Prop} {mem : Mem} {a1 : Int} {os0 : Nat} (hos0 : os0 ∈ streetL)
    (k1 : GM E (m_X11_less d) P 20 [.ref 0, vi a1, .ref os0, un, un, un] [vi 1, .ref 3] mem) :
    GM E (m_X11_less d) P 8 [.ref 0, vi a1, un, un, un, un] [.ref os0] mem := by
  refine G_astore_n dX11_less_8 rfl (by decide : 2 < 6) rfl ?_
  refine G_aload_n dX11_less_9 rfl ?_
  refine G_ifnonnull (tgt := 15) dX11_less_10 (by decide) ?_
  refine G_aload_n dX11_less_15 rfl ?_
  refine G_getR (t := 3) dX11_less_16 fl_11_19 (by decide) sh_0 rr_0_1 ?_
  refine G_iconst (z := 1) dX11_less_19 rfl ?_
  exact k1
set_option maxRecDepth 20000 in
set_option maxHeartbeats 1000000 in
theorem sg_X11_less_23 {E : Nat × (Nat → Int32)} {d : Nat} {P : Option Value → Mem → Prop} {mem : Mem} {a1 : Int} {o2 : Nat} {s0 : Int} (ho2 : o2 ∈ streetL) (w1 : -2147483648 ≤ s0 ∧ s0 < 2147483648)
    (k1 : 1 < s0 → GM E (m_X11_less d) P 39 [.ref 0, vi a1, .ref o2, vi s0, un, un] [vi (mem o2 4), vi s0, .ref o2, .ref 0] mem)
    (k2 : ¬ 1 < s0 → P (some (vi (-2))) mem) :
    GM E (m_X11_less d) P 23 [.ref 0, vi a1, .ref o2, un, un, un] [vi s0] mem := by
  refine G_istore_n dX11_less_23 rfl (by decide : 3 < 6) rfl ?_
  refine G_iload_n dX11_less_24 rfl ?_
  refine G_iconst (z := 1) dX11_less_25 rfl ?_
  refine G_icmp_gt (tgt := 32) dX11_less_26 (by decide) (w1) (by decide) (fun c1 => ?_) (fun c1 => ?_)
  · -- 1 < s0
    refine G_aload_n dX11_less_32 rfl ?_
    refine G_aload_n dX11_less_33 rfl ?_
    refine G_iload_n dX11_less_34 rfl ?_
    refine G_aload_n dX11_less_35 rfl ?_
    refine G_getI (z := (mem o2 4)) dX11_less_36 fl_11_152 (ltStreet0 ho2) (shStreet0 ho2) rfl ?_
    exact k1 c1
  · -- ¬ 1 < s0
    refine G_bipush (z := (-2)) dX11_less_29 rfl ?_
    exact G_iret dX11_less_31 rfl (Nat.zero_le _) (Nat.zero_le _) (Nat.le_refl _) ⟨rfl, k2 c1⟩
set_option maxRecDepth 20000 in
set_option maxHeartbeats 1000000 in
theorem sg_X11_less_42 {E : Nat × (Nat → Int32)} {d : Nat} {P : Option Value → Mem → Prop} {mem : Mem} {a1 : Int} {o2 : Nat} {a3 : Int} {s0 : Int} (ho2 : o2 ∈ streetL)
    (k1 : GM E (m_X11_less d) P 53 [.ref 0, vi a1, .ref o2, vi a3, vi s0, un] [vi (mem o2 4), vi (a3 - 1), .ref o2, .ref 0] mem) :
    GM E (m_X11_less d) P 42 [.ref 0, vi a1, .ref o2, vi a3, un, un] [vi s0] mem := by
  refine G_istore dX11_less_42 (by decide : 4 < 6) rfl ?_
  refine G_aload_n dX11_less_44 rfl ?_
  refine G_aload_n dX11_less_45 rfl ?_
  refine G_iload_n dX11_less_46 rfl ?_
  refine G_iconst (z := 1) dX11_less_47 rfl ?_
  refine G_isub dX11_less_48 ?_
  refine G_aload_n dX11_less_49 rfl ?_
  refine G_getI (z := (mem o2 4)) dX11_less_50 fl_11_152 (ltStreet0 ho2) (shStreet0 ho2) rfl ?_
  exact k1
set_option maxRecDepth 20000 in
set_option maxHeartbeats 1000000 in
theorem sg_X11_less_56 {E : Nat × (Nat → Int32)} {d : Nat} {P : Option Value → Mem → Prop} {mem : Mem} {a1 : Int} {o2 : Nat} {a3 : Int} {a4 : Int} {s0 : Int} (ho2 : o2 ∈ streetL) (w1 : -2147483648 ≤ (mem 100 13) ∧ (mem 100 13) < 2147483648)
    (k1 : GM E (m_X11_less d) P 67 [.ref 0, vi a1, .ref o2, vi a3, vi a4, vi s0] [vl (mem 100 13), .ref 0] mem) :
    GM E (m_X11_less d) P 56 [.ref 0, vi a1, .ref o2, vi a3, vi a4, un] [vi s0] mem := by
  refine G_istore dX11_less_56 (by decide : 5 < 6) rfl ?_
  refine G_aload_n dX11_less_58 rfl ?_
  refine G_aload_n dX11_less_59 rfl ?_
  refine G_getR (t := 100) dX11_less_60 fl_11_65 (by decide) sh_0 rr_0_7 ?_
  refine G_getI (z := (mem 100 13)) dX11_less_63 fl_11_334 (by decide) sh_100 rfl ?_
  refine G_i2l dX11_less_66 (w1) ?_
  exact k1
set_option maxRecDepth 20000 in
set_option maxHeartbeats 1000000 in
theorem sg_X11_less_70 {E : Nat × (Nat → Int32)} {d : Nat} {P : Option Value → Mem → Prop} {mem : Mem} {a1 : Int} {o2 : Nat} {a3 : Int} {a4 : Int} {a5 : Int} (ho2 : o2 ∈ streetL)
    (k1 : P (some (vi (a5 - a4))) mem) :
    GM E (m_X11_less d) P 70 [.ref 0, vi a1, .ref o2, vi a3, vi a4, vi a5] [] mem := by
  refine G_iload dX11_less_70 rfl ?_
  refine G_iload dX11_less_72 rfl ?_
  refine G_isub dX11_less_74 ?_
  exact G_iret dX11_less_75 rfl (Nat.zero_le _) (Nat.zero_le _) (Nat.le_refl _) ⟨rfl, k1⟩
abbrev m_X11_line (d : Nat) : Mu := (cX11_line, 8, RX11, (some .int), ⟨d, 0, 0, 40 * d⟩, "line")
set_option maxRecDepth 20000 in
set_option maxHeartbeats 1000000 in
theorem sg_X11_line_0 {E : Nat × (Nat → Int32)} {d : Nat} {P : Option Value → Mem → Prop} {mem : Mem} {a1 : Int}
    (k1 : GM E (m_X11_line d) P 5 [.ref 0, vi a1, un, un, un, un, un, un] [vi a1, .ref 9] mem) :
    GM E (m_X11_line d) P 0 [.ref 0, vi a1, un, un, un, un, un, un] [] mem := by
  refine G_aload_n dX11_line_0 rfl ?_
  refine G_getR (t := 9) dX11_line_1 fl_11_33 (by decide) sh_0 rr_0_3 ?_
  refine G_iload_n dX11_line_4 rfl ?_
  exact k1
set_option maxRecDepth 20000 in
set_option maxHeartbeats 1000000 in
theorem sg_X11_line_8n {E : Nat × (Nat → Int32)} {d : Nat} {P : Option Value → Mem → Prop} {mem : Mem} {a1 : Int}
    (k1 : P (some (vi (-1))) mem) :
    GM E (m_X11_line d) P 8 [.ref 0, vi a1, un, un, un, un, un, un] [.null] mem := by
  refine G_astoreNull_n dX11_line_8 rfl (by decide : 2 < 8) rfl ?_
  refine G_aloadNull_n dX11_line_9 rfl ?_
  refine G_ifnonnullZ dX11_line_10 ?_
  refine G_iconst (z := (-1)) dX11_line_13 rfl ?_
  exact G_iret dX11_line_14 rfl (Nat.zero_le _) (Nat.zero_le _) (Nat.le_refl _) ⟨rfl, k1⟩
set_option maxRecDepth 20000 in
set_option maxHeartbeats 1000000 in
theorem sg_X11_line_8r {E : Nat × (Nat → Int32)} {d : Nat} {P : Option Value → Mem → Prop} {mem : Mem} {a1 : Int} {os0 : Nat} (hos0 : os0 ∈ streetL)
    (k1 : GM E (m_X11_line d) P 24 [.ref 0, vi a1, .ref os0, un, un, un, un, un] [vi 1, .ref 3, .ref 100] mem) :
    GM E (m_X11_line d) P 8 [.ref 0, vi a1, un, un, un, un, un, un] [.ref os0] mem := by
  refine G_astore_n dX11_line_8 rfl (by decide : 2 < 8) rfl ?_
  refine G_aload_n dX11_line_9 rfl ?_
  refine G_ifnonnull (tgt := 15) dX11_line_10 (by decide) ?_
  refine G_aload_n dX11_line_15 rfl ?_
  refine G_getR (t := 100) dX11_line_16 fl_11_65 (by decide) sh_0 rr_0_7 ?_
  refine G_aload_n dX11_line_19 rfl ?_
  refine G_getR (t := 3) dX11_line_20 fl_11_19 (by decide) sh_0 rr_0_1 ?_
  refine G_iconst (z := 1) dX11_line_23 rfl ?_
  exact k1
set_option maxRecDepth 20000 in
set_option maxHeartbeats 1000000 in
theorem sg_X11_line_27 {E : Nat × (Nat → Int32)} {d : Nat} {P : Option Value → Mem → Prop} {mem : Mem} {a1 : Int} {o2 : Nat} {s0 : Int} (ho2 : o2 ∈ streetL)
    (k1 : GM E (m_X11_line d) P 31 [.ref 0, vi a1, .ref o2, un, un, un, un, un] [vi (mem o2 4), vi s0, .ref 100] mem) :
    GM E (m_X11_line d) P 27 [.ref 0, vi a1, .ref o2, un, un, un, un, un] [vi s0, .ref 100] mem := by
  refine G_aload_n dX11_line_27 rfl ?_
  refine G_getI (z := (mem o2 4)) dX11_line_28 fl_11_152 (ltStreet0 ho2) (shStreet0 ho2) rfl ?_
  exact k1
set_option maxRecDepth 20000 in
set_option maxHeartbeats 1000000 in
theorem sg_X11_line_34 {E : Nat × (Nat → Int32)} {d : Nat} {P : Option Value → Mem → Prop} {mem : Mem} {a1 : Int} {o2 : Nat} (ho2 : o2 ∈ streetL)
    (k1 : GM E (m_X11_line d) P 42 [.ref 0, vi a1, .ref o2, vi 0, vi 0, vi 0, un, un] [] mem) :
    GM E (m_X11_line d) P 34 [.ref 0, vi a1, .ref o2, un, un, un, un, un] [] mem := by
  refine G_iconst (z := 0) dX11_line_34 rfl ?_
  refine G_istore_n dX11_line_35 rfl (by decide : 3 < 8) rfl ?_
  refine G_iconst (z := 0) dX11_line_36 rfl ?_
  refine G_istore dX11_line_37 (by decide : 4 < 8) rfl ?_
  refine G_iconst (z := 0) dX11_line_39 rfl ?_
  refine G_istore dX11_line_40 (by decide : 5 < 8) rfl ?_
  exact k1
set_option maxRecDepth 20000 in
set_option maxHeartbeats 1000000 in
theorem sg_X11_line_42 {E : Nat × (Nat → Int32)} {d : Nat} {P : Option Value → Mem → Prop} {mem : Mem} {a1 : Int} {o2 : Nat} {a3 : Int} {a4 : Int} {a5 : Int} (ho2 : o2 ∈ streetL) (w1 : -2147483648 ≤ a5 ∧ a5 < 2147483648) (w2 : -2147483648 ≤ (2 * (mem o2 3)) ∧ (2 * (mem o2 3)) < 2147483648)
    (k1 : (2 * (mem o2 3)) ≤ a5 → GM E (m_X11_line d) P 170 [.ref 0, vi a1, .ref o2, vi a3, vi a4, vi a5, un, un] [vl (-1), .ref 0] mem)
    (k2 : ¬ (2 * (mem o2 3)) ≤ a5 → GM E (m_X11_line d) P 74 [.ref 0, vi a1, .ref o2, vi a3, vi a4, vi a5, vi (shlI 1 (((remI a5 2) * 8) + (divI a5 2))), un] [vi a1, .ref 23] mem) :
    GM E (m_X11_line d) P 42 [.ref 0, vi a1, .ref o2, vi a3, vi a4, vi a5, un, un] [] mem := by
  refine G_iload dX11_line_42 rfl ?_
  refine G_iconst (z := 2) dX11_line_44 rfl ?_
  refine G_aload_n dX11_line_45 rfl ?_
  refine G_getI (z := (mem o2 3)) dX11_line_46 fl_11_149 (ltStreet0 ho2) (shStreet0 ho2) rfl ?_
  refine G_imul dX11_line_49 ?_
  refine G_icmp_ge (tgt := 166) dX11_line_50 (by decide) (w1) (w2) (fun c1 => ?_) (fun c1 => ?_)
  · -- (2 * (mem o2 3)) ≤ a5
    refine G_aload_n dX11_line_166 rfl ?_
    refine G_ldc2 (z := (-1)) dX11_line_167 kc_11_342 ?_
    exact k1 c1
  · -- ¬ (2 * (mem o2 3)) ≤ a5
    refine G_iconst (z := 1) dX11_line_53 rfl ?_
    refine G_iload dX11_line_54 rfl ?_
    refine G_iconst (z := 2) dX11_line_56 rfl ?_
    refine G_irem (z := (remI a5 2)) dX11_line_57 (iI_ne0 (by decide) (by decide)) (iI_inv _) ?_
    refine G_bipush (z := 8) dX11_line_58 rfl ?_
    refine G_imul dX11_line_60 ?_
    refine G_iload dX11_line_61 rfl ?_
    refine G_iconst (z := 2) dX11_line_63 rfl ?_
    refine G_idiv (z := (divI a5 2)) dX11_line_64 (iI_ne0 (by decide) (by decide)) (iI_inv _) ?_
    refine G_iadd dX11_line_65 ?_
    refine G_ishl (z := (shlI 1 (((remI a5 2) * 8) + (divI a5 2)))) dX11_line_66 (iI_inv _) ?_
    refine G_istore dX11_line_67 (by decide : 6 < 8) rfl ?_
    refine G_aload_n dX11_line_69 rfl ?_
    refine G_getR (t := 23) dX11_line_70 fl_11_40 (by decide) sh_0 rr_0_4 ?_
    refine G_iload_n dX11_line_73 rfl ?_
    exact k2 c1
set_option maxRecDepth 20000 in
set_option maxHeartbeats 1000000 in
theorem sg_X11_line_77 {E : Nat × (Nat → Int32)} {d : Nat} {P : Option Value → Mem → Prop} {mem : Mem} {a1 : Int} {o2 : Nat} {a3 : Int} {a4 : Int} {a5 : Int} {a6 : Int} {s0 : Int} (ho2 : o2 ∈ streetL)
    (k1 : (bandI s0 a6) = 0 → GM E (m_X11_line d) P 42 [.ref 0, vi a1, .ref o2, vi a3, vi a4, vi (a5 + 1), vi a6, un] [] mem)
    (k2 : ¬ (bandI s0 a6) = 0 → GM E (m_X11_line d) P 97 [.ref 0, vi a1, .ref o2, vi a3, vi (borI a4 a6), vi a5, vi a6, un] [vi (borI a4 a6), .ref o2, .ref 100] mem) :
    GM E (m_X11_line d) P 77 [.ref 0, vi a1, .ref o2, vi a3, vi a4, vi a5, vi a6, un] [vi s0] mem := by
  refine G_iload dX11_line_77 rfl ?_
  refine G_iand (z := (bandI s0 a6)) dX11_line_79 (iI_inv _) ?_
  refine G_if_eq (tgt := 160) dX11_line_80 (by decide) (iI_rng _) (fun c1 => ?_) (fun c1 => ?_)
  · -- (bandI s0 a6) = 0
    refine G_iinc (z := (a5 + 1)) dX11_line_160 rfl rfl (by decide : 5 < 8) rfl ?_
    refine G_goto (tgt := 42) dX11_line_163 (by decide) ?_
    exact k1 c1
  · -- ¬ (bandI s0 a6) = 0
    refine G_iload dX11_line_83 rfl ?_
    refine G_iload dX11_line_85 rfl ?_
    refine G_ior (z := (borI a4 a6)) dX11_line_87 (iI_inv _) ?_
    refine G_istore dX11_line_88 (by decide : 4 < 8) rfl ?_
    refine G_aload_n dX11_line_90 rfl ?_
    refine G_getR (t := 100) dX11_line_91 fl_11_65 (by decide) sh_0 rr_0_7 ?_
    refine G_aload_n dX11_line_94 rfl ?_
    refine G_iload dX11_line_95 rfl ?_
    exact k2 c1
set_option maxRecDepth 20000 in
set_option maxHeartbeats 1000000 in
theorem sg_X11_line_100 {E : Nat × (Nat → Int32)} {d : Nat} {P : Option Value → Mem → Prop} {mem : Mem} {a1 : Int} {o2 : Nat} {a3 : Int} {a4 : Int} {a5 : Int} {a6 : Int} {s0 : Int} (ho2 : o2 ∈ streetL)
    (k1 : GM E (m_X11_line d) P 106 [.ref 0, vi a1, .ref o2, vi a3, vi a4, vi a5, vi a6, un] [vi 0, .ref 100] mem) :
    GM E (m_X11_line d) P 100 [.ref 0, vi a1, .ref o2, vi a3, vi a4, vi a5, vi a6, un] [vi s0] mem := by
  refine G_pop dX11_line_100 rfl ?_
  refine G_aload_n dX11_line_101 rfl ?_
  refine G_getR (t := 100) dX11_line_102 fl_11_65 (by decide) sh_0 rr_0_7 ?_
  refine G_iconst (z := 0) dX11_line_105 rfl ?_
  exact k1
set_option maxRecDepth 20000 in
set_option maxHeartbeats 1000000 in
theorem sg_X11_line_109 {E : Nat × (Nat → Int32)} {d : Nat} {P : Option Value → Mem → Prop} {mem : Mem} {a1 : Int} {o2 : Nat} {a3 : Int} {a4 : Int} {a5 : Int} {a6 : Int} {s0 : Int} (ho2 : o2 ∈ streetL)
    (k1 : GM E (m_X11_line d) P 114 [.ref 0, vi a1, .ref o2, vi a3, vi a4, vi a5, vi a6, un] [vi 1, .ref 100, vi s0] mem) :
    GM E (m_X11_line d) P 109 [.ref 0, vi a1, .ref o2, vi a3, vi a4, vi a5, vi a6, un] [vi s0] mem := by
  refine G_aload_n dX11_line_109 rfl ?_
  refine G_getR (t := 100) dX11_line_110 fl_11_65 (by decide) sh_0 rr_0_7 ?_
  refine G_iconst (z := 1) dX11_line_113 rfl ?_
  exact k1
set_option maxRecDepth 20000 in
set_option maxHeartbeats 1000000 in
theorem sg_X11_line_117 {E : Nat × (Nat → Int32)} {d : Nat} (hd : 1 ≤ d) {P : Option Value → Mem → Prop} {mem : Mem} {a1 : Int} {o2 : Nat} {a3 : Int} {a4 : Int} {a5 : Int} {a6 : Int} {s0 : Int} {s1 : Int} (ho2 : o2 ∈ streetL) (w1 : -2147483648 ≤ s1 ∧ s1 < 2147483648) (w2 : -2147483648 ≤ s0 ∧ s0 < 2147483648)
    (k1 : GM E (m_X11_line d) P 127 [.ref 0, vi a1, .ref o2, vi a3, vi a4, vi a5, vi a6, vi (min s1 s0)] [vi 2, .ref 100] mem) :
    GM E (m_X11_line d) P 117 [.ref 0, vi a1, .ref o2, vi a3, vi a4, vi a5, vi a6, un] [vi s0, vi s1] mem := by
  refine G_min (z := (min s1 s0)) dX11_line_117 ml_11_337 mw_min (w1) (w2) ⟨by show 1 ≤ d; omega, by show 21 ≤ 40 * d; omega, Nat.zero_le _, Nat.zero_le _⟩ (Nat.le_of_ble_eq_true rfl) rfl ?_
  refine G_istore dX11_line_120 (by decide : 7 < 8) rfl ?_
  refine G_aload_n dX11_line_122 rfl ?_
  refine G_getR (t := 100) dX11_line_123 fl_11_65 (by decide) sh_0 rr_0_7 ?_
  refine G_iconst (z := 2) dX11_line_126 rfl ?_
  exact k1
set_option maxRecDepth 20000 in
set_option maxHeartbeats 1000000 in
theorem sg_X11_line_130 {E : Nat × (Nat → Int32)} {d : Nat} {P : Option Value → Mem → Prop} {mem : Mem} {a1 : Int} {o2 : Nat} {a3 : Int} {a4 : Int} {a5 : Int} {a6 : Int} {a7 : Int} {s0 : Int} (ho2 : o2 ∈ streetL) (w1 : -2147483648 ≤ s0 ∧ s0 < 2147483648) (w2 : -2147483648 ≤ a7 ∧ a7 < 2147483648)
    (k1 : s0 ≤ a7 → GM E (m_X11_line d) P 42 [.ref 0, vi a1, .ref o2, vi (a3 + 1), vi a4, vi (a5 + 1), vi a6, vi a7] [] mem)
    (k2 : ¬ s0 ≤ a7 → GM E (m_X11_line d) P 139 [.ref 0, vi a1, .ref o2, vi a3, vi a4, vi a5, vi a6, vi a7] [vl a7, .ref 0] mem) :
    GM E (m_X11_line d) P 130 [.ref 0, vi a1, .ref o2, vi a3, vi a4, vi a5, vi a6, vi a7] [vi s0] mem := by
  refine G_iload dX11_line_130 rfl ?_
  refine G_icmp_le (tgt := 157) dX11_line_132 (by decide) (w1) (w2) (fun c1 => ?_) (fun c1 => ?_)
  · -- s0 ≤ a7
    refine G_iinc (z := (a3 + 1)) dX11_line_157 rfl rfl (by decide : 3 < 8) rfl ?_
    refine G_iinc (z := (a5 + 1)) dX11_line_160 rfl rfl (by decide : 5 < 8) rfl ?_
    refine G_goto (tgt := 42) dX11_line_163 (by decide) ?_
    exact k1 c1
  · -- ¬ s0 ≤ a7
    refine G_aload_n dX11_line_135 rfl ?_
    refine G_iload dX11_line_136 rfl ?_
    refine G_i2l dX11_line_138 (w2) ?_
    exact k2 c1
set_option maxRecDepth 20000 in
set_option maxHeartbeats 1000000 in
theorem sg_X11_line_142 {E : Nat × (Nat → Int32)} {d : Nat} {P : Option Value → Mem → Prop} {mem : Mem} {a1 : Int} {o2 : Nat} {a3 : Int} {a4 : Int} {a5 : Int} {a6 : Int} {a7 : Int} (ho2 : o2 ∈ streetL)
    (k1 : GM E (m_X11_line d) P 148 [.ref 0, vi a1, .ref o2, vi a3, vi a4, vi a5, vi a6, vi a7] [vi 2, .ref 100, .ref 0] mem) :
    GM E (m_X11_line d) P 142 [.ref 0, vi a1, .ref o2, vi a3, vi a4, vi a5, vi a6, vi a7] [] mem := by
  refine G_aload_n dX11_line_142 rfl ?_
  refine G_aload_n dX11_line_143 rfl ?_
  refine G_getR (t := 100) dX11_line_144 fl_11_65 (by decide) sh_0 rr_0_7 ?_
  refine G_iconst (z := 2) dX11_line_147 rfl ?_
  exact k1
set_option maxRecDepth 20000 in
set_option maxHeartbeats 1000000 in
theorem sg_X11_line_151 {E : Nat × (Nat → Int32)} {d : Nat} {P : Option Value → Mem → Prop} {mem : Mem} {a1 : Int} {o2 : Nat} {a3 : Int} {a4 : Int} {a5 : Int} {a6 : Int} {a7 : Int} {s0 : Int} (ho2 : o2 ∈ streetL) (w1 : -2147483648 ≤ s0 ∧ s0 < 2147483648)
    (k1 : GM E (m_X11_line d) P 152 [.ref 0, vi a1, .ref o2, vi a3, vi a4, vi a5, vi a6, vi a7] [vl s0, .ref 0] mem) :
    GM E (m_X11_line d) P 151 [.ref 0, vi a1, .ref o2, vi a3, vi a4, vi a5, vi a6, vi a7] [vi s0, .ref 0] mem := by
  refine G_i2l dX11_line_151 (w1) ?_
  exact k1
set_option maxRecDepth 20000 in
set_option maxHeartbeats 1000000 in
theorem sg_X11_line_155 {E : Nat × (Nat → Int32)} {d : Nat} {P : Option Value → Mem → Prop} {mem : Mem} {a1 : Int} {o2 : Nat} {a3 : Int} {a4 : Int} {a5 : Int} {a6 : Int} {a7 : Int} (ho2 : o2 ∈ streetL)
    (k1 : P (some (vi a3)) mem) :
    GM E (m_X11_line d) P 155 [.ref 0, vi a1, .ref o2, vi a3, vi a4, vi a5, vi a6, vi a7] [] mem := by
  refine G_iload_n dX11_line_155 rfl ?_
  exact G_iret dX11_line_156 rfl (Nat.zero_le _) (Nat.zero_le _) (Nat.le_refl _) ⟨rfl, k1⟩
set_option maxRecDepth 20000 in
set_option maxHeartbeats 1000000 in
theorem sg_X11_line_173 {E : Nat × (Nat → Int32)} {d : Nat} {P : Option Value → Mem → Prop} {mem : Mem} {a1 : Int} {o2 : Nat} {a3 : Int} {a4 : Int} {a5 : Int} (ho2 : o2 ∈ streetL)
    (k1 : GM E (m_X11_line d) P 177 [.ref 0, vi a1, .ref o2, vi a3, vi a4, vi a5, un, un] [vl (-1), .ref 0] mem) :
    GM E (m_X11_line d) P 173 [.ref 0, vi a1, .ref o2, vi a3, vi a4, vi a5, un, un] [] mem := by
  refine G_aload_n dX11_line_173 rfl ?_
  refine G_ldc2 (z := (-1)) dX11_line_174 kc_11_342 ?_
  exact k1
set_option maxRecDepth 20000 in
set_option maxHeartbeats 1000000 in
theorem sg_X11_line_180 {E : Nat × (Nat → Int32)} {d : Nat} {P : Option Value → Mem → Prop} {mem : Mem} {a1 : Int} {o2 : Nat} {a3 : Int} {a4 : Int} {a5 : Int} (ho2 : o2 ∈ streetL)
    (k1 : P (some (vi a3)) mem) :
    GM E (m_X11_line d) P 180 [.ref 0, vi a1, .ref o2, vi a3, vi a4, vi a5, un, un] [] mem := by
  refine G_iload_n dX11_line_180 rfl ?_
  exact G_iret dX11_line_181 rfl (Nat.zero_le _) (Nat.zero_le _) (Nat.le_refl _) ⟨rfl, k1⟩
abbrev m_X11_measureDays (d : Nat) : Mu := (cX11_measureDays, 3, RX11, none, ⟨d, 0, 0, 40 * d⟩, "measureDays")
set_option maxRecDepth 20000 in
set_option maxHeartbeats 1000000 in
theorem sg_X11_measureDays_0 {E : Nat × (Nat → Int32)} {d : Nat} {P : Option Value → Mem → Prop} {mem : Mem}
    (k1 : GM E (m_X11_measureDays d) P 4 [.ref 0, un, un] [.ref 147] mem) :
    GM E (m_X11_measureDays d) P 0 [.ref 0, un, un] [] mem := by
  refine G_aload_n dX11_measureDays_0 rfl ?_
  refine G_getR (t := 147) dX11_measureDays_1 fl_11_83 (by decide) sh_0 rr_0_9 ?_
  exact k1
set_option maxRecDepth 20000 in
set_option maxHeartbeats 1000000 in
theorem sg_X11_measureDays_7 {E : Nat × (Nat → Int32)} {d : Nat} {P : Option Value → Mem → Prop} {mem : Mem}
    (k1 : GM E (m_X11_measureDays d) P 9 [.ref 0, vi 0, un] [] mem) :
    GM E (m_X11_measureDays d) P 7 [.ref 0, un, un] [] mem := by
  refine G_iconst (z := 0) dX11_measureDays_7 rfl ?_
  refine G_istore_n dX11_measureDays_8 rfl (by decide : 1 < 3) rfl ?_
  exact k1
set_option maxRecDepth 20000 in
set_option maxHeartbeats 1000000 in
theorem sg_X11_measureDays_9 {E : Nat × (Nat → Int32)} {d : Nat} {P : Option Value → Mem → Prop} {mem : Mem} {a1 : Int} (w1 : -2147483648 ≤ a1 ∧ a1 < 2147483648) (w2 : -2147483648 ≤ (mem 9 1) ∧ (mem 9 1) < 2147483648)
    (k1 : (mem 9 1) ≤ a1 → P none mem)
    (k2 : ¬ (mem 9 1) ≤ a1 → GM E (m_X11_measureDays d) P 25 [.ref 0, vi a1, un] [vi a1, .ref 9] mem) :
    GM E (m_X11_measureDays d) P 9 [.ref 0, vi a1, un] [] mem := by
  refine G_iload_n dX11_measureDays_9 rfl ?_
  refine G_aload_n dX11_measureDays_10 rfl ?_
  refine G_getR (t := 9) dX11_measureDays_11 fl_11_33 (by decide) sh_0 rr_0_3 ?_
  refine G_getI (z := (mem 9 1)) dX11_measureDays_14 fl_11_113 (by decide) sh_9 rfl ?_
  refine G_icmp_ge (tgt := 89) dX11_measureDays_17 (by decide) (w1) (w2) (fun c1 => ?_) (fun c1 => ?_)
  · -- (mem 9 1) ≤ a1
    exact G_vret dX11_measureDays_89 rfl (Nat.zero_le _) (Nat.zero_le _) (Nat.le_refl _) ⟨rfl, k1 c1⟩
  · -- ¬ (mem 9 1) ≤ a1
    refine G_aload_n dX11_measureDays_20 rfl ?_
    refine G_getR (t := 9) dX11_measureDays_21 fl_11_33 (by decide) sh_0 rr_0_3 ?_
    refine G_iload_n dX11_measureDays_24 rfl ?_
    exact k2 c1
set_option maxRecDepth 20000 in
set_option maxHeartbeats 1000000 in
theorem sg_X11_measureDays_28n {E : Nat × (Nat → Int32)} {d : Nat} {P : Option Value → Mem → Prop} {mem : Mem} {a1 : Int}
    (k1 : GM E (m_X11_measureDays d) P 9 [.ref 0, vi (a1 + 1), .null] [] mem) :
    GM E (m_X11_measureDays d) P 28 [.ref 0, vi a1, un] [.null] mem := by
  refine G_astoreNull_n dX11_measureDays_28 rfl (by decide : 2 < 3) rfl ?_
  refine G_aloadNull_n dX11_measureDays_29 rfl ?_
  refine G_ifnullZ (tgt := 83) dX11_measureDays_30 (by decide) ?_
  refine G_iinc (z := (a1 + 1)) dX11_measureDays_83 rfl rfl (by decide : 1 < 3) rfl ?_
  refine G_goto (tgt := 9) dX11_measureDays_86 (by decide) ?_
  exact k1
set_option maxRecDepth 20000 in
set_option maxHeartbeats 1000000 in
theorem sg_X11_measureDays_28r {E : Nat × (Nat → Int32)} {d : Nat} {P : Option Value → Mem → Prop} {mem : Mem} {a1 : Int} {os0 : Nat} (hos0 : os0 ∈ streetL)
    (k1 : GM E (m_X11_measureDays d) P 42 [.ref 0, vi a1, .ref os0] [vi 1, .ref 3, .ref 100] mem) :
    GM E (m_X11_measureDays d) P 28 [.ref 0, vi a1, un] [.ref os0] mem := by
  refine G_astore_n dX11_measureDays_28 rfl (by decide : 2 < 3) rfl ?_
  refine G_aload_n dX11_measureDays_29 rfl ?_
  refine G_ifnull dX11_measureDays_30 ?_
  refine G_aload_n dX11_measureDays_33 rfl ?_
  refine G_getR (t := 100) dX11_measureDays_34 fl_11_65 (by decide) sh_0 rr_0_7 ?_
  refine G_aload_n dX11_measureDays_37 rfl ?_
  refine G_getR (t := 3) dX11_measureDays_38 fl_11_19 (by decide) sh_0 rr_0_1 ?_
  refine G_iconst (z := 1) dX11_measureDays_41 rfl ?_
  exact k1
set_option maxRecDepth 20000 in
set_option maxHeartbeats 1000000 in
theorem sg_X11_measureDays_45 {E : Nat × (Nat → Int32)} {d : Nat} {P : Option Value → Mem → Prop} {mem : Mem} {a1 : Int} {o2 : Nat} {s0 : Int} (ho2 : o2 ∈ streetL)
    (k1 : GM E (m_X11_measureDays d) P 49 [.ref 0, vi a1, .ref o2] [vi (mem o2 4), vi s0, .ref 100] mem) :
    GM E (m_X11_measureDays d) P 45 [.ref 0, vi a1, .ref o2] [vi s0, .ref 100] mem := by
  refine G_aload_n dX11_measureDays_45 rfl ?_
  refine G_getI (z := (mem o2 4)) dX11_measureDays_46 fl_11_152 (ltStreet0 ho2) (shStreet0 ho2) rfl ?_
  exact k1
set_option maxRecDepth 20000 in
set_option maxHeartbeats 1000000 in
theorem sg_X11_measureDays_52 {E : Nat × (Nat → Int32)} {d : Nat} {P : Option Value → Mem → Prop} {mem : Mem} {a1 : Int} {o2 : Nat} (ho2 : o2 ∈ streetL)
    (k1 : GM E (m_X11_measureDays d) P 71 [.ref 0, vi a1, .ref o2] [vi a1, .ref 23, .ref o2, .ref 100, .ref 100, .ref o2, .ref 147] mem) :
    GM E (m_X11_measureDays d) P 52 [.ref 0, vi a1, .ref o2] [] mem := by
  refine G_aload_n dX11_measureDays_52 rfl ?_
  refine G_getR (t := 147) dX11_measureDays_53 fl_11_83 (by decide) sh_0 rr_0_9 ?_
  refine G_aload_n dX11_measureDays_56 rfl ?_
  refine G_aload_n dX11_measureDays_57 rfl ?_
  refine G_getR (t := 100) dX11_measureDays_58 fl_11_65 (by decide) sh_0 rr_0_7 ?_
  refine G_aload_n dX11_measureDays_61 rfl ?_
  refine G_getR (t := 100) dX11_measureDays_62 fl_11_65 (by decide) sh_0 rr_0_7 ?_
  refine G_aload_n dX11_measureDays_65 rfl ?_
  refine G_aload_n dX11_measureDays_66 rfl ?_
  refine G_getR (t := 23) dX11_measureDays_67 fl_11_40 (by decide) sh_0 rr_0_4 ?_
  refine G_iload_n dX11_measureDays_70 rfl ?_
  exact k1
set_option maxRecDepth 20000 in
set_option maxHeartbeats 1000000 in
theorem sg_X11_measureDays_74 {E : Nat × (Nat → Int32)} {d : Nat} {P : Option Value → Mem → Prop} {mem : Mem} {a1 : Int} {o2 : Nat} {s0 : Int} (ho2 : o2 ∈ streetL)
    (k1 : GM E (m_X11_measureDays d) P 74 [.ref 0, vi a1, .ref o2] [vi s0, .ref o2, .ref 100, .ref 100, .ref o2, .ref 147] mem) :
    GM E (m_X11_measureDays d) P 74 [.ref 0, vi a1, .ref o2] [vi s0, .ref o2, .ref 100, .ref 100, .ref o2, .ref 147] mem := by
  exact k1
set_option maxRecDepth 20000 in
set_option maxHeartbeats 1000000 in
theorem sg_X11_measureDays_77 {E : Nat × (Nat → Int32)} {d : Nat} {P : Option Value → Mem → Prop} {mem : Mem} {a1 : Int} {o2 : Nat} {s0 : Int} (ho2 : o2 ∈ streetL)
    (k1 : GM E (m_X11_measureDays d) P 77 [.ref 0, vi a1, .ref o2] [vi s0, .ref 100, .ref o2, .ref 147] mem) :
    GM E (m_X11_measureDays d) P 77 [.ref 0, vi a1, .ref o2] [vi s0, .ref 100, .ref o2, .ref 147] mem := by
  exact k1
set_option maxRecDepth 20000 in
set_option maxHeartbeats 1000000 in
theorem sg_X11_measureDays_80 {E : Nat × (Nat → Int32)} {d : Nat} {P : Option Value → Mem → Prop} {mem : Mem} {a1 : Int} {o2 : Nat} {s0 : Int} (ho2 : o2 ∈ streetL)
    (k1 : GM E (m_X11_measureDays d) P 80 [.ref 0, vi a1, .ref o2] [vi s0, .ref o2, .ref 147] mem) :
    GM E (m_X11_measureDays d) P 80 [.ref 0, vi a1, .ref o2] [vi s0, .ref o2, .ref 147] mem := by
  exact k1
set_option maxRecDepth 20000 in
set_option maxHeartbeats 1000000 in
theorem sg_X11_measureDays_83 {E : Nat × (Nat → Int32)} {d : Nat} {P : Option Value → Mem → Prop} {mem : Mem} {a1 : Int} {o2 : Nat} (ho2 : o2 ∈ streetL)
    (k1 : GM E (m_X11_measureDays d) P 9 [.ref 0, vi (a1 + 1), .ref o2] [] mem) :
    GM E (m_X11_measureDays d) P 83 [.ref 0, vi a1, .ref o2] [] mem := by
  refine G_iinc (z := (a1 + 1)) dX11_measureDays_83 rfl rfl (by decide : 1 < 3) rfl ?_
  refine G_goto (tgt := 9) dX11_measureDays_86 (by decide) ?_
  exact k1
abbrev m_X11_most (d : Nat) : Mu := (cX11_most, 3, RX11, (some .int), ⟨d, 0, 0, 40 * d⟩, "most")
set_option maxRecDepth 20000 in
set_option maxHeartbeats 1000000 in
theorem sg_X11_most_0 {E : Nat × (Nat → Int32)} {d : Nat} {P : Option Value → Mem → Prop} {mem : Mem} {a1 : Int} {a2 : Int}
    (k1 : GM E (m_X11_most d) P 5 [.ref 0, vi a1, vi a2] [vi a1, .ref 9] mem) :
    GM E (m_X11_most d) P 0 [.ref 0, vi a1, vi a2] [] mem := by
  refine G_aload_n dX11_most_0 rfl ?_
  refine G_getR (t := 9) dX11_most_1 fl_11_33 (by decide) sh_0 rr_0_3 ?_
  refine G_iload_n dX11_most_4 rfl ?_
  exact k1
set_option maxRecDepth 20000 in
set_option maxHeartbeats 1000000 in
theorem sg_X11_most_8 {E : Nat × (Nat → Int32)} {d : Nat} {P : Option Value → Mem → Prop} {mem : Mem} {a1 : Int} {a2 : Int} {s0 : Int} (w1 : -2147483648 ≤ s0 ∧ s0 < 2147483648) (w2 : -2147483648 ≤ a2 ∧ a2 < 2147483648)
    (k1 : s0 = 0 → P (some (vi (-1))) mem)
    (k2 : ¬ s0 = 0 → a2 < 0 → P (some (vi (-1))) mem)
    (k3 : ¬ s0 = 0 → ¬ a2 < 0 → a2 ≤ 99999 → GM E (m_X11_most d) P 35 [.ref 0, vi a1, vi a2] [.ref 24, .ref 106] mem)
    (k4 : ¬ s0 = 0 → ¬ a2 < 0 → ¬ a2 ≤ 99999 → P (some (vi (-1))) mem) :
    GM E (m_X11_most d) P 8 [.ref 0, vi a1, vi a2] [vi s0] mem := by
  refine G_if_eq (tgt := 22) dX11_most_8 (by decide) (w1) (fun c1 => ?_) (fun c1 => ?_)
  · -- s0 = 0
    refine G_iconst (z := (-1)) dX11_most_22 rfl ?_
    exact G_iret dX11_most_23 rfl (Nat.zero_le _) (Nat.zero_le _) (Nat.le_refl _) ⟨rfl, k1 c1⟩
  · -- ¬ s0 = 0
    refine G_iload_n dX11_most_11 rfl ?_
    refine G_if_lt (tgt := 22) dX11_most_12 (by decide) (w2) (fun c2 => ?_) (fun c2 => ?_)
    · -- a2 < 0
      refine G_iconst (z := (-1)) dX11_most_22 rfl ?_
      exact G_iret dX11_most_23 rfl (Nat.zero_le _) (Nat.zero_le _) (Nat.le_refl _) ⟨rfl, k2 c1 c2⟩
    · -- ¬ a2 < 0
      refine G_iload_n dX11_most_15 rfl ?_
      refine G_ldcw (z := 99999) dX11_most_16 kc_11_386 ?_
      refine G_icmp_le (tgt := 24) dX11_most_19 (by decide) (w2) (by decide) (fun c3 => ?_) (fun c3 => ?_)
      · -- a2 ≤ 99999
        refine G_aload_n dX11_most_24 rfl ?_
        refine G_getR (t := 106) dX11_most_25 fl_11_74 (by decide) sh_0 rr_0_8 ?_
        refine G_aload_n dX11_most_28 rfl ?_
        refine G_getR (t := 23) dX11_most_29 fl_11_40 (by decide) sh_0 rr_0_4 ?_
        refine G_getR (t := 24) dX11_most_32 fl_11_352 (by decide) sh_23 (rrState_0 (by decide)) ?_
        exact k3 c1 c2 c3
      · -- ¬ a2 ≤ 99999
        refine G_iconst (z := (-1)) dX11_most_22 rfl ?_
        exact G_iret dX11_most_23 rfl (Nat.zero_le _) (Nat.zero_le _) (Nat.le_refl _) ⟨rfl, k4 c1 c2 c3⟩
set_option maxRecDepth 20000 in
set_option maxHeartbeats 1000000 in
theorem sg_X11_most_38 {E : Nat × (Nat → Int32)} {d : Nat} {P : Option Value → Mem → Prop} {mem : Mem} {a1 : Int} {a2 : Int}
    (k1 : GM E (m_X11_most d) P 63 [.ref 0, vi a1, vi a2] [vi (mem 23 5), vi (mem 23 4), vi (mem 23 3), .ref 106] mem) :
    GM E (m_X11_most d) P 38 [.ref 0, vi a1, vi a2] [] mem := by
  refine G_aload_n dX11_most_38 rfl ?_
  refine G_getR (t := 106) dX11_most_39 fl_11_74 (by decide) sh_0 rr_0_8 ?_
  refine G_aload_n dX11_most_42 rfl ?_
  refine G_getR (t := 23) dX11_most_43 fl_11_40 (by decide) sh_0 rr_0_4 ?_
  refine G_getI (z := (mem 23 3)) dX11_most_46 fl_11_203 (by decide) sh_23 rfl ?_
  refine G_aload_n dX11_most_49 rfl ?_
  refine G_getR (t := 23) dX11_most_50 fl_11_40 (by decide) sh_0 rr_0_4 ?_
  refine G_getI (z := (mem 23 4)) dX11_most_53 fl_11_252 (by decide) sh_23 rfl ?_
  refine G_aload_n dX11_most_56 rfl ?_
  refine G_getR (t := 23) dX11_most_57 fl_11_40 (by decide) sh_0 rr_0_4 ?_
  refine G_getI (z := (mem 23 5)) dX11_most_60 fl_11_253 (by decide) sh_23 rfl ?_
  exact k1
set_option maxRecDepth 20000 in
set_option maxHeartbeats 1000000 in
theorem sg_X11_most_66 {E : Nat × (Nat → Int32)} {d : Nat} {P : Option Value → Mem → Prop} {mem : Mem} {a1 : Int} {a2 : Int}
    (k1 : GM E (m_X11_most d) P 72 [.ref 0, vi a1, vi a2] [vi a2, vi a1, .ref 106] mem) :
    GM E (m_X11_most d) P 66 [.ref 0, vi a1, vi a2] [] mem := by
  refine G_aload_n dX11_most_66 rfl ?_
  refine G_getR (t := 106) dX11_most_67 fl_11_74 (by decide) sh_0 rr_0_8 ?_
  refine G_iload_n dX11_most_70 rfl ?_
  refine G_iload_n dX11_most_71 rfl ?_
  exact k1
set_option maxRecDepth 20000 in
set_option maxHeartbeats 1000000 in
theorem sg_X11_most_75 {E : Nat × (Nat → Int32)} {d : Nat} {P : Option Value → Mem → Prop} {mem : Mem} {a1 : Int} {a2 : Int} (w1 : -2147483648 ≤ (mem 106 13) ∧ (mem 106 13) < 2147483648)
    (k1 : GM E (m_X11_most d) P 84 [.ref 0, vi a1, vi a2] [vl (mem 106 13), .ref 0] mem) :
    GM E (m_X11_most d) P 75 [.ref 0, vi a1, vi a2] [] mem := by
  refine G_aload_n dX11_most_75 rfl ?_
  refine G_aload_n dX11_most_76 rfl ?_
  refine G_getR (t := 106) dX11_most_77 fl_11_74 (by decide) sh_0 rr_0_8 ?_
  refine G_getI (z := (mem 106 13)) dX11_most_80 fl_11_387 (by decide) sh_106 rfl ?_
  refine G_i2l dX11_most_83 (w1) ?_
  exact k1
set_option maxRecDepth 20000 in
set_option maxHeartbeats 1000000 in
theorem sg_X11_most_87 {E : Nat × (Nat → Int32)} {d : Nat} {P : Option Value → Mem → Prop} {mem : Mem} {a1 : Int} {a2 : Int}
    (k1 : GM E (m_X11_most d) P 94 [.ref 0, vi a1, vi a2] [vi (mem 106 13)] mem) :
    GM E (m_X11_most d) P 87 [.ref 0, vi a1, vi a2] [] mem := by
  refine G_aload_n dX11_most_87 rfl ?_
  refine G_getR (t := 106) dX11_most_88 fl_11_74 (by decide) sh_0 rr_0_8 ?_
  refine G_getI (z := (mem 106 13)) dX11_most_91 fl_11_387 (by decide) sh_106 rfl ?_
  exact k1
set_option maxRecDepth 20000 in
set_option maxHeartbeats 1000000 in
theorem sg_X11_most_97 {E : Nat × (Nat → Int32)} {d : Nat} {P : Option Value → Mem → Prop} {mem : Mem} {a1 : Int} {a2 : Int} {s0 : Int}
    (k1 : P (some (vi s0)) mem) :
    GM E (m_X11_most d) P 97 [.ref 0, vi a1, vi a2] [vi s0] mem := by
  exact G_iret dX11_most_97 rfl (Nat.zero_le _) (Nat.zero_le _) (Nat.le_refl _) ⟨rfl, k1⟩
abbrev m_X11_next (d : Nat) : Mu := (cX11_next, 7, RX11, (some .int), ⟨d, 0, 0, 40 * d⟩, "next")
set_option maxRecDepth 20000 in
set_option maxHeartbeats 1000000 in
theorem sg_X11_next_0 {E : Nat × (Nat → Int32)} {d : Nat} {P : Option Value → Mem → Prop} {mem : Mem}
    (k1 : GM E (m_X11_next d) P 4 [.ref 0, un, un, un, un, un, un] [.ref 93] mem) :
    GM E (m_X11_next d) P 0 [.ref 0, un, un, un, un, un, un] [] mem := by
  refine G_aload_n dX11_next_0 rfl ?_
  refine G_getR (t := 93) dX11_next_1 fl_11_56 (by decide) sh_0 rr_0_6 ?_
  exact k1
set_option maxRecDepth 20000 in
set_option maxHeartbeats 1000000 in
theorem sg_X11_next_7 {E : Nat × (Nat → Int32)} {d : Nat} {P : Option Value → Mem → Prop} {mem : Mem}
    (k1 : GM E (m_X11_next d) P 22 [.ref 0, un, un, un, un, un, un] [vi ((shlI 1 (mem 9 1)) - 1), .ref 93] mem) :
    GM E (m_X11_next d) P 7 [.ref 0, un, un, un, un, un, un] [] mem := by
  refine G_aload_n dX11_next_7 rfl ?_
  refine G_getR (t := 93) dX11_next_8 fl_11_56 (by decide) sh_0 rr_0_6 ?_
  refine G_iconst (z := 1) dX11_next_11 rfl ?_
  refine G_aload_n dX11_next_12 rfl ?_
  refine G_getR (t := 9) dX11_next_13 fl_11_33 (by decide) sh_0 rr_0_3 ?_
  refine G_getI (z := (mem 9 1)) dX11_next_16 fl_11_113 (by decide) sh_9 rfl ?_
  refine G_ishl (z := (shlI 1 (mem 9 1))) dX11_next_19 (iI_inv _) ?_
  refine G_iconst (z := 1) dX11_next_20 rfl ?_
  refine G_isub dX11_next_21 ?_
  exact k1
set_option maxRecDepth 20000 in
set_option maxHeartbeats 1000000 in
theorem sg_X11_next_25 {E : Nat × (Nat → Int32)} {d : Nat} {P : Option Value → Mem → Prop} {mem : Mem} {s0 : Int} (w1 : -2147483648 ≤ s0 ∧ s0 < 2147483648)
    (k1 : s0 ≠ 0 → GM E (m_X11_next d) P 40 [.ref 0, vi s0, vi s0, vi 0, vi 1, un, un] [] mem)
    (k2 : s0 = 0 → P (some (vi (-2))) mem) :
    GM E (m_X11_next d) P 25 [.ref 0, un, un, un, un, un, un] [vi s0] mem := by
  refine G_istore_n dX11_next_25 rfl (by decide : 1 < 7) rfl ?_
  refine G_iload_n dX11_next_26 rfl ?_
  refine G_if_ne (tgt := 33) dX11_next_27 (by decide) (w1) (fun c1 => ?_) (fun c1 => ?_)
  · -- s0 ≠ 0
    refine G_iload_n dX11_next_33 rfl ?_
    refine G_istore_n dX11_next_34 rfl (by decide : 2 < 7) rfl ?_
    refine G_iconst (z := 0) dX11_next_35 rfl ?_
    refine G_istore_n dX11_next_36 rfl (by decide : 3 < 7) rfl ?_
    refine G_iconst (z := 1) dX11_next_37 rfl ?_
    refine G_istore dX11_next_38 (by decide : 4 < 7) rfl ?_
    exact k1 c1
  · -- s0 = 0
    refine G_bipush (z := (-2)) dX11_next_30 rfl ?_
    exact G_iret dX11_next_32 rfl (Nat.zero_le _) (Nat.zero_le _) (Nat.le_refl _) ⟨rfl, k2 c1⟩
set_option maxRecDepth 20000 in
set_option maxHeartbeats 1000000 in
theorem sg_X11_next_40 {E : Nat × (Nat → Int32)} {d : Nat} {P : Option Value → Mem → Prop} {mem : Mem} {a1 : Int} {a2 : Int} {a3 : Int} {a4 : Int} (w1 : -2147483648 ≤ a4 ∧ a4 < 2147483648) (w2 : -2147483648 ≤ a2 ∧ a2 < 2147483648)
    (k1 : (shlI 1 (mem 9 1)) ≤ a4 → GM E (m_X11_next d) P 97 [.ref 0, vi a1, vi a2, vi a3, vi a4, un, un] [vl a2, .ref 0] mem)
    (k2 : ¬ (shlI 1 (mem 9 1)) ≤ a4 → GM E (m_X11_next d) P 60 [.ref 0, vi a1, vi a2, vi a3, vi a4, un, un] [vi a4, .ref 93] mem) :
    GM E (m_X11_next d) P 40 [.ref 0, vi a1, vi a2, vi a3, vi a4, un, un] [] mem := by
  refine G_iload dX11_next_40 rfl ?_
  refine G_iconst (z := 1) dX11_next_42 rfl ?_
  refine G_aload_n dX11_next_43 rfl ?_
  refine G_getR (t := 9) dX11_next_44 fl_11_33 (by decide) sh_0 rr_0_3 ?_
  refine G_getI (z := (mem 9 1)) dX11_next_47 fl_11_113 (by decide) sh_9 rfl ?_
  refine G_ishl (z := (shlI 1 (mem 9 1))) dX11_next_50 (iI_inv _) ?_
  refine G_icmp_ge (tgt := 94) dX11_next_51 (by decide) (w1) (iI_rng _) (fun c1 => ?_) (fun c1 => ?_)
  · -- (shlI 1 (mem 9 1)) ≤ a4
    refine G_aload_n dX11_next_94 rfl ?_
    refine G_iload_n dX11_next_95 rfl ?_
    refine G_i2l dX11_next_96 (w2) ?_
    exact k1 c1
  · -- ¬ (shlI 1 (mem 9 1)) ≤ a4
    refine G_aload_n dX11_next_54 rfl ?_
    refine G_getR (t := 93) dX11_next_55 fl_11_56 (by decide) sh_0 rr_0_6 ?_
    refine G_iload dX11_next_58 rfl ?_
    exact k2 c1
set_option maxRecDepth 20000 in
set_option maxHeartbeats 1000000 in
theorem sg_X11_next_63 {E : Nat × (Nat → Int32)} {d : Nat} (hd : 1 ≤ d) {P : Option Value → Mem → Prop} {mem : Mem} {a1 : Int} {a2 : Int} {a3 : Int} {a4 : Int} {s0 : Int} (w1 : -2147483648 ≤ s0 ∧ s0 < 2147483648) (w2 : -2147483648 ≤ (a1 - s0) ∧ (a1 - s0) < 2147483648) (w3 : -2147483648 ≤ (max s0 (a1 - s0)) ∧ (max s0 (a1 - s0)) < 2147483648) (w4 : -2147483648 ≤ a2 ∧ a2 < 2147483648)
    (k1 : a2 ≤ (max s0 (a1 - s0)) → GM E (m_X11_next d) P 40 [.ref 0, vi a1, vi a2, vi a3, vi (a4 + 1), vi s0, vi (max s0 (a1 - s0))] [] mem)
    (k2 : ¬ a2 ≤ (max s0 (a1 - s0)) → GM E (m_X11_next d) P 40 [.ref 0, vi a1, vi (max s0 (a1 - s0)), vi a4, vi (a4 + 1), vi s0, vi (max s0 (a1 - s0))] [] mem) :
    GM E (m_X11_next d) P 63 [.ref 0, vi a1, vi a2, vi a3, vi a4, un, un] [vi s0] mem := by
  refine G_istore dX11_next_63 (by decide : 5 < 7) rfl ?_
  refine G_iload dX11_next_65 rfl ?_
  refine G_iload_n dX11_next_67 rfl ?_
  refine G_iload dX11_next_68 rfl ?_
  refine G_isub dX11_next_70 ?_
  refine G_max (z := (max s0 (a1 - s0))) dX11_next_71 ml_11_397 mw_max (w1) (w2) ⟨by show 1 ≤ d; omega, by show 21 ≤ 40 * d; omega, Nat.zero_le _, Nat.zero_le _⟩ (Nat.le_of_ble_eq_true rfl) rfl ?_
  refine G_istore dX11_next_74 (by decide : 6 < 7) rfl ?_
  refine G_iload dX11_next_76 rfl ?_
  refine G_iload_n dX11_next_78 rfl ?_
  refine G_icmp_ge (tgt := 88) dX11_next_79 (by decide) (w3) (w4) (fun c1 => ?_) (fun c1 => ?_)
  · -- a2 ≤ (max s0 (a1 - s0))
    refine G_iinc (z := (a4 + 1)) dX11_next_88 rfl rfl (by decide : 4 < 7) rfl ?_
    refine G_goto (tgt := 40) dX11_next_91 (by decide) ?_
    exact k1 c1
  · -- ¬ a2 ≤ (max s0 (a1 - s0))
    refine G_iload dX11_next_82 rfl ?_
    refine G_istore_n dX11_next_84 rfl (by decide : 2 < 7) rfl ?_
    refine G_iload dX11_next_85 rfl ?_
    refine G_istore_n dX11_next_87 rfl (by decide : 3 < 7) rfl ?_
    refine G_iinc (z := (a4 + 1)) dX11_next_88 rfl rfl (by decide : 4 < 7) rfl ?_
    refine G_goto (tgt := 40) dX11_next_91 (by decide) ?_
    exact k2 c1
set_option maxRecDepth 20000 in
set_option maxHeartbeats 1000000 in
theorem sg_X11_next_100 {E : Nat × (Nat → Int32)} {d : Nat} {P : Option Value → Mem → Prop} {mem : Mem} {a1 : Int} {a2 : Int} {a3 : Int} {a4 : Int}
    (k1 : P (some (vi a3)) mem) :
    GM E (m_X11_next d) P 100 [.ref 0, vi a1, vi a2, vi a3, vi a4, un, un] [] mem := by
  refine G_iload_n dX11_next_100 rfl ?_
  exact G_iret dX11_next_101 rfl (Nat.zero_le _) (Nat.zero_le _) (Nat.le_refl _) ⟨rfl, k1⟩
abbrev m_X11_order (d : Nat) : Mu := (cX11_order, 2, RX11, (some .int), ⟨d, 0, 0, 40 * d⟩, "order")
set_option maxRecDepth 20000 in
set_option maxHeartbeats 1000000 in
theorem sg_X11_order_0 {E : Nat × (Nat → Int32)} {d : Nat} {P : Option Value → Mem → Prop} {mem : Mem}
    (k1 : GM E (m_X11_order d) P 8 [.ref 0, un] [.ref 1, .ref 106] mem) :
    GM E (m_X11_order d) P 0 [.ref 0, un] [] mem := by
  refine G_aload_n dX11_order_0 rfl ?_
  refine G_getR (t := 106) dX11_order_1 fl_11_74 (by decide) sh_0 rr_0_8 ?_
  refine G_aload_n dX11_order_4 rfl ?_
  refine G_getR (t := 1) dX11_order_5 fl_11_12 (by decide) sh_0 rr_0_0 ?_
  exact k1
set_option maxRecDepth 20000 in
set_option maxHeartbeats 1000000 in
theorem sg_X11_order_11 {E : Nat × (Nat → Int32)} {d : Nat} {P : Option Value → Mem → Prop} {mem : Mem} {s0 : Int}
    (k1 : GM E (m_X11_order d) P 16 [.ref 0, vi s0] [.ref 1] mem) :
    GM E (m_X11_order d) P 11 [.ref 0, un] [vi s0] mem := by
  refine G_istore_n dX11_order_11 rfl (by decide : 1 < 2) rfl ?_
  refine G_aload_n dX11_order_12 rfl ?_
  refine G_getR (t := 1) dX11_order_13 fl_11_12 (by decide) sh_0 rr_0_0 ?_
  exact k1
set_option maxRecDepth 20000 in
set_option maxHeartbeats 1000000 in
theorem sg_X11_order_19 {E : Nat × (Nat → Int32)} {d : Nat} {P : Option Value → Mem → Prop} {mem : Mem} {a1 : Int} (w1 : -2147483648 ≤ a1 ∧ a1 < 2147483648)
    (k1 : 0 ≤ a1 → GM E (m_X11_order d) P 36 [.ref 0, vi a1] [.ref 24, .ref 106] mem)
    (k2 : ¬ 0 ≤ a1 → P (some (vi a1)) mem) :
    GM E (m_X11_order d) P 19 [.ref 0, vi a1] [] mem := by
  refine G_iload_n dX11_order_19 rfl ?_
  refine G_if_ge (tgt := 25) dX11_order_20 (by decide) (w1) (fun c1 => ?_) (fun c1 => ?_)
  · -- 0 ≤ a1
    refine G_aload_n dX11_order_25 rfl ?_
    refine G_getR (t := 106) dX11_order_26 fl_11_74 (by decide) sh_0 rr_0_8 ?_
    refine G_aload_n dX11_order_29 rfl ?_
    refine G_getR (t := 23) dX11_order_30 fl_11_40 (by decide) sh_0 rr_0_4 ?_
    refine G_getR (t := 24) dX11_order_33 fl_11_352 (by decide) sh_23 (rrState_0 (by decide)) ?_
    exact k1 c1
  · -- ¬ 0 ≤ a1
    refine G_iload_n dX11_order_23 rfl ?_
    exact G_iret dX11_order_24 rfl (Nat.zero_le _) (Nat.zero_le _) (Nat.le_refl _) ⟨rfl, k2 c1⟩
set_option maxRecDepth 20000 in
set_option maxHeartbeats 1000000 in
theorem sg_X11_order_39 {E : Nat × (Nat → Int32)} {d : Nat} {P : Option Value → Mem → Prop} {mem : Mem} {a1 : Int}
    (k1 : GM E (m_X11_order d) P 64 [.ref 0, vi a1] [vi (mem 23 5), vi (mem 23 4), vi (mem 23 3), .ref 106] mem) :
    GM E (m_X11_order d) P 39 [.ref 0, vi a1] [] mem := by
  refine G_aload_n dX11_order_39 rfl ?_
  refine G_getR (t := 106) dX11_order_40 fl_11_74 (by decide) sh_0 rr_0_8 ?_
  refine G_aload_n dX11_order_43 rfl ?_
  refine G_getR (t := 23) dX11_order_44 fl_11_40 (by decide) sh_0 rr_0_4 ?_
  refine G_getI (z := (mem 23 3)) dX11_order_47 fl_11_203 (by decide) sh_23 rfl ?_
  refine G_aload_n dX11_order_50 rfl ?_
  refine G_getR (t := 23) dX11_order_51 fl_11_40 (by decide) sh_0 rr_0_4 ?_
  refine G_getI (z := (mem 23 4)) dX11_order_54 fl_11_252 (by decide) sh_23 rfl ?_
  refine G_aload_n dX11_order_57 rfl ?_
  refine G_getR (t := 23) dX11_order_58 fl_11_40 (by decide) sh_0 rr_0_4 ?_
  refine G_getI (z := (mem 23 5)) dX11_order_61 fl_11_253 (by decide) sh_23 rfl ?_
  exact k1
set_option maxRecDepth 20000 in
set_option maxHeartbeats 1000000 in
theorem sg_X11_order_67 {E : Nat × (Nat → Int32)} {d : Nat} {P : Option Value → Mem → Prop} {mem : Mem} {a1 : Int}
    (k1 : GM E (m_X11_order d) P 71 [.ref 0, vi a1] [.ref 106] mem) :
    GM E (m_X11_order d) P 67 [.ref 0, vi a1] [] mem := by
  refine G_aload_n dX11_order_67 rfl ?_
  refine G_getR (t := 106) dX11_order_68 fl_11_74 (by decide) sh_0 rr_0_8 ?_
  exact k1
set_option maxRecDepth 20000 in
set_option maxHeartbeats 1000000 in
theorem sg_X11_order_74 {E : Nat × (Nat → Int32)} {d : Nat} {P : Option Value → Mem → Prop} {mem : Mem} {a1 : Int} {s0 : Int} (w1 : -2147483648 ≤ s0 ∧ s0 < 2147483648) (w2 : s0 ≠ 0 → -2147483648 ≤ (mem 106 9) ∧ (mem 106 9) < 2147483648)
    (k1 : s0 ≠ 0 → GM E (m_X11_order d) P 90 [.ref 0, vi a1] [vl (mem 106 9), .ref 0] mem)
    (k2 : s0 = 0 → P (some (vi (-200))) mem) :
    GM E (m_X11_order d) P 74 [.ref 0, vi a1] [vi s0] mem := by
  refine G_if_ne (tgt := 81) dX11_order_74 (by decide) (w1) (fun c1 => ?_) (fun c1 => ?_)
  · -- s0 ≠ 0
    refine G_aload_n dX11_order_81 rfl ?_
    refine G_aload_n dX11_order_82 rfl ?_
    refine G_getR (t := 106) dX11_order_83 fl_11_74 (by decide) sh_0 rr_0_8 ?_
    refine G_getI (z := (mem 106 9)) dX11_order_86 fl_11_366 (by decide) sh_106 rfl ?_
    refine G_i2l dX11_order_89 (w2 c1) ?_
    exact k1 c1
  · -- s0 = 0
    refine G_sipush (z := (-200)) dX11_order_77 rfl ?_
    exact G_iret dX11_order_80 rfl (Nat.zero_le _) (Nat.zero_le _) (Nat.le_refl _) ⟨rfl, k2 c1⟩
set_option maxRecDepth 20000 in
set_option maxHeartbeats 1000000 in
theorem sg_X11_order_93 {E : Nat × (Nat → Int32)} {d : Nat} {P : Option Value → Mem → Prop} {mem : Mem} {a1 : Int} (w1 : -2147483648 ≤ (mem 106 10) ∧ (mem 106 10) < 2147483648)
    (k1 : GM E (m_X11_order d) P 102 [.ref 0, vi a1] [vl (mem 106 10), .ref 0] mem) :
    GM E (m_X11_order d) P 93 [.ref 0, vi a1] [] mem := by
  refine G_aload_n dX11_order_93 rfl ?_
  refine G_aload_n dX11_order_94 rfl ?_
  refine G_getR (t := 106) dX11_order_95 fl_11_74 (by decide) sh_0 rr_0_8 ?_
  refine G_getI (z := (mem 106 10)) dX11_order_98 fl_11_369 (by decide) sh_106 rfl ?_
  refine G_i2l dX11_order_101 (w1) ?_
  exact k1
set_option maxRecDepth 20000 in
set_option maxHeartbeats 1000000 in
theorem sg_X11_order_105 {E : Nat × (Nat → Int32)} {d : Nat} {P : Option Value → Mem → Prop} {mem : Mem} {a1 : Int}
    (k1 : P (some (vi ((mem 106 8) - (mem 23 5)))) mem) :
    GM E (m_X11_order d) P 105 [.ref 0, vi a1] [] mem := by
  refine G_aload_n dX11_order_105 rfl ?_
  refine G_getR (t := 106) dX11_order_106 fl_11_74 (by decide) sh_0 rr_0_8 ?_
  refine G_getI (z := (mem 106 8)) dX11_order_109 fl_11_370 (by decide) sh_106 rfl ?_
  refine G_aload_n dX11_order_112 rfl ?_
  refine G_getR (t := 23) dX11_order_113 fl_11_40 (by decide) sh_0 rr_0_4 ?_
  refine G_getI (z := (mem 23 5)) dX11_order_116 fl_11_253 (by decide) sh_23 rfl ?_
  refine G_isub dX11_order_119 ?_
  exact G_iret dX11_order_120 rfl (Nat.zero_le _) (Nat.zero_le _) (Nat.le_refl _) ⟨rfl, k1⟩
abbrev m_X11_pause (d : Nat) : Mu := (cX11_pause, 2, RX11, (some .int), ⟨d, 0, 0, 40 * d⟩, "pause")
set_option maxRecDepth 20000 in
set_option maxHeartbeats 1000000 in
theorem sg_X11_pause_0 {E : Nat × (Nat → Int32)} {d : Nat} {P : Option Value → Mem → Prop} {mem : Mem} {a1 : Int}
    (k1 : GM E (m_X11_pause d) P 8 [.ref 0, vi a1] [.ref 23, .ref 27] mem) :
    GM E (m_X11_pause d) P 0 [.ref 0, vi a1] [] mem := by
  refine G_aload_n dX11_pause_0 rfl ?_
  refine G_getR (t := 27) dX11_pause_1 fl_11_47 (by decide) sh_0 rr_0_5 ?_
  refine G_aload_n dX11_pause_4 rfl ?_
  refine G_getR (t := 23) dX11_pause_5 fl_11_40 (by decide) sh_0 rr_0_4 ?_
  exact k1
set_option maxRecDepth 20000 in
set_option maxHeartbeats 1000000 in
theorem sg_X11_pause_11 {E : Nat × (Nat → Int32)} {d : Nat} {P : Option Value → Mem → Prop} {mem : Mem} {a1 : Int}
    (k1 : GM E (m_X11_pause d) P 14 [.ref 0, vi a1] [vi a1, .ref 0, .ref 0] mem) :
    GM E (m_X11_pause d) P 11 [.ref 0, vi a1] [] mem := by
  refine G_aload_n dX11_pause_11 rfl ?_
  refine G_aload_n dX11_pause_12 rfl ?_
  refine G_iload_n dX11_pause_13 rfl ?_
  exact k1
set_option maxRecDepth 20000 in
set_option maxHeartbeats 1000000 in
theorem sg_X11_pause_17 {E : Nat × (Nat → Int32)} {d : Nat} {P : Option Value → Mem → Prop} {mem : Mem} {a1 : Int} {s0 : Int}
    (k1 : GM E (m_X11_pause d) P 17 [.ref 0, vi a1] [vi s0, .ref 0] mem) :
    GM E (m_X11_pause d) P 17 [.ref 0, vi a1] [vi s0, .ref 0] mem := by
  exact k1
set_option maxRecDepth 20000 in
set_option maxHeartbeats 1000000 in
theorem sg_X11_pause_20 {E : Nat × (Nat → Int32)} {d : Nat} {P : Option Value → Mem → Prop} {mem : Mem} {a1 : Int} {s0 : Int}
    (k1 : P (some (vi s0)) mem) :
    GM E (m_X11_pause d) P 20 [.ref 0, vi a1] [vi s0] mem := by
  exact G_iret dX11_pause_20 rfl (Nat.zero_le _) (Nat.zero_le _) (Nat.le_refl _) ⟨rfl, k1⟩
abbrev m_X11_power (d : Nat) : Mu := (cX11_power, 5, RX11, (some .long), ⟨d, 0, 0, 40 * d⟩, "power")
set_option maxRecDepth 20000 in
set_option maxHeartbeats 1000000 in
theorem sg_X11_power_0 {E : Nat × (Nat → Int32)} {d : Nat} {P : Option Value → Mem → Prop} {mem : Mem} {a0 : Int} {a1 : Int}
    (k1 : GM E (m_X11_power d) P 5 [vi a0, vi a1, vl 1, un, vi 0] [] mem) :
    GM E (m_X11_power d) P 0 [vi a0, vi a1, un, un, un] [] mem := by
  refine G_lconst (z := 1) dX11_power_0 rfl ?_
  refine G_lstore_n dX11_power_1 rfl (by decide : 2 + 1 < 5) rfl ?_
  refine G_iconst (z := 0) dX11_power_2 rfl ?_
  refine G_istore dX11_power_3 (by decide : 4 < 5) rfl ?_
  exact k1
set_option maxRecDepth 20000 in
set_option maxHeartbeats 1000000 in
theorem sg_X11_power_5 {E : Nat × (Nat → Int32)} {d : Nat} {P : Option Value → Mem → Prop} {mem : Mem} {a0 : Int} {a1 : Int} {a2 : Int} {a4 : Int} (w1 : -2147483648 ≤ a4 ∧ a4 < 2147483648) (w2 : -2147483648 ≤ a1 ∧ a1 < 2147483648) (w3 : -2147483648 ≤ a0 ∧ a0 < 2147483648)
    (k1 : a1 ≤ a4 → P (some (vl a2)) mem)
    (k2 : ¬ a1 ≤ a4 → GM E (m_X11_power d) P 5 [vi a0, vi a1, vl (a2 * a0), un, vi (a4 + 1)] [] mem) :
    GM E (m_X11_power d) P 5 [vi a0, vi a1, vl a2, un, vi a4] [] mem := by
  refine G_iload dX11_power_5 rfl ?_
  refine G_iload_n dX11_power_7 rfl ?_
  refine G_icmp_ge (tgt := 22) dX11_power_8 (by decide) (w1) (w2) (fun c1 => ?_) (fun c1 => ?_)
  · -- a1 ≤ a4
    refine G_lload_n dX11_power_22 rfl ?_
    exact G_lret dX11_power_23 rfl (Nat.zero_le _) (Nat.zero_le _) (Nat.le_refl _) ⟨rfl, k1 c1⟩
  · -- ¬ a1 ≤ a4
    refine G_lload_n dX11_power_11 rfl ?_
    refine G_iload_n dX11_power_12 rfl ?_
    refine G_i2l dX11_power_13 (w3) ?_
    refine G_lmul dX11_power_14 ?_
    refine G_lstore_n dX11_power_15 rfl (by decide : 2 + 1 < 5) rfl ?_
    refine G_iinc (z := (a4 + 1)) dX11_power_16 rfl rfl (by decide : 4 < 5) rfl ?_
    refine G_goto (tgt := 5) dX11_power_19 (by decide) ?_
    exact k2 c1
abbrev m_X11_quickest (d : Nat) : Mu := (cX11_quickest, 4, RX11, (some .int), ⟨d, 0, 0, 40 * d⟩, "quickest")
set_option maxRecDepth 20000 in
set_option maxHeartbeats 1000000 in
theorem sg_X11_quickest_0 {E : Nat × (Nat → Int32)} {d : Nat} {P : Option Value → Mem → Prop} {mem : Mem} {o1 : Nat} {a2 : Int} {a3 : Int} (ho1 : o1 ∈ streetL)
    (k1 : GM E (m_X11_quickest d) P 6 [.ref 0, .ref o1, vi a2, vi a3] [vi a3, vi a2, .ref 100] mem) :
    GM E (m_X11_quickest d) P 0 [.ref 0, .ref o1, vi a2, vi a3] [] mem := by
  refine G_aload_n dX11_quickest_0 rfl ?_
  refine G_getR (t := 100) dX11_quickest_1 fl_11_65 (by decide) sh_0 rr_0_7 ?_
  refine G_iload_n dX11_quickest_4 rfl ?_
  refine G_iload_n dX11_quickest_5 rfl ?_
  exact k1
set_option maxRecDepth 20000 in
set_option maxHeartbeats 1000000 in
theorem sg_X11_quickest_9 {E : Nat × (Nat → Int32)} {d : Nat} {P : Option Value → Mem → Prop} {mem : Mem} {o1 : Nat} {a2 : Int} {a3 : Int} (ho1 : o1 ∈ streetL)
    (k1 : GM E (m_X11_quickest d) P 22 [.ref 0, .ref o1, vi a2, vi a3] [vi (mem o1 0), .ref 23, .ref o1, .ref 100] mem) :
    GM E (m_X11_quickest d) P 9 [.ref 0, .ref o1, vi a2, vi a3] [] mem := by
  refine G_aload_n dX11_quickest_9 rfl ?_
  refine G_getR (t := 100) dX11_quickest_10 fl_11_65 (by decide) sh_0 rr_0_7 ?_
  refine G_aload_n dX11_quickest_13 rfl ?_
  refine G_aload_n dX11_quickest_14 rfl ?_
  refine G_getR (t := 23) dX11_quickest_15 fl_11_40 (by decide) sh_0 rr_0_4 ?_
  refine G_aload_n dX11_quickest_18 rfl ?_
  refine G_getI (z := (mem o1 0)) dX11_quickest_19 fl_11_347 (ltStreet0 ho1) (shStreet0 ho1) rfl ?_
  exact k1
set_option maxRecDepth 20000 in
set_option maxHeartbeats 1000000 in
theorem sg_X11_quickest_25 {E : Nat × (Nat → Int32)} {d : Nat} {P : Option Value → Mem → Prop} {mem : Mem} {o1 : Nat} {a2 : Int} {a3 : Int} {s0 : Int} (ho1 : o1 ∈ streetL)
    (k1 : GM E (m_X11_quickest d) P 25 [.ref 0, .ref o1, vi a2, vi a3] [vi s0, .ref o1, .ref 100] mem) :
    GM E (m_X11_quickest d) P 25 [.ref 0, .ref o1, vi a2, vi a3] [vi s0, .ref o1, .ref 100] mem := by
  exact k1
set_option maxRecDepth 20000 in
set_option maxHeartbeats 1000000 in
theorem sg_X11_quickest_28 {E : Nat × (Nat → Int32)} {d : Nat} {P : Option Value → Mem → Prop} {mem : Mem} {o1 : Nat} {a2 : Int} {a3 : Int} {s0 : Int} (ho1 : o1 ∈ streetL)
    (k1 : GM E (m_X11_quickest d) P 40 [.ref 0, .ref o1, vi a2, vi a3] [vi (mem 100 13), .ref 100] mem) :
    GM E (m_X11_quickest d) P 28 [.ref 0, .ref o1, vi a2, vi a3] [vi s0] mem := by
  refine G_pop dX11_quickest_28 rfl ?_
  refine G_aload_n dX11_quickest_29 rfl ?_
  refine G_getR (t := 100) dX11_quickest_30 fl_11_65 (by decide) sh_0 rr_0_7 ?_
  refine G_aload_n dX11_quickest_33 rfl ?_
  refine G_getR (t := 100) dX11_quickest_34 fl_11_65 (by decide) sh_0 rr_0_7 ?_
  refine G_getI (z := (mem 100 13)) dX11_quickest_37 fl_11_334 (by decide) sh_100 rfl ?_
  exact k1
set_option maxRecDepth 20000 in
set_option maxHeartbeats 1000000 in
theorem sg_X11_quickest_43 {E : Nat × (Nat → Int32)} {d : Nat} {P : Option Value → Mem → Prop} {mem : Mem} {o1 : Nat} {a2 : Int} {a3 : Int} {s0 : Int} (ho1 : o1 ∈ streetL)
    (k1 : P (some (vi s0)) mem) :
    GM E (m_X11_quickest d) P 43 [.ref 0, .ref o1, vi a2, vi a3] [vi s0] mem := by
  exact G_iret dX11_quickest_43 rfl (Nat.zero_le _) (Nat.zero_le _) (Nat.le_refl _) ⟨rfl, k1⟩
abbrev m_X11_readAct (d : Nat) : Mu := (cX11_readAct, 3, RX11, (some .int), ⟨d, 0, 0, 40 * d⟩, "readAct")
set_option maxRecDepth 20000 in
set_option maxHeartbeats 1000000 in
theorem sg_X11_readAct_0 {E : Nat × (Nat → Int32)} {d : Nat} {P : Option Value → Mem → Prop} {mem : Mem}
    (k1 : GM E (m_X11_readAct d) P 6 [.ref 0, un, un] [vi 116, .ref 1] mem) :
    GM E (m_X11_readAct d) P 0 [.ref 0, un, un] [] mem := by
  refine G_aload_n dX11_readAct_0 rfl ?_
  refine G_getR (t := 1) dX11_readAct_1 fl_11_12 (by decide) sh_0 rr_0_0 ?_
  refine G_bipush (z := 116) dX11_readAct_4 rfl ?_
  exact k1
set_option maxRecDepth 20000 in
set_option maxHeartbeats 1000000 in
theorem sg_X11_readAct_9 {E : Nat × (Nat → Int32)} {d : Nat} {P : Option Value → Mem → Prop} {mem : Mem} {s0 : Int} (w1 : -2147483648 ≤ s0 ∧ s0 < 2147483648)
    (k1 : s0 = 0 → GM E (m_X11_readAct d) P 22 [.ref 0, un, un] [vi 103, .ref 1] mem)
    (k2 : ¬ s0 = 0 → P (some (vi 20000)) mem) :
    GM E (m_X11_readAct d) P 9 [.ref 0, un, un] [vi s0] mem := by
  refine G_if_eq (tgt := 16) dX11_readAct_9 (by decide) (w1) (fun c1 => ?_) (fun c1 => ?_)
  · -- s0 = 0
    refine G_aload_n dX11_readAct_16 rfl ?_
    refine G_getR (t := 1) dX11_readAct_17 fl_11_12 (by decide) sh_0 rr_0_0 ?_
    refine G_bipush (z := 103) dX11_readAct_20 rfl ?_
    exact k1 c1
  · -- ¬ s0 = 0
    refine G_sipush (z := 20000) dX11_readAct_12 rfl ?_
    exact G_iret dX11_readAct_15 rfl (Nat.zero_le _) (Nat.zero_le _) (Nat.le_refl _) ⟨rfl, k2 c1⟩
set_option maxRecDepth 20000 in
set_option maxHeartbeats 1000000 in
theorem sg_X11_readAct_25 {E : Nat × (Nat → Int32)} {d : Nat} {P : Option Value → Mem → Prop} {mem : Mem} {s0 : Int} (w1 : -2147483648 ≤ s0 ∧ s0 < 2147483648)
    (k1 : s0 = 0 → GM E (m_X11_readAct d) P 56 [.ref 0, un, un] [vi 112, .ref 1] mem)
    (k2 : ¬ s0 = 0 → GM E (m_X11_readAct d) P 34 [.ref 0, un, un] [vi 10, .ref 1] mem) :
    GM E (m_X11_readAct d) P 25 [.ref 0, un, un] [vi s0] mem := by
  refine G_if_eq (tgt := 50) dX11_readAct_25 (by decide) (w1) (fun c1 => ?_) (fun c1 => ?_)
  · -- s0 = 0
    refine G_aload_n dX11_readAct_50 rfl ?_
    refine G_getR (t := 1) dX11_readAct_51 fl_11_12 (by decide) sh_0 rr_0_0 ?_
    refine G_bipush (z := 112) dX11_readAct_54 rfl ?_
    exact k1 c1
  · -- ¬ s0 = 0
    refine G_aload_n dX11_readAct_28 rfl ?_
    refine G_getR (t := 1) dX11_readAct_29 fl_11_12 (by decide) sh_0 rr_0_0 ?_
    refine G_bipush (z := 10) dX11_readAct_32 rfl ?_
    exact k2 c1
set_option maxRecDepth 20000 in
set_option maxHeartbeats 1000000 in
theorem sg_X11_readAct_37 {E : Nat × (Nat → Int32)} {d : Nat} {P : Option Value → Mem → Prop} {mem : Mem} {s0 : Int} (w1 : -2147483648 ≤ s0 ∧ s0 < 2147483648)
    (k1 : 0 ≤ s0 → P (some (vi (0 + s0))) mem)
    (k2 : ¬ 0 ≤ s0 → P (some (vi (-1))) mem) :
    GM E (m_X11_readAct d) P 37 [.ref 0, un, un] [vi s0] mem := by
  refine G_istore_n dX11_readAct_37 rfl (by decide : 1 < 3) rfl ?_
  refine G_iload_n dX11_readAct_38 rfl ?_
  refine G_if_ge (tgt := 46) dX11_readAct_39 (by decide) (w1) (fun c1 => ?_) (fun c1 => ?_)
  · -- 0 ≤ s0
    refine G_iconst (z := 0) dX11_readAct_46 rfl ?_
    refine G_iload_n dX11_readAct_47 rfl ?_
    refine G_iadd dX11_readAct_48 ?_
    exact G_iret dX11_readAct_49 rfl (Nat.zero_le _) (Nat.zero_le _) (Nat.le_refl _) ⟨rfl, k1 c1⟩
  · -- ¬ 0 ≤ s0
    refine G_iconst (z := (-1)) dX11_readAct_42 rfl ?_
    refine G_goto (tgt := 49) dX11_readAct_43 (by decide) ?_
    exact G_iret dX11_readAct_49 rfl (Nat.zero_le _) (Nat.zero_le _) (Nat.le_refl _) ⟨rfl, k2 c1⟩
set_option maxRecDepth 20000 in
set_option maxHeartbeats 1000000 in
theorem sg_X11_readAct_59 {E : Nat × (Nat → Int32)} {d : Nat} {P : Option Value → Mem → Prop} {mem : Mem} {s0 : Int} (w1 : -2147483648 ≤ s0 ∧ s0 < 2147483648)
    (k1 : s0 = 0 → GM E (m_X11_readAct d) P 91 [.ref 0, un, un] [vi 101, .ref 1] mem)
    (k2 : ¬ s0 = 0 → GM E (m_X11_readAct d) P 67 [.ref 0, un, un] [vi 4, .ref 1] mem) :
    GM E (m_X11_readAct d) P 59 [.ref 0, un, un] [vi s0] mem := by
  refine G_if_eq (tgt := 85) dX11_readAct_59 (by decide) (w1) (fun c1 => ?_) (fun c1 => ?_)
  · -- s0 = 0
    refine G_aload_n dX11_readAct_85 rfl ?_
    refine G_getR (t := 1) dX11_readAct_86 fl_11_12 (by decide) sh_0 rr_0_0 ?_
    refine G_bipush (z := 101) dX11_readAct_89 rfl ?_
    exact k1 c1
  · -- ¬ s0 = 0
    refine G_aload_n dX11_readAct_62 rfl ?_
    refine G_getR (t := 1) dX11_readAct_63 fl_11_12 (by decide) sh_0 rr_0_0 ?_
    refine G_iconst (z := 4) dX11_readAct_66 rfl ?_
    exact k2 c1
set_option maxRecDepth 20000 in
set_option maxHeartbeats 1000000 in
theorem sg_X11_readAct_70 {E : Nat × (Nat → Int32)} {d : Nat} {P : Option Value → Mem → Prop} {mem : Mem} {s0 : Int} (w1 : -2147483648 ≤ s0 ∧ s0 < 2147483648)
    (k1 : 0 ≤ s0 → P (some (vi (30000 + s0))) mem)
    (k2 : ¬ 0 ≤ s0 → P (some (vi (-1))) mem) :
    GM E (m_X11_readAct d) P 70 [.ref 0, un, un] [vi s0] mem := by
  refine G_istore_n dX11_readAct_70 rfl (by decide : 1 < 3) rfl ?_
  refine G_iload_n dX11_readAct_71 rfl ?_
  refine G_if_ge (tgt := 79) dX11_readAct_72 (by decide) (w1) (fun c1 => ?_) (fun c1 => ?_)
  · -- 0 ≤ s0
    refine G_sipush (z := 30000) dX11_readAct_79 rfl ?_
    refine G_iload_n dX11_readAct_82 rfl ?_
    refine G_iadd dX11_readAct_83 ?_
    exact G_iret dX11_readAct_84 rfl (Nat.zero_le _) (Nat.zero_le _) (Nat.le_refl _) ⟨rfl, k1 c1⟩
  · -- ¬ 0 ≤ s0
    refine G_iconst (z := (-1)) dX11_readAct_75 rfl ?_
    refine G_goto (tgt := 84) dX11_readAct_76 (by decide) ?_
    exact G_iret dX11_readAct_84 rfl (Nat.zero_le _) (Nat.zero_le _) (Nat.le_refl _) ⟨rfl, k2 c1⟩
set_option maxRecDepth 20000 in
set_option maxHeartbeats 1000000 in
theorem sg_X11_readAct_94 {E : Nat × (Nat → Int32)} {d : Nat} {P : Option Value → Mem → Prop} {mem : Mem} {s0 : Int} (w1 : -2147483648 ≤ s0 ∧ s0 < 2147483648)
    (k1 : s0 ≠ 0 → GM E (m_X11_readAct d) P 105 [.ref 0, un, un] [vi 10, .ref 1] mem)
    (k2 : s0 = 0 → P (some (vi (-1))) mem) :
    GM E (m_X11_readAct d) P 94 [.ref 0, un, un] [vi s0] mem := by
  refine G_if_ne (tgt := 99) dX11_readAct_94 (by decide) (w1) (fun c1 => ?_) (fun c1 => ?_)
  · -- s0 ≠ 0
    refine G_aload_n dX11_readAct_99 rfl ?_
    refine G_getR (t := 1) dX11_readAct_100 fl_11_12 (by decide) sh_0 rr_0_0 ?_
    refine G_bipush (z := 10) dX11_readAct_103 rfl ?_
    exact k1 c1
  · -- s0 = 0
    refine G_iconst (z := (-1)) dX11_readAct_97 rfl ?_
    exact G_iret dX11_readAct_98 rfl (Nat.zero_le _) (Nat.zero_le _) (Nat.le_refl _) ⟨rfl, k2 c1⟩
set_option maxRecDepth 20000 in
set_option maxHeartbeats 1000000 in
theorem sg_X11_readAct_108 {E : Nat × (Nat → Int32)} {d : Nat} {P : Option Value → Mem → Prop} {mem : Mem} {s0 : Int} (w1 : -2147483648 ≤ s0 ∧ s0 < 2147483648)
    (k1 : 0 ≤ s0 → GM E (m_X11_readAct d) P 122 [.ref 0, vi s0, un] [vi 3, .ref 1] mem)
    (k2 : ¬ 0 ≤ s0 → P (some (vi (-1))) mem) :
    GM E (m_X11_readAct d) P 108 [.ref 0, un, un] [vi s0] mem := by
  refine G_istore_n dX11_readAct_108 rfl (by decide : 1 < 3) rfl ?_
  refine G_iload_n dX11_readAct_109 rfl ?_
  refine G_if_ge (tgt := 117) dX11_readAct_110 (by decide) (w1) (fun c1 => ?_) (fun c1 => ?_)
  · -- 0 ≤ s0
    refine G_aload_n dX11_readAct_117 rfl ?_
    refine G_getR (t := 1) dX11_readAct_118 fl_11_12 (by decide) sh_0 rr_0_0 ?_
    refine G_iconst (z := 3) dX11_readAct_121 rfl ?_
    exact k1 c1
  · -- ¬ 0 ≤ s0
    refine G_iconst (z := (-1)) dX11_readAct_113 rfl ?_
    refine G_goto (tgt := 125) dX11_readAct_114 (by decide) ?_
    refine G_istore_n dX11_readAct_125 rfl (by decide : 2 < 3) rfl ?_
    refine G_iload_n dX11_readAct_126 rfl ?_
    refine G_if_ge (tgt := 134) dX11_readAct_127 (by decide) (by decide) (fun h => absurd h (by decide)) (fun _ => ?_)
    refine G_iconst (z := (-1)) dX11_readAct_130 rfl ?_
    refine G_goto (tgt := 144) dX11_readAct_131 (by decide) ?_
    exact G_iret dX11_readAct_144 rfl (Nat.zero_le _) (Nat.zero_le _) (Nat.le_refl _) ⟨rfl, k2 c1⟩
set_option maxRecDepth 20000 in
set_option maxHeartbeats 1000000 in
theorem sg_X11_readAct_125 {E : Nat × (Nat → Int32)} {d : Nat} {P : Option Value → Mem → Prop} {mem : Mem} {a1 : Int} {s0 : Int} (w1 : -2147483648 ≤ s0 ∧ s0 < 2147483648)
    (k1 : 0 ≤ s0 → P (some (vi ((10000 + (a1 * 10)) + s0))) mem)
    (k2 : ¬ 0 ≤ s0 → P (some (vi (-1))) mem) :
    GM E (m_X11_readAct d) P 125 [.ref 0, vi a1, un] [vi s0] mem := by
  refine G_istore_n dX11_readAct_125 rfl (by decide : 2 < 3) rfl ?_
  refine G_iload_n dX11_readAct_126 rfl ?_
  refine G_if_ge (tgt := 134) dX11_readAct_127 (by decide) (w1) (fun c1 => ?_) (fun c1 => ?_)
  · -- 0 ≤ s0
    refine G_sipush (z := 10000) dX11_readAct_134 rfl ?_
    refine G_iload_n dX11_readAct_137 rfl ?_
    refine G_bipush (z := 10) dX11_readAct_138 rfl ?_
    refine G_imul dX11_readAct_140 ?_
    refine G_iadd dX11_readAct_141 ?_
    refine G_iload_n dX11_readAct_142 rfl ?_
    refine G_iadd dX11_readAct_143 ?_
    exact G_iret dX11_readAct_144 rfl (Nat.zero_le _) (Nat.zero_le _) (Nat.le_refl _) ⟨rfl, k1 c1⟩
  · -- ¬ 0 ≤ s0
    refine G_iconst (z := (-1)) dX11_readAct_130 rfl ?_
    refine G_goto (tgt := 144) dX11_readAct_131 (by decide) ?_
    exact G_iret dX11_readAct_144 rfl (Nat.zero_le _) (Nat.zero_le _) (Nat.le_refl _) ⟨rfl, k2 c1⟩
abbrev m_X11_readActs (d : Nat) : Mu := (cX11_readActs, 3, RX11, (some .int), ⟨d, 0, 0, 40 * d⟩, "readActs")
set_option maxRecDepth 20000 in
set_option maxHeartbeats 1000000 in
theorem sg_X11_readActs_0 {E : Nat × (Nat → Int32)} {d : Nat} {P : Option Value → Mem → Prop} {mem : Mem}
    (k1 : GM E (m_X11_readActs d) P 6 [.ref 0, un, un] [vi 60, .ref 1] mem) :
    GM E (m_X11_readActs d) P 0 [.ref 0, un, un] [] mem := by
  refine G_aload_n dX11_readActs_0 rfl ?_
  refine G_getR (t := 1) dX11_readActs_1 fl_11_12 (by decide) sh_0 rr_0_0 ?_
  refine G_bipush (z := 60) dX11_readActs_4 rfl ?_
  exact k1
set_option maxRecDepth 20000 in
set_option maxHeartbeats 1000000 in
theorem sg_X11_readActs_9 {E : Nat × (Nat → Int32)} {d : Nat} {P : Option Value → Mem → Prop} {mem : Mem}
    (k1 : GM E (m_X11_readActs d) P 13 [.ref 0, un, un] [.ref 1] mem) :
    GM E (m_X11_readActs d) P 9 [.ref 0, un, un] [] mem := by
  refine G_aload_n dX11_readActs_9 rfl ?_
  refine G_getR (t := 1) dX11_readActs_10 fl_11_12 (by decide) sh_0 rr_0_0 ?_
  exact k1
set_option maxRecDepth 20000 in
set_option maxHeartbeats 1000000 in
theorem sg_X11_readActs_16 {E : Nat × (Nat → Int32)} {d : Nat} {P : Option Value → Mem → Prop} {mem : Mem} {s0 : Int} (w1 : -2147483648 ≤ s0 ∧ s0 < 2147483648)
    (k1 : s0 = 0 → GM E (m_X11_readActs d) P 23 [.ref 0, vi 0, un] [] mem)
    (k2 : ¬ s0 = 0 → P (some (vi 0)) mem) :
    GM E (m_X11_readActs d) P 16 [.ref 0, un, un] [vi s0] mem := by
  refine G_if_eq (tgt := 21) dX11_readActs_16 (by decide) (w1) (fun c1 => ?_) (fun c1 => ?_)
  · -- s0 = 0
    refine G_iconst (z := 0) dX11_readActs_21 rfl ?_
    refine G_istore_n dX11_readActs_22 rfl (by decide : 1 < 3) rfl ?_
    exact k1 c1
  · -- ¬ s0 = 0
    refine G_iconst (z := 0) dX11_readActs_19 rfl ?_
    exact G_iret dX11_readActs_20 rfl (Nat.zero_le _) (Nat.zero_le _) (Nat.le_refl _) ⟨rfl, k2 c1⟩
set_option maxRecDepth 20000 in
set_option maxHeartbeats 1000000 in
theorem sg_X11_readActs_23 {E : Nat × (Nat → Int32)} {d : Nat} {P : Option Value → Mem → Prop} {mem : Mem} {a1 : Int} (w1 : -2147483648 ≤ a1 ∧ a1 < 2147483648)
    (k1 : 30 ≤ a1 → GM E (m_X11_readActs d) P 100 [.ref 0, vi a1, un] [.ref 1] mem)
    (k2 : ¬ 30 ≤ a1 → GM E (m_X11_readActs d) P 33 [.ref 0, vi a1, un] [.ref 0] mem) :
    GM E (m_X11_readActs d) P 23 [.ref 0, vi a1, un] [] mem := by
  refine G_iload_n dX11_readActs_23 rfl ?_
  refine G_aload_n dX11_readActs_24 rfl ?_
  refine G_getR (t := 167) dX11_readActs_25 fl_11_95 (by decide) sh_0 rr_0_12 ?_
  refine G_alen (z := 30) dX11_readActs_28 (by decide) sh_167 (by decide) rfl ?_
  refine G_icmp_ge (tgt := 96) dX11_readActs_29 (by decide) (w1) (by decide) (fun c1 => ?_) (fun c1 => ?_)
  · -- 30 ≤ a1
    refine G_aload_n dX11_readActs_96 rfl ?_
    refine G_getR (t := 1) dX11_readActs_97 fl_11_12 (by decide) sh_0 rr_0_0 ?_
    exact k1 c1
  · -- ¬ 30 ≤ a1
    refine G_aload_n dX11_readActs_32 rfl ?_
    exact k2 c1
set_option maxRecDepth 20000 in
set_option maxHeartbeats 1000000 in
theorem sg_X11_readActs_36 {E : Nat × (Nat → Int32)} {d : Nat} {P : Option Value → Mem → Prop} {mem : Mem} {a1 : Int} {s0 : Int} (w1 : -2147483648 ≤ s0 ∧ s0 < 2147483648) (q2 : 0 ≤ s0 → 0 ≤ a1 ∧ a1 < 30)
    (k1 : 0 ≤ s0 → GM E (m_X11_readActs d) P 60 [.ref 0, vi a1, vi s0] [.ref 1] (up2 mem 167 a1 s0))
    (k2 : ¬ 0 ≤ s0 → GM E (m_X11_readActs d) P 45 [.ref 0, vi a1, vi s0] [.ref 1] mem) :
    GM E (m_X11_readActs d) P 36 [.ref 0, vi a1, un] [vi s0] mem := by
  refine G_istore_n dX11_readActs_36 rfl (by decide : 2 < 3) rfl ?_
  refine G_iload_n dX11_readActs_37 rfl ?_
  refine G_if_ge (tgt := 49) dX11_readActs_38 (by decide) (w1) (fun c1 => ?_) (fun c1 => ?_)
  · -- 0 ≤ s0
    refine G_aload_n dX11_readActs_49 rfl ?_
    refine G_getR (t := 167) dX11_readActs_50 fl_11_95 (by decide) sh_0 rr_0_12 ?_
    refine G_iload_n dX11_readActs_53 rfl ?_
    refine G_iload_n dX11_readActs_54 rfl ?_
    refine G_iast (mem2 := (up2 mem 167 a1 s0)) dX11_readActs_55 (by decide) sh_167 (by decide) (q2 c1).1 (q2 c1).2 rfl ?_
    refine G_aload_n dX11_readActs_56 rfl ?_
    refine G_getR (t := 1) dX11_readActs_57 fl_11_12 (by decide) sh_0 rr_0_0 ?_
    exact k1 c1
  · -- ¬ 0 ≤ s0
    refine G_aload_n dX11_readActs_41 rfl ?_
    refine G_getR (t := 1) dX11_readActs_42 fl_11_12 (by decide) sh_0 rr_0_0 ?_
    exact k2 c1
set_option maxRecDepth 20000 in
set_option maxHeartbeats 1000000 in
theorem sg_X11_readActs_48 {E : Nat × (Nat → Int32)} {d : Nat} {P : Option Value → Mem → Prop} {mem : Mem} {a1 : Int} {a2 : Int} {s0 : Int}
    (k1 : P (some (vi s0)) mem) :
    GM E (m_X11_readActs d) P 48 [.ref 0, vi a1, vi a2] [vi s0] mem := by
  exact G_iret dX11_readActs_48 rfl (Nat.zero_le _) (Nat.zero_le _) (Nat.le_refl _) ⟨rfl, k1⟩
set_option maxRecDepth 20000 in
set_option maxHeartbeats 1000000 in
theorem sg_X11_readActs_63 {E : Nat × (Nat → Int32)} {d : Nat} {P : Option Value → Mem → Prop} {mem : Mem} {a1 : Int} {a2 : Int} {s0 : Int} (w1 : -2147483648 ≤ s0 ∧ s0 < 2147483648)
    (k1 : s0 = 0 → GM E (m_X11_readActs d) P 76 [.ref 0, vi a1, vi a2] [vi 59, .ref 1] mem)
    (k2 : ¬ s0 = 0 → P (some (vi (a1 + 1))) mem) :
    GM E (m_X11_readActs d) P 63 [.ref 0, vi a1, vi a2] [vi s0] mem := by
  refine G_if_eq (tgt := 70) dX11_readActs_63 (by decide) (w1) (fun c1 => ?_) (fun c1 => ?_)
  · -- s0 = 0
    refine G_aload_n dX11_readActs_70 rfl ?_
    refine G_getR (t := 1) dX11_readActs_71 fl_11_12 (by decide) sh_0 rr_0_0 ?_
    refine G_bipush (z := 59) dX11_readActs_74 rfl ?_
    exact k1 c1
  · -- ¬ s0 = 0
    refine G_iload_n dX11_readActs_66 rfl ?_
    refine G_iconst (z := 1) dX11_readActs_67 rfl ?_
    refine G_iadd dX11_readActs_68 ?_
    exact G_iret dX11_readActs_69 rfl (Nat.zero_le _) (Nat.zero_le _) (Nat.le_refl _) ⟨rfl, k2 c1⟩
set_option maxRecDepth 20000 in
set_option maxHeartbeats 1000000 in
theorem sg_X11_readActs_79 {E : Nat × (Nat → Int32)} {d : Nat} {P : Option Value → Mem → Prop} {mem : Mem} {a1 : Int} {a2 : Int} {s0 : Int} (w1 : -2147483648 ≤ s0 ∧ s0 < 2147483648)
    (k1 : s0 ≠ 0 → GM E (m_X11_readActs d) P 23 [.ref 0, vi (a1 + 1), vi a2] [] mem)
    (k2 : s0 = 0 → GM E (m_X11_readActs d) P 86 [.ref 0, vi a1, vi a2] [.ref 1] mem) :
    GM E (m_X11_readActs d) P 79 [.ref 0, vi a1, vi a2] [vi s0] mem := by
  refine G_if_ne (tgt := 90) dX11_readActs_79 (by decide) (w1) (fun c1 => ?_) (fun c1 => ?_)
  · -- s0 ≠ 0
    refine G_iinc (z := (a1 + 1)) dX11_readActs_90 rfl rfl (by decide : 1 < 3) rfl ?_
    refine G_goto (tgt := 23) dX11_readActs_93 (by decide) ?_
    exact k1 c1
  · -- s0 = 0
    refine G_aload_n dX11_readActs_82 rfl ?_
    refine G_getR (t := 1) dX11_readActs_83 fl_11_12 (by decide) sh_0 rr_0_0 ?_
    exact k2 c1
set_option maxRecDepth 20000 in
set_option maxHeartbeats 1000000 in
theorem sg_X11_readActs_89 {E : Nat × (Nat → Int32)} {d : Nat} {P : Option Value → Mem → Prop} {mem : Mem} {a1 : Int} {a2 : Int} {s0 : Int}
    (k1 : P (some (vi s0)) mem) :
    GM E (m_X11_readActs d) P 89 [.ref 0, vi a1, vi a2] [vi s0] mem := by
  exact G_iret dX11_readActs_89 rfl (Nat.zero_le _) (Nat.zero_le _) (Nat.le_refl _) ⟨rfl, k1⟩
set_option maxRecDepth 20000 in
set_option maxHeartbeats 1000000 in
theorem sg_X11_readActs_103 {E : Nat × (Nat → Int32)} {d : Nat} {P : Option Value → Mem → Prop} {mem : Mem} {a1 : Int} {s0 : Int}
    (k1 : P (some (vi s0)) mem) :
    GM E (m_X11_readActs d) P 103 [.ref 0, vi a1, un] [vi s0] mem := by
  exact G_iret dX11_readActs_103 rfl (Nat.zero_le _) (Nat.zero_le _) (Nat.le_refl _) ⟨rfl, k1⟩
abbrev m_X11_remember (d : Nat) : Mu := (cX11_remember, 2, RX11, (some .int), ⟨d, 0, 0, 40 * d⟩, "remember")
set_option maxRecDepth 20000 in
set_option maxHeartbeats 1000000 in
theorem sg_X11_remember_0 {E : Nat × (Nat → Int32)} {d : Nat} {P : Option Value → Mem → Prop} {mem : Mem} {a1 : Int} (w1 : -2147483648 ≤ a1 ∧ a1 < 2147483648)
    (k1 : a1 < 0 → P (some (vi a1)) mem)
    (k2 : ¬ a1 < 0 → GM E (m_X11_remember d) P 8 [.ref 0, vi a1] [.ref 27] mem) :
    GM E (m_X11_remember d) P 0 [.ref 0, vi a1] [] mem := by
  refine G_iload_n dX11_remember_0 rfl ?_
  refine G_if_lt (tgt := 11) dX11_remember_1 (by decide) (w1) (fun c1 => ?_) (fun c1 => ?_)
  · -- a1 < 0
    refine G_iload_n dX11_remember_11 rfl ?_
    exact G_iret dX11_remember_12 rfl (Nat.zero_le _) (Nat.zero_le _) (Nat.le_refl _) ⟨rfl, k1 c1⟩
  · -- ¬ a1 < 0
    refine G_aload_n dX11_remember_4 rfl ?_
    refine G_getR (t := 27) dX11_remember_5 fl_11_47 (by decide) sh_0 rr_0_5 ?_
    exact k2 c1
set_option maxRecDepth 20000 in
set_option maxHeartbeats 1000000 in
theorem sg_X11_remember_11 {E : Nat × (Nat → Int32)} {d : Nat} {P : Option Value → Mem → Prop} {mem : Mem} {a1 : Int}
    (k1 : P (some (vi a1)) mem) :
    GM E (m_X11_remember d) P 11 [.ref 0, vi a1] [] mem := by
  refine G_iload_n dX11_remember_11 rfl ?_
  exact G_iret dX11_remember_12 rfl (Nat.zero_le _) (Nat.zero_le _) (Nat.le_refl _) ⟨rfl, k1⟩
abbrev m_X11_right (d : Nat) : Mu := (cX11_right, 10, RX11, (some .int), ⟨d, 0, 0, 40 * d⟩, "right")
set_option maxRecDepth 20000 in
set_option maxHeartbeats 1000000 in
theorem sg_X11_right_0 {E : Nat × (Nat → Int32)} {d : Nat} {P : Option Value → Mem → Prop} {mem : Mem} {a1 : Int} {a2 : Int}
    (k1 : GM E (m_X11_right d) P 5 [.ref 0, vi a1, vi a2, un, un, un, un, un, un, un] [vi a1, .ref 9] mem) :
    GM E (m_X11_right d) P 0 [.ref 0, vi a1, vi a2, un, un, un, un, un, un, un] [] mem := by
  refine G_aload_n dX11_right_0 rfl ?_
  refine G_getR (t := 9) dX11_right_1 fl_11_33 (by decide) sh_0 rr_0_3 ?_
  refine G_iload_n dX11_right_4 rfl ?_
  exact k1
set_option maxRecDepth 20000 in
set_option maxHeartbeats 1000000 in
theorem sg_X11_right_8n {E : Nat × (Nat → Int32)} {d : Nat} {P : Option Value → Mem → Prop} {mem : Mem} {a1 : Int} {a2 : Int}
    (k1 : P (some (vi (-1))) mem) :
    GM E (m_X11_right d) P 8 [.ref 0, vi a1, vi a2, un, un, un, un, un, un, un] [.null] mem := by
  refine G_ifnullZ (tgt := 21) dX11_right_8 (by decide) ?_
  refine G_iconst (z := (-1)) dX11_right_21 rfl ?_
  exact G_iret dX11_right_22 rfl (Nat.zero_le _) (Nat.zero_le _) (Nat.le_refl _) ⟨rfl, k1⟩
set_option maxRecDepth 20000 in
set_option maxHeartbeats 1000000 in
theorem sg_X11_right_8r {E : Nat × (Nat → Int32)} {d : Nat} {P : Option Value → Mem → Prop} {mem : Mem} {a1 : Int} {a2 : Int} {os0 : Nat} (hos0 : os0 ∈ streetL) (w1 : -2147483648 ≤ a2 ∧ a2 < 2147483648)
    (k1 : a2 < 0 → P (some (vi (-1))) mem)
    (k2 : ¬ a2 < 0 → a2 ≤ 10 → GM E (m_X11_right d) P 28 [.ref 0, vi a1, vi a2, un, un, un, un, un, un, un] [vi a1, .ref 23] mem)
    (k3 : ¬ a2 < 0 → ¬ a2 ≤ 10 → P (some (vi (-1))) mem) :
    GM E (m_X11_right d) P 8 [.ref 0, vi a1, vi a2, un, un, un, un, un, un, un] [.ref os0] mem := by
  refine G_ifnull dX11_right_8 ?_
  refine G_iload_n dX11_right_11 rfl ?_
  refine G_if_lt (tgt := 21) dX11_right_12 (by decide) (w1) (fun c1 => ?_) (fun c1 => ?_)
  · -- a2 < 0
    refine G_iconst (z := (-1)) dX11_right_21 rfl ?_
    exact G_iret dX11_right_22 rfl (Nat.zero_le _) (Nat.zero_le _) (Nat.le_refl _) ⟨rfl, k1 c1⟩
  · -- ¬ a2 < 0
    refine G_iload_n dX11_right_15 rfl ?_
    refine G_bipush (z := 10) dX11_right_16 rfl ?_
    refine G_icmp_le (tgt := 23) dX11_right_18 (by decide) (w1) (by decide) (fun c2 => ?_) (fun c2 => ?_)
    · -- a2 ≤ 10
      refine G_aload_n dX11_right_23 rfl ?_
      refine G_getR (t := 23) dX11_right_24 fl_11_40 (by decide) sh_0 rr_0_4 ?_
      refine G_iload_n dX11_right_27 rfl ?_
      exact k2 c1 c2
    · -- ¬ a2 ≤ 10
      refine G_iconst (z := (-1)) dX11_right_21 rfl ?_
      exact G_iret dX11_right_22 rfl (Nat.zero_le _) (Nat.zero_le _) (Nat.le_refl _) ⟨rfl, k3 c1 c2⟩
set_option maxRecDepth 20000 in
set_option maxHeartbeats 1000000 in
theorem sg_X11_right_31 {E : Nat × (Nat → Int32)} {d : Nat} {P : Option Value → Mem → Prop} {mem : Mem} {a1 : Int} {a2 : Int} {s0 : Int}
    (k1 : GM E (m_X11_right d) P 31 [.ref 0, vi a1, vi a2, un, un, un, un, un, un, un] [vi s0] mem) :
    GM E (m_X11_right d) P 31 [.ref 0, vi a1, vi a2, un, un, un, un, un, un, un] [vi s0] mem := by
  exact k1
set_option maxRecDepth 20000 in
set_option maxHeartbeats 1000000 in
theorem sg_X11_right_34 {E : Nat × (Nat → Int32)} {d : Nat} {P : Option Value → Mem → Prop} {mem : Mem} {a1 : Int} {a2 : Int} {s0 : Int}
    (k1 : GM E (m_X11_right d) P 37 [.ref 0, vi a1, vi a2, vi s0, un, un, un, un, un, un] [vi s0, vi a2] mem) :
    GM E (m_X11_right d) P 34 [.ref 0, vi a1, vi a2, un, un, un, un, un, un, un] [vi s0] mem := by
  refine G_istore_n dX11_right_34 rfl (by decide : 3 < 10) rfl ?_
  refine G_iload_n dX11_right_35 rfl ?_
  refine G_iload_n dX11_right_36 rfl ?_
  exact k1
set_option maxRecDepth 20000 in
set_option maxHeartbeats 1000000 in
theorem sg_X11_right_40 {E : Nat × (Nat → Int32)} {d : Nat} {P : Option Value → Mem → Prop} {mem : Mem} {a1 : Int} {a2 : Int} {a3 : Int} {s0 : Int}
    (k1 : GM E (m_X11_right d) P 45 [.ref 0, vi a1, vi a2, vi a3, vl s0, un, un, un, un, un] [vi a3, vi 10] mem) :
    GM E (m_X11_right d) P 40 [.ref 0, vi a1, vi a2, vi a3, un, un, un, un, un, un] [vl s0] mem := by
  refine G_lstore dX11_right_40 (by decide : 4 + 1 < 10) rfl ?_
  refine G_bipush (z := 10) dX11_right_42 rfl ?_
  refine G_iload_n dX11_right_44 rfl ?_
  exact k1
set_option maxRecDepth 20000 in
set_option maxHeartbeats 1000000 in
theorem sg_X11_right_48 {E : Nat × (Nat → Int32)} {d : Nat} {P : Option Value → Mem → Prop} {mem : Mem} {a1 : Int} {a2 : Int} {a3 : Int} {a4 : Int} {s0 : Int}
    (k1 : GM E (m_X11_right d) P 54 [.ref 0, vi a1, vi a2, vi a3, vl a4, un, vl s0, un, un, un] [vl a4, vl s0] mem) :
    GM E (m_X11_right d) P 48 [.ref 0, vi a1, vi a2, vi a3, vl a4, un, un, un, un, un] [vl s0] mem := by
  refine G_lstore dX11_right_48 (by decide : 6 + 1 < 10) rfl ?_
  refine G_lload dX11_right_50 rfl ?_
  refine G_lload dX11_right_52 rfl ?_
  exact k1
set_option maxRecDepth 20000 in
set_option maxHeartbeats 1000000 in
theorem sg_X11_right_57 {E : Nat × (Nat → Int32)} {d : Nat} {P : Option Value → Mem → Prop} {mem : Mem} {a1 : Int} {a2 : Int} {a3 : Int} {a4 : Int} {a6 : Int} {s0 : Int} (w1 : -9223372036854775808 ≤ s0 ∧ s0 < 9223372036854775808) (z2 : ¬ s0 ≤ 0 → s0 ≠ 0)
    (k1 : s0 ≤ 0 → GM E (m_X11_right d) P 83 [.ref 0, vi a1, vi a2, vi a3, vl a4, un, vl a6, un, vl s0, un] [vl a4, .ref 0] mem)
    (k2 : ¬ s0 ≤ 0 → GM E (m_X11_right d) P 83 [.ref 0, vi a1, vi a2, vi a3, vl (divL a4 s0), un, vl (divL a6 s0), un, vl s0, un] [vl (divL a4 s0), .ref 0] mem) :
    GM E (m_X11_right d) P 57 [.ref 0, vi a1, vi a2, vi a3, vl a4, un, vl a6, un, un, un] [vl s0] mem := by
  refine G_lstore dX11_right_57 (by decide : 8 + 1 < 10) rfl ?_
  refine G_lload dX11_right_59 rfl ?_
  refine G_lconst (z := 0) dX11_right_61 rfl ?_
  refine G_lcmp_le (tgt := 80) dX11_right_62 dX11_right_63 (by decide) (w1) (by decide) (fun c1 => ?_) (fun c1 => ?_)
  · -- s0 ≤ 0
    refine G_aload_n dX11_right_80 rfl ?_
    refine G_lload dX11_right_81 rfl ?_
    exact k1 c1
  · -- ¬ s0 ≤ 0
    refine G_lload dX11_right_66 rfl ?_
    refine G_lload dX11_right_68 rfl ?_
    refine G_ldiv (z := (divL a4 s0)) dX11_right_70 (iL_ne0 (w1) (z2 c1)) (iL_inv _) ?_
    refine G_lstore dX11_right_71 (by decide : 4 + 1 < 10) rfl ?_
    refine G_lload dX11_right_73 rfl ?_
    refine G_lload dX11_right_75 rfl ?_
    refine G_ldiv (z := (divL a6 s0)) dX11_right_77 (iL_ne0 (w1) (z2 c1)) (iL_inv _) ?_
    refine G_lstore dX11_right_78 (by decide : 6 + 1 < 10) rfl ?_
    refine G_aload_n dX11_right_80 rfl ?_
    refine G_lload dX11_right_81 rfl ?_
    exact k2 c1
set_option maxRecDepth 20000 in
set_option maxHeartbeats 1000000 in
theorem sg_X11_right_86 {E : Nat × (Nat → Int32)} {d : Nat} {P : Option Value → Mem → Prop} {mem : Mem} {a1 : Int} {a2 : Int} {a3 : Int} {a4 : Int} {a6 : Int} {a8 : Int}
    (k1 : GM E (m_X11_right d) P 89 [.ref 0, vi a1, vi a2, vi a3, vl a4, un, vl a6, un, vl a8, un] [vl a6, .ref 0] mem) :
    GM E (m_X11_right d) P 86 [.ref 0, vi a1, vi a2, vi a3, vl a4, un, vl a6, un, vl a8, un] [] mem := by
  refine G_aload_n dX11_right_86 rfl ?_
  refine G_lload dX11_right_87 rfl ?_
  exact k1
set_option maxRecDepth 20000 in
set_option maxHeartbeats 1000000 in
theorem sg_X11_right_92 {E : Nat × (Nat → Int32)} {d : Nat} {P : Option Value → Mem → Prop} {mem : Mem} {a1 : Int} {a2 : Int} {a3 : Int} {a4 : Int} {a6 : Int} {a8 : Int}
    (k1 : P (some (vi 0)) mem) :
    GM E (m_X11_right d) P 92 [.ref 0, vi a1, vi a2, vi a3, vl a4, un, vl a6, un, vl a8, un] [] mem := by
  refine G_iconst (z := 0) dX11_right_92 rfl ?_
  exact G_iret dX11_right_93 rfl (Nat.zero_le _) (Nat.zero_le _) (Nat.le_refl _) ⟨rfl, k1⟩
abbrev m_X11_round (d : Nat) : Mu := (cX11_round, 5, RX11, (some .int), ⟨d, 0, 0, 40 * d⟩, "round")
set_option maxRecDepth 20000 in
set_option maxHeartbeats 1000000 in
theorem sg_X11_round_0 {E : Nat × (Nat → Int32)} {d : Nat} {P : Option Value → Mem → Prop} {mem : Mem}
    (k1 : GM E (m_X11_round d) P 1 [.ref 0, un, un, un, un] [.ref 0] mem) :
    GM E (m_X11_round d) P 0 [.ref 0, un, un, un, un] [] mem := by
  refine G_aload_n dX11_round_0 rfl ?_
  exact k1
set_option maxRecDepth 20000 in
set_option maxHeartbeats 1000000 in
theorem sg_X11_round_4 {E : Nat × (Nat → Int32)} {d : Nat} {P : Option Value → Mem → Prop} {mem : Mem} {s0 : Int}
    (k1 : GM E (m_X11_round d) P 9 [.ref 0, vi s0, un, un, un] [.ref 1] mem) :
    GM E (m_X11_round d) P 4 [.ref 0, un, un, un, un] [vi s0] mem := by
  refine G_istore_n dX11_round_4 rfl (by decide : 1 < 5) rfl ?_
  refine G_aload_n dX11_round_5 rfl ?_
  refine G_getR (t := 1) dX11_round_6 fl_11_12 (by decide) sh_0 rr_0_0 ?_
  exact k1
set_option maxRecDepth 20000 in
set_option maxHeartbeats 1000000 in
theorem sg_X11_round_12 {E : Nat × (Nat → Int32)} {d : Nat} {P : Option Value → Mem → Prop} {mem : Mem} {a1 : Int} (w1 : -2147483648 ≤ a1 ∧ a1 < 2147483648)
    (k1 : 0 ≤ a1 → GM E (m_X11_round d) P 26 [.ref 0, vi a1, un, un, un] [.ref 23, .ref 27] mem)
    (k2 : ¬ 0 ≤ a1 → P (some (vi a1)) mem) :
    GM E (m_X11_round d) P 12 [.ref 0, vi a1, un, un, un] [] mem := by
  refine G_iload_n dX11_round_12 rfl ?_
  refine G_if_ge (tgt := 18) dX11_round_13 (by decide) (w1) (fun c1 => ?_) (fun c1 => ?_)
  · -- 0 ≤ a1
    refine G_aload_n dX11_round_18 rfl ?_
    refine G_getR (t := 27) dX11_round_19 fl_11_47 (by decide) sh_0 rr_0_5 ?_
    refine G_aload_n dX11_round_22 rfl ?_
    refine G_getR (t := 23) dX11_round_23 fl_11_40 (by decide) sh_0 rr_0_4 ?_
    exact k1 c1
  · -- ¬ 0 ≤ a1
    refine G_iload_n dX11_round_16 rfl ?_
    exact G_iret dX11_round_17 rfl (Nat.zero_le _) (Nat.zero_le _) (Nat.le_refl _) ⟨rfl, k2 c1⟩
set_option maxRecDepth 20000 in
set_option maxHeartbeats 1000000 in
theorem sg_X11_round_29 {E : Nat × (Nat → Int32)} {d : Nat} {P : Option Value → Mem → Prop} {mem : Mem} {a1 : Int}
    (k1 : GM E (m_X11_round d) P 42 [.ref 0, vi a1, vi (mem 23 5), un, un] [vi 2, .ref 23] mem) :
    GM E (m_X11_round d) P 29 [.ref 0, vi a1, un, un, un] [] mem := by
  refine G_aload_n dX11_round_29 rfl ?_
  refine G_getR (t := 23) dX11_round_30 fl_11_40 (by decide) sh_0 rr_0_4 ?_
  refine G_getI (z := (mem 23 5)) dX11_round_33 fl_11_253 (by decide) sh_23 rfl ?_
  refine G_istore_n dX11_round_36 rfl (by decide : 2 < 5) rfl ?_
  refine G_aload_n dX11_round_37 rfl ?_
  refine G_getR (t := 23) dX11_round_38 fl_11_40 (by decide) sh_0 rr_0_4 ?_
  refine G_iconst (z := 2) dX11_round_41 rfl ?_
  exact k1
set_option maxRecDepth 20000 in
set_option maxHeartbeats 1000000 in
theorem sg_X11_round_45 {E : Nat × (Nat → Int32)} {d : Nat} {P : Option Value → Mem → Prop} {mem : Mem} {a1 : Int} {a2 : Int} {s0 : Int}
    (k1 : GM E (m_X11_round d) P 49 [.ref 0, vi a1, vi a2, vi s0, vi 0] [] mem) :
    GM E (m_X11_round d) P 45 [.ref 0, vi a1, vi a2, un, un] [vi s0] mem := by
  refine G_istore_n dX11_round_45 rfl (by decide : 3 < 5) rfl ?_
  refine G_iconst (z := 0) dX11_round_46 rfl ?_
  refine G_istore dX11_round_47 (by decide : 4 < 5) rfl ?_
  exact k1
set_option maxRecDepth 20000 in
set_option maxHeartbeats 1000000 in
theorem sg_X11_round_49 {E : Nat × (Nat → Int32)} {d : Nat} {P : Option Value → Mem → Prop} {mem : Mem} {a1 : Int} {a2 : Int} {a3 : Int} {a4 : Int} (w1 : -2147483648 ≤ a4 ∧ a4 < 2147483648) (w2 : -2147483648 ≤ a1 ∧ a1 < 2147483648) (q3 : ¬ a1 ≤ a4 → 0 ≤ a4 ∧ a4 < 30)
    (k1 : a1 ≤ a4 → a4 ≤ 0 → a1 ≤ a4 → GM E (m_X11_round d) P 99 [.ref 0, vi a1, vi a2, vi a3, vi a4] [vl 0, .ref 0] mem)
    (k2 : a1 ≤ a4 → a4 ≤ 0 → ¬ a1 ≤ a4 → GM E (m_X11_round d) P 99 [.ref 0, vi a1, vi a2, vi a3, vi a4] [vl 1, .ref 0] mem)
    (k3 : a1 ≤ a4 → ¬ a4 ≤ 0 → GM E (m_X11_round d) P 84 [.ref 0, vi a1, vi a2, vi a3, vi a4] [.ref 27] mem)
    (k4 : ¬ a1 ≤ a4 → GM E (m_X11_round d) P 63 [.ref 0, vi a1, vi a2, vi a3, vi a4] [vi (mem 167 a4), .ref 0] mem) :
    GM E (m_X11_round d) P 49 [.ref 0, vi a1, vi a2, vi a3, vi a4] [] mem := by
  refine G_iload dX11_round_49 rfl ?_
  refine G_iload_n dX11_round_51 rfl ?_
  refine G_icmp_ge (tgt := 75) dX11_round_52 (by decide) (w1) (w2) (fun c1 => ?_) (fun c1 => ?_)
  · -- a1 ≤ a4
    refine G_iload dX11_round_75 rfl ?_
    refine G_if_le (tgt := 87) dX11_round_77 (by decide) (w1) (fun c2 => ?_) (fun c2 => ?_)
    · -- a4 ≤ 0
      refine G_aload_n dX11_round_87 rfl ?_
      refine G_iload dX11_round_88 rfl ?_
      refine G_iload_n dX11_round_90 rfl ?_
      refine G_icmp_ge (tgt := 98) dX11_round_91 (by decide) (w1) (w2) (fun c3 => ?_) (fun c3 => ?_)
      · -- a1 ≤ a4
        refine G_lconst (z := 0) dX11_round_98 rfl ?_
        exact k1 c1 c2 c3
      · -- ¬ a1 ≤ a4
        refine G_lconst (z := 1) dX11_round_94 rfl ?_
        refine G_goto (tgt := 99) dX11_round_95 (by decide) ?_
        exact k2 c1 c2 c3
    · -- ¬ a4 ≤ 0
      refine G_aload_n dX11_round_80 rfl ?_
      refine G_getR (t := 27) dX11_round_81 fl_11_47 (by decide) sh_0 rr_0_5 ?_
      exact k3 c1 c2
  · -- ¬ a1 ≤ a4
    refine G_aload_n dX11_round_55 rfl ?_
    refine G_aload_n dX11_round_56 rfl ?_
    refine G_getR (t := 167) dX11_round_57 fl_11_95 (by decide) sh_0 rr_0_12 ?_
    refine G_iload dX11_round_60 rfl ?_
    refine G_iald (z := (mem 167 a4)) dX11_round_62 (by decide) sh_167 (by decide) (q3 c1).1 (q3 c1).2 rfl ?_
    exact k4 c1
set_option maxRecDepth 20000 in
set_option maxHeartbeats 1000000 in
theorem sg_X11_round_66 {E : Nat × (Nat → Int32)} {d : Nat} {P : Option Value → Mem → Prop} {mem : Mem} {a1 : Int} {a2 : Int} {a3 : Int} {a4 : Int} {s0 : Int} (w1 : -2147483648 ≤ s0 ∧ s0 < 2147483648) (w2 : -2147483648 ≤ a4 ∧ a4 < 2147483648) (w3 : -2147483648 ≤ a1 ∧ a1 < 2147483648)
    (k1 : s0 < 0 → a4 ≤ 0 → a1 ≤ a4 → GM E (m_X11_round d) P 99 [.ref 0, vi a1, vi a2, vi a3, vi a4] [vl 0, .ref 0] mem)
    (k2 : s0 < 0 → a4 ≤ 0 → ¬ a1 ≤ a4 → GM E (m_X11_round d) P 99 [.ref 0, vi a1, vi a2, vi a3, vi a4] [vl 1, .ref 0] mem)
    (k3 : s0 < 0 → ¬ a4 ≤ 0 → GM E (m_X11_round d) P 84 [.ref 0, vi a1, vi a2, vi a3, vi a4] [.ref 27] mem)
    (k4 : ¬ s0 < 0 → GM E (m_X11_round d) P 49 [.ref 0, vi a1, vi a2, vi a3, vi (a4 + 1)] [] mem) :
    GM E (m_X11_round d) P 66 [.ref 0, vi a1, vi a2, vi a3, vi a4] [vi s0] mem := by
  refine G_if_lt (tgt := 75) dX11_round_66 (by decide) (w1) (fun c1 => ?_) (fun c1 => ?_)
  · -- s0 < 0
    refine G_iload dX11_round_75 rfl ?_
    refine G_if_le (tgt := 87) dX11_round_77 (by decide) (w2) (fun c2 => ?_) (fun c2 => ?_)
    · -- a4 ≤ 0
      refine G_aload_n dX11_round_87 rfl ?_
      refine G_iload dX11_round_88 rfl ?_
      refine G_iload_n dX11_round_90 rfl ?_
      refine G_icmp_ge (tgt := 98) dX11_round_91 (by decide) (w2) (w3) (fun c3 => ?_) (fun c3 => ?_)
      · -- a1 ≤ a4
        refine G_lconst (z := 0) dX11_round_98 rfl ?_
        exact k1 c1 c2 c3
      · -- ¬ a1 ≤ a4
        refine G_lconst (z := 1) dX11_round_94 rfl ?_
        refine G_goto (tgt := 99) dX11_round_95 (by decide) ?_
        exact k2 c1 c2 c3
    · -- ¬ a4 ≤ 0
      refine G_aload_n dX11_round_80 rfl ?_
      refine G_getR (t := 27) dX11_round_81 fl_11_47 (by decide) sh_0 rr_0_5 ?_
      exact k3 c1 c2
  · -- ¬ s0 < 0
    refine G_iinc (z := (a4 + 1)) dX11_round_69 rfl rfl (by decide : 4 < 5) rfl ?_
    refine G_goto (tgt := 49) dX11_round_72 (by decide) ?_
    exact k4 c1
set_option maxRecDepth 20000 in
set_option maxHeartbeats 1000000 in
theorem sg_X11_round_87 {E : Nat × (Nat → Int32)} {d : Nat} {P : Option Value → Mem → Prop} {mem : Mem} {a1 : Int} {a2 : Int} {a3 : Int} {a4 : Int} (w1 : -2147483648 ≤ a4 ∧ a4 < 2147483648) (w2 : -2147483648 ≤ a1 ∧ a1 < 2147483648)
    (k1 : a1 ≤ a4 → GM E (m_X11_round d) P 99 [.ref 0, vi a1, vi a2, vi a3, vi a4] [vl 0, .ref 0] mem)
    (k2 : ¬ a1 ≤ a4 → GM E (m_X11_round d) P 99 [.ref 0, vi a1, vi a2, vi a3, vi a4] [vl 1, .ref 0] mem) :
    GM E (m_X11_round d) P 87 [.ref 0, vi a1, vi a2, vi a3, vi a4] [] mem := by
  refine G_aload_n dX11_round_87 rfl ?_
  refine G_iload dX11_round_88 rfl ?_
  refine G_iload_n dX11_round_90 rfl ?_
  refine G_icmp_ge (tgt := 98) dX11_round_91 (by decide) (w1) (w2) (fun c1 => ?_) (fun c1 => ?_)
  · -- a1 ≤ a4
    refine G_lconst (z := 0) dX11_round_98 rfl ?_
    exact k1 c1
  · -- ¬ a1 ≤ a4
    refine G_lconst (z := 1) dX11_round_94 rfl ?_
    refine G_goto (tgt := 99) dX11_round_95 (by decide) ?_
    exact k2 c1
set_option maxRecDepth 20000 in
set_option maxHeartbeats 1000000 in
theorem sg_X11_round_102 {E : Nat × (Nat → Int32)} {d : Nat} {P : Option Value → Mem → Prop} {mem : Mem} {a1 : Int} {a2 : Int} {a3 : Int} {a4 : Int}
    (k1 : GM E (m_X11_round d) P 108 [.ref 0, vi a1, vi a2, vi a3, vi a4] [vi 2, .ref 23, .ref 0] mem) :
    GM E (m_X11_round d) P 102 [.ref 0, vi a1, vi a2, vi a3, vi a4] [] mem := by
  refine G_aload_n dX11_round_102 rfl ?_
  refine G_aload_n dX11_round_103 rfl ?_
  refine G_getR (t := 23) dX11_round_104 fl_11_40 (by decide) sh_0 rr_0_4 ?_
  refine G_iconst (z := 2) dX11_round_107 rfl ?_
  exact k1
set_option maxRecDepth 20000 in
set_option maxHeartbeats 1000000 in
theorem sg_X11_round_111 {E : Nat × (Nat → Int32)} {d : Nat} {P : Option Value → Mem → Prop} {mem : Mem} {a1 : Int} {a2 : Int} {a3 : Int} {a4 : Int} {s0 : Int} (w1 : -2147483648 ≤ (s0 - a3) ∧ (s0 - a3) < 2147483648)
    (k1 : GM E (m_X11_round d) P 114 [.ref 0, vi a1, vi a2, vi a3, vi a4] [vl (s0 - a3), .ref 0] mem) :
    GM E (m_X11_round d) P 111 [.ref 0, vi a1, vi a2, vi a3, vi a4] [vi s0, .ref 0] mem := by
  refine G_iload_n dX11_round_111 rfl ?_
  refine G_isub dX11_round_112 ?_
  refine G_i2l dX11_round_113 (w1) ?_
  exact k1
set_option maxRecDepth 20000 in
set_option maxHeartbeats 1000000 in
theorem sg_X11_round_117 {E : Nat × (Nat → Int32)} {d : Nat} {P : Option Value → Mem → Prop} {mem : Mem} {a1 : Int} {a2 : Int} {a3 : Int} {a4 : Int} (w1 : -2147483648 ≤ ((mem 23 5) - a2) ∧ ((mem 23 5) - a2) < 2147483648)
    (k1 : GM E (m_X11_round d) P 128 [.ref 0, vi a1, vi a2, vi a3, vi a4] [vl ((mem 23 5) - a2), .ref 0] mem) :
    GM E (m_X11_round d) P 117 [.ref 0, vi a1, vi a2, vi a3, vi a4] [] mem := by
  refine G_aload_n dX11_round_117 rfl ?_
  refine G_aload_n dX11_round_118 rfl ?_
  refine G_getR (t := 23) dX11_round_119 fl_11_40 (by decide) sh_0 rr_0_4 ?_
  refine G_getI (z := (mem 23 5)) dX11_round_122 fl_11_253 (by decide) sh_23 rfl ?_
  refine G_iload_n dX11_round_125 rfl ?_
  refine G_isub dX11_round_126 ?_
  refine G_i2l dX11_round_127 (w1) ?_
  exact k1
set_option maxRecDepth 20000 in
set_option maxHeartbeats 1000000 in
theorem sg_X11_round_131 {E : Nat × (Nat → Int32)} {d : Nat} {P : Option Value → Mem → Prop} {mem : Mem} {a1 : Int} {a2 : Int} {a3 : Int} {a4 : Int}
    (k1 : P (some (vi a4)) mem) :
    GM E (m_X11_round d) P 131 [.ref 0, vi a1, vi a2, vi a3, vi a4] [] mem := by
  refine G_iload dX11_round_131 rfl ?_
  exact G_iret dX11_round_133 rfl (Nat.zero_le _) (Nat.zero_le _) (Nat.le_refl _) ⟨rfl, k1⟩
abbrev m_X11_row (d : Nat) : Mu := (cX11_row, 2, RX11, (some .long), ⟨d, 0, 0, 40 * d⟩, "row")
set_option maxRecDepth 20000 in
set_option maxHeartbeats 1000000 in
theorem sg_X11_row_0 {E : Nat × (Nat → Int32)} {d : Nat} {P : Option Value → Mem → Prop} {mem : Mem} {a1 : Int} (w1 : -2147483648 ≤ a1 ∧ a1 < 2147483648) (w2 : ¬ a1 < 0 → -2147483648 ≤ (mem 0 14) ∧ (mem 0 14) < 2147483648)
    (k1 : a1 < 0 → GM E (m_X11_row d) P 21 [.ref 0, vi a1] [] mem)
    (k2 : ¬ a1 < 0 → (mem 0 14) ≤ a1 → GM E (m_X11_row d) P 21 [.ref 0, vi a1] [] mem)
    (k3 : ¬ a1 < 0 → ¬ (mem 0 14) ≤ a1 → a1 < 6 → P (some (vl (mem 168 a1))) mem)
    (k4 : ¬ a1 < 0 → ¬ (mem 0 14) ≤ a1 → ¬ a1 < 6 → GM E (m_X11_row d) P 21 [.ref 0, vi a1] [] mem) :
    GM E (m_X11_row d) P 0 [.ref 0, vi a1] [] mem := by
  refine G_iload_n dX11_row_0 rfl ?_
  refine G_if_lt (tgt := 21) dX11_row_1 (by decide) (w1) (fun c1 => ?_) (fun c1 => ?_)
  · -- a1 < 0
    exact k1 c1
  · -- ¬ a1 < 0
    refine G_iload_n dX11_row_4 rfl ?_
    refine G_aload_n dX11_row_5 rfl ?_
    refine G_getI (z := (mem 0 14)) dX11_row_6 fl_11_465 (by decide) sh_0 rfl ?_
    refine G_icmp_ge (tgt := 21) dX11_row_9 (by decide) (w1) (w2 c1) (fun c2 => ?_) (fun c2 => ?_)
    · -- (mem 0 14) ≤ a1
      exact k2 c1 c2
    · -- ¬ (mem 0 14) ≤ a1
      refine G_iload_n dX11_row_12 rfl ?_
      refine G_aload_n dX11_row_13 rfl ?_
      refine G_getR (t := 168) dX11_row_14 fl_11_98 (by decide) sh_0 rr_0_13 ?_
      refine G_alen (z := 6) dX11_row_17 (by decide) sh_168 (by decide) rfl ?_
      refine G_icmp_lt (tgt := 32) dX11_row_18 (by decide) (w1) (by decide) (fun c3 => ?_) (fun c3 => ?_)
      · -- a1 < 6
        refine G_aload_n dX11_row_32 rfl ?_
        refine G_getR (t := 168) dX11_row_33 fl_11_98 (by decide) sh_0 rr_0_13 ?_
        refine G_iload_n dX11_row_36 rfl ?_
        refine G_lald (z := (mem 168 a1)) dX11_row_37 (by decide) sh_168 (by decide) (by omega) (by omega) rfl ?_
        exact G_lret dX11_row_38 rfl (Nat.zero_le _) (Nat.zero_le _) (Nat.le_refl _) ⟨rfl, k3 c1 c2 c3⟩
      · -- ¬ a1 < 6
        exact k4 c1 c2 c3
abbrev m_X11_rubble (d : Nat) : Mu := (cX11_rubble, 2, RX11, (some .int), ⟨d, 0, 0, 40 * d⟩, "rubble")
set_option maxRecDepth 20000 in
set_option maxHeartbeats 1000000 in
theorem sg_X11_rubble_0 {E : Nat × (Nat → Int32)} {d : Nat} {P : Option Value → Mem → Prop} {mem : Mem}
    (k1 : GM E (m_X11_rubble d) P 4 [.ref 0, un] [.ref 93] mem) :
    GM E (m_X11_rubble d) P 0 [.ref 0, un] [] mem := by
  refine G_aload_n dX11_rubble_0 rfl ?_
  refine G_getR (t := 93) dX11_rubble_1 fl_11_56 (by decide) sh_0 rr_0_6 ?_
  exact k1
set_option maxRecDepth 20000 in
set_option maxHeartbeats 1000000 in
theorem sg_X11_rubble_7 {E : Nat × (Nat → Int32)} {d : Nat} {P : Option Value → Mem → Prop} {mem : Mem}
    (k1 : GM E (m_X11_rubble d) P 8 [.ref 0, un] [.ref 0] mem) :
    GM E (m_X11_rubble d) P 7 [.ref 0, un] [] mem := by
  refine G_aload_n dX11_rubble_7 rfl ?_
  exact k1
set_option maxRecDepth 20000 in
set_option maxHeartbeats 1000000 in
theorem sg_X11_rubble_11 {E : Nat × (Nat → Int32)} {d : Nat} {P : Option Value → Mem → Prop} {mem : Mem}
    (k1 : GM E (m_X11_rubble d) P 13 [.ref 0, vi 0] [] mem) :
    GM E (m_X11_rubble d) P 11 [.ref 0, un] [] mem := by
  refine G_iconst (z := 0) dX11_rubble_11 rfl ?_
  refine G_istore_n dX11_rubble_12 rfl (by decide : 1 < 2) rfl ?_
  exact k1
set_option maxRecDepth 20000 in
set_option maxHeartbeats 1000000 in
theorem sg_X11_rubble_13 {E : Nat × (Nat → Int32)} {d : Nat} {P : Option Value → Mem → Prop} {mem : Mem} {a1 : Int} (w1 : -2147483648 ≤ a1 ∧ a1 < 2147483648) (w2 : -2147483648 ≤ (mem 9 1) ∧ (mem 9 1) < 2147483648)
    (k1 : (mem 9 1) ≤ a1 → GM E (m_X11_rubble d) P 90 [.ref 0, vi a1] [vi ((shlI 1 (mem 9 1)) - 1), .ref 93] mem)
    (k2 : ¬ (mem 9 1) ≤ a1 → GM E (m_X11_rubble d) P 31 [.ref 0, vi a1] [vi (shlI 1 a1), .ref 93] mem) :
    GM E (m_X11_rubble d) P 13 [.ref 0, vi a1] [] mem := by
  refine G_iload_n dX11_rubble_13 rfl ?_
  refine G_aload_n dX11_rubble_14 rfl ?_
  refine G_getR (t := 9) dX11_rubble_15 fl_11_33 (by decide) sh_0 rr_0_3 ?_
  refine G_getI (z := (mem 9 1)) dX11_rubble_18 fl_11_113 (by decide) sh_9 rfl ?_
  refine G_icmp_ge (tgt := 75) dX11_rubble_21 (by decide) (w1) (w2) (fun c1 => ?_) (fun c1 => ?_)
  · -- (mem 9 1) ≤ a1
    refine G_aload_n dX11_rubble_75 rfl ?_
    refine G_getR (t := 93) dX11_rubble_76 fl_11_56 (by decide) sh_0 rr_0_6 ?_
    refine G_iconst (z := 1) dX11_rubble_79 rfl ?_
    refine G_aload_n dX11_rubble_80 rfl ?_
    refine G_getR (t := 9) dX11_rubble_81 fl_11_33 (by decide) sh_0 rr_0_3 ?_
    refine G_getI (z := (mem 9 1)) dX11_rubble_84 fl_11_113 (by decide) sh_9 rfl ?_
    refine G_ishl (z := (shlI 1 (mem 9 1))) dX11_rubble_87 (iI_inv _) ?_
    refine G_iconst (z := 1) dX11_rubble_88 rfl ?_
    refine G_isub dX11_rubble_89 ?_
    exact k1 c1
  · -- ¬ (mem 9 1) ≤ a1
    refine G_aload_n dX11_rubble_24 rfl ?_
    refine G_getR (t := 93) dX11_rubble_25 fl_11_56 (by decide) sh_0 rr_0_6 ?_
    refine G_iconst (z := 1) dX11_rubble_28 rfl ?_
    refine G_iload_n dX11_rubble_29 rfl ?_
    refine G_ishl (z := (shlI 1 a1)) dX11_rubble_30 (iI_inv _) ?_
    exact k2 c1
set_option maxRecDepth 20000 in
set_option maxHeartbeats 1000000 in
theorem sg_X11_rubble_34 {E : Nat × (Nat → Int32)} {d : Nat} {P : Option Value → Mem → Prop} {mem : Mem} {a1 : Int} {s0 : Int} (w1 : -2147483648 ≤ s0 ∧ s0 < 2147483648) (w2 : -2147483648 ≤ a1 ∧ a1 < 2147483648)
    (k1 : s0 ≤ 0 → GM E (m_X11_rubble d) P 13 [.ref 0, vi (a1 + 1)] [] mem)
    (k2 : ¬ s0 ≤ 0 → GM E (m_X11_rubble d) P 40 [.ref 0, vi a1] [vl a1, .ref 0] mem) :
    GM E (m_X11_rubble d) P 34 [.ref 0, vi a1] [vi s0] mem := by
  refine G_if_le (tgt := 69) dX11_rubble_34 (by decide) (w1) (fun c1 => ?_) (fun c1 => ?_)
  · -- s0 ≤ 0
    refine G_iinc (z := (a1 + 1)) dX11_rubble_69 rfl rfl (by decide : 1 < 2) rfl ?_
    refine G_goto (tgt := 13) dX11_rubble_72 (by decide) ?_
    exact k1 c1
  · -- ¬ s0 ≤ 0
    refine G_aload_n dX11_rubble_37 rfl ?_
    refine G_iload_n dX11_rubble_38 rfl ?_
    refine G_i2l dX11_rubble_39 (w2) ?_
    exact k2 c1
set_option maxRecDepth 20000 in
set_option maxHeartbeats 1000000 in
theorem sg_X11_rubble_43 {E : Nat × (Nat → Int32)} {d : Nat} {P : Option Value → Mem → Prop} {mem : Mem} {a1 : Int}
    (k1 : GM E (m_X11_rubble d) P 45 [.ref 0, vi a1] [vl 0, .ref 0] mem) :
    GM E (m_X11_rubble d) P 43 [.ref 0, vi a1] [] mem := by
  refine G_aload_n dX11_rubble_43 rfl ?_
  refine G_lconst (z := 0) dX11_rubble_44 rfl ?_
  exact k1
set_option maxRecDepth 20000 in
set_option maxHeartbeats 1000000 in
theorem sg_X11_rubble_48 {E : Nat × (Nat → Int32)} {d : Nat} {P : Option Value → Mem → Prop} {mem : Mem} {a1 : Int}
    (k1 : GM E (m_X11_rubble d) P 50 [.ref 0, vi a1] [vl 0, .ref 0] mem) :
    GM E (m_X11_rubble d) P 48 [.ref 0, vi a1] [] mem := by
  refine G_aload_n dX11_rubble_48 rfl ?_
  refine G_lconst (z := 0) dX11_rubble_49 rfl ?_
  exact k1
set_option maxRecDepth 20000 in
set_option maxHeartbeats 1000000 in
theorem sg_X11_rubble_53 {E : Nat × (Nat → Int32)} {d : Nat} {P : Option Value → Mem → Prop} {mem : Mem} {a1 : Int}
    (k1 : GM E (m_X11_rubble d) P 59 [.ref 0, vi a1] [vi a1, .ref 93, .ref 0] mem) :
    GM E (m_X11_rubble d) P 53 [.ref 0, vi a1] [] mem := by
  refine G_aload_n dX11_rubble_53 rfl ?_
  refine G_aload_n dX11_rubble_54 rfl ?_
  refine G_getR (t := 93) dX11_rubble_55 fl_11_56 (by decide) sh_0 rr_0_6 ?_
  refine G_iload_n dX11_rubble_58 rfl ?_
  exact k1
set_option maxRecDepth 20000 in
set_option maxHeartbeats 1000000 in
theorem sg_X11_rubble_62 {E : Nat × (Nat → Int32)} {d : Nat} {P : Option Value → Mem → Prop} {mem : Mem} {a1 : Int} {s0 : Int} (w1 : -2147483648 ≤ s0 ∧ s0 < 2147483648)
    (k1 : GM E (m_X11_rubble d) P 63 [.ref 0, vi a1] [vl s0, .ref 0] mem) :
    GM E (m_X11_rubble d) P 62 [.ref 0, vi a1] [vi s0, .ref 0] mem := by
  refine G_i2l dX11_rubble_62 (w1) ?_
  exact k1
set_option maxRecDepth 20000 in
set_option maxHeartbeats 1000000 in
theorem sg_X11_rubble_66 {E : Nat × (Nat → Int32)} {d : Nat} {P : Option Value → Mem → Prop} {mem : Mem} {a1 : Int}
    (k1 : GM E (m_X11_rubble d) P 90 [.ref 0, vi a1] [vi ((shlI 1 (mem 9 1)) - 1), .ref 93] mem) :
    GM E (m_X11_rubble d) P 66 [.ref 0, vi a1] [] mem := by
  refine G_goto (tgt := 75) dX11_rubble_66 (by decide) ?_
  refine G_aload_n dX11_rubble_75 rfl ?_
  refine G_getR (t := 93) dX11_rubble_76 fl_11_56 (by decide) sh_0 rr_0_6 ?_
  refine G_iconst (z := 1) dX11_rubble_79 rfl ?_
  refine G_aload_n dX11_rubble_80 rfl ?_
  refine G_getR (t := 9) dX11_rubble_81 fl_11_33 (by decide) sh_0 rr_0_3 ?_
  refine G_getI (z := (mem 9 1)) dX11_rubble_84 fl_11_113 (by decide) sh_9 rfl ?_
  refine G_ishl (z := (shlI 1 (mem 9 1))) dX11_rubble_87 (iI_inv _) ?_
  refine G_iconst (z := 1) dX11_rubble_88 rfl ?_
  refine G_isub dX11_rubble_89 ?_
  exact k1
set_option maxRecDepth 20000 in
set_option maxHeartbeats 1000000 in
theorem sg_X11_rubble_93 {E : Nat × (Nat → Int32)} {d : Nat} {P : Option Value → Mem → Prop} {mem : Mem} {a1 : Int} {s0 : Int}
    (k1 : P (some (vi s0)) mem) :
    GM E (m_X11_rubble d) P 93 [.ref 0, vi a1] [vi s0] mem := by
  exact G_iret dX11_rubble_93 rfl (Nat.zero_le _) (Nat.zero_le _) (Nat.le_refl _) ⟨rfl, k1⟩
abbrev m_X11_rule (d : Nat) : Mu := (cX11_rule, 2, RX11, (some .int), ⟨d, 0, 0, 40 * d⟩, "rule")
set_option maxRecDepth 20000 in
set_option maxHeartbeats 1000000 in
theorem sg_X11_rule_0 {E : Nat × (Nat → Int32)} {d : Nat} {P : Option Value → Mem → Prop} {mem : Mem}
    (k1 : GM E (m_X11_rule d) P 8 [.ref 0, un] [.ref 1, .ref 5] mem) :
    GM E (m_X11_rule d) P 0 [.ref 0, un] [] mem := by
  refine G_aload_n dX11_rule_0 rfl ?_
  refine G_getR (t := 5) dX11_rule_1 fl_11_26 (by decide) sh_0 rr_0_2 ?_
  refine G_aload_n dX11_rule_4 rfl ?_
  refine G_getR (t := 1) dX11_rule_5 fl_11_12 (by decide) sh_0 rr_0_0 ?_
  exact k1
set_option maxRecDepth 20000 in
set_option maxHeartbeats 1000000 in
theorem sg_X11_rule_11 {E : Nat × (Nat → Int32)} {d : Nat} {P : Option Value → Mem → Prop} {mem : Mem} {s0 : Int}
    (k1 : GM E (m_X11_rule d) P 16 [.ref 0, vi s0] [.ref 1] mem) :
    GM E (m_X11_rule d) P 11 [.ref 0, un] [vi s0] mem := by
  refine G_istore_n dX11_rule_11 rfl (by decide : 1 < 2) rfl ?_
  refine G_aload_n dX11_rule_12 rfl ?_
  refine G_getR (t := 1) dX11_rule_13 fl_11_12 (by decide) sh_0 rr_0_0 ?_
  exact k1
set_option maxRecDepth 20000 in
set_option maxHeartbeats 1000000 in
theorem sg_X11_rule_19 {E : Nat × (Nat → Int32)} {d : Nat} {P : Option Value → Mem → Prop} {mem : Mem} {a1 : Int}
    (k1 : P (some (vi a1)) mem) :
    GM E (m_X11_rule d) P 19 [.ref 0, vi a1] [] mem := by
  refine G_iload_n dX11_rule_19 rfl ?_
  exact G_iret dX11_rule_20 rfl (Nat.zero_le _) (Nat.zero_le _) (Nat.le_refl _) ⟨rfl, k1⟩
abbrev m_X11_set (d : Nat) : Mu := (cX11_set, 3, RX11, (some .int), ⟨d, 0, 0, 40 * d⟩, "set")
set_option maxRecDepth 20000 in
set_option maxHeartbeats 1000000 in
theorem sg_X11_set_0 {E : Nat × (Nat → Int32)} {d : Nat} {P : Option Value → Mem → Prop} {mem : Mem} {a1 : Int} {a2 : Int} (w1 : -2147483648 ≤ a1 ∧ a1 < 2147483648) (w2 : -2147483648 ≤ a2 ∧ a2 < 2147483648) (w3 : a1 = 0 → -2147483648 ≤ (mem 23 3) ∧ (mem 23 3) < 2147483648)
    (k1 : a1 ≠ 0 → GM E (m_X11_set d) P 23 [.ref 0, vi a1, vi a2] [vi a2, vi a1, .ref 3] mem)
    (k2 : a1 = 0 → (mem 23 3) ≤ a2 → GM E (m_X11_set d) P 23 [.ref 0, vi a1, vi a2] [vi a2, vi a1, .ref 3] mem)
    (k3 : a1 = 0 → ¬ (mem 23 3) ≤ a2 → P (some (vi (-1))) mem) :
    GM E (m_X11_set d) P 0 [.ref 0, vi a1, vi a2] [] mem := by
  refine G_iload_n dX11_set_0 rfl ?_
  refine G_if_ne (tgt := 17) dX11_set_1 (by decide) (w1) (fun c1 => ?_) (fun c1 => ?_)
  · -- a1 ≠ 0
    refine G_aload_n dX11_set_17 rfl ?_
    refine G_getR (t := 3) dX11_set_18 fl_11_19 (by decide) sh_0 rr_0_1 ?_
    refine G_iload_n dX11_set_21 rfl ?_
    refine G_iload_n dX11_set_22 rfl ?_
    exact k1 c1
  · -- a1 = 0
    refine G_iload_n dX11_set_4 rfl ?_
    refine G_aload_n dX11_set_5 rfl ?_
    refine G_getR (t := 23) dX11_set_6 fl_11_40 (by decide) sh_0 rr_0_4 ?_
    refine G_getI (z := (mem 23 3)) dX11_set_9 fl_11_203 (by decide) sh_23 rfl ?_
    refine G_icmp_ge (tgt := 17) dX11_set_12 (by decide) (w2) (w3 c1) (fun c2 => ?_) (fun c2 => ?_)
    · -- (mem 23 3) ≤ a2
      refine G_aload_n dX11_set_17 rfl ?_
      refine G_getR (t := 3) dX11_set_18 fl_11_19 (by decide) sh_0 rr_0_1 ?_
      refine G_iload_n dX11_set_21 rfl ?_
      refine G_iload_n dX11_set_22 rfl ?_
      exact k2 c1 c2
    · -- ¬ (mem 23 3) ≤ a2
      refine G_iconst (z := (-1)) dX11_set_15 rfl ?_
      exact G_iret dX11_set_16 rfl (Nat.zero_le _) (Nat.zero_le _) (Nat.le_refl _) ⟨rfl, k3 c1 c2⟩
set_option maxRecDepth 20000 in
set_option maxHeartbeats 1000000 in
theorem sg_X11_set_26 {E : Nat × (Nat → Int32)} {d : Nat} {P : Option Value → Mem → Prop} {mem : Mem} {a1 : Int} {a2 : Int} {s0 : Int}
    (k1 : P (some (vi s0)) mem) :
    GM E (m_X11_set d) P 26 [.ref 0, vi a1, vi a2] [vi s0] mem := by
  exact G_iret dX11_set_26 rfl (Nat.zero_le _) (Nat.zero_le _) (Nat.le_refl _) ⟨rfl, k1⟩
abbrev m_X11_share (d : Nat) : Mu := (cX11_share, 8, RX11, (some .int), ⟨d, 0, 0, 40 * d⟩, "share")
set_option maxRecDepth 20000 in
set_option maxHeartbeats 1000000 in
theorem sg_X11_share_0 {E : Nat × (Nat → Int32)} {d : Nat} {P : Option Value → Mem → Prop} {mem : Mem} {a1 : Int}
    (k1 : GM E (m_X11_share d) P 5 [.ref 0, vi a1, un, un, un, un, un, un] [vi a1, .ref 9] mem) :
    GM E (m_X11_share d) P 0 [.ref 0, vi a1, un, un, un, un, un, un] [] mem := by
  refine G_aload_n dX11_share_0 rfl ?_
  refine G_getR (t := 9) dX11_share_1 fl_11_33 (by decide) sh_0 rr_0_3 ?_
  refine G_iload_n dX11_share_4 rfl ?_
  exact k1
set_option maxRecDepth 20000 in
set_option maxHeartbeats 1000000 in
theorem sg_X11_share_8 {E : Nat × (Nat → Int32)} {d : Nat} {P : Option Value → Mem → Prop} {mem : Mem} {a1 : Int} {s0 : Int} (w1 : -2147483648 ≤ s0 ∧ s0 < 2147483648)
    (k1 : s0 ≠ 0 → GM E (m_X11_share d) P 14 [.ref 0, vi a1, un, un, un, un, un, un] [.ref 0] mem)
    (k2 : s0 = 0 → P (some (vi (-1))) mem) :
    GM E (m_X11_share d) P 8 [.ref 0, vi a1, un, un, un, un, un, un] [vi s0] mem := by
  refine G_if_ne (tgt := 13) dX11_share_8 (by decide) (w1) (fun c1 => ?_) (fun c1 => ?_)
  · -- s0 ≠ 0
    refine G_aload_n dX11_share_13 rfl ?_
    exact k1 c1
  · -- s0 = 0
    refine G_iconst (z := (-1)) dX11_share_11 rfl ?_
    exact G_iret dX11_share_12 rfl (Nat.zero_le _) (Nat.zero_le _) (Nat.le_refl _) ⟨rfl, k2 c1⟩
set_option maxRecDepth 20000 in
set_option maxHeartbeats 1000000 in
theorem sg_X11_share_17 {E : Nat × (Nat → Int32)} {d : Nat} {P : Option Value → Mem → Prop} {mem : Mem} {a1 : Int}
    (k1 : GM E (m_X11_share d) P 22 [.ref 0, vi a1, un, un, un, un, un, un] [vi a1, .ref 147] mem) :
    GM E (m_X11_share d) P 17 [.ref 0, vi a1, un, un, un, un, un, un] [] mem := by
  refine G_aload_n dX11_share_17 rfl ?_
  refine G_getR (t := 147) dX11_share_18 fl_11_83 (by decide) sh_0 rr_0_9 ?_
  refine G_iload_n dX11_share_21 rfl ?_
  exact k1
set_option maxRecDepth 20000 in
set_option maxHeartbeats 1000000 in
theorem sg_X11_share_25 {E : Nat × (Nat → Int32)} {d : Nat} {P : Option Value → Mem → Prop} {mem : Mem} {a1 : Int} {s0 : Int}
    (k1 : GM E (m_X11_share d) P 34 [.ref 0, vi a1, vi s0, vi s0, vi 0, vi 1, un, un] [] mem) :
    GM E (m_X11_share d) P 25 [.ref 0, vi a1, un, un, un, un, un, un] [vi s0] mem := by
  refine G_istore_n dX11_share_25 rfl (by decide : 2 < 8) rfl ?_
  refine G_iload_n dX11_share_26 rfl ?_
  refine G_istore_n dX11_share_27 rfl (by decide : 3 < 8) rfl ?_
  refine G_iconst (z := 0) dX11_share_28 rfl ?_
  refine G_istore dX11_share_29 (by decide : 4 < 8) rfl ?_
  refine G_iconst (z := 1) dX11_share_31 rfl ?_
  refine G_istore dX11_share_32 (by decide : 5 < 8) rfl ?_
  exact k1
set_option maxRecDepth 20000 in
set_option maxHeartbeats 1000000 in
theorem sg_X11_share_34 {E : Nat × (Nat → Int32)} {d : Nat} {P : Option Value → Mem → Prop} {mem : Mem} {a1 : Int} {a2 : Int} {a3 : Int} {a4 : Int} {a5 : Int} (w1 : -2147483648 ≤ a5 ∧ a5 < 2147483648) (w2 : -2147483648 ≤ a4 ∧ a4 < 2147483648)
    (k1 : 64 ≤ a5 → GM E (m_X11_share d) P 95 [.ref 0, vi a1, vi a2, vi a3, vi a4, vi a5, un, un] [vl a4, .ref 0] mem)
    (k2 : ¬ 64 ≤ a5 → GM E (m_X11_share d) P 47 [.ref 0, vi a1, vi a2, vi a3, vi a4, vi a5, un, un] [vi a5, .ref 147] mem) :
    GM E (m_X11_share d) P 34 [.ref 0, vi a1, vi a2, vi a3, vi a4, vi a5, un, un] [] mem := by
  refine G_iload dX11_share_34 rfl ?_
  refine G_bipush (z := 64) dX11_share_36 rfl ?_
  refine G_icmp_ge (tgt := 91) dX11_share_38 (by decide) (w1) (by decide) (fun c1 => ?_) (fun c1 => ?_)
  · -- 64 ≤ a5
    refine G_aload_n dX11_share_91 rfl ?_
    refine G_iload dX11_share_92 rfl ?_
    refine G_i2l dX11_share_94 (w2) ?_
    exact k1 c1
  · -- ¬ 64 ≤ a5
    refine G_aload_n dX11_share_41 rfl ?_
    refine G_getR (t := 147) dX11_share_42 fl_11_83 (by decide) sh_0 rr_0_9 ?_
    refine G_iload dX11_share_45 rfl ?_
    exact k2 c1
set_option maxRecDepth 20000 in
set_option maxHeartbeats 1000000 in
theorem sg_X11_share_50 {E : Nat × (Nat → Int32)} {d : Nat} (hd : 1 ≤ d) {P : Option Value → Mem → Prop} {mem : Mem} {a1 : Int} {a2 : Int} {a3 : Int} {a4 : Int} {a5 : Int} {s0 : Int} (w1 : -2147483648 ≤ s0 ∧ s0 < 2147483648) (w2 : -2147483648 ≤ (a2 - s0) ∧ (a2 - s0) < 2147483648) (w3 : (bandI a5 (bxorI a1 (-1))) = 0 → -2147483648 ≤ (max s0 (a2 - s0)) ∧ (max s0 (a2 - s0)) < 2147483648) (w4 : -2147483648 ≤ a3 ∧ a3 < 2147483648)
    (k1 : (bandI a5 (bxorI a1 (-1))) ≠ 0 → GM E (m_X11_share d) P 34 [.ref 0, vi a1, vi a2, vi a3, vi a4, vi (a5 + 1), vi s0, vi (max s0 (a2 - s0))] [] mem)
    (k2 : (bandI a5 (bxorI a1 (-1))) = 0 → a3 ≤ (max s0 (a2 - s0)) → GM E (m_X11_share d) P 34 [.ref 0, vi a1, vi a2, vi a3, vi a4, vi (a5 + 1), vi s0, vi (max s0 (a2 - s0))] [] mem)
    (k3 : (bandI a5 (bxorI a1 (-1))) = 0 → ¬ a3 ≤ (max s0 (a2 - s0)) → GM E (m_X11_share d) P 34 [.ref 0, vi a1, vi a2, vi (max s0 (a2 - s0)), vi a5, vi (a5 + 1), vi s0, vi (max s0 (a2 - s0))] [] mem) :
    GM E (m_X11_share d) P 50 [.ref 0, vi a1, vi a2, vi a3, vi a4, vi a5, un, un] [vi s0] mem := by
  refine G_istore dX11_share_50 (by decide : 6 < 8) rfl ?_
  refine G_iload dX11_share_52 rfl ?_
  refine G_iload_n dX11_share_54 rfl ?_
  refine G_iload dX11_share_55 rfl ?_
  refine G_isub dX11_share_57 ?_
  refine G_max (z := (max s0 (a2 - s0))) dX11_share_58 ml_11_397 mw_max (w1) (w2) ⟨by show 1 ≤ d; omega, by show 21 ≤ 40 * d; omega, Nat.zero_le _, Nat.zero_le _⟩ (Nat.le_of_ble_eq_true rfl) rfl ?_
  refine G_istore dX11_share_61 (by decide : 7 < 8) rfl ?_
  refine G_iload dX11_share_63 rfl ?_
  refine G_iload_n dX11_share_65 rfl ?_
  refine G_iconst (z := (-1)) dX11_share_66 rfl ?_
  refine G_ixor (z := (bxorI a1 (-1))) dX11_share_67 (iI_inv _) ?_
  refine G_iand (z := (bandI a5 (bxorI a1 (-1)))) dX11_share_68 (iI_inv _) ?_
  refine G_if_ne (tgt := 85) dX11_share_69 (by decide) (iI_rng _) (fun c1 => ?_) (fun c1 => ?_)
  · -- (bandI a5 (bxorI a1 (-1))) ≠ 0
    refine G_iinc (z := (a5 + 1)) dX11_share_85 rfl rfl (by decide : 5 < 8) rfl ?_
    refine G_goto (tgt := 34) dX11_share_88 (by decide) ?_
    exact k1 c1
  · -- (bandI a5 (bxorI a1 (-1))) = 0
    refine G_iload dX11_share_72 rfl ?_
    refine G_iload_n dX11_share_74 rfl ?_
    refine G_icmp_ge (tgt := 85) dX11_share_75 (by decide) (w3 c1) (w4) (fun c2 => ?_) (fun c2 => ?_)
    · -- a3 ≤ (max s0 (a2 - s0))
      refine G_iinc (z := (a5 + 1)) dX11_share_85 rfl rfl (by decide : 5 < 8) rfl ?_
      refine G_goto (tgt := 34) dX11_share_88 (by decide) ?_
      exact k2 c1 c2
    · -- ¬ a3 ≤ (max s0 (a2 - s0))
      refine G_iload dX11_share_78 rfl ?_
      refine G_istore_n dX11_share_80 rfl (by decide : 3 < 8) rfl ?_
      refine G_iload dX11_share_81 rfl ?_
      refine G_istore dX11_share_83 (by decide : 4 < 8) rfl ?_
      refine G_iinc (z := (a5 + 1)) dX11_share_85 rfl rfl (by decide : 5 < 8) rfl ?_
      refine G_goto (tgt := 34) dX11_share_88 (by decide) ?_
      exact k3 c1 c2
set_option maxRecDepth 20000 in
set_option maxHeartbeats 1000000 in
theorem sg_X11_share_98 {E : Nat × (Nat → Int32)} {d : Nat} {P : Option Value → Mem → Prop} {mem : Mem} {a1 : Int} {a2 : Int} {a3 : Int} {a4 : Int} {a5 : Int} (w1 : -2147483648 ≤ (a2 - a3) ∧ (a2 - a3) < 2147483648)
    (k1 : GM E (m_X11_share d) P 103 [.ref 0, vi a1, vi a2, vi a3, vi a4, vi a5, un, un] [vl (a2 - a3), .ref 0] mem) :
    GM E (m_X11_share d) P 98 [.ref 0, vi a1, vi a2, vi a3, vi a4, vi a5, un, un] [] mem := by
  refine G_aload_n dX11_share_98 rfl ?_
  refine G_iload_n dX11_share_99 rfl ?_
  refine G_iload_n dX11_share_100 rfl ?_
  refine G_isub dX11_share_101 ?_
  refine G_i2l dX11_share_102 (w1) ?_
  exact k1
set_option maxRecDepth 20000 in
set_option maxHeartbeats 1000000 in
theorem sg_X11_share_106 {E : Nat × (Nat → Int32)} {d : Nat} {P : Option Value → Mem → Prop} {mem : Mem} {a1 : Int} {a2 : Int} {a3 : Int} {a4 : Int} {a5 : Int}
    (k1 : P (some (vi a3)) mem) :
    GM E (m_X11_share d) P 106 [.ref 0, vi a1, vi a2, vi a3, vi a4, vi a5, un, un] [] mem := by
  refine G_iload_n dX11_share_106 rfl ?_
  exact G_iret dX11_share_107 rfl (Nat.zero_le _) (Nat.zero_le _) (Nat.le_refl _) ⟨rfl, k1⟩
