set_option maxRecDepth 20000 in
set_option maxHeartbeats 8000000 in
theorem sg_X11_wet_0 {E : Nat × (Nat → Int32)} {P : Option Value → Mem → Prop} {mem : Mem} {a1 : Int} {a2 : Int} (q1 : 0 ≤ (mem 9 1) ∧ (mem 9 1) ≤ 6) (w2 : -2147483648 ≤ a1 ∧ a1 < 2147483648) (w3 : -2147483648 ≤ a2 ∧ a2 < 2147483648) (q4 : 0 ≤ a1 ∧ a1 < (mem 9 1) → ¬ a2 < 0 → a2 ≤ 9 → 0 ≤ a1 ∧ a1 < 6)
    (k1 : 0 ≤ a1 ∧ a1 < (mem 9 1) → a2 < 0 → P (some (vi (-1))) mem)
    (k2 : 0 ≤ a1 ∧ a1 < (mem 9 1) → ¬ a2 < 0 → a2 ≤ 9 → GM E (m_X11_wet 3) P 40 [.ref 0, vi a1, vi a2, .ref (11 + 2 * (a1).toNat)] [vi a2, vi (mem 24 a1), .ref (11 + 2 * (a1).toNat), .ref 3, .ref 0] mem)
    (k3 : 0 ≤ a1 ∧ a1 < (mem 9 1) → ¬ a2 < 0 → ¬ a2 ≤ 9 → P (some (vi (-1))) mem)
    (k4 : ¬ (0 ≤ a1 ∧ a1 < (mem 9 1)) → P (some (vi (-1))) mem) :
    GM E (m_X11_wet 3) P 0 [.ref 0, vi a1, vi a2, un] [] mem := by
  refine G_aload_n dX11_wet_0 rfl ?_
  refine G_getR (t := 9) dX11_wet_1 fl_11_33 (by decide) sh_0 rr_0_3 ?_
  refine G_iload_n dX11_wet_4 rfl ?_
  refine cb_X11_wet_5 (ic_X10_at (z := (mem 9 1)) rfl (q1) (w2) (fun c1 => ?_) (fun c2 => ?_))
  · -- 0 ≤ a1 ∧ a1 < (mem 9 1)
    refine G_astore_n dX11_wet_8 rfl (by decide : 3 < 4) rfl ?_
    refine G_aload_n dX11_wet_9 rfl ?_
    refine G_ifnull dX11_wet_10 ?_
    refine G_iload_n dX11_wet_13 rfl ?_
    refine G_if_lt (tgt := 23) dX11_wet_14 (by decide) (w3) (fun c3 => ?_) (fun c3 => ?_)
    · -- a2 < 0
      refine G_iconst (z := (-1)) dX11_wet_23 rfl ?_
      exact G_iret dX11_wet_24 rfl (Nat.zero_le _) (Nat.zero_le _) (Nat.le_refl _) ⟨rfl, k1 c1 c3⟩
    · -- ¬ a2 < 0
      refine G_iload_n dX11_wet_17 rfl ?_
      refine G_bipush (z := 9) dX11_wet_18 rfl ?_
      refine G_icmp_le (tgt := 25) dX11_wet_20 (by decide) (w3) (by decide) (fun c4 => ?_) (fun c4 => ?_)
      · -- a2 ≤ 9
        refine G_aload_n dX11_wet_25 rfl ?_
        refine G_aload_n dX11_wet_26 rfl ?_
        refine G_getR (t := 3) dX11_wet_27 fl_11_19 (by decide) sh_0 rr_0_1 ?_
        refine G_aload_n dX11_wet_30 rfl ?_
        refine G_aload_n dX11_wet_31 rfl ?_
        refine G_getR (t := 23) dX11_wet_32 fl_11_40 (by decide) sh_0 rr_0_4 ?_
        refine G_iload_n dX11_wet_35 rfl ?_
        refine cb_X11_wet_36 (by decide) (ic_X7_outOf (z := (mem 24 a1)) (by decide) ⟨(q4 c1 c3 c4).1, (q4 c1 c3 c4).2⟩ rfl ?_)
        refine G_iload_n dX11_wet_39 rfl ?_
        exact k2 c1 c3 c4
      · -- ¬ a2 ≤ 9
        refine G_iconst (z := (-1)) dX11_wet_23 rfl ?_
        exact G_iret dX11_wet_24 rfl (Nat.zero_le _) (Nat.zero_le _) (Nat.le_refl _) ⟨rfl, k3 c1 c3 c4⟩
  · -- ¬ (0 ≤ a1 ∧ a1 < (mem 9 1))
    refine G_astoreNull_n dX11_wet_8 rfl (by decide : 3 < 4) rfl ?_
    refine G_aloadNull_n dX11_wet_9 rfl ?_
    refine G_ifnullZ (tgt := 23) dX11_wet_10 (by decide) ?_
    refine G_iconst (z := (-1)) dX11_wet_23 rfl ?_
    exact G_iret dX11_wet_24 rfl (Nat.zero_le _) (Nat.zero_le _) (Nat.le_refl _) ⟨rfl, k4 c2⟩
set_option maxRecDepth 20000 in
set_option maxHeartbeats 8000000 in
theorem sg_X11_wet_43 {E : Nat × (Nat → Int32)} {P : Option Value → Mem → Prop} {mem : Mem} {a1 : Int} {a2 : Int} {o3 : Nat} {s0 : Int} (ho3 : o3 ∈ streetL) (w1 : -2147483648 ≤ s0 ∧ s0 < 2147483648) (q2 : 0 ≤ a1 ∧ a1 < 6)
    (k1 : GM E (m_X11_wet 3) P 61 [.ref 0, vi a1, vi a2, .ref o3] [vi a2, vi (mem 24 a1), .ref o3, .ref 3] (up2 (up2 (up2 mem 0 14 0) 168 0 s0) 0 14 1)) :
    GM E (m_X11_wet 3) P 43 [.ref 0, vi a1, vi a2, .ref o3] [vi s0, .ref 0] mem := by
  refine G_i2l dX11_wet_43 (w1) ?_
  refine cb_X11_wet_44 (ic_X11_tell ?_)
  refine G_aload_n dX11_wet_47 rfl ?_
  refine G_getR (t := 3) dX11_wet_48 fl_11_19 (by decide) sh_0 rr_0_1 ?_
  refine G_aload_n dX11_wet_51 rfl ?_
  refine G_aload_n dX11_wet_52 rfl ?_
  refine G_getR (t := 23) dX11_wet_53 fl_11_40 (by decide) sh_0 rr_0_4 ?_
  refine G_iload_n dX11_wet_56 rfl ?_
  refine cb_X11_wet_57 (by decide) (ic_X7_outOf (z := (mem 24 a1)) (by decide) ⟨(q2).1, (q2).2⟩ (by simp [up2, upr]) ?_)
  refine G_iload_n dX11_wet_60 rfl ?_
  exact k1
set_option maxRecDepth 20000 in
set_option maxHeartbeats 8000000 in
theorem sg_X11_wet_64 {E : Nat × (Nat → Int32)} {P : Option Value → Mem → Prop} {mem : Mem} {a1 : Int} {a2 : Int} {o3 : Nat} {s0 : Int} (ho3 : o3 ∈ streetL)
    (k1 : P (some (vi s0)) mem) :
    GM E (m_X11_wet 3) P 64 [.ref 0, vi a1, vi a2, .ref o3] [vi s0] mem := by
  exact G_iret dX11_wet_64 rfl (Nat.zero_le _) (Nat.zero_le _) (Nat.le_refl _) ⟨rfl, k1⟩
set_option maxRecDepth 20000 in
set_option maxHeartbeats 8000000 in
theorem sg_X11_whose_0 {E : Nat × (Nat → Int32)} {P : Option Value → Mem → Prop} {mem : Mem}
    (k1 : GM E (m_X11_whose 4) P 4 [.ref 0, un, un] [.ref 93] mem) :
    GM E (m_X11_whose 4) P 0 [.ref 0, un, un] [] mem := by
  refine G_aload_n dX11_whose_0 rfl ?_
  refine G_getR (t := 93) dX11_whose_1 fl_11_56 (by decide) sh_0 rr_0_6 ?_
  exact k1
set_option maxRecDepth 20000 in
set_option maxHeartbeats 8000000 in
theorem sg_X11_whose_7 {E : Nat × (Nat → Int32)} {P : Option Value → Mem → Prop} {mem : Mem}
    (k1 : GM E (m_X11_whose 4) P 11 [.ref 0, vi 0, vi 0] [] mem) :
    GM E (m_X11_whose 4) P 7 [.ref 0, un, un] [] mem := by
  refine G_iconst (z := 0) dX11_whose_7 rfl ?_
  refine G_istore_n dX11_whose_8 rfl (by decide : 1 < 3) rfl ?_
  refine G_iconst (z := 0) dX11_whose_9 rfl ?_
  refine G_istore_n dX11_whose_10 rfl (by decide : 2 < 3) rfl ?_
  exact k1
set_option maxRecDepth 20000 in
set_option maxHeartbeats 8000000 in
theorem sg_X11_whose_11 {E : Nat × (Nat → Int32)} {P : Option Value → Mem → Prop} {mem : Mem} {a1 : Int} {a2 : Int} (w1 : -2147483648 ≤ a2 ∧ a2 < 2147483648) (w2 : -2147483648 ≤ (mem 9 1) ∧ (mem 9 1) < 2147483648) (w3 : (mem 9 1) ≤ a2 → -2147483648 ≤ (mem 93 9) ∧ (mem 93 9) < 2147483648)
    (k1 : (mem 9 1) ≤ a2 → (mem 93 9) = 0 → P (some (vi a1)) (up2 (up2 (up2 mem 0 14 0) 168 0 0) 0 14 1))
    (k2 : (mem 9 1) ≤ a2 → ¬ (mem 93 9) = 0 → P (some (vi a1)) (up2 (up2 (up2 mem 0 14 0) 168 0 1) 0 14 1))
    (k3 : ¬ (mem 9 1) ≤ a2 → GM E (m_X11_whose 4) P 29 [.ref 0, vi a1, vi a2] [vi (shlI 1 a2), .ref 93] mem) :
    GM E (m_X11_whose 4) P 11 [.ref 0, vi a1, vi a2] [] mem := by
  refine G_iload_n dX11_whose_11 rfl ?_
  refine G_aload_n dX11_whose_12 rfl ?_
  refine G_getR (t := 9) dX11_whose_13 fl_11_33 (by decide) sh_0 rr_0_3 ?_
  refine G_getI (z := (mem 9 1)) dX11_whose_16 fl_11_113 (by decide) sh_9 rfl ?_
  refine G_icmp_ge (tgt := 47) dX11_whose_19 (by decide) (w1) (w2) (fun c1 => ?_) (fun c1 => ?_)
  · -- (mem 9 1) ≤ a2
    refine G_aload_n dX11_whose_47 rfl ?_
    refine G_aload_n dX11_whose_48 rfl ?_
    refine G_getR (t := 93) dX11_whose_49 fl_11_56 (by decide) sh_0 rr_0_6 ?_
    refine G_getI (z := (mem 93 9)) dX11_whose_52 fl_11_432 (by decide) sh_93 rfl ?_
    refine G_if_eq (tgt := 62) dX11_whose_55 (by decide) (w3 c1) (fun c2 => ?_) (fun c2 => ?_)
    · -- (mem 93 9) = 0
      refine G_lconst (z := 0) dX11_whose_62 rfl ?_
      refine cb_X11_whose_63 (ic_X11_tell ?_)
      refine G_iload_n dX11_whose_66 rfl ?_
      exact G_iret dX11_whose_67 rfl (Nat.zero_le _) (Nat.zero_le _) (Nat.le_refl _) ⟨rfl, k1 c1 c2⟩
    · -- ¬ (mem 93 9) = 0
      refine G_lconst (z := 1) dX11_whose_58 rfl ?_
      refine G_goto (tgt := 63) dX11_whose_59 (by decide) ?_
      refine cb_X11_whose_63 (ic_X11_tell ?_)
      refine G_iload_n dX11_whose_66 rfl ?_
      exact G_iret dX11_whose_67 rfl (Nat.zero_le _) (Nat.zero_le _) (Nat.le_refl _) ⟨rfl, k2 c1 c2⟩
  · -- ¬ (mem 9 1) ≤ a2
    refine G_aload_n dX11_whose_22 rfl ?_
    refine G_getR (t := 93) dX11_whose_23 fl_11_56 (by decide) sh_0 rr_0_6 ?_
    refine G_iconst (z := 1) dX11_whose_26 rfl ?_
    refine G_iload_n dX11_whose_27 rfl ?_
    refine G_ishl (z := (shlI 1 a2)) dX11_whose_28 (iI_inv _) ?_
    exact k3 c1
set_option maxRecDepth 20000 in
set_option maxHeartbeats 8000000 in
theorem sg_X11_whose_32 {E : Nat × (Nat → Int32)} {P : Option Value → Mem → Prop} {mem : Mem} {a1 : Int} {a2 : Int} {s0 : Int} (w1 : -2147483648 ≤ s0 ∧ s0 < 2147483648)
    (k1 : GM E (m_X11_whose 4) P 11 [.ref 0, vi (if s0 ≤ 0 then a1 else (borI a1 (shlI 1 a2))), vi (a2 + 1)] [] mem) :
    GM E (m_X11_whose 4) P 32 [.ref 0, vi a1, vi a2] [vi s0] mem := by
  have j1 : GM E (m_X11_whose 4) P 41 [.ref 0, vi (if s0 ≤ 0 then a1 else (borI a1 (shlI 1 a2))), vi a2] [] mem := by
    refine G_iinc (z := (a2 + 1)) dX11_whose_41 rfl rfl (by decide : 2 < 3) rfl ?_
    refine G_goto (tgt := 11) dX11_whose_44 (by decide) ?_
    exact k1
  refine G_if_le (tgt := 41) dX11_whose_32 (by decide) (w1) (fun c1 => ?_) (fun c1 => ?_)
  · -- s0 ≤ 0
    have qj1 := j1
    simp only [if_pos c1] at qj1
    exact qj1
  · -- ¬ s0 ≤ 0
    refine G_iload_n dX11_whose_35 rfl ?_
    refine G_iconst (z := 1) dX11_whose_36 rfl ?_
    refine G_iload_n dX11_whose_37 rfl ?_
    refine G_ishl (z := (shlI 1 a2)) dX11_whose_38 (iI_inv _) ?_
    refine G_ior (z := (borI a1 (shlI 1 a2))) dX11_whose_39 (iI_inv _) ?_
    refine G_istore_n dX11_whose_40 rfl (by decide : 1 < 3) rfl ?_
    have qj1 := j1
    simp only [if_neg c1] at qj1
    exact qj1
