/-! the methods that throw, and the law's own methods that catch -/
abbrev mx_street : Mu := (cX11_street, 4, RX11, (some .int), ⟨8, 1, 6, 320⟩, "street")
abbrev ml_street : Mu := (cL_street, 5, RL, (some .int), ⟨20, 1, 6, 1000⟩, "street")
abbrev mx_bin : Mu := (cX11_bin, 7, RX11, (some .int), ⟨8, 1, 6, 320⟩, "bin")
abbrev ml_bin : Mu := (cL_bin, 7, RL, (some .int), ⟨20, 1, 6, 1000⟩, "bin")
abbrev mx_hill : Mu := (cX11_hill, 4, RX11, (some .int), ⟨8, 1, 6, 320⟩, "hill")
abbrev ml_hill : Mu := (cL_hill, 4, RL, (some .int), ⟨20, 1, 6, 1000⟩, "hill")
abbrev mx_row : Mu := (cX11_row, 2, RX11, (some .long), ⟨8, 1, 6, 320⟩, "row")
abbrev ml_row : Mu := (cL_row, 4, RL, (some .int), ⟨20, 1, 6, 1000⟩, "row")
theorem cx_street {E : Nat × (Nat → Int32)} {c : Mem} {s w : Int} (q1 : 0 ≤ c 9 1 ∧ c 9 1 ≤ 6) (rs : RI s) (rw0 : RI w) (bad : ¬ (0 ≤ s ∧ s < c 9 1 ∧ 0 ≤ w ∧ w ≤ 8)) : CX E yX11_street mx_street [.ref 0, vi s, vi w] c := by
  refine CX_of (lv := [.ref 0, vi s, vi w, un]) (by decide) rfl rfl (Nat.le_of_ble_eq_true rfl) rfl ?_
  refine G_aload_n dX11_street_0 rfl ?_
  refine G_getR (t := 9) dX11_street_1 fl_11_33 (by decide) sh_0 rr_0_3 ?_
  refine G_iload_n dX11_street_4 rfl ?_
  refine G_callVM (as := [vi s]) (ic_X10_at (Q := fun z m2 => c = m2 ∧ ((z = .null ∧ ¬ (0 ≤ s ∧ s < c 9 1)) ∨ (z = .ref (11 + 2 * s.toNat) ∧ 0 ≤ s ∧ s < c 9 1))) rfl q1 rs (fun c1 => ⟨rfl, Or.inr ⟨rfl, c1⟩⟩) (fun c1 => ⟨rfl, Or.inl ⟨rfl, c1⟩⟩)) dX11_street_5 cv_11_133 im_X10_at sl_X10_at (by decide) sh_9 rfl rfl ⟨by decide, by decide⟩ rfl rfl ⟨Nat.zero_le _, Nat.zero_le _⟩ (by decide) ⟨Nat.le_refl _, by decide⟩ rfl (fun r m2 h => ?_)
  obtain ⟨z, rfl, rfl, h⟩ := h
  rcases h with ⟨rfl, c1⟩ | ⟨rfl, c1⟩
  · refine G_astoreNull_n dX11_street_8 rfl (by decide : 3 < 4) rfl ?_
    refine G_aloadNull_n dX11_street_9 rfl ?_
    refine G_ifnonnullZ dX11_street_10 ?_
    exact G_throw (is := 139) (i := 1) (tx := "no such street") rfl (by decide) dX11_street_13 dX11_street_16 dX11_street_17 dX11_street_19 dX11_street_22 ⟨by decide, by decide, by decide, by decide⟩
  · refine G_astore_n dX11_street_8 rfl (by decide : 3 < 4) rfl ?_
    refine G_aload_n dX11_street_9 rfl ?_
    refine G_ifnonnull (tgt := 23) dX11_street_10 (by decide) ?_
    refine G_iload_n dX11_street_23 rfl ?_
    refine G_tableOut (tgt := 156) dX11_street_24 rw0 (by omega) (by decide) ?_
    exact G_throw (is := 183) (i := 2) (tx := "no such what") rfl (by decide) dX11_street_156 dX11_street_159 dX11_street_160 dX11_street_162 dX11_street_165 ⟨by decide, by decide, by decide, by decide⟩
theorem cx_bin {E : Nat × (Nat → Int32)} {c : Mem} {s d b w : Int} (q1 : 0 ≤ c 9 1 ∧ c 9 1 ≤ 6) (rs : RI s) (rd : RI d) (rb : RI b) (rw0 : RI w) (r3 : 0 ≤ s ∧ s < c 9 1 → RI (c (11 + 2 * s.toNat) 3)) (bad : ¬ ((0 ≤ s ∧ s < c 9 1) ∧ (0 ≤ d ∧ d ≤ 1) ∧ (0 ≤ b ∧ b < c (11 + 2 * s.toNat) 3) ∧ (0 ≤ w ∧ w ≤ 3))) : CX E yX11_bin mx_bin [.ref 0, vi s, vi d, vi b, vi w] c := by
  refine CX_of (lv := [.ref 0, vi s, vi d, vi b, vi w, un, un]) (by decide) rfl rfl (Nat.le_of_ble_eq_true rfl) rfl ?_
  refine G_aload_n dX11_bin_0 rfl ?_
  refine G_getR (t := 9) dX11_bin_1 fl_11_33 (by decide) sh_0 rr_0_3 ?_
  refine G_iload_n dX11_bin_4 rfl ?_
  refine G_callVM (as := [vi s]) (ic_X10_at (Q := fun z m2 => c = m2 ∧ ((z = .null ∧ ¬ (0 ≤ s ∧ s < c 9 1)) ∨ (z = .ref (11 + 2 * s.toNat) ∧ 0 ≤ s ∧ s < c 9 1))) rfl q1 rs (fun c1 => ⟨rfl, Or.inr ⟨rfl, c1⟩⟩) (fun c1 => ⟨rfl, Or.inl ⟨rfl, c1⟩⟩)) dX11_bin_5 cv_11_133 im_X10_at sl_X10_at (by decide) sh_9 rfl rfl ⟨by decide, by decide⟩ rfl rfl ⟨Nat.zero_le _, Nat.zero_le _⟩ (by decide) ⟨Nat.le_refl _, by decide⟩ rfl (fun r m2 h => ?_)
  obtain ⟨z, rfl, rfl, h⟩ := h
  rcases h with ⟨rfl, c1⟩ | ⟨rfl, c1⟩
  · refine G_astoreNull dX11_bin_8 (by decide : 5 < 7) rfl ?_
    refine G_aloadNull dX11_bin_10 rfl ?_
    refine G_ifnullZ (tgt := 37) dX11_bin_12 (by decide) ?_
    exact G_throw (is := 185) (i := 3) (tx := "no such house") rfl (by decide) dX11_bin_37 dX11_bin_40 dX11_bin_41 dX11_bin_43 dX11_bin_46 ⟨by decide, by decide, by decide, by decide⟩
  · have hs := streetL_of c1.1 (Int.lt_of_lt_of_le c1.2 q1.2)
    refine G_astore dX11_bin_8 (by decide : 5 < 7) rfl ?_
    refine G_aload dX11_bin_10 rfl ?_
    refine G_ifnull dX11_bin_12 ?_
    refine G_iload_n dX11_bin_15 rfl ?_
    refine G_if_lt (tgt := 37) dX11_bin_16 (by decide) rd (fun c3 => G_throw (is := 185) (i := 3) (tx := "no such house") rfl (by decide) dX11_bin_37 dX11_bin_40 dX11_bin_41 dX11_bin_43 dX11_bin_46 ⟨by decide, by decide, by decide, by decide⟩) (fun c3 => ?_)
    refine G_iload_n dX11_bin_19 rfl ?_
    refine G_iconst (z := 1) dX11_bin_20 rfl ?_
    refine G_icmp_gt (tgt := 37) dX11_bin_21 (by decide) rd (by decide) (fun c4 => G_throw (is := 185) (i := 3) (tx := "no such house") rfl (by decide) dX11_bin_37 dX11_bin_40 dX11_bin_41 dX11_bin_43 dX11_bin_46 ⟨by decide, by decide, by decide, by decide⟩) (fun c4 => ?_)
    refine G_iload_n dX11_bin_24 rfl ?_
    refine G_if_lt (tgt := 37) dX11_bin_25 (by decide) rb (fun c5 => G_throw (is := 185) (i := 3) (tx := "no such house") rfl (by decide) dX11_bin_37 dX11_bin_40 dX11_bin_41 dX11_bin_43 dX11_bin_46 ⟨by decide, by decide, by decide, by decide⟩) (fun c5 => ?_)
    refine G_iload_n dX11_bin_28 rfl ?_
    refine G_aload dX11_bin_29 rfl ?_
    refine G_getI (z := c (11 + 2 * s.toNat) 3) dX11_bin_31 fl_11_149 (ltStreet0 hs) (shStreet0 hs) rfl ?_
    refine G_icmp_lt (tgt := 47) dX11_bin_34 (by decide) rb (r3 c1) (fun c6 => ?_) (fun c6 => G_throw (is := 185) (i := 3) (tx := "no such house") rfl (by decide) dX11_bin_37 dX11_bin_40 dX11_bin_41 dX11_bin_43 dX11_bin_46 ⟨by decide, by decide, by decide, by decide⟩)
    refine G_iload_n dX11_bin_47 rfl ?_
    refine G_bipush (z := 8) dX11_bin_48 rfl ?_
    refine G_imul dX11_bin_50 ?_
    refine G_iload_n dX11_bin_51 rfl ?_
    refine G_iadd dX11_bin_52 ?_
    refine G_istore dX11_bin_53 (by decide : 6 < 7) rfl ?_
    refine G_iload dX11_bin_55 rfl ?_
    refine G_tableOut (tgt := 163) dX11_bin_57 rw0 (by omega) (by decide) ?_
    exact G_throw (is := 183) (i := 2) (tx := "no such what") rfl (by decide) dX11_bin_163 dX11_bin_166 dX11_bin_167 dX11_bin_169 dX11_bin_172 ⟨by decide, by decide, by decide, by decide⟩
theorem cx_hill {E : Nat × (Nat → Int32)} {c : Mem} {s : Int} (q1 : 0 ≤ c 9 1 ∧ c 9 1 ≤ 6) (rs : RI s) (bad : ¬ (0 ≤ s ∧ s < c 9 1)) : CX E yX11_hill mx_hill [.ref 0, vi s] c := by
  refine CX_of (lv := [.ref 0, vi s, un, un]) (by decide) rfl rfl (Nat.le_of_ble_eq_true rfl) rfl ?_
  refine G_aload_n dX11_hill_0 rfl ?_
  refine G_getR (t := 9) dX11_hill_1 fl_11_33 (by decide) sh_0 rr_0_3 ?_
  refine G_iload_n dX11_hill_4 rfl ?_
  refine G_callVM (as := [vi s]) (ic_X10_at (Q := fun z m2 => c = m2 ∧ ((z = .null ∧ ¬ (0 ≤ s ∧ s < c 9 1)) ∨ (z = .ref (11 + 2 * s.toNat) ∧ 0 ≤ s ∧ s < c 9 1))) rfl q1 rs (fun c1 => ⟨rfl, Or.inr ⟨rfl, c1⟩⟩) (fun c1 => ⟨rfl, Or.inl ⟨rfl, c1⟩⟩)) dX11_hill_5 cv_11_133 im_X10_at sl_X10_at (by decide) sh_9 rfl rfl ⟨by decide, by decide⟩ rfl rfl ⟨Nat.zero_le _, Nat.zero_le _⟩ (by decide) ⟨Nat.le_refl _, by decide⟩ rfl (fun r m2 h => ?_)
  obtain ⟨z, rfl, rfl, h⟩ := h
  rcases h with ⟨rfl, c1⟩ | ⟨rfl, c1⟩
  · refine G_astoreNull_n dX11_hill_8 rfl (by decide : 2 < 4) rfl ?_
    refine G_aloadNull_n dX11_hill_9 rfl ?_
    refine G_ifnonnullZ dX11_hill_10 ?_
    exact G_throw (is := 139) (i := 1) (tx := "no such street") rfl (by decide) dX11_hill_13 dX11_hill_16 dX11_hill_17 dX11_hill_19 dX11_hill_22 ⟨by decide, by decide, by decide, by decide⟩
  · exact absurd c1 bad
theorem cx_row {E : Nat × (Nat → Int32)} {c : Mem} {i : Int} (q1 : RI (c 0 14)) (ri : RI i) (bad : ¬ (0 ≤ i ∧ i < c 0 14)) : CX E yX11_row mx_row [.ref 0, vi i] c := by
  refine CX_of (lv := [.ref 0, vi i]) (by decide) rfl rfl (Nat.le_of_ble_eq_true rfl) rfl ?_
  refine G_iload_n dX11_row_0 rfl ?_
  refine G_if_lt (tgt := 21) dX11_row_1 (by decide) ri (fun c1 => G_throwW (is := 468) (i := 4) (tx := "no such number of the row") rfl (by decide) dX11_row_21 dX11_row_24 dX11_row_25 dX11_row_28 dX11_row_31 ⟨by decide, by decide, by decide, by decide⟩) (fun c1 => ?_)
  refine G_iload_n dX11_row_4 rfl ?_
  refine G_aload_n dX11_row_5 rfl ?_
  refine G_getI (z := c 0 14) dX11_row_6 fl_11_465 (by decide) sh_0 rfl ?_
  refine G_icmp_ge (tgt := 21) dX11_row_9 (by decide) ri q1 (fun c2 => G_throwW (is := 468) (i := 4) (tx := "no such number of the row") rfl (by decide) dX11_row_21 dX11_row_24 dX11_row_25 dX11_row_28 dX11_row_31 ⟨by decide, by decide, by decide, by decide⟩) (fun c2 => ?_)
  exact absurd ⟨by omega, by omega⟩ bad
theorem hl_cl13 : Cond.classLink RL 13 NSE ∈ T0 := tw6 17 rfl (by decide +kernel)
def hh_street : List (Nat × Nat × Nat × Nat) := [(0, 10, 13, 13)]
theorem hl_street : Cond.methodLink RL 7 yX11_street ∈ T0 := tw6 18 rfl (by decide +kernel)
theorem hs_street : Cond.static yL_street ∈ T0 := tw6 15 rfl (by decide +kernel)
theorem hc_street : Cond.codeWith yL_street cL_street 5 (some .int) hh_street ∈ T0 := tw6 16 rfl (by decide +kernel)
def hh_bin : List (Nat × Nat × Nat × Nat) := [(0, 14, 17, 13)]
theorem hl_bin : Cond.methodLink RL 15 yX11_bin ∈ T0 := tw6 91 rfl (by decide +kernel)
theorem hs_bin : Cond.static yL_bin ∈ T0 := tw6 89 rfl (by decide +kernel)
theorem hc_bin : Cond.codeWith yL_bin cL_bin 7 (some .int) hh_bin ∈ T0 := tw6 90 rfl (by decide +kernel)
def hh_hill : List (Nat × Nat × Nat × Nat) := [(0, 9, 12, 13)]
theorem hl_hill : Cond.methodLink RL 19 yX11_hill ∈ T0 := tw6 106 rfl (by decide +kernel)
theorem hs_hill : Cond.static yL_hill ∈ T0 := tw6 104 rfl (by decide +kernel)
theorem hc_hill : Cond.codeWith yL_hill cL_hill 4 (some .int) hh_hill ∈ T0 := tw6 105 rfl (by decide +kernel)
def hh_row : List (Nat × Nat × Nat × Nat) := [(0, 8, 11, 13)]
theorem hl_row : Cond.methodLink RL 23 yX11_row ∈ T0 := tw6 113 rfl (by decide +kernel)
theorem hs_row : Cond.static yL_row ∈ T0 := tw6 111 rfl (by decide +kernel)
theorem hc_row : Cond.codeWith yL_row cL_row 4 (some .int) hh_row ∈ T0 := tw6 112 rfl (by decide +kernel)
