/-! the law's own methods that catch: their contracts -/
theorem G_i2lS {ρ : Rho} {E : Nat × (Nat → Int32)} {μ : Mu} {QQ : QF} {nw0 pc : Nat} {lv st : List Value} {nw k u : Nat} {mem : Mem} {a : Int} (hd : decode μ.cc pc = .ok (.i2l, 1)) (kk : G ρ E μ QQ nw0 (pc + 1) lv (vl ((iI a).toInt) :: st) nw k u mem) : G ρ E μ QQ nw0 pc lv (vi a :: st) nw k u mem := by
  have e : vi a = vi ((iI a).toInt) := congrArg Value.int (iI_of (iI a)).symm
  rw [e]
  exact G_i2l hd (iI_rng _) kk
theorem hx_street {E : Nat × (Nat → Int32)} {m : Mem} {s w : Int} {Q : Int → Mem → Prop} {ok : Prop} (hok : ok → K_X11_street E [.ref 0, vi s, vi w] m Q) (hbad : ¬ ok → CX E yX11_street mx_street [.ref 0, vi s, vi w] m) : CH E yL_street ml_street hh_street [.ref 0, vi s, vi w, .ref 208] m (fun r m' => (ok ∧ r = some (vi 0) ∧ ∃ z m1, Q z m1 ∧ m' = up2 m1 208 0 (iI z).toInt) ∨ (¬ ok ∧ r = some (vi 1) ∧ m' = m)) := by
  refine CH_of (lv := [.ref 0, vi s, vi w, .ref 208, un]) (by decide) rfl rfl (Nat.le_of_ble_eq_true rfl) rfl ?_
  by_cases k : ok
  · refine G_c ?_
    refine G_aload_n dL_street_0 rfl ?_
    refine G_iconst (z := 0) dL_street_1 rfl ?_
    refine G_aload_n dL_street_2 rfl ?_
    refine G_iload_n dL_street_3 rfl ?_
    refine G_iload_n dL_street_4 rfl ?_
    refine G_callVM (as := [vi s, vi w]) (hok k) dL_street_5 cv_L_7 im_X11_street sl_X11_street (by decide) sh_0 rfl rfl ⟨by decide, by decide⟩ rfl rfl ⟨Nat.zero_le _, Nat.zero_le _⟩ (Nat.le_of_ble_eq_true rfl) ⟨Nat.le_refl _, by decide⟩ rfl (fun r m1 h => ?_)
    obtain ⟨z, rfl, h⟩ := h
    refine G_i2lS dL_street_8 ?_
    refine G_last (a := 208) (n := 1) (i := 0) dL_street_9 (by decide) sh_208 (by decide) (by decide) (by decide) rfl ?_
    refine G_goto (tgt := 17) dL_street_10 (by decide) ?_
    refine G_iconst (z := 0) dL_street_17 rfl ?_
    exact G_iret dL_street_18 rfl (Nat.zero_le _) (Nat.zero_le _) (Nat.le_refl _) ⟨rfl, Or.inl ⟨k, rfl, z, m1, h, rfl⟩⟩
  · refine G_aload_n dL_street_0 rfl ?_
    refine G_iconst (z := 0) dL_street_1 rfl ?_
    refine G_aload_n dL_street_2 rfl ?_
    refine G_iload_n dL_street_3 rfl ?_
    refine G_iload_n dL_street_4 rfl ?_
    refine G_callX (as := [vi s, vi w]) (hpc := 13) (i := 4) (x := ⟨0, 10, 13, 13⟩) (hbad k) dL_street_5 hl_street cv_L_7 im_X11_street sl_X11_street (by decide) sh_0 rfl rfl ⟨by decide, by decide⟩ rfl rfl ⟨by decide, by decide⟩ (Nat.le_of_ble_eq_true rfl) rfl rfl (by decide) rfl rfl hl_cl13 dL_street_13 (by decide) rfl ?_
    refine G_c ?_
    refine G_iconst (z := 1) dL_street_15 rfl ?_
    exact G_iret dL_street_16 rfl (Nat.le_refl _) (Nat.le_refl _) (Nat.le_refl _) ⟨rfl, Or.inr ⟨k, rfl, rfl⟩⟩
theorem hx_bin {E : Nat × (Nat → Int32)} {m : Mem} {s d b w : Int} {Q : Int → Mem → Prop} {ok : Prop} (hok : ok → K_X11_bin E [.ref 0, vi s, vi d, vi b, vi w] m Q) (hbad : ¬ ok → CX E yX11_bin mx_bin [.ref 0, vi s, vi d, vi b, vi w] m) : CH E yL_bin ml_bin hh_bin [.ref 0, vi s, vi d, vi b, vi w, .ref 208] m (fun r m' => (ok ∧ r = some (vi 0) ∧ ∃ z m1, Q z m1 ∧ m' = up2 m1 208 0 (iI z).toInt) ∨ (¬ ok ∧ r = some (vi 1) ∧ m' = m)) := by
  refine CH_of (lv := [.ref 0, vi s, vi d, vi b, vi w, .ref 208, un]) (by decide) rfl rfl (Nat.le_of_ble_eq_true rfl) rfl ?_
  by_cases k : ok
  · refine G_c ?_
    refine G_aload dL_bin_0 rfl ?_
    refine G_iconst (z := 0) dL_bin_2 rfl ?_
    refine G_aload_n dL_bin_3 rfl ?_
    refine G_iload_n dL_bin_4 rfl ?_
    refine G_iload_n dL_bin_5 rfl ?_
    refine G_iload_n dL_bin_6 rfl ?_
    refine G_iload dL_bin_7 rfl ?_
    refine G_callVM (as := [vi s, vi d, vi b, vi w]) (hok k) dL_bin_9 cv_L_15 im_X11_bin sl_X11_bin (by decide) sh_0 rfl rfl ⟨by decide, by decide⟩ rfl rfl ⟨Nat.zero_le _, Nat.zero_le _⟩ (Nat.le_of_ble_eq_true rfl) ⟨Nat.le_refl _, by decide⟩ rfl (fun r m1 h => ?_)
    obtain ⟨z, rfl, h⟩ := h
    refine G_i2lS dL_bin_12 ?_
    refine G_last (a := 208) (n := 1) (i := 0) dL_bin_13 (by decide) sh_208 (by decide) (by decide) (by decide) rfl ?_
    refine G_goto (tgt := 21) dL_bin_14 (by decide) ?_
    refine G_iconst (z := 0) dL_bin_21 rfl ?_
    exact G_iret dL_bin_22 rfl (Nat.zero_le _) (Nat.zero_le _) (Nat.le_refl _) ⟨rfl, Or.inl ⟨k, rfl, z, m1, h, rfl⟩⟩
  · refine G_aload dL_bin_0 rfl ?_
    refine G_iconst (z := 0) dL_bin_2 rfl ?_
    refine G_aload_n dL_bin_3 rfl ?_
    refine G_iload_n dL_bin_4 rfl ?_
    refine G_iload_n dL_bin_5 rfl ?_
    refine G_iload_n dL_bin_6 rfl ?_
    refine G_iload dL_bin_7 rfl ?_
    refine G_callX (as := [vi s, vi d, vi b, vi w]) (hpc := 17) (i := 6) (x := ⟨0, 14, 17, 13⟩) (hbad k) dL_bin_9 hl_bin cv_L_15 im_X11_bin sl_X11_bin (by decide) sh_0 rfl rfl ⟨by decide, by decide⟩ rfl rfl ⟨by decide, by decide⟩ (Nat.le_of_ble_eq_true rfl) rfl rfl (by decide) rfl rfl hl_cl13 dL_bin_17 (by decide) rfl ?_
    refine G_c ?_
    refine G_iconst (z := 1) dL_bin_19 rfl ?_
    exact G_iret dL_bin_20 rfl (Nat.le_refl _) (Nat.le_refl _) (Nat.le_refl _) ⟨rfl, Or.inr ⟨k, rfl, rfl⟩⟩
theorem hx_hill {E : Nat × (Nat → Int32)} {m : Mem} {s : Int} {Q : Int → Mem → Prop} {ok : Prop} (hok : ok → K_X11_hill E [.ref 0, vi s] m Q) (hbad : ¬ ok → CX E yX11_hill mx_hill [.ref 0, vi s] m) : CH E yL_hill ml_hill hh_hill [.ref 0, vi s, .ref 208] m (fun r m' => (ok ∧ r = some (vi 0) ∧ ∃ z m1, Q z m1 ∧ m' = up2 m1 208 0 (iI z).toInt) ∨ (¬ ok ∧ r = some (vi 1) ∧ m' = m)) := by
  refine CH_of (lv := [.ref 0, vi s, .ref 208, un]) (by decide) rfl rfl (Nat.le_of_ble_eq_true rfl) rfl ?_
  by_cases k : ok
  · refine G_c ?_
    refine G_aload_n dL_hill_0 rfl ?_
    refine G_iconst (z := 0) dL_hill_1 rfl ?_
    refine G_aload_n dL_hill_2 rfl ?_
    refine G_iload_n dL_hill_3 rfl ?_
    refine G_callVM (as := [vi s]) (hok k) dL_hill_4 cv_L_19 im_X11_hill sl_X11_hill (by decide) sh_0 rfl rfl ⟨by decide, by decide⟩ rfl rfl ⟨Nat.zero_le _, Nat.zero_le _⟩ (Nat.le_of_ble_eq_true rfl) ⟨Nat.le_refl _, by decide⟩ rfl (fun r m1 h => ?_)
    obtain ⟨z, rfl, h⟩ := h
    refine G_i2lS dL_hill_7 ?_
    refine G_last (a := 208) (n := 1) (i := 0) dL_hill_8 (by decide) sh_208 (by decide) (by decide) (by decide) rfl ?_
    refine G_goto (tgt := 15) dL_hill_9 (by decide) ?_
    refine G_iconst (z := 0) dL_hill_15 rfl ?_
    exact G_iret dL_hill_16 rfl (Nat.zero_le _) (Nat.zero_le _) (Nat.le_refl _) ⟨rfl, Or.inl ⟨k, rfl, z, m1, h, rfl⟩⟩
  · refine G_aload_n dL_hill_0 rfl ?_
    refine G_iconst (z := 0) dL_hill_1 rfl ?_
    refine G_aload_n dL_hill_2 rfl ?_
    refine G_iload_n dL_hill_3 rfl ?_
    refine G_callXn (f := 3) (as := [vi s]) (hpc := 12) (i := 3) (x := ⟨0, 9, 12, 13⟩) (hbad k) dL_hill_4 hl_hill cv_L_19 im_X11_hill sl_X11_hill (by decide) sh_0 rfl rfl ⟨by decide, by decide⟩ rfl rfl ⟨by decide, by decide⟩ (Nat.le_of_ble_eq_true rfl) rfl rfl (by decide) rfl rfl hl_cl13 dL_hill_12 rfl (by decide) rfl ?_
    refine G_c ?_
    refine G_iconst (z := 1) dL_hill_13 rfl ?_
    exact G_iret dL_hill_14 rfl (Nat.le_refl _) (Nat.le_refl _) (Nat.le_refl _) ⟨rfl, Or.inr ⟨k, rfl, rfl⟩⟩
theorem hx_row {E : Nat × (Nat → Int32)} {m : Mem} {i : Int} {Q : Int → Mem → Prop} {ok : Prop} (hok : ok → K_X11_row E [.ref 0, vi i] m Q) (hbad : ¬ ok → CX E yX11_row mx_row [.ref 0, vi i] m) : CH E yL_row ml_row hh_row [.ref 0, vi i, .ref 208] m (fun r m' => (ok ∧ r = some (vi 0) ∧ ∃ z m1, Q z m1 ∧ m' = up2 m1 208 0 z) ∨ (¬ ok ∧ r = some (vi 1) ∧ m' = m)) := by
  refine CH_of (lv := [.ref 0, vi i, .ref 208, un]) (by decide) rfl rfl (Nat.le_of_ble_eq_true rfl) rfl ?_
  by_cases k : ok
  · refine G_c ?_
    refine G_aload_n dL_row_0 rfl ?_
    refine G_iconst (z := 0) dL_row_1 rfl ?_
    refine G_aload_n dL_row_2 rfl ?_
    refine G_iload_n dL_row_3 rfl ?_
    refine G_callVM (as := [vi i]) (hok k) dL_row_4 cv_L_23 im_X11_row sl_X11_row (by decide) sh_0 rfl rfl ⟨by decide, by decide⟩ rfl rfl ⟨Nat.zero_le _, Nat.zero_le _⟩ (Nat.le_of_ble_eq_true rfl) ⟨Nat.le_refl _, by decide⟩ rfl (fun r m1 h => ?_)
    obtain ⟨z, rfl, h⟩ := h
    refine G_last (a := 208) (n := 1) (i := 0) dL_row_7 (by decide) sh_208 (by decide) (by decide) (by decide) rfl ?_
    refine G_goto (tgt := 14) dL_row_8 (by decide) ?_
    refine G_iconst (z := 0) dL_row_14 rfl ?_
    exact G_iret dL_row_15 rfl (Nat.zero_le _) (Nat.zero_le _) (Nat.le_refl _) ⟨rfl, Or.inl ⟨k, rfl, z, m1, h, rfl⟩⟩
  · refine G_aload_n dL_row_0 rfl ?_
    refine G_iconst (z := 0) dL_row_1 rfl ?_
    refine G_aload_n dL_row_2 rfl ?_
    refine G_iload_n dL_row_3 rfl ?_
    refine G_callXn (f := 3) (as := [vi i]) (hpc := 11) (i := 3) (x := ⟨0, 8, 11, 13⟩) (hbad k) dL_row_4 hl_row cv_L_23 im_X11_row sl_X11_row (by decide) sh_0 rfl rfl ⟨by decide, by decide⟩ rfl rfl ⟨by decide, by decide⟩ (Nat.le_of_ble_eq_true rfl) rfl rfl (by decide) rfl rfl hl_cl13 dL_row_11 rfl (by decide) rfl ?_
    refine G_c ?_
    refine G_iconst (z := 1) dL_row_12 rfl ?_
    exact G_iret dL_row_13 rfl (Nat.le_refl _) (Nat.le_refl _) (Nat.le_refl _) ⟨rfl, Or.inr ⟨k, rfl, rfl⟩⟩
