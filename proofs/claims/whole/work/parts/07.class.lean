def FL (own : String) (idx ci j q : Nat) : Prop := ∃ r : vw_C, vwCl[ci]? = some r ∧ j < r.2.2 ∧ kd ci j = q ∧ (Cond.fieldLink own idx (r.2.1 j).1 (r.2.1 j).2.1 (r.2.1 j).2.2.1 ∈ T0 ∨ ∃ host, Cond.fieldLinkNest own idx (r.2.1 j).1 (r.2.1 j).2.1 (r.2.1 j).2.2.1 host ∈ T0)
def FP (own : String) (idx ci j : Nat) (ds : String) : Prop := ∃ r : vw_C, vwCl[ci]? = some r ∧ j < r.2.2 ∧ (r.2.1 j).2.2.1 = ds ∧ (r.2.1 j).2.2.2 = false ∧ (Cond.fieldLink own idx (r.2.1 j).1 (r.2.1 j).2.1 (r.2.1 j).2.2.1 ∈ T0 ∨ ∃ host, Cond.fieldLinkNest own idx (r.2.1 j).1 (r.2.1 j).2.1 (r.2.1 j).2.2.1 host ∈ T0)
def FPF (own : String) (idx ci j : Nat) (ds : String) : Prop := ∃ r : vw_C, vwCl[ci]? = some r ∧ j < r.2.2 ∧ (r.2.1 j).2.2.1 = ds ∧ (r.2.1 j).2.2.2 = true ∧ (r.2.1 j).1 = own ∧ Cond.fieldLink own idx (r.2.1 j).1 (r.2.1 j).2.1 (r.2.1 j).2.2.1 ∈ T0
def CK (r : vw_C) : Prop := (∀ w ∈ u_ws r.1 r.2.1 r.2.2, w ∈ T0) ∧ (∃ ty0 : Nat → FieldType, ∀ k, k < r.2.2 → parseFieldDescriptor (r.2.1 k).2.2.1 = some (ty0 k)) ∧ (∀ a, a < r.2.2 → ∀ b, b < r.2.2 → a ≠ b → (r.2.1 a).2.1 ≠ (r.2.1 b).2.1)
theorem CK0 : CK (RX0, TX0, 11) := ⟨fun w h => T0_of ((by decide +kernel : ∀ w ∈ u_ws RX0 TX0 11, w ∈ lw_tbl) w h) ((by decide +kernel : ∀ w ∈ u_ws RX0 TX0 11, goodWord w = true) w h), ⟨tyX0, tyX0_ok⟩, nmX0⟩
theorem CK1 : CK (RX1, TX1, 3) := ⟨fun w h => T0_of ((by decide +kernel : ∀ w ∈ u_ws RX1 TX1 3, w ∈ lw_tbl) w h) ((by decide +kernel : ∀ w ∈ u_ws RX1 TX1 3, goodWord w = true) w h), ⟨tyX1, tyX1_ok⟩, nmX1⟩
theorem CK2 : CK (RX2, TX2, 19) := ⟨fun w h => T0_of ((by decide +kernel : ∀ w ∈ u_ws RX2 TX2 19, w ∈ lw_tbl) w h) ((by decide +kernel : ∀ w ∈ u_ws RX2 TX2 19, goodWord w = true) w h), ⟨tyX2, tyX2_ok⟩, nmX2⟩
theorem CK3 : CK (RX3, TX3, 10) := ⟨fun w h => T0_of ((by decide +kernel : ∀ w ∈ u_ws RX3 TX3 10, w ∈ lw_tbl) w h) ((by decide +kernel : ∀ w ∈ u_ws RX3 TX3 10, goodWord w = true) w h), ⟨tyX3, tyX3_ok⟩, nmX3⟩
theorem CK4 : CK (RX4, TX4, 16) := ⟨fun w h => T0_of ((by decide +kernel : ∀ w ∈ u_ws RX4 TX4 16, w ∈ lw_tbl) w h) ((by decide +kernel : ∀ w ∈ u_ws RX4 TX4 16, goodWord w = true) w h), ⟨tyX4, tyX4_ok⟩, nmX4⟩
theorem CK5 : CK (RX5, TX5, 6) := ⟨fun w h => T0_of ((by decide +kernel : ∀ w ∈ u_ws RX5 TX5 6, w ∈ lw_tbl) w h) ((by decide +kernel : ∀ w ∈ u_ws RX5 TX5 6, goodWord w = true) w h), ⟨tyX5, tyX5_ok⟩, nmX5⟩
theorem CK6 : CK (RX6, TX6, 1) := ⟨fun w h => T0_of ((by decide +kernel : ∀ w ∈ u_ws RX6 TX6 1, w ∈ lw_tbl) w h) ((by decide +kernel : ∀ w ∈ u_ws RX6 TX6 1, goodWord w = true) w h), ⟨tyX6, tyX6_ok⟩, nmX6⟩
theorem CK7 : CK (RX7, TX7, 6) := ⟨fun w h => T0_of ((by decide +kernel : ∀ w ∈ u_ws RX7 TX7 6, w ∈ lw_tbl) w h) ((by decide +kernel : ∀ w ∈ u_ws RX7 TX7 6, goodWord w = true) w h), ⟨tyX7, tyX7_ok⟩, nmX7⟩
theorem CK8 : CK (RX8, TX8, 9) := ⟨fun w h => T0_of ((by decide +kernel : ∀ w ∈ u_ws RX8 TX8 9, w ∈ lw_tbl) w h) ((by decide +kernel : ∀ w ∈ u_ws RX8 TX8 9, goodWord w = true) w h), ⟨tyX8, tyX8_ok⟩, nmX8⟩
theorem CK9 : CK (RX9, TX9, 4) := ⟨fun w h => T0_of ((by decide +kernel : ∀ w ∈ u_ws RX9 TX9 4, w ∈ lw_tbl) w h) ((by decide +kernel : ∀ w ∈ u_ws RX9 TX9 4, goodWord w = true) w h), ⟨tyX9, tyX9_ok⟩, nmX9⟩
theorem CK10 : CK (RX10, TX10, 2) := ⟨fun w h => T0_of ((by decide +kernel : ∀ w ∈ u_ws RX10 TX10 2, w ∈ lw_tbl) w h) ((by decide +kernel : ∀ w ∈ u_ws RX10 TX10 2, goodWord w = true) w h), ⟨tyX10, tyX10_ok⟩, nmX10⟩
theorem CK11 : CK (RX11, TX11, 16) := ⟨fun w h => T0_of ((by decide +kernel : ∀ w ∈ u_ws RX11 TX11 16, w ∈ lw_tbl) w h) ((by decide +kernel : ∀ w ∈ u_ws RX11 TX11 16, goodWord w = true) w h), ⟨tyX11, tyX11_ok⟩, nmX11⟩
theorem CK12 : CK (RX12, TX12, 72) := ⟨fun w h => T0_of ((by decide +kernel : ∀ w ∈ u_ws RX12 TX12 72, w ∈ lw_tbl) w h) ((by decide +kernel : ∀ w ∈ u_ws RX12 TX12 72, goodWord w = true) w h), ⟨tyX12, tyX12_ok⟩, nmX12⟩
theorem CKall {ci : Nat} {r : vw_C} (h : vwCl[ci]? = some r) : CK r := by
  match ci, h with
  | 0, h => cases h; exact CK0
  | 1, h => cases h; exact CK1
  | 2, h => cases h; exact CK2
  | 3, h => cases h; exact CK3
  | 4, h => cases h; exact CK4
  | 5, h => cases h; exact CK5
  | 6, h => cases h; exact CK6
  | 7, h => cases h; exact CK7
  | 8, h => cases h; exact CK8
  | 9, h => cases h; exact CK9
  | 10, h => cases h; exact CK10
  | 11, h => cases h; exact CK11
  | 12, h => cases h; exact CK12
  | n + 13, h => simp [vwCl] at h
