/-! the constructors that only lay: what they leave -/
theorem pd_0 : parseFieldDescriptor "[I" = some (.array .int) := by decide +kernel
theorem pk_0 : kdOf "[I" = 2 := by decide +kernel
theorem pd_1 : parseFieldDescriptor "[J" = some (.array .long) := by decide +kernel
theorem pk_1 : kdOf "[J" = 2 := by decide +kernel
theorem pd_2 : parseFieldDescriptor "[Z" = some (.array .boolean) := by decide +kernel
theorem pk_2 : kdOf "[Z" = 2 := by decide +kernel
theorem pd_3 : parseFieldDescriptor "LBinsBothSides$Text;" = some (.object "BinsBothSides$Text") := by decide +kernel
theorem pk_3 : kdOf "LBinsBothSides$Text;" = 2 := by decide +kernel
theorem pd_4 : parseFieldDescriptor "LBinsBothSides$Settings;" = some (.object "BinsBothSides$Settings") := by decide +kernel
theorem pk_4 : kdOf "LBinsBothSides$Settings;" = 2 := by decide +kernel
theorem pd_5 : parseFieldDescriptor "LBinsBothSides$Rule;" = some (.object "BinsBothSides$Rule") := by decide +kernel
theorem pk_5 : kdOf "LBinsBothSides$Rule;" = 2 := by decide +kernel
theorem pd_6 : parseFieldDescriptor "LBinsBothSides$Town;" = some (.object "BinsBothSides$Town") := by decide +kernel
theorem pk_6 : kdOf "LBinsBothSides$Town;" = 2 := by decide +kernel
theorem pd_7 : parseFieldDescriptor "LBinsBothSides$State;" = some (.object "BinsBothSides$State") := by decide +kernel
theorem pk_7 : kdOf "LBinsBothSides$State;" = 2 := by decide +kernel
theorem pd_8 : parseFieldDescriptor "LBinsBothSides$History;" = some (.object "BinsBothSides$History") := by decide +kernel
theorem pk_8 : kdOf "LBinsBothSides$History;" = 2 := by decide +kernel
theorem pd_9 : parseFieldDescriptor "LBinsBothSides$Loads;" = some (.object "BinsBothSides$Loads") := by decide +kernel
theorem pk_9 : kdOf "LBinsBothSides$Loads;" = 2 := by decide +kernel
theorem pd_10 : parseFieldDescriptor "LBinsBothSides$Job;" = some (.object "BinsBothSides$Job") := by decide +kernel
theorem pk_10 : kdOf "LBinsBothSides$Job;" = 2 := by decide +kernel
theorem pd_11 : parseFieldDescriptor "LBinsBothSides$Orders;" = some (.object "BinsBothSides$Orders") := by decide +kernel
theorem pk_11 : kdOf "LBinsBothSides$Orders;" = 2 := by decide +kernel
theorem pd_12 : parseFieldDescriptor "LBinsBothSides$Days;" = some (.object "BinsBothSides$Days") := by decide +kernel
theorem pk_12 : kdOf "LBinsBothSides$Days;" = 2 := by decide +kernel
theorem pd_13 : parseFieldDescriptor "[LBinsBothSides$Street;" = some (.array (.object "BinsBothSides$Street")) := by decide +kernel
theorem pk_13 : kdOf "[LBinsBothSides$Street;" = 2 := by decide +kernel
theorem pd_14 : parseFieldDescriptor "[LBinsBothSides$State;" = some (.array (.object "BinsBothSides$State")) := by decide +kernel
theorem pk_14 : kdOf "[LBinsBothSides$State;" = 2 := by decide +kernel
theorem pd_15 : parseFieldDescriptor "[LBinsBothSides$Job;" = some (.array (.object "BinsBothSides$Job")) := by decide +kernel
theorem pk_15 : kdOf "[LBinsBothSides$Job;" = 2 := by decide +kernel
def okL (nw : Nat) : List Value → Prop
  | [] => True
  | v :: vs => okv nw v ∧ okL nw vs
theorem okL_all {nw : Nat} : ∀ {l : List Value}, okL nw l → ∀ v ∈ l, okv nw v
  | v :: vs, h, w, hw => by
    rcases List.mem_cons.mp hw with rfl | hw
    · exact h.1
    · exact okL_all h.2 w hw
def lenS (k : Nat) : Nat := match SH[k]? with
  | some (.inl ci) => NFc ci
  | some (.inr tn) => tn.2
  | none => 0
def VO : List (Nat × List Int) := [(0, [1, 3, 5, 9, 23, 27, 93, 100, 106, 147, 153, 166, 167, 168, 0, 0]), (1, [2, 0, 0, 0]), (3, [4]), (5, [6, 0, 7, 0, 8, 0]), (9, [10, 0]), (27, [28, 29, 0]), (93, [9, 3, 94, 95, 0, 96, 97, 98, 99, 0]), (106, [9, 3, 107, 108, 109, 0, 0, 0, 0, 0, 0, 110, 0, 0, 0, 0]), (147, [9, 148, 149, 150, 0, 151, 152, 0, 0, 0, 0]), (169, [0, 0, 170, 0, 0, 171, 172, 173, 174, 175, 176, 177, 178, 179, 180, 181, 182, 0, 0, 0, 0, 183, 184, 0, 185, 186, 0, 0, 187, 188, 0, 0, 0, 0, 0, 0, 0, 0, 189, 0, 0, 190, 0, 191, 192, 193, 0, 0, 194, 0, 0, 195, 0, 196, 0, 197, 198, 199, 200, 0, 0, 0, 0, 201, 202, 203, 204, 0, 0, 205, 206, 207])]
def VA : List (Nat × List Int) := [(4, [100, 2, 0, 1, 30, 50, 480]), (10, [11, 13, 15, 17, 19, 21]), (28, [33, 37, 41, 45, 49, 53, 57, 61, 65, 69, 73, 77, 81, 85, 89]), (107, [111, 117, 123, 129, 135, 141]), (153, [154, 158, 162]), (166, [-1, -1, -1]), (179, [100, 2, 0, 1, 30, 50, 480])]
def VT (k : Nat) : List Int := match SH[k]? with
  | some (.inl 7) => [((k + 1 : Nat) : Int), ((k + 2 : Nat) : Int), ((k + 3 : Nat) : Int)]
  | some (.inl 8) => [(((k - 11) / 2 : Nat) : Int), ((k + 1 : Nat) : Int), 0, 0, 0, 0, 0, -1, -1]
  | some (.inl 2) => [3, 5, ((k + 1 : Nat) : Int), ((k + 2 : Nat) : Int), ((k + 3 : Nat) : Int), ((k + 4 : Nat) : Int), ((k + 5 : Nat) : Int), 1]
  | some (.inl _) => (VO.lookup k).getD []
  | some (.inr _) => (VA.lookup k).getD []
  | none => []
def V0 (k j : Nat) : Int := (VT k).getD j 0
def BtR (lo hi : Nat) (m : Mem) : Prop := ∀ k : Nat, lo ≤ k → k < hi → ∀ j : Nat, j < lenS k → m k (j : Int) = V0 k j
def PB (o hi : Nat) (mem : Mem) : Option Value → Nat → Mem → Prop := fun r n m => r = none ∧ n = hi ∧ (∀ k, k < o → m k = mem k) ∧ BtR o hi m
theorem BtR.app {a b c : Nat} {m : Mem} (h : BtR a b m) (h2 : BtR b c m) : BtR a c m := fun k h1 h3 j hj => by
  rcases Nat.lt_or_ge k b with q | q
  · exact h k h1 q j hj
  · exact h2 k q h3 j hj
theorem BtR.fr {a b : Nat} {m m' : Mem} (h : BtR a b m) (e : ∀ k, a ≤ k → k < b → m' k = m k) : BtR a b m' := fun k h1 h3 j hj => by rw [e k h1 h3]; exact h k h1 h3 j hj
theorem lenS_o {k ci : Nat} (h : SH[k]? = some (.inl ci)) : lenS k = NFc ci := by unfold lenS; rw [h]
theorem lenS_a {k t n : Nat} (h : SH[k]? = some (.inr (t, n))) : lenS k = n := by unfold lenS; rw [h]
theorem V7 {k : Nat} (h : SH[k]? = some (.inl 7)) (j : Nat) : V0 k j = [((k + 1 : Nat) : Int), ((k + 2 : Nat) : Int), ((k + 3 : Nat) : Int)].getD j 0 := by unfold V0 VT; rw [h]; rfl
theorem V8 {k : Nat} (h : SH[k]? = some (.inl 8)) (j : Nat) : V0 k j = [(((k - 11) / 2 : Nat) : Int), ((k + 1 : Nat) : Int), 0, 0, 0, 0, 0, -1, -1].getD j 0 := by unfold V0 VT; rw [h]; rfl
theorem V2 {k : Nat} (h : SH[k]? = some (.inl 2)) (j : Nat) : V0 k j = [3, 5, ((k + 1 : Nat) : Int), ((k + 2 : Nat) : Int), ((k + 3 : Nat) : Int), ((k + 4 : Nat) : Int), ((k + 5 : Nat) : Int), 1].getD j 0 := by unfold V0 VT; rw [h]; rfl
theorem VA0 {k t n : Nat} (h : SH[k]? = some (.inr (t, n))) (h2 : VA.lookup k = none) (j : Nat) : V0 k j = 0 := by unfold V0 VT; rw [h, h2]; rfl
theorem vaState1 : ∀ {o : Nat}, o ∈ stateL → VA.lookup (o + 1) = none := by decide +kernel
theorem vaState2 : ∀ {o : Nat}, o ∈ stateL → VA.lookup (o + 2) = none := by decide +kernel
theorem vaState3 : ∀ {o : Nat}, o ∈ stateL → VA.lookup (o + 3) = none := by decide +kernel
theorem vaStreet1 : ∀ {o : Nat}, o ∈ streetL → VA.lookup (o + 1) = none := by decide +kernel
theorem vaJob1 : ∀ {o : Nat}, o ∈ jobL → VA.lookup (o + 1) = none := by decide +kernel
theorem vaJob2 : ∀ {o : Nat}, o ∈ jobL → VA.lookup (o + 2) = none := by decide +kernel
theorem vaJob3 : ∀ {o : Nat}, o ∈ jobL → VA.lookup (o + 3) = none := by decide +kernel
theorem vaJob4 : ∀ {o : Nat}, o ∈ jobL → VA.lookup (o + 4) = none := by decide +kernel
theorem vaJob5 : ∀ {o : Nat}, o ∈ jobL → VA.lookup (o + 5) = none := by decide +kernel
theorem dz9 : ∀ j ∈ [1, 2, 3], dfl 9 ((j : Nat) : Int) = 0 := by decide +kernel
theorem dz5 : ∀ j ∈ [1, 3, 5], dfl 5 ((j : Nat) : Int) = 0 := by decide +kernel
theorem dz3 : ∀ j ∈ [4, 9], dfl 3 ((j : Nat) : Int) = 0 := by decide +kernel
theorem dz0 : ∀ j ∈ [4, 7, 8, 9, 10], dfl 0 ((j : Nat) : Int) = 0 := by decide +kernel
theorem dz12 : ∀ j ∈ [0, 1, 3, 4, 17, 18, 19, 20, 23, 26, 27, 30, 31, 32, 33, 34, 35, 36, 37, 39, 40, 42, 46, 47, 49, 50, 52, 54, 59, 60, 61, 62, 67, 68], dfl 12 ((j : Nat) : Int) = 0 := by decide +kernel
abbrev mi_7 : Mu := (cX7_init, 1, RX7, none, ⟨1, 3, 18, 40⟩, "<init>")
theorem ci_7 {E : Nat × (Nat → Int32)} {o : Nat} (ho : o ∈ stateL) {mem : Mem} : Ct ρ0 E yX7_init mi_7 (o + 1) [.ref o] (upr mem o (dfl 7)) (PB o (o + 4) mem) := by
  refine Ct_of (lv := [.ref o]) (by decide) rfl rfl (Nat.le_of_ble_eq_true rfl) rfl ?_
  refine G_aload_n dX7_init_0 rfl ?_
  refine G_objInit dX7_init_1 ml_7_3 ⟨by decide, by decide⟩ (by decide) ?_
  refine G_aload_n dX7_init_4 rfl ?_
  refine G_bipush (z := 6) dX7_init_5 rfl ?_
  refine G_newI (n := 6) (shState1 ho) rfl (by decide) dX7_init_7 (by omega) ⟨by decide, by decide⟩ (okL_all (And.intro (show (o : Nat) < o + 1 by omega) (And.intro (show (o : Nat) < o + 1 by omega) (trivial)))) ?_
  refine G_putFD dX7_init_9 fpf_7_9 rfl pd_0 rfl pk_0 (by omega) (shState0 ho) rfl (by omega) rfl ?_
  refine G_aload_n dX7_init_12 rfl ?_
  refine G_bipush (z := 6) dX7_init_13 rfl ?_
  refine G_newI (n := 6) (shState2 ho) rfl (by decide) dX7_init_15 (by omega) ⟨by decide, by decide⟩ (okL_all (And.intro (show (o : Nat) < o + 2 by omega) (And.intro (show (o : Nat) < o + 2 by omega) (trivial)))) ?_
  refine G_putFD dX7_init_17 fpf_7_15 rfl pd_0 rfl pk_0 (by omega) (shState0 ho) rfl (by omega) rfl ?_
  refine G_aload_n dX7_init_20 rfl ?_
  refine G_bipush (z := 6) dX7_init_21 rfl ?_
  refine G_newI (n := 6) (shState3 ho) rfl (by decide) dX7_init_23 (by omega) ⟨by decide, by decide⟩ (okL_all (And.intro (show (o : Nat) < o + 3 by omega) (And.intro (show (o : Nat) < o + 3 by omega) (trivial)))) ?_
  refine G_putFD dX7_init_25 fpf_7_18 rfl pd_0 rfl pk_0 (by omega) (shState0 ho) rfl (by omega) rfl ?_
  refine G_vret dX7_init_28 rfl (by decide) (by decide) (by omega) ⟨rfl, rfl, fun k hk => by rw [up2_k (by omega), upr_k (by omega), up2_k (by omega), upr_k (by omega), up2_k (by omega), upr_k (by omega), upr_k (by omega)], fun k h1 h2 j hj => ?_⟩
  have hk : k = o ∨ k = o + 1 ∨ k = o + 2 ∨ k = o + 3 := by omega
  rcases hk with e | e | e | e <;> rw [e] at hj ⊢
  · rw [lenS_o (shState0 ho)] at hj
    rw [V7 (shState0 ho)]
    have hj : j < 6 := hj
    match j, hj with
    | 0, _ => first | (rw [up2_j (by decide), upr_k (by omega), up2_j (by decide), upr_k (by omega), up2_same]; done) | (rw [up2_j (by decide), upr_k (by omega), up2_j (by decide), upr_k (by omega), up2_same]; rfl)
    | 1, _ => first | (rw [up2_j (by decide), upr_k (by omega), up2_same]; done) | (rw [up2_j (by decide), upr_k (by omega), up2_same]; rfl)
    | 2, _ => first | (rw [up2_same]; done) | (rw [up2_same]; rfl)
    | 3, _ => first | (rw [up2_j (by decide), upr_k (by omega), up2_j (by decide), upr_k (by omega), up2_j (by decide), upr_k (by omega), upr_same]; done) | (rw [up2_j (by decide), upr_k (by omega), up2_j (by decide), upr_k (by omega), up2_j (by decide), upr_k (by omega), upr_same]; rfl)
    | 4, _ => first | (rw [up2_j (by decide), upr_k (by omega), up2_j (by decide), upr_k (by omega), up2_j (by decide), upr_k (by omega), upr_same]; done) | (rw [up2_j (by decide), upr_k (by omega), up2_j (by decide), upr_k (by omega), up2_j (by decide), upr_k (by omega), upr_same]; rfl)
    | 5, _ => first | (rw [up2_j (by decide), upr_k (by omega), up2_j (by decide), upr_k (by omega), up2_j (by decide), upr_k (by omega), upr_same]; done) | (rw [up2_j (by decide), upr_k (by omega), up2_j (by decide), upr_k (by omega), up2_j (by decide), upr_k (by omega), upr_same]; rfl)
    | n + 6, h => omega
  · rw [lenS_a (shState1 ho)] at hj
    rw [VA0 (shState1 ho) (vaState1 ho), up2_k (by omega), upr_k (by omega), up2_k (by omega), upr_k (by omega), up2_k (by omega), upr_same]
  · rw [lenS_a (shState2 ho)] at hj
    rw [VA0 (shState2 ho) (vaState2 ho), up2_k (by omega), upr_k (by omega), up2_k (by omega), upr_same]
  · rw [lenS_a (shState3 ho)] at hj
    rw [VA0 (shState3 ho) (vaState3 ho), up2_k (by omega), upr_same]
abbrev mi_8 : Mu := (cX8_init, 2, RX8, none, ⟨1, 1, 16, 40⟩, "<init>")
theorem ci_8 {E : Nat × (Nat → Int32)} {o : Nat} {i : Int} (ho : o ∈ streetL) (hi : i = (((o - 11) / 2 : Nat) : Int)) {mem : Mem} : Ct ρ0 E yX8_init mi_8 (o + 1) [.ref o, vi i] (upr mem o (dfl 8)) (PB o (o + 2) mem) := by
  refine Ct_of (lv := [.ref o, vi i]) (by decide) rfl rfl (Nat.le_of_ble_eq_true rfl) rfl ?_
  refine G_aload_n dX8_init_0 rfl ?_
  refine G_objInit dX8_init_1 ml_8_3 ⟨by decide, by decide⟩ (by decide) ?_
  refine G_aload_n dX8_init_4 rfl ?_
  refine G_bipush (z := 16) dX8_init_5 rfl ?_
  refine G_newI (n := 16) (shStreet1 ho) rfl (by decide) dX8_init_7 (by omega) ⟨by decide, by decide⟩ (okL_all (And.intro (show (o : Nat) < o + 1 by omega) (And.intro trivial (And.intro (show (o : Nat) < o + 1 by omega) (trivial))))) ?_
  refine G_putFD dX8_init_9 fpf_8_9 rfl pd_0 rfl pk_0 (by omega) (shStreet0 ho) rfl (by omega) rfl ?_
  refine G_aload_n dX8_init_12 rfl ?_
  refine G_iconst (z := -1) dX8_init_13 rfl ?_
  refine G_putI dX8_init_14 fp_8_15 (by omega) (shStreet0 ho) rfl ?_
  refine G_aload_n dX8_init_17 rfl ?_
  refine G_iconst (z := -1) dX8_init_18 rfl ?_
  refine G_putI dX8_init_19 fp_8_19 (by omega) (shStreet0 ho) rfl ?_
  refine G_aload_n dX8_init_22 rfl ?_
  refine G_iload_n dX8_init_23 rfl ?_
  refine G_putFI dX8_init_24 fpf_8_22 rfl (by omega) (shStreet0 ho) rfl ?_
  refine G_vret dX8_init_27 rfl (by decide) (by decide) (by omega) ⟨rfl, rfl, fun k hk => by rw [up2_k (by omega), up2_k (by omega), up2_k (by omega), up2_k (by omega), upr_k (by omega), upr_k (by omega)], fun k h1 h2 j hj => ?_⟩
  have hk : k = o ∨ k = o + 1 := by omega
  rcases hk with e | e <;> rw [e] at hj ⊢
  · rw [lenS_o (shStreet0 ho)] at hj
    rw [V8 (shStreet0 ho)]
    have hj : j < 9 := hj
    match j, hj with
    | 0, _ => show up2 _ o (((0 : Nat) : Int)) i o (((0 : Nat) : Int)) = _; rw [up2_same]; exact hi
    | 1, _ => first | (rw [up2_j (by decide), up2_j (by decide), up2_j (by decide), up2_same]; done) | (rw [up2_j (by decide), up2_j (by decide), up2_j (by decide), up2_same]; rfl)
    | 2, _ => first | (rw [up2_j (by decide), up2_j (by decide), up2_j (by decide), up2_j (by decide), upr_k (by omega), upr_same]; done) | (rw [up2_j (by decide), up2_j (by decide), up2_j (by decide), up2_j (by decide), upr_k (by omega), upr_same]; rfl)
    | 3, _ => first | (rw [up2_j (by decide), up2_j (by decide), up2_j (by decide), up2_j (by decide), upr_k (by omega), upr_same]; done) | (rw [up2_j (by decide), up2_j (by decide), up2_j (by decide), up2_j (by decide), upr_k (by omega), upr_same]; rfl)
    | 4, _ => first | (rw [up2_j (by decide), up2_j (by decide), up2_j (by decide), up2_j (by decide), upr_k (by omega), upr_same]; done) | (rw [up2_j (by decide), up2_j (by decide), up2_j (by decide), up2_j (by decide), upr_k (by omega), upr_same]; rfl)
    | 5, _ => first | (rw [up2_j (by decide), up2_j (by decide), up2_j (by decide), up2_j (by decide), upr_k (by omega), upr_same]; done) | (rw [up2_j (by decide), up2_j (by decide), up2_j (by decide), up2_j (by decide), upr_k (by omega), upr_same]; rfl)
    | 6, _ => first | (rw [up2_j (by decide), up2_j (by decide), up2_j (by decide), up2_j (by decide), upr_k (by omega), upr_same]; done) | (rw [up2_j (by decide), up2_j (by decide), up2_j (by decide), up2_j (by decide), upr_k (by omega), upr_same]; rfl)
    | 7, _ => first | (rw [up2_j (by decide), up2_j (by decide), up2_same]; done) | (rw [up2_j (by decide), up2_j (by decide), up2_same]; rfl)
    | 8, _ => first | (rw [up2_j (by decide), up2_same]; done) | (rw [up2_j (by decide), up2_same]; rfl)
    | n + 9, h => omega
  · rw [lenS_a (shStreet1 ho)] at hj
    rw [VA0 (shStreet1 ho) (vaStreet1 ho), up2_k (by omega), up2_k (by omega), up2_k (by omega), up2_k (by omega), upr_same]
abbrev mi_2 : Mu := (cX2_init, 3, RX2, none, ⟨1, 5, 59, 40⟩, "<init>")
theorem ci_2 {E : Nat × (Nat → Int32)} {o : Nat} (ho : o ∈ jobL) {mem : Mem} : Ct ρ0 E yX2_init mi_2 (o + 1) [.ref o, .ref 3, .ref 5] (upr mem o (dfl 2)) (PB o (o + 6) mem) := by
  have h100 : 100 ≤ o := (by decide : ∀ o ∈ jobL, 100 ≤ o) o ho
  refine Ct_of (lv := [.ref o, .ref 3, .ref 5]) (by decide) rfl rfl (Nat.le_of_ble_eq_true rfl) rfl ?_
  refine G_aload_n dX2_init_0 rfl ?_
  refine G_objInit dX2_init_1 ml_2_3 ⟨by decide, by decide⟩ (by decide) ?_
  refine G_aload_n dX2_init_4 rfl ?_
  refine G_bipush (z := 8) dX2_init_5 rfl ?_
  refine G_newI (n := 8) (shJob1 ho) rfl (by decide) dX2_init_7 (by omega) ⟨by decide, by decide⟩ (okL_all (And.intro (show (o : Nat) < o + 1 by omega) (And.intro (show (3 : Nat) < o + 1 by omega) (And.intro (show (5 : Nat) < o + 1 by omega) (And.intro (show (o : Nat) < o + 1 by omega) (trivial)))))) ?_
  refine G_putFD dX2_init_9 fpf_2_11 rfl pd_0 rfl pk_0 (by omega) (shJob0 ho) rfl (by omega) rfl ?_
  refine G_aload_n dX2_init_12 rfl ?_
  refine G_bipush (z := 16) dX2_init_13 rfl ?_
  refine G_newI (n := 16) (shJob2 ho) rfl (by decide) dX2_init_15 (by omega) ⟨by decide, by decide⟩ (okL_all (And.intro (show (o : Nat) < o + 2 by omega) (And.intro (show (3 : Nat) < o + 2 by omega) (And.intro (show (5 : Nat) < o + 2 by omega) (And.intro (show (o : Nat) < o + 2 by omega) (trivial)))))) ?_
  refine G_putFD dX2_init_17 fpf_2_15 rfl pd_0 rfl pk_0 (by omega) (shJob0 ho) rfl (by omega) rfl ?_
  refine G_aload_n dX2_init_20 rfl ?_
  refine G_bipush (z := 16) dX2_init_21 rfl ?_
  refine G_newI (n := 16) (shJob3 ho) rfl (by decide) dX2_init_23 (by omega) ⟨by decide, by decide⟩ (okL_all (And.intro (show (o : Nat) < o + 3 by omega) (And.intro (show (3 : Nat) < o + 3 by omega) (And.intro (show (5 : Nat) < o + 3 by omega) (And.intro (show (o : Nat) < o + 3 by omega) (trivial)))))) ?_
  refine G_putFD dX2_init_25 fpf_2_18 rfl pd_0 rfl pk_0 (by omega) (shJob0 ho) rfl (by omega) rfl ?_
  refine G_aload_n dX2_init_28 rfl ?_
  refine G_bipush (z := 16) dX2_init_29 rfl ?_
  refine G_newI (n := 16) (shJob4 ho) rfl (by decide) dX2_init_31 (by omega) ⟨by decide, by decide⟩ (okL_all (And.intro (show (o : Nat) < o + 4 by omega) (And.intro (show (3 : Nat) < o + 4 by omega) (And.intro (show (5 : Nat) < o + 4 by omega) (And.intro (show (o : Nat) < o + 4 by omega) (trivial)))))) ?_
  refine G_putFD dX2_init_33 fpf_2_21 rfl pd_0 rfl pk_0 (by omega) (shJob0 ho) rfl (by omega) rfl ?_
  refine G_aload_n dX2_init_36 rfl ?_
  refine G_iconst (z := 3) dX2_init_37 rfl ?_
  refine G_newI (n := 3) (shJob5 ho) rfl (by decide) dX2_init_38 (by omega) ⟨by decide, by decide⟩ (okL_all (And.intro (show (o : Nat) < o + 5 by omega) (And.intro (show (3 : Nat) < o + 5 by omega) (And.intro (show (5 : Nat) < o + 5 by omega) (And.intro (show (o : Nat) < o + 5 by omega) (trivial)))))) ?_
  refine G_putFD dX2_init_40 fpf_2_24 rfl pd_0 rfl pk_0 (by omega) (shJob0 ho) rfl (by omega) rfl ?_
  refine G_aload_n dX2_init_43 rfl ?_
  refine G_iconst (z := 1) dX2_init_44 rfl ?_
  refine G_putI dX2_init_45 fp_2_27 (by omega) (shJob0 ho) rfl ?_
  refine G_aload_n dX2_init_48 rfl ?_
  refine G_aload_n dX2_init_49 rfl ?_
  refine G_putFD dX2_init_50 fpf_2_31 rfl pd_4 rfl pk_4 (by omega) (shJob0 ho) rfl (by omega) rfl ?_
  refine G_aload_n dX2_init_53 rfl ?_
  refine G_aload_n dX2_init_54 rfl ?_
  refine G_putFD dX2_init_55 fpf_2_35 rfl pd_5 rfl pk_5 (by omega) (shJob0 ho) rfl (by omega) rfl ?_
  refine G_vret dX2_init_58 rfl (by decide) (by decide) (by omega) ⟨rfl, rfl, fun k hk => by rw [up2_k (by omega), up2_k (by omega), up2_k (by omega), up2_k (by omega), upr_k (by omega), up2_k (by omega), upr_k (by omega), up2_k (by omega), upr_k (by omega), up2_k (by omega), upr_k (by omega), up2_k (by omega), upr_k (by omega), upr_k (by omega)], fun k h1 h2 j hj => ?_⟩
  have hk : k = o ∨ k = o + 1 ∨ k = o + 2 ∨ k = o + 3 ∨ k = o + 4 ∨ k = o + 5 := by omega
  rcases hk with e | e | e | e | e | e <;> rw [e] at hj ⊢
  · rw [lenS_o (shJob0 ho)] at hj
    rw [V2 (shJob0 ho)]
    have hj : j < 19 := hj
    match j, hj with
    | 0, _ => first | (rw [up2_j (by decide), up2_same]; done) | (rw [up2_j (by decide), up2_same]; rfl)
    | 1, _ => first | (rw [up2_same]; done) | (rw [up2_same]; rfl)
    | 2, _ => first | (rw [up2_j (by decide), up2_j (by decide), up2_j (by decide), up2_j (by decide), upr_k (by omega), up2_j (by decide), upr_k (by omega), up2_j (by decide), upr_k (by omega), up2_j (by decide), upr_k (by omega), up2_same]; done) | (rw [up2_j (by decide), up2_j (by decide), up2_j (by decide), up2_j (by decide), upr_k (by omega), up2_j (by decide), upr_k (by omega), up2_j (by decide), upr_k (by omega), up2_j (by decide), upr_k (by omega), up2_same]; rfl)
    | 3, _ => first | (rw [up2_j (by decide), up2_j (by decide), up2_j (by decide), up2_j (by decide), upr_k (by omega), up2_j (by decide), upr_k (by omega), up2_j (by decide), upr_k (by omega), up2_same]; done) | (rw [up2_j (by decide), up2_j (by decide), up2_j (by decide), up2_j (by decide), upr_k (by omega), up2_j (by decide), upr_k (by omega), up2_j (by decide), upr_k (by omega), up2_same]; rfl)
    | 4, _ => first | (rw [up2_j (by decide), up2_j (by decide), up2_j (by decide), up2_j (by decide), upr_k (by omega), up2_j (by decide), upr_k (by omega), up2_same]; done) | (rw [up2_j (by decide), up2_j (by decide), up2_j (by decide), up2_j (by decide), upr_k (by omega), up2_j (by decide), upr_k (by omega), up2_same]; rfl)
    | 5, _ => first | (rw [up2_j (by decide), up2_j (by decide), up2_j (by decide), up2_j (by decide), upr_k (by omega), up2_same]; done) | (rw [up2_j (by decide), up2_j (by decide), up2_j (by decide), up2_j (by decide), upr_k (by omega), up2_same]; rfl)
    | 6, _ => first | (rw [up2_j (by decide), up2_j (by decide), up2_j (by decide), up2_same]; done) | (rw [up2_j (by decide), up2_j (by decide), up2_j (by decide), up2_same]; rfl)
    | 7, _ => first | (rw [up2_j (by decide), up2_j (by decide), up2_same]; done) | (rw [up2_j (by decide), up2_j (by decide), up2_same]; rfl)
    | 8, _ => first | (rw [up2_j (by decide), up2_j (by decide), up2_j (by decide), up2_j (by decide), upr_k (by omega), up2_j (by decide), upr_k (by omega), up2_j (by decide), upr_k (by omega), up2_j (by decide), upr_k (by omega), up2_j (by decide), upr_k (by omega), upr_same]; done) | (rw [up2_j (by decide), up2_j (by decide), up2_j (by decide), up2_j (by decide), upr_k (by omega), up2_j (by decide), upr_k (by omega), up2_j (by decide), upr_k (by omega), up2_j (by decide), upr_k (by omega), up2_j (by decide), upr_k (by omega), upr_same]; rfl)
    | 9, _ => first | (rw [up2_j (by decide), up2_j (by decide), up2_j (by decide), up2_j (by decide), upr_k (by omega), up2_j (by decide), upr_k (by omega), up2_j (by decide), upr_k (by omega), up2_j (by decide), upr_k (by omega), up2_j (by decide), upr_k (by omega), upr_same]; done) | (rw [up2_j (by decide), up2_j (by decide), up2_j (by decide), up2_j (by decide), upr_k (by omega), up2_j (by decide), upr_k (by omega), up2_j (by decide), upr_k (by omega), up2_j (by decide), upr_k (by omega), up2_j (by decide), upr_k (by omega), upr_same]; rfl)
    | 10, _ => first | (rw [up2_j (by decide), up2_j (by decide), up2_j (by decide), up2_j (by decide), upr_k (by omega), up2_j (by decide), upr_k (by omega), up2_j (by decide), upr_k (by omega), up2_j (by decide), upr_k (by omega), up2_j (by decide), upr_k (by omega), upr_same]; done) | (rw [up2_j (by decide), up2_j (by decide), up2_j (by decide), up2_j (by decide), upr_k (by omega), up2_j (by decide), upr_k (by omega), up2_j (by decide), upr_k (by omega), up2_j (by decide), upr_k (by omega), up2_j (by decide), upr_k (by omega), upr_same]; rfl)
    | 11, _ => first | (rw [up2_j (by decide), up2_j (by decide), up2_j (by decide), up2_j (by decide), upr_k (by omega), up2_j (by decide), upr_k (by omega), up2_j (by decide), upr_k (by omega), up2_j (by decide), upr_k (by omega), up2_j (by decide), upr_k (by omega), upr_same]; done) | (rw [up2_j (by decide), up2_j (by decide), up2_j (by decide), up2_j (by decide), upr_k (by omega), up2_j (by decide), upr_k (by omega), up2_j (by decide), upr_k (by omega), up2_j (by decide), upr_k (by omega), up2_j (by decide), upr_k (by omega), upr_same]; rfl)
    | 12, _ => first | (rw [up2_j (by decide), up2_j (by decide), up2_j (by decide), up2_j (by decide), upr_k (by omega), up2_j (by decide), upr_k (by omega), up2_j (by decide), upr_k (by omega), up2_j (by decide), upr_k (by omega), up2_j (by decide), upr_k (by omega), upr_same]; done) | (rw [up2_j (by decide), up2_j (by decide), up2_j (by decide), up2_j (by decide), upr_k (by omega), up2_j (by decide), upr_k (by omega), up2_j (by decide), upr_k (by omega), up2_j (by decide), upr_k (by omega), up2_j (by decide), upr_k (by omega), upr_same]; rfl)
    | 13, _ => first | (rw [up2_j (by decide), up2_j (by decide), up2_j (by decide), up2_j (by decide), upr_k (by omega), up2_j (by decide), upr_k (by omega), up2_j (by decide), upr_k (by omega), up2_j (by decide), upr_k (by omega), up2_j (by decide), upr_k (by omega), upr_same]; done) | (rw [up2_j (by decide), up2_j (by decide), up2_j (by decide), up2_j (by decide), upr_k (by omega), up2_j (by decide), upr_k (by omega), up2_j (by decide), upr_k (by omega), up2_j (by decide), upr_k (by omega), up2_j (by decide), upr_k (by omega), upr_same]; rfl)
    | 14, _ => first | (rw [up2_j (by decide), up2_j (by decide), up2_j (by decide), up2_j (by decide), upr_k (by omega), up2_j (by decide), upr_k (by omega), up2_j (by decide), upr_k (by omega), up2_j (by decide), upr_k (by omega), up2_j (by decide), upr_k (by omega), upr_same]; done) | (rw [up2_j (by decide), up2_j (by decide), up2_j (by decide), up2_j (by decide), upr_k (by omega), up2_j (by decide), upr_k (by omega), up2_j (by decide), upr_k (by omega), up2_j (by decide), upr_k (by omega), up2_j (by decide), upr_k (by omega), upr_same]; rfl)
    | 15, _ => first | (rw [up2_j (by decide), up2_j (by decide), up2_j (by decide), up2_j (by decide), upr_k (by omega), up2_j (by decide), upr_k (by omega), up2_j (by decide), upr_k (by omega), up2_j (by decide), upr_k (by omega), up2_j (by decide), upr_k (by omega), upr_same]; done) | (rw [up2_j (by decide), up2_j (by decide), up2_j (by decide), up2_j (by decide), upr_k (by omega), up2_j (by decide), upr_k (by omega), up2_j (by decide), upr_k (by omega), up2_j (by decide), upr_k (by omega), up2_j (by decide), upr_k (by omega), upr_same]; rfl)
    | 16, _ => first | (rw [up2_j (by decide), up2_j (by decide), up2_j (by decide), up2_j (by decide), upr_k (by omega), up2_j (by decide), upr_k (by omega), up2_j (by decide), upr_k (by omega), up2_j (by decide), upr_k (by omega), up2_j (by decide), upr_k (by omega), upr_same]; done) | (rw [up2_j (by decide), up2_j (by decide), up2_j (by decide), up2_j (by decide), upr_k (by omega), up2_j (by decide), upr_k (by omega), up2_j (by decide), upr_k (by omega), up2_j (by decide), upr_k (by omega), up2_j (by decide), upr_k (by omega), upr_same]; rfl)
    | 17, _ => first | (rw [up2_j (by decide), up2_j (by decide), up2_j (by decide), up2_j (by decide), upr_k (by omega), up2_j (by decide), upr_k (by omega), up2_j (by decide), upr_k (by omega), up2_j (by decide), upr_k (by omega), up2_j (by decide), upr_k (by omega), upr_same]; done) | (rw [up2_j (by decide), up2_j (by decide), up2_j (by decide), up2_j (by decide), upr_k (by omega), up2_j (by decide), upr_k (by omega), up2_j (by decide), upr_k (by omega), up2_j (by decide), upr_k (by omega), up2_j (by decide), upr_k (by omega), upr_same]; rfl)
    | 18, _ => first | (rw [up2_j (by decide), up2_j (by decide), up2_j (by decide), up2_j (by decide), upr_k (by omega), up2_j (by decide), upr_k (by omega), up2_j (by decide), upr_k (by omega), up2_j (by decide), upr_k (by omega), up2_j (by decide), upr_k (by omega), upr_same]; done) | (rw [up2_j (by decide), up2_j (by decide), up2_j (by decide), up2_j (by decide), upr_k (by omega), up2_j (by decide), upr_k (by omega), up2_j (by decide), upr_k (by omega), up2_j (by decide), upr_k (by omega), up2_j (by decide), upr_k (by omega), upr_same]; rfl)
    | n + 19, h => omega
  · rw [lenS_a (shJob1 ho)] at hj
    rw [VA0 (shJob1 ho) (vaJob1 ho), up2_k (by omega), up2_k (by omega), up2_k (by omega), up2_k (by omega), upr_k (by omega), up2_k (by omega), upr_k (by omega), up2_k (by omega), upr_k (by omega), up2_k (by omega), upr_k (by omega), up2_k (by omega), upr_same]
  · rw [lenS_a (shJob2 ho)] at hj
    rw [VA0 (shJob2 ho) (vaJob2 ho), up2_k (by omega), up2_k (by omega), up2_k (by omega), up2_k (by omega), upr_k (by omega), up2_k (by omega), upr_k (by omega), up2_k (by omega), upr_k (by omega), up2_k (by omega), upr_same]
  · rw [lenS_a (shJob3 ho)] at hj
    rw [VA0 (shJob3 ho) (vaJob3 ho), up2_k (by omega), up2_k (by omega), up2_k (by omega), up2_k (by omega), upr_k (by omega), up2_k (by omega), upr_k (by omega), up2_k (by omega), upr_same]
  · rw [lenS_a (shJob4 ho)] at hj
    rw [VA0 (shJob4 ho) (vaJob4 ho), up2_k (by omega), up2_k (by omega), up2_k (by omega), up2_k (by omega), upr_k (by omega), up2_k (by omega), upr_same]
  · rw [lenS_a (shJob5 ho)] at hj
    rw [VA0 (shJob5 ho) (vaJob5 ho), up2_k (by omega), up2_k (by omega), up2_k (by omega), up2_k (by omega), upr_same]
abbrev mi_9 : Mu := (cX9_init, 1, RX9, none, ⟨1, 1, 80, 40⟩, "<init>")
theorem ci_9 {E : Nat × (Nat → Int32)} {mem : Mem} : Ct ρ0 E yX9_init mi_9 (2) [.ref 1] (upr mem 1 (dfl 9)) (PB 1 (3) mem) := by
  refine Ct_of (lv := [.ref 1]) (by decide) rfl rfl (Nat.le_of_ble_eq_true rfl) rfl ?_
  refine G_aload_n dX9_init_0 rfl ?_
  refine G_objInit dX9_init_1 ml_9_3 ⟨by decide, by decide⟩ (by decide) ?_
  refine G_aload_n dX9_init_4 rfl ?_
  refine G_bipush (z := 80) dX9_init_5 rfl ?_
  refine G_newI (n := 80) rfl rfl (by decide) dX9_init_7 (by omega) ⟨by decide, by decide⟩ (okL_all (And.intro (show (1 : Nat) < 2 by omega) (And.intro (show (1 : Nat) < 2 by omega) (trivial)))) ?_
  refine G_putFD dX9_init_9 fpf_9_9 rfl pd_0 rfl pk_0 (by omega) rfl rfl (by omega) rfl ?_
  refine G_vret dX9_init_12 rfl (by decide) (by decide) (by omega) ⟨rfl, rfl, fun k hk => by rw [up2_k (by omega), upr_k (by omega), upr_k (by omega)], fun k h1 h2 j hj => ?_⟩
  have hk : k = 1 ∨ k = 2 := by omega
  rcases hk with e | e <;> rw [e] at hj ⊢
  · have hj : j < 4 := hj
    match j, hj with
    | 0, _ => rfl
    | 1, _ => exact dz9 1 (by decide)
    | 2, _ => exact dz9 2 (by decide)
    | 3, _ => exact dz9 3 (by decide)
    | n + 4, h => omega
  · rfl
abbrev mi_6 : Mu := (cX6_init, 1, RX6, none, ⟨1, 1, 7, 40⟩, "<init>")
theorem ci_6 {E : Nat × (Nat → Int32)} {mem : Mem} : Ct ρ0 E yX6_init mi_6 (4) [.ref 3] (upr mem 3 (dfl 6)) (PB 3 (5) mem) := by
  refine Ct_of (lv := [.ref 3]) (by decide) rfl rfl (Nat.le_of_ble_eq_true rfl) rfl ?_
  refine G_aload_n dX6_init_0 rfl ?_
  refine G_objInit dX6_init_1 ml_6_3 ⟨by decide, by decide⟩ (by decide) ?_
  refine G_aload_n dX6_init_4 rfl ?_
  refine G_bipush (z := 7) dX6_init_5 rfl ?_
  refine G_newI (n := 7) rfl rfl (by decide) dX6_init_7 (by omega) ⟨by decide, by decide⟩ (okL_all (And.intro (show (3 : Nat) < 4 by omega) (And.intro (show (3 : Nat) < 4 by omega) (trivial)))) ?_
  refine G_dup dX6_init_9 (by decide) ?_
  refine G_iconst (z := 0) dX6_init_10 rfl ?_
  refine G_bipush (z := 100) dX6_init_11 rfl ?_
  refine G_iast dX6_init_13 (by omega) rfl (by decide) (by decide) (by decide) rfl ?_
  refine G_dup dX6_init_14 (by decide) ?_
  refine G_iconst (z := 1) dX6_init_15 rfl ?_
  refine G_iconst (z := 2) dX6_init_16 rfl ?_
  refine G_iast dX6_init_17 (by omega) rfl (by decide) (by decide) (by decide) rfl ?_
  refine G_dup dX6_init_18 (by decide) ?_
  refine G_iconst (z := 2) dX6_init_19 rfl ?_
  refine G_iconst (z := 0) dX6_init_20 rfl ?_
  refine G_iast dX6_init_21 (by omega) rfl (by decide) (by decide) (by decide) rfl ?_
  refine G_dup dX6_init_22 (by decide) ?_
  refine G_iconst (z := 3) dX6_init_23 rfl ?_
  refine G_iconst (z := 1) dX6_init_24 rfl ?_
  refine G_iast dX6_init_25 (by omega) rfl (by decide) (by decide) (by decide) rfl ?_
  refine G_dup dX6_init_26 (by decide) ?_
  refine G_iconst (z := 4) dX6_init_27 rfl ?_
  refine G_bipush (z := 30) dX6_init_28 rfl ?_
  refine G_iast dX6_init_30 (by omega) rfl (by decide) (by decide) (by decide) rfl ?_
  refine G_dup dX6_init_31 (by decide) ?_
  refine G_iconst (z := 5) dX6_init_32 rfl ?_
  refine G_bipush (z := 50) dX6_init_33 rfl ?_
  refine G_iast dX6_init_35 (by omega) rfl (by decide) (by decide) (by decide) rfl ?_
  refine G_dup dX6_init_36 (by decide) ?_
  refine G_bipush (z := 6) dX6_init_37 rfl ?_
  refine G_sipush (z := 480) dX6_init_39 rfl ?_
  refine G_iast dX6_init_42 (by omega) rfl (by decide) (by decide) (by decide) rfl ?_
  refine G_putFD dX6_init_43 fpf_6_9 rfl pd_0 rfl pk_0 (by omega) rfl rfl (by omega) rfl ?_
  refine G_vret dX6_init_46 rfl (by decide) (by decide) (by omega) ⟨rfl, rfl, fun k hk => by rw [up2_k (by omega), up2_k (by omega), up2_k (by omega), up2_k (by omega), up2_k (by omega), up2_k (by omega), up2_k (by omega), up2_k (by omega), upr_k (by omega), upr_k (by omega)], fun k h1 h2 j hj => ?_⟩
  have hk : k = 3 ∨ k = 4 := by omega
  rcases hk with e | e <;> rw [e] at hj ⊢
  · have hj : j < 1 := hj
    match j, hj with
    | 0, _ => rfl
    | n + 1, h => omega
  · have hj : j < 7 := hj
    match j, hj with
    | 0, _ => rfl
    | 1, _ => rfl
    | 2, _ => rfl
    | 3, _ => rfl
    | 4, _ => rfl
    | 5, _ => rfl
    | 6, _ => rfl
    | n + 7, h => omega
abbrev mi_5 : Mu := (cX5_init, 1, RX5, none, ⟨1, 3, 120, 40⟩, "<init>")
theorem ci_5 {E : Nat × (Nat → Int32)} {mem : Mem} : Ct ρ0 E yX5_init mi_5 (6) [.ref 5] (upr mem 5 (dfl 5)) (PB 5 (9) mem) := by
  refine Ct_of (lv := [.ref 5]) (by decide) rfl rfl (Nat.le_of_ble_eq_true rfl) rfl ?_
  refine G_aload_n dX5_init_0 rfl ?_
  refine G_objInit dX5_init_1 ml_5_3 ⟨by decide, by decide⟩ (by decide) ?_
  refine G_aload_n dX5_init_4 rfl ?_
  refine G_bipush (z := 40) dX5_init_5 rfl ?_
  refine G_newI (n := 40) rfl rfl (by decide) dX5_init_7 (by omega) ⟨by decide, by decide⟩ (okL_all (And.intro (show (5 : Nat) < 6 by omega) (And.intro (show (5 : Nat) < 6 by omega) (trivial)))) ?_
  refine G_putD dX5_init_9 fp_5_9 pd_0 rfl pk_0 (by omega) rfl rfl (by omega) rfl ?_
  refine G_aload_n dX5_init_12 rfl ?_
  refine G_bipush (z := 40) dX5_init_13 rfl ?_
  refine G_newI (n := 40) rfl rfl (by decide) dX5_init_15 (by omega) ⟨by decide, by decide⟩ (okL_all (And.intro (show (5 : Nat) < 7 by omega) (And.intro (show (5 : Nat) < 7 by omega) (trivial)))) ?_
  refine G_putD dX5_init_17 fp_5_15 pd_0 rfl pk_0 (by omega) rfl rfl (by omega) rfl ?_
  refine G_aload_n dX5_init_20 rfl ?_
  refine G_bipush (z := 40) dX5_init_21 rfl ?_
  refine G_newI (n := 40) rfl rfl (by decide) dX5_init_23 (by omega) ⟨by decide, by decide⟩ (okL_all (And.intro (show (5 : Nat) < 8 by omega) (And.intro (show (5 : Nat) < 8 by omega) (trivial)))) ?_
  refine G_putFD dX5_init_25 fpf_5_18 rfl pd_0 rfl pk_0 (by omega) rfl rfl (by omega) rfl ?_
  refine G_vret dX5_init_28 rfl (by decide) (by decide) (by omega) ⟨rfl, rfl, fun k hk => by rw [up2_k (by omega), upr_k (by omega), up2_k (by omega), upr_k (by omega), up2_k (by omega), upr_k (by omega), upr_k (by omega)], fun k h1 h2 j hj => ?_⟩
  have hk : k = 5 ∨ k = 6 ∨ k = 7 ∨ k = 8 := by omega
  rcases hk with e | e | e | e <;> rw [e] at hj ⊢
  · have hj : j < 6 := hj
    match j, hj with
    | 0, _ => rfl
    | 1, _ => exact dz5 1 (by decide)
    | 2, _ => rfl
    | 3, _ => exact dz5 3 (by decide)
    | 4, _ => rfl
    | 5, _ => exact dz5 5 (by decide)
    | n + 6, h => omega
  · rfl
  · rfl
  · rfl
abbrev mi_3 : Mu := (cX3_init, 3, RX3, none, ⟨1, 6, 48, 40⟩, "<init>")
theorem ci_3 {E : Nat × (Nat → Int32)} {mem : Mem} : Ct ρ0 E yX3_init mi_3 (94) [.ref 93, .ref 9, .ref 3] (upr mem 93 (dfl 3)) (PB 93 (100) mem) := by
  refine Ct_of (lv := [.ref 93, .ref 9, .ref 3]) (by decide) rfl rfl (Nat.le_of_ble_eq_true rfl) rfl ?_
  refine G_aload_n dX3_init_0 rfl ?_
  refine G_objInit dX3_init_1 ml_3_3 ⟨by decide, by decide⟩ (by decide) ?_
  refine G_aload_n dX3_init_4 rfl ?_
  refine G_bipush (z := 10) dX3_init_5 rfl ?_
  refine G_newI (n := 10) rfl rfl (by decide) dX3_init_7 (by omega) ⟨by decide, by decide⟩ (okL_all (And.intro (show (93 : Nat) < 94 by omega) (And.intro (show (9 : Nat) < 94 by omega) (And.intro (show (3 : Nat) < 94 by omega) (And.intro (show (93 : Nat) < 94 by omega) (trivial)))))) ?_
  refine G_putFD dX3_init_9 fpf_3_11 rfl pd_0 rfl pk_0 (by omega) rfl rfl (by omega) rfl ?_
  refine G_aload_n dX3_init_12 rfl ?_
  refine G_bipush (z := 10) dX3_init_13 rfl ?_
  refine G_newI (n := 10) rfl rfl (by decide) dX3_init_15 (by omega) ⟨by decide, by decide⟩ (okL_all (And.intro (show (93 : Nat) < 95 by omega) (And.intro (show (9 : Nat) < 95 by omega) (And.intro (show (3 : Nat) < 95 by omega) (And.intro (show (93 : Nat) < 95 by omega) (trivial)))))) ?_
  refine G_putFD dX3_init_17 fpf_3_15 rfl pd_0 rfl pk_0 (by omega) rfl rfl (by omega) rfl ?_
  refine G_aload_n dX3_init_20 rfl ?_
  refine G_bipush (z := 6) dX3_init_21 rfl ?_
  refine G_newI (n := 6) rfl rfl (by decide) dX3_init_23 (by omega) ⟨by decide, by decide⟩ (okL_all (And.intro (show (93 : Nat) < 96 by omega) (And.intro (show (9 : Nat) < 96 by omega) (And.intro (show (3 : Nat) < 96 by omega) (And.intro (show (93 : Nat) < 96 by omega) (trivial)))))) ?_
  refine G_putFD dX3_init_25 fpf_3_18 rfl pd_0 rfl pk_0 (by omega) rfl rfl (by omega) rfl ?_
  refine G_aload_n dX3_init_28 rfl ?_
  refine G_bipush (z := 10) dX3_init_29 rfl ?_
  refine G_newI (n := 10) rfl rfl (by decide) dX3_init_31 (by omega) ⟨by decide, by decide⟩ (okL_all (And.intro (show (93 : Nat) < 97 by omega) (And.intro (show (9 : Nat) < 97 by omega) (And.intro (show (3 : Nat) < 97 by omega) (And.intro (show (93 : Nat) < 97 by omega) (trivial)))))) ?_
  refine G_putFD dX3_init_33 fpf_3_21 rfl pd_0 rfl pk_0 (by omega) rfl rfl (by omega) rfl ?_
  refine G_aload_n dX3_init_36 rfl ?_
  refine G_bipush (z := 6) dX3_init_37 rfl ?_
  refine G_newI (n := 6) rfl rfl (by decide) dX3_init_39 (by omega) ⟨by decide, by decide⟩ (okL_all (And.intro (show (93 : Nat) < 98 by omega) (And.intro (show (9 : Nat) < 98 by omega) (And.intro (show (3 : Nat) < 98 by omega) (And.intro (show (93 : Nat) < 98 by omega) (trivial)))))) ?_
  refine G_putFD dX3_init_41 fpf_3_24 rfl pd_0 rfl pk_0 (by omega) rfl rfl (by omega) rfl ?_
  refine G_aload_n dX3_init_44 rfl ?_
  refine G_bipush (z := 6) dX3_init_45 rfl ?_
  refine G_newI (n := 6) rfl rfl (by decide) dX3_init_47 (by omega) ⟨by decide, by decide⟩ (okL_all (And.intro (show (93 : Nat) < 99 by omega) (And.intro (show (9 : Nat) < 99 by omega) (And.intro (show (3 : Nat) < 99 by omega) (And.intro (show (93 : Nat) < 99 by omega) (trivial)))))) ?_
  refine G_putFD dX3_init_49 fpf_3_27 rfl pd_0 rfl pk_0 (by omega) rfl rfl (by omega) rfl ?_
  refine G_aload_n dX3_init_52 rfl ?_
  refine G_aload_n dX3_init_53 rfl ?_
  refine G_putFD dX3_init_54 fpf_3_30 rfl pd_6 rfl pk_6 (by omega) rfl rfl (by omega) rfl ?_
  refine G_aload_n dX3_init_57 rfl ?_
  refine G_aload_n dX3_init_58 rfl ?_
  refine G_putFD dX3_init_59 fpf_3_34 rfl pd_4 rfl pk_4 (by omega) rfl rfl (by omega) rfl ?_
  refine G_vret dX3_init_62 rfl (by decide) (by decide) (by omega) ⟨rfl, rfl, fun k hk => by rw [up2_k (by omega), up2_k (by omega), up2_k (by omega), upr_k (by omega), up2_k (by omega), upr_k (by omega), up2_k (by omega), upr_k (by omega), up2_k (by omega), upr_k (by omega), up2_k (by omega), upr_k (by omega), up2_k (by omega), upr_k (by omega), upr_k (by omega)], fun k h1 h2 j hj => ?_⟩
  have hk : k = 93 ∨ k = 94 ∨ k = 95 ∨ k = 96 ∨ k = 97 ∨ k = 98 ∨ k = 99 := by omega
  rcases hk with e | e | e | e | e | e | e <;> rw [e] at hj ⊢
  · have hj : j < 10 := hj
    match j, hj with
    | 0, _ => rfl
    | 1, _ => rfl
    | 2, _ => rfl
    | 3, _ => rfl
    | 4, _ => exact dz3 4 (by decide)
    | 5, _ => rfl
    | 6, _ => rfl
    | 7, _ => rfl
    | 8, _ => rfl
    | 9, _ => exact dz3 9 (by decide)
    | n + 10, h => omega
  · rfl
  · rfl
  · rfl
  · rfl
  · rfl
  · rfl
abbrev mi_0 : Mu := (cX0_init, 2, RX0, none, ⟨1, 5, 31, 40⟩, "<init>")
theorem ci_0 {E : Nat × (Nat → Int32)} {mem : Mem} : Ct ρ0 E yX0_init mi_0 (148) [.ref 147, .ref 9] (upr mem 147 (dfl 0)) (PB 147 (153) mem) := by
  refine Ct_of (lv := [.ref 147, .ref 9]) (by decide) rfl rfl (Nat.le_of_ble_eq_true rfl) rfl ?_
  refine G_aload_n dX0_init_0 rfl ?_
  refine G_objInit dX0_init_1 ml_0_3 ⟨by decide, by decide⟩ (by decide) ?_
  refine G_aload_n dX0_init_4 rfl ?_
  refine G_bipush (z := 6) dX0_init_5 rfl ?_
  refine G_newI (n := 6) rfl rfl (by decide) dX0_init_7 (by omega) ⟨by decide, by decide⟩ (okL_all (And.intro (show (147 : Nat) < 148 by omega) (And.intro (show (9 : Nat) < 148 by omega) (And.intro (show (147 : Nat) < 148 by omega) (trivial))))) ?_
  refine G_putFD dX0_init_9 fpf_0_9 rfl pd_0 rfl pk_0 (by omega) rfl rfl (by omega) rfl ?_
  refine G_aload_n dX0_init_12 rfl ?_
  refine G_bipush (z := 7) dX0_init_13 rfl ?_
  refine G_newI (n := 7) rfl rfl (by decide) dX0_init_15 (by omega) ⟨by decide, by decide⟩ (okL_all (And.intro (show (147 : Nat) < 149 by omega) (And.intro (show (9 : Nat) < 149 by omega) (And.intro (show (147 : Nat) < 149 by omega) (trivial))))) ?_
  refine G_putFD dX0_init_17 fpf_0_15 rfl pd_0 rfl pk_0 (by omega) rfl rfl (by omega) rfl ?_
  refine G_aload_n dX0_init_20 rfl ?_
  refine G_bipush (z := 6) dX0_init_21 rfl ?_
  refine G_newI (n := 6) rfl rfl (by decide) dX0_init_23 (by omega) ⟨by decide, by decide⟩ (okL_all (And.intro (show (147 : Nat) < 150 by omega) (And.intro (show (9 : Nat) < 150 by omega) (And.intro (show (147 : Nat) < 150 by omega) (trivial))))) ?_
  refine G_putFD dX0_init_25 fpf_0_18 rfl pd_0 rfl pk_0 (by omega) rfl rfl (by omega) rfl ?_
  refine G_aload_n dX0_init_28 rfl ?_
  refine G_bipush (z := 6) dX0_init_29 rfl ?_
  refine G_newI (n := 6) rfl rfl (by decide) dX0_init_31 (by omega) ⟨by decide, by decide⟩ (okL_all (And.intro (show (147 : Nat) < 151 by omega) (And.intro (show (9 : Nat) < 151 by omega) (And.intro (show (147 : Nat) < 151 by omega) (trivial))))) ?_
  refine G_putFD dX0_init_33 fpf_0_21 rfl pd_0 rfl pk_0 (by omega) rfl rfl (by omega) rfl ?_
  refine G_aload_n dX0_init_36 rfl ?_
  refine G_bipush (z := 6) dX0_init_37 rfl ?_
  refine G_newI (n := 6) rfl rfl (by decide) dX0_init_39 (by omega) ⟨by decide, by decide⟩ (okL_all (And.intro (show (147 : Nat) < 152 by omega) (And.intro (show (9 : Nat) < 152 by omega) (And.intro (show (147 : Nat) < 152 by omega) (trivial))))) ?_
  refine G_putFD dX0_init_41 fpf_0_24 rfl pd_0 rfl pk_0 (by omega) rfl rfl (by omega) rfl ?_
  refine G_aload_n dX0_init_44 rfl ?_
  refine G_aload_n dX0_init_45 rfl ?_
  refine G_putFD dX0_init_46 fpf_0_27 rfl pd_6 rfl pk_6 (by omega) rfl rfl (by omega) rfl ?_
  refine G_vret dX0_init_49 rfl (by decide) (by decide) (by omega) ⟨rfl, rfl, fun k hk => by rw [up2_k (by omega), up2_k (by omega), upr_k (by omega), up2_k (by omega), upr_k (by omega), up2_k (by omega), upr_k (by omega), up2_k (by omega), upr_k (by omega), up2_k (by omega), upr_k (by omega), upr_k (by omega)], fun k h1 h2 j hj => ?_⟩
  have hk : k = 147 ∨ k = 148 ∨ k = 149 ∨ k = 150 ∨ k = 151 ∨ k = 152 := by omega
  rcases hk with e | e | e | e | e | e <;> rw [e] at hj ⊢
  · have hj : j < 11 := hj
    match j, hj with
    | 0, _ => rfl
    | 1, _ => rfl
    | 2, _ => rfl
    | 3, _ => rfl
    | 4, _ => exact dz0 4 (by decide)
    | 5, _ => rfl
    | 6, _ => rfl
    | 7, _ => exact dz0 7 (by decide)
    | 8, _ => exact dz0 8 (by decide)
    | 9, _ => exact dz0 9 (by decide)
    | 10, _ => exact dz0 10 (by decide)
    | n + 11, h => omega
  · rfl
  · rfl
  · rfl
  · rfl
  · rfl
