def rtab : List (Nat × Nat × Nat) := [(0, 0, 1), (0, 1, 3), (0, 2, 5), (0, 3, 9), (0, 4, 23), (0, 5, 27), (0, 6, 93), (0, 7, 100), (0, 8, 106), (0, 9, 147), (0, 10, 153), (0, 11, 166), (0, 12, 167), (0, 13, 168), (1, 0, 2), (3, 0, 4), (5, 4, 8), (9, 0, 10), (11, 1, 12), (13, 1, 14), (15, 1, 16), (17, 1, 18), (19, 1, 20), (21, 1, 22), (23, 0, 24), (23, 1, 25), (23, 2, 26), (27, 0, 28), (27, 1, 29), (29, 0, 30), (29, 1, 31), (29, 2, 32), (33, 0, 34), (33, 1, 35), (33, 2, 36), (37, 0, 38), (37, 1, 39), (37, 2, 40), (41, 0, 42), (41, 1, 43), (41, 2, 44), (45, 0, 46), (45, 1, 47), (45, 2, 48), (49, 0, 50), (49, 1, 51), (49, 2, 52), (53, 0, 54), (53, 1, 55), (53, 2, 56), (57, 0, 58), (57, 1, 59), (57, 2, 60), (61, 0, 62), (61, 1, 63), (61, 2, 64), (65, 0, 66), (65, 1, 67), (65, 2, 68), (69, 0, 70), (69, 1, 71), (69, 2, 72), (73, 0, 74), (73, 1, 75), (73, 2, 76), (77, 0, 78), (77, 1, 79), (77, 2, 80), (81, 0, 82), (81, 1, 83), (81, 2, 84), (85, 0, 86), (85, 1, 87), (85, 2, 88), (89, 0, 90), (89, 1, 91), (89, 2, 92), (93, 0, 9), (93, 1, 3), (93, 2, 94), (93, 3, 95), (93, 5, 96), (93, 6, 97), (93, 7, 98), (93, 8, 99), (100, 0, 3), (100, 1, 5), (100, 2, 101), (100, 3, 102), (100, 4, 103), (100, 5, 104), (100, 6, 105), (106, 0, 9), (106, 1, 3), (106, 2, 107), (106, 3, 108), (106, 4, 109), (106, 11, 110), (111, 0, 3), (111, 1, 5), (111, 2, 112), (111, 3, 113), (111, 4, 114), (111, 5, 115), (111, 6, 116), (117, 0, 3), (117, 1, 5), (117, 2, 118), (117, 3, 119), (117, 4, 120), (117, 5, 121), (117, 6, 122), (123, 0, 3), (123, 1, 5), (123, 2, 124), (123, 3, 125), (123, 4, 126), (123, 5, 127), (123, 6, 128), (129, 0, 3), (129, 1, 5), (129, 2, 130), (129, 3, 131), (129, 4, 132), (129, 5, 133), (129, 6, 134), (135, 0, 3), (135, 1, 5), (135, 2, 136), (135, 3, 137), (135, 4, 138), (135, 5, 139), (135, 6, 140), (141, 0, 3), (141, 1, 5), (141, 2, 142), (141, 3, 143), (141, 4, 144), (141, 5, 145), (141, 6, 146), (147, 0, 9), (147, 1, 148), (147, 2, 149), (147, 3, 150), (147, 5, 151), (147, 6, 152), (154, 0, 155), (154, 1, 156), (154, 2, 157), (158, 0, 159), (158, 1, 160), (158, 2, 161), (162, 0, 163), (162, 1, 164), (162, 2, 165), (169, 2, 170), (169, 5, 171), (169, 6, 172), (169, 7, 173), (169, 8, 174), (169, 9, 175), (169, 10, 176), (169, 11, 177), (169, 12, 178), (169, 13, 179), (169, 14, 180), (169, 15, 181), (169, 16, 182), (169, 21, 183), (169, 22, 184), (169, 24, 185), (169, 25, 186), (169, 28, 187), (169, 29, 188), (169, 38, 189), (169, 41, 190), (169, 43, 191), (169, 44, 192), (169, 45, 193), (169, 48, 194), (169, 51, 195), (169, 53, 196), (169, 55, 197), (169, 56, 198), (169, 57, 199), (169, 58, 200), (169, 63, 201), (169, 64, 202), (169, 65, 203), (169, 66, 204), (169, 69, 205), (169, 70, 206), (169, 71, 207)]
/-- references that never change once all is made -/
def ρM : Rho := fun k j => if k = 28 then none else if k = 10 then (if 0 ≤ j ∧ j < 6 then some (11 + 2 * j.toNat) else none) else if k = 107 then (if 0 ≤ j ∧ j < 6 then some (111 + 6 * j.toNat) else none) else if k = 153 then (if 0 ≤ j ∧ j < 3 then some (154 + 4 * j.toNat) else none) else (rtab.find? (fun q => decide (q.1 = k ∧ (q.2.1 : Int) = j))).map (fun q => q.2.2)
theorem rn_28 (j : Int) : ρM 28 j = none := rfl
theorem rr_streets {j : Int} (h0 : 0 ≤ j) (h1 : j < 6) : ρM 10 j = some (11 + 2 * j.toNat) := by
  show (if 0 ≤ j ∧ j < 6 then some (11 + 2 * j.toNat) else none) = _
  rw [if_pos ⟨h0, h1⟩]
theorem rr_jobs {j : Int} (h0 : 0 ≤ j) (h1 : j < 6) : ρM 107 j = some (111 + 6 * j.toNat) := by
  show (if 0 ≤ j ∧ j < 6 then some (111 + 6 * j.toNat) else none) = _
  rw [if_pos ⟨h0, h1⟩]
theorem rr_kept {j : Int} (h0 : 0 ≤ j) (h1 : j < 3) : ρM 153 j = some (154 + 4 * j.toNat) := by
  show (if 0 ≤ j ∧ j < 3 then some (154 + 4 * j.toNat) else none) = _
  rw [if_pos ⟨h0, h1⟩]
theorem sh_0 : SH[0]? = some (.inl 11) := rfl
theorem sh_1 : SH[1]? = some (.inl 9) := rfl
theorem sh_2 : SH[2]? = some (.inr (0, 80)) := rfl
theorem sh_3 : SH[3]? = some (.inl 6) := rfl
theorem sh_4 : SH[4]? = some (.inr (0, 7)) := rfl
theorem sh_5 : SH[5]? = some (.inl 5) := rfl
theorem sh_6 : SH[6]? = some (.inr (0, 40)) := rfl
theorem sh_7 : SH[7]? = some (.inr (0, 40)) := rfl
theorem sh_8 : SH[8]? = some (.inr (0, 40)) := rfl
theorem sh_9 : SH[9]? = some (.inl 10) := rfl
theorem sh_10 : SH[10]? = some (.inr (3, 6)) := rfl
theorem sh_23 : SH[23]? = some (.inl 7) := rfl
theorem sh_24 : SH[24]? = some (.inr (0, 6)) := rfl
theorem sh_25 : SH[25]? = some (.inr (0, 6)) := rfl
theorem sh_26 : SH[26]? = some (.inr (0, 6)) := rfl
theorem sh_27 : SH[27]? = some (.inl 1) := rfl
theorem sh_28 : SH[28]? = some (.inr (4, 15)) := rfl
theorem sh_93 : SH[93]? = some (.inl 3) := rfl
theorem sh_94 : SH[94]? = some (.inr (0, 10)) := rfl
theorem sh_95 : SH[95]? = some (.inr (0, 10)) := rfl
theorem sh_96 : SH[96]? = some (.inr (0, 6)) := rfl
theorem sh_97 : SH[97]? = some (.inr (0, 10)) := rfl
theorem sh_98 : SH[98]? = some (.inr (0, 6)) := rfl
theorem sh_99 : SH[99]? = some (.inr (0, 6)) := rfl
theorem sh_100 : SH[100]? = some (.inl 2) := rfl
theorem sh_101 : SH[101]? = some (.inr (0, 8)) := rfl
theorem sh_102 : SH[102]? = some (.inr (0, 16)) := rfl
theorem sh_103 : SH[103]? = some (.inr (0, 16)) := rfl
theorem sh_104 : SH[104]? = some (.inr (0, 16)) := rfl
theorem sh_105 : SH[105]? = some (.inr (0, 3)) := rfl
theorem sh_106 : SH[106]? = some (.inl 4) := rfl
theorem sh_107 : SH[107]? = some (.inr (5, 6)) := rfl
theorem sh_108 : SH[108]? = some (.inr (0, 6)) := rfl
theorem sh_109 : SH[109]? = some (.inr (0, 6)) := rfl
theorem sh_110 : SH[110]? = some (.inr (0, 6)) := rfl
theorem sh_147 : SH[147]? = some (.inl 0) := rfl
theorem sh_148 : SH[148]? = some (.inr (0, 6)) := rfl
theorem sh_149 : SH[149]? = some (.inr (0, 7)) := rfl
theorem sh_150 : SH[150]? = some (.inr (0, 6)) := rfl
theorem sh_151 : SH[151]? = some (.inr (0, 6)) := rfl
theorem sh_152 : SH[152]? = some (.inr (0, 6)) := rfl
theorem sh_153 : SH[153]? = some (.inr (4, 3)) := rfl
theorem sh_166 : SH[166]? = some (.inr (0, 3)) := rfl
theorem sh_167 : SH[167]? = some (.inr (0, 30)) := rfl
theorem sh_168 : SH[168]? = some (.inr (2, 6)) := rfl
theorem sh_169 : SH[169]? = some (.inl 12) := rfl
theorem sh_170 : SH[170]? = some (.inr (2, 24)) := rfl
theorem sh_171 : SH[171]? = some (.inr (0, 6)) := rfl
theorem sh_172 : SH[172]? = some (.inr (0, 6)) := rfl
theorem sh_173 : SH[173]? = some (.inr (0, 6)) := rfl
theorem sh_174 : SH[174]? = some (.inr (1, 6)) := rfl
theorem sh_175 : SH[175]? = some (.inr (0, 6)) := rfl
theorem sh_176 : SH[176]? = some (.inr (0, 6)) := rfl
theorem sh_177 : SH[177]? = some (.inr (0, 6)) := rfl
theorem sh_178 : SH[178]? = some (.inr (0, 96)) := rfl
theorem sh_179 : SH[179]? = some (.inr (0, 7)) := rfl
theorem sh_180 : SH[180]? = some (.inr (0, 99)) := rfl
theorem sh_181 : SH[181]? = some (.inr (0, 99)) := rfl
theorem sh_182 : SH[182]? = some (.inr (0, 80)) := rfl
theorem sh_183 : SH[183]? = some (.inr (0, 36)) := rfl
theorem sh_184 : SH[184]? = some (.inr (0, 96)) := rfl
theorem sh_185 : SH[185]? = some (.inr (0, 80)) := rfl
theorem sh_186 : SH[186]? = some (.inr (0, 80)) := rfl
theorem sh_187 : SH[187]? = some (.inr (0, 80)) := rfl
theorem sh_188 : SH[188]? = some (.inr (0, 8)) := rfl
theorem sh_189 : SH[189]? = some (.inr (0, 99)) := rfl
theorem sh_190 : SH[190]? = some (.inr (0, 1584)) := rfl
theorem sh_191 : SH[191]? = some (.inr (0, 60)) := rfl
theorem sh_192 : SH[192]? = some (.inr (0, 60)) := rfl
theorem sh_193 : SH[193]? = some (.inr (0, 60)) := rfl
theorem sh_194 : SH[194]? = some (.inr (0, 16)) := rfl
theorem sh_195 : SH[195]? = some (.inr (0, 6)) := rfl
theorem sh_196 : SH[196]? = some (.inr (0, 6)) := rfl
theorem sh_197 : SH[197]? = some (.inr (0, 7)) := rfl
theorem sh_198 : SH[198]? = some (.inr (0, 6)) := rfl
theorem sh_199 : SH[199]? = some (.inr (0, 6)) := rfl
theorem sh_200 : SH[200]? = some (.inr (0, 6)) := rfl
theorem sh_201 : SH[201]? = some (.inr (0, 10)) := rfl
theorem sh_202 : SH[202]? = some (.inr (0, 10)) := rfl
theorem sh_203 : SH[203]? = some (.inr (0, 6)) := rfl
theorem sh_204 : SH[204]? = some (.inr (0, 6)) := rfl
theorem sh_205 : SH[205]? = some (.inr (1, 3)) := rfl
theorem sh_206 : SH[206]? = some (.inr (0, 3)) := rfl
theorem sh_207 : SH[207]? = some (.inr (0, 297)) := rfl
theorem sh_208 : SH[208]? = some (.inr (2, 1)) := rfl
theorem rr_0_0 : ρM 0 0 = some 1 := by decide +kernel
theorem rr_0_1 : ρM 0 1 = some 3 := by decide +kernel
theorem rr_0_2 : ρM 0 2 = some 5 := by decide +kernel
theorem rr_0_3 : ρM 0 3 = some 9 := by decide +kernel
theorem rr_0_4 : ρM 0 4 = some 23 := by decide +kernel
theorem rr_0_5 : ρM 0 5 = some 27 := by decide +kernel
theorem rr_0_6 : ρM 0 6 = some 93 := by decide +kernel
theorem rr_0_7 : ρM 0 7 = some 100 := by decide +kernel
theorem rr_0_8 : ρM 0 8 = some 106 := by decide +kernel
theorem rr_0_9 : ρM 0 9 = some 147 := by decide +kernel
theorem rr_0_10 : ρM 0 10 = some 153 := by decide +kernel
theorem rr_0_11 : ρM 0 11 = some 166 := by decide +kernel
theorem rr_0_12 : ρM 0 12 = some 167 := by decide +kernel
theorem rr_0_13 : ρM 0 13 = some 168 := by decide +kernel
theorem rr_1_0 : ρM 1 0 = some 2 := by decide +kernel
theorem rr_3_0 : ρM 3 0 = some 4 := by decide +kernel
theorem rr_5_4 : ρM 5 4 = some 8 := by decide +kernel
theorem rr_9_0 : ρM 9 0 = some 10 := by decide +kernel
theorem rr_23_0 : ρM 23 0 = some 24 := by decide +kernel
theorem rr_23_1 : ρM 23 1 = some 25 := by decide +kernel
theorem rr_23_2 : ρM 23 2 = some 26 := by decide +kernel
theorem rr_27_0 : ρM 27 0 = some 28 := by decide +kernel
theorem rr_27_1 : ρM 27 1 = some 29 := by decide +kernel
theorem rr_93_0 : ρM 93 0 = some 9 := by decide +kernel
theorem rr_93_1 : ρM 93 1 = some 3 := by decide +kernel
theorem rr_93_2 : ρM 93 2 = some 94 := by decide +kernel
theorem rr_93_3 : ρM 93 3 = some 95 := by decide +kernel
theorem rr_93_5 : ρM 93 5 = some 96 := by decide +kernel
theorem rr_93_6 : ρM 93 6 = some 97 := by decide +kernel
theorem rr_93_7 : ρM 93 7 = some 98 := by decide +kernel
theorem rr_93_8 : ρM 93 8 = some 99 := by decide +kernel
theorem rr_100_0 : ρM 100 0 = some 3 := by decide +kernel
theorem rr_100_1 : ρM 100 1 = some 5 := by decide +kernel
theorem rr_100_2 : ρM 100 2 = some 101 := by decide +kernel
theorem rr_100_3 : ρM 100 3 = some 102 := by decide +kernel
theorem rr_100_4 : ρM 100 4 = some 103 := by decide +kernel
theorem rr_100_5 : ρM 100 5 = some 104 := by decide +kernel
theorem rr_100_6 : ρM 100 6 = some 105 := by decide +kernel
theorem rr_106_0 : ρM 106 0 = some 9 := by decide +kernel
theorem rr_106_1 : ρM 106 1 = some 3 := by decide +kernel
theorem rr_106_2 : ρM 106 2 = some 107 := by decide +kernel
theorem rr_106_3 : ρM 106 3 = some 108 := by decide +kernel
theorem rr_106_4 : ρM 106 4 = some 109 := by decide +kernel
theorem rr_106_11 : ρM 106 11 = some 110 := by decide +kernel
theorem rr_147_0 : ρM 147 0 = some 9 := by decide +kernel
theorem rr_147_1 : ρM 147 1 = some 148 := by decide +kernel
theorem rr_147_2 : ρM 147 2 = some 149 := by decide +kernel
theorem rr_147_3 : ρM 147 3 = some 150 := by decide +kernel
theorem rr_147_5 : ρM 147 5 = some 151 := by decide +kernel
theorem rr_147_6 : ρM 147 6 = some 152 := by decide +kernel
theorem rr_169_2 : ρM 169 2 = some 170 := by decide +kernel
theorem rr_169_5 : ρM 169 5 = some 171 := by decide +kernel
theorem rr_169_6 : ρM 169 6 = some 172 := by decide +kernel
theorem rr_169_7 : ρM 169 7 = some 173 := by decide +kernel
theorem rr_169_8 : ρM 169 8 = some 174 := by decide +kernel
theorem rr_169_9 : ρM 169 9 = some 175 := by decide +kernel
theorem rr_169_10 : ρM 169 10 = some 176 := by decide +kernel
theorem rr_169_11 : ρM 169 11 = some 177 := by decide +kernel
theorem rr_169_12 : ρM 169 12 = some 178 := by decide +kernel
theorem rr_169_13 : ρM 169 13 = some 179 := by decide +kernel
theorem rr_169_14 : ρM 169 14 = some 180 := by decide +kernel
theorem rr_169_15 : ρM 169 15 = some 181 := by decide +kernel
theorem rr_169_16 : ρM 169 16 = some 182 := by decide +kernel
theorem rr_169_21 : ρM 169 21 = some 183 := by decide +kernel
theorem rr_169_22 : ρM 169 22 = some 184 := by decide +kernel
theorem rr_169_24 : ρM 169 24 = some 185 := by decide +kernel
theorem rr_169_25 : ρM 169 25 = some 186 := by decide +kernel
theorem rr_169_28 : ρM 169 28 = some 187 := by decide +kernel
theorem rr_169_29 : ρM 169 29 = some 188 := by decide +kernel
theorem rr_169_38 : ρM 169 38 = some 189 := by decide +kernel
theorem rr_169_41 : ρM 169 41 = some 190 := by decide +kernel
theorem rr_169_43 : ρM 169 43 = some 191 := by decide +kernel
theorem rr_169_44 : ρM 169 44 = some 192 := by decide +kernel
theorem rr_169_45 : ρM 169 45 = some 193 := by decide +kernel
theorem rr_169_48 : ρM 169 48 = some 194 := by decide +kernel
theorem rr_169_51 : ρM 169 51 = some 195 := by decide +kernel
theorem rr_169_53 : ρM 169 53 = some 196 := by decide +kernel
theorem rr_169_55 : ρM 169 55 = some 197 := by decide +kernel
theorem rr_169_56 : ρM 169 56 = some 198 := by decide +kernel
theorem rr_169_57 : ρM 169 57 = some 199 := by decide +kernel
theorem rr_169_58 : ρM 169 58 = some 200 := by decide +kernel
theorem rr_169_63 : ρM 169 63 = some 201 := by decide +kernel
theorem rr_169_64 : ρM 169 64 = some 202 := by decide +kernel
theorem rr_169_65 : ρM 169 65 = some 203 := by decide +kernel
theorem rr_169_66 : ρM 169 66 = some 204 := by decide +kernel
theorem rr_169_69 : ρM 169 69 = some 205 := by decide +kernel
theorem rr_169_70 : ρM 169 70 = some 206 := by decide +kernel
theorem rr_169_71 : ρM 169 71 = some 207 := by decide +kernel
theorem rn_5_0 : ρM 5 0 = none := by decide +kernel
theorem rn_5_2 : ρM 5 2 = none := by decide +kernel
def streetL : List Nat := [11, 13, 15, 17, 19, 21]
theorem shStreet0 : ∀ {o : Nat}, o ∈ streetL → SH[o]? = some (.inl 8) := by decide +kernel
theorem ltStreet0 : ∀ {o : Nat}, o ∈ streetL → o < 209 := by decide +kernel
theorem shStreet1 : ∀ {o : Nat}, o ∈ streetL → SH[o + 1]? = some (.inr (0, 16)) := by decide +kernel
theorem ltStreet1 : ∀ {o : Nat}, o ∈ streetL → o + 1 < 209 := by decide +kernel
theorem rrStreet_1 : ∀ {o : Nat}, o ∈ streetL → ρM o 1 = some (o + 1) := by decide +kernel
def stateL : List Nat := [23, 29, 33, 37, 41, 45, 49, 53, 57, 61, 65, 69, 73, 77, 81, 85, 89, 154, 158, 162]
theorem shState0 : ∀ {o : Nat}, o ∈ stateL → SH[o]? = some (.inl 7) := by decide +kernel
theorem ltState0 : ∀ {o : Nat}, o ∈ stateL → o < 209 := by decide +kernel
theorem shState1 : ∀ {o : Nat}, o ∈ stateL → SH[o + 1]? = some (.inr (0, 6)) := by decide +kernel
theorem ltState1 : ∀ {o : Nat}, o ∈ stateL → o + 1 < 209 := by decide +kernel
theorem shState2 : ∀ {o : Nat}, o ∈ stateL → SH[o + 2]? = some (.inr (0, 6)) := by decide +kernel
theorem ltState2 : ∀ {o : Nat}, o ∈ stateL → o + 2 < 209 := by decide +kernel
theorem shState3 : ∀ {o : Nat}, o ∈ stateL → SH[o + 3]? = some (.inr (0, 6)) := by decide +kernel
theorem ltState3 : ∀ {o : Nat}, o ∈ stateL → o + 3 < 209 := by decide +kernel
theorem rrState_0 : ∀ {o : Nat}, o ∈ stateL → ρM o 0 = some (o + 1) := by decide +kernel
theorem rrState_1 : ∀ {o : Nat}, o ∈ stateL → ρM o 1 = some (o + 2) := by decide +kernel
theorem rrState_2 : ∀ {o : Nat}, o ∈ stateL → ρM o 2 = some (o + 3) := by decide +kernel
def jobL : List Nat := [100, 111, 117, 123, 129, 135, 141]
theorem shJob0 : ∀ {o : Nat}, o ∈ jobL → SH[o]? = some (.inl 2) := by decide +kernel
theorem ltJob0 : ∀ {o : Nat}, o ∈ jobL → o < 209 := by decide +kernel
theorem shJob1 : ∀ {o : Nat}, o ∈ jobL → SH[o + 1]? = some (.inr (0, 8)) := by decide +kernel
theorem ltJob1 : ∀ {o : Nat}, o ∈ jobL → o + 1 < 209 := by decide +kernel
theorem shJob2 : ∀ {o : Nat}, o ∈ jobL → SH[o + 2]? = some (.inr (0, 16)) := by decide +kernel
theorem ltJob2 : ∀ {o : Nat}, o ∈ jobL → o + 2 < 209 := by decide +kernel
theorem shJob3 : ∀ {o : Nat}, o ∈ jobL → SH[o + 3]? = some (.inr (0, 16)) := by decide +kernel
theorem ltJob3 : ∀ {o : Nat}, o ∈ jobL → o + 3 < 209 := by decide +kernel
theorem shJob4 : ∀ {o : Nat}, o ∈ jobL → SH[o + 4]? = some (.inr (0, 16)) := by decide +kernel
theorem ltJob4 : ∀ {o : Nat}, o ∈ jobL → o + 4 < 209 := by decide +kernel
theorem shJob5 : ∀ {o : Nat}, o ∈ jobL → SH[o + 5]? = some (.inr (0, 3)) := by decide +kernel
theorem ltJob5 : ∀ {o : Nat}, o ∈ jobL → o + 5 < 209 := by decide +kernel
theorem rrJob_0 : ∀ {o : Nat}, o ∈ jobL → ρM o 0 = some 3 := by decide +kernel
theorem rrJob_1 : ∀ {o : Nat}, o ∈ jobL → ρM o 1 = some 5 := by decide +kernel
theorem rrJob_2 : ∀ {o : Nat}, o ∈ jobL → ρM o 2 = some (o + 1) := by decide +kernel
theorem rrJob_3 : ∀ {o : Nat}, o ∈ jobL → ρM o 3 = some (o + 2) := by decide +kernel
theorem rrJob_4 : ∀ {o : Nat}, o ∈ jobL → ρM o 4 = some (o + 3) := by decide +kernel
theorem rrJob_5 : ∀ {o : Nat}, o ∈ jobL → ρM o 5 = some (o + 4) := by decide +kernel
theorem rrJob_6 : ∀ {o : Nat}, o ∈ jobL → ρM o 6 = some (o + 5) := by decide +kernel
def codeL : List Nat := [6, 7]
theorem shCode : ∀ {o : Nat}, o ∈ codeL → SH[o]? = some (.inr (0, 40)) := by decide +kernel
theorem ltCode : ∀ {o : Nat}, o ∈ codeL → o < 209 := by decide +kernel
theorem streetL_of {j : Int} (h0 : 0 ≤ j) (h1 : j < 6) : 11 + 2 * j.toNat ∈ streetL := by
  obtain ⟨n, rfl⟩ := Int.eq_ofNat_of_zero_le h0
  have h : n < 6 := by omega
  rw [Int.toNat_natCast]
  exact (by decide : ∀ n, n < 6 → 11 + 2 * n ∈ streetL) n h
theorem jobL_of {j : Int} (h0 : 0 ≤ j) (h1 : j < 6) : 111 + 6 * j.toNat ∈ jobL := by
  obtain ⟨n, rfl⟩ := Int.eq_ofNat_of_zero_le h0
  have h : n < 6 := by omega
  rw [Int.toNat_natCast]
  exact (by decide : ∀ n, n < 6 → 111 + 6 * n ∈ jobL) n h
theorem keptL_of {j : Int} (h0 : 0 ≤ j) (h1 : j < 3) : 154 + 4 * j.toNat ∈ stateL := by
  obtain ⟨n, rfl⟩ := Int.eq_ofNat_of_zero_le h0
  have h : n < 3 := by omega
  rw [Int.toNat_natCast]
  exact (by decide : ∀ n, n < 3 → 154 + 4 * n ∈ stateL) n h
abbrev PMain (P : Option Value → Mem → Prop) : Option Value → Nat → Mem → Prop := fun r n m => n = 209 ∧ P r m
abbrev GM (E : Nat × (Nat → Int32)) (μ : Mu) (P : Option Value → Mem → Prop) (pc : Nat) (lv st : List Value) (mem : Mem) : Prop := G ρM E μ (QM ρM 209 (PMain P) 0 0) 209 pc lv st 209 0 0 mem
abbrev CM (E : Nat × (Nat → Int32)) (y : MethodName) (μ : Mu) (as : List Value) (mem : Mem) (P : Option Value → Mem → Prop) : Prop := Ct ρM E y μ 209 as mem (PMain P)
theorem CM.mono {E : Nat × (Nat → Int32)} {y : MethodName} {μ : Mu} {as : List Value} {mem : Mem} {P P2 : Option Value → Mem → Prop} (h : CM E y μ as mem P) (hp : ∀ r m, P r m → P2 r m) : CM E y μ as mem P2 := by
  intro l D cA A0 sz
  have := h l D cA A0 sz
  refine MetFree.mono this (fun _ _ h => h) (fun _ _ _ _ _ h => h) (fun a st o t _ hq => ?_)
  obtain ⟨⟨⟨r, A, nw, m2, h1, h2, h3, h4, h5, h6, h7⟩, h8⟩, h9⟩ := hq
  exact ⟨⟨⟨r, A, nw, m2, h1, h2, h3, h4, h5, h6, hp _ _ h7⟩, h8⟩, h9⟩
/-! what has no plain form as a number -/
def cpyR (f g : Int → Int) (n : Int) : Int → Int := fun j => if 0 ≤ j ∧ j < n then f j else g j
theorem cpy_00 (mem : Mem) (a a0 : Nat) (n : Int) : upr mem a (fun j => if (0 : Int) ≤ j ∧ j < 0 + n then mem a0 (0 + (j - 0)) else mem a j) = upr mem a (cpyR (mem a0) (mem a) n) := by
  congr 1
  funext j
  unfold cpyR
  rw [Int.zero_add, Int.zero_add, Int.sub_zero]
def bandI (a b : Int) : Int := (iI a &&& iI b).toInt
def borI (a b : Int) : Int := (iI a ||| iI b).toInt
def bxorI (a b : Int) : Int := (iI a ^^^ iI b).toInt
def shlI (a b : Int) : Int := (iI a <<< (iI b &&& 31)).toInt
def shrI (a b : Int) : Int := (iI a >>> (iI b &&& 31)).toInt
def ushrI (a b : Int) : Int := ((iI a).toUInt32 >>> ((iI b).toUInt32 &&& Int32.toUInt32 31)).toInt32.toInt
def divI (a b : Int) : Int := (iI a / iI b).toInt
def remI (a b : Int) : Int := (iI a - iI a / iI b * iI b).toInt
def divL (a b : Int) : Int := (iL a / iL b).toInt
def remL (a b : Int) : Int := (iL a - iL a / iL b * iL b).toInt
def byteI (a : Int) : Int := (iI a).toInt8.toInt32.toInt
def shortI (a : Int) : Int := (iI a).toInt16.toInt32.toInt
def charI (a : Int) : Int := ((iI a).toUInt32 % 65536).toInt32.toInt
theorem iI_inv (x : Int32) : x = iI x.toInt := (iI_of x).symm
theorem iL_inv (x : Int64) : x = iL x.toInt := (Int64.ofInt_toInt x).symm
theorem iI_ne0 {b : Int} (hb : -2147483648 ≤ b ∧ b < 2147483648) (h : b ≠ 0) : ¬ iI b = 0 := fun e => h ((iI_eq hb iz).mp e)
theorem izL : (-9223372036854775808 : Int) ≤ 0 ∧ (0 : Int) < 9223372036854775808 := by decide
theorem iL_eq {a b : Int} (ha : -9223372036854775808 ≤ a ∧ a < 9223372036854775808) (hb : -9223372036854775808 ≤ b ∧ b < 9223372036854775808) : iL a = iL b ↔ a = b := by
  constructor
  · intro h
    have := congrArg Int64.toInt h
    rwa [iL_toInt ha.1 ha.2, iL_toInt hb.1 hb.2] at this
  · rintro rfl; rfl
theorem iL_lt {a b : Int} (ha : -9223372036854775808 ≤ a ∧ a < 9223372036854775808) (hb : -9223372036854775808 ≤ b ∧ b < 9223372036854775808) : iL a < iL b ↔ a < b := by
  rw [Int64.lt_iff_toInt_lt, iL_toInt ha.1 ha.2, iL_toInt hb.1 hb.2]
theorem iL_ne0 {b : Int} (hb : -9223372036854775808 ≤ b ∧ b < 9223372036854775808) (h : b ≠ 0) : ¬ iL b = 0 := fun e => h ((iL_eq hb izL).mp e)
def cmpL (a b : Int) : Int := if b < a then 1 else if a = b then 0 else -1
theorem cmpL_eq {a b : Int} (ha : -9223372036854775808 ≤ a ∧ a < 9223372036854775808) (hb : -9223372036854775808 ≤ b ∧ b < 9223372036854775808) : lg_cmp (iL a) (iL b) = iI (cmpL a b) := by
  unfold lg_cmp cmpL
  by_cases h : b < a
  · have h1 : iL a > iL b := (iL_lt hb ha).mpr h
    rw [if_pos h1, if_pos h]; rfl
  · have h1 : ¬ iL a > iL b := fun e => h ((iL_lt hb ha).mp e)
    rw [if_neg h1, if_neg h]
    by_cases h2 : a = b
    · rw [if_pos (congrArg iL h2), if_pos h2]; rfl
    · rw [if_neg (fun e => h2 ((iL_eq ha hb).mp e)), if_neg h2]; rfl
theorem cmpL_rng (a b : Int) : -2147483648 ≤ cmpL a b ∧ cmpL a b < 2147483648 := by
  unfold cmpL
  split
  · decide
  · split <;> decide
section GL
variable {ρ : Rho} {E : Nat × (Nat → Int32)} {μ : Mu} {QQ : QF} {nw0 pc : Nat} {lv st : List Value} {nw k u : Nat} {mem : Mem}
theorem G_lcmp_eq {a b off : Int} {tgt : Nat} (hd : decode μ.cc pc = .ok (.lcmp, 1)) (hd2 : decode μ.cc (pc + 1) = .ok (.ifCond .eq off, 3)) (ht : ((pc + 1 : Nat) : Int) + off = (tgt : Int)) (ha : -9223372036854775808 ≤ a ∧ a < 9223372036854775808) (hb : -9223372036854775808 ≤ b ∧ b < 9223372036854775808) (kt : a = b → G ρ E μ QQ nw0 tgt lv st nw k u mem) (kf : ¬ a = b → G ρ E μ QQ nw0 (pc + 4) lv st nw k u mem) : G ρ E μ QQ nw0 pc lv (vl b :: vl a :: st) nw k u mem := by
  refine G_lcmp hd (cmpL_eq ha hb) ?_
  refine G_if_eq hd2 ht (cmpL_rng a b) (fun h => kt ?_) (fun h => kf ?_)
  · unfold cmpL at h
    split at h <;> (try split at h) <;> omega
  · unfold cmpL at h
    split at h <;> (try split at h) <;> omega
theorem G_lcmp_ne {a b off : Int} {tgt : Nat} (hd : decode μ.cc pc = .ok (.lcmp, 1)) (hd2 : decode μ.cc (pc + 1) = .ok (.ifCond .ne off, 3)) (ht : ((pc + 1 : Nat) : Int) + off = (tgt : Int)) (ha : -9223372036854775808 ≤ a ∧ a < 9223372036854775808) (hb : -9223372036854775808 ≤ b ∧ b < 9223372036854775808) (kt : a ≠ b → G ρ E μ QQ nw0 tgt lv st nw k u mem) (kf : a = b → G ρ E μ QQ nw0 (pc + 4) lv st nw k u mem) : G ρ E μ QQ nw0 pc lv (vl b :: vl a :: st) nw k u mem := by
  refine G_lcmp hd (cmpL_eq ha hb) ?_
  refine G_if_ne hd2 ht (cmpL_rng a b) (fun h => kt ?_) (fun h => kf ?_)
  · unfold cmpL at h
    split at h <;> (try split at h) <;> omega
  · unfold cmpL at h
    split at h <;> (try split at h) <;> omega
theorem G_lcmp_lt {a b off : Int} {tgt : Nat} (hd : decode μ.cc pc = .ok (.lcmp, 1)) (hd2 : decode μ.cc (pc + 1) = .ok (.ifCond .lt off, 3)) (ht : ((pc + 1 : Nat) : Int) + off = (tgt : Int)) (ha : -9223372036854775808 ≤ a ∧ a < 9223372036854775808) (hb : -9223372036854775808 ≤ b ∧ b < 9223372036854775808) (kt : a < b → G ρ E μ QQ nw0 tgt lv st nw k u mem) (kf : ¬ a < b → G ρ E μ QQ nw0 (pc + 4) lv st nw k u mem) : G ρ E μ QQ nw0 pc lv (vl b :: vl a :: st) nw k u mem := by
  refine G_lcmp hd (cmpL_eq ha hb) ?_
  refine G_if_lt hd2 ht (cmpL_rng a b) (fun h => kt ?_) (fun h => kf ?_)
  · unfold cmpL at h
    split at h <;> (try split at h) <;> omega
  · unfold cmpL at h
    split at h <;> (try split at h) <;> omega
theorem G_lcmp_ge {a b off : Int} {tgt : Nat} (hd : decode μ.cc pc = .ok (.lcmp, 1)) (hd2 : decode μ.cc (pc + 1) = .ok (.ifCond .ge off, 3)) (ht : ((pc + 1 : Nat) : Int) + off = (tgt : Int)) (ha : -9223372036854775808 ≤ a ∧ a < 9223372036854775808) (hb : -9223372036854775808 ≤ b ∧ b < 9223372036854775808) (kt : b ≤ a → G ρ E μ QQ nw0 tgt lv st nw k u mem) (kf : ¬ b ≤ a → G ρ E μ QQ nw0 (pc + 4) lv st nw k u mem) : G ρ E μ QQ nw0 pc lv (vl b :: vl a :: st) nw k u mem := by
  refine G_lcmp hd (cmpL_eq ha hb) ?_
  refine G_if_ge hd2 ht (cmpL_rng a b) (fun h => kt ?_) (fun h => kf ?_)
  · unfold cmpL at h
    split at h <;> (try split at h) <;> omega
  · unfold cmpL at h
    split at h <;> (try split at h) <;> omega
theorem G_lcmp_gt {a b off : Int} {tgt : Nat} (hd : decode μ.cc pc = .ok (.lcmp, 1)) (hd2 : decode μ.cc (pc + 1) = .ok (.ifCond .gt off, 3)) (ht : ((pc + 1 : Nat) : Int) + off = (tgt : Int)) (ha : -9223372036854775808 ≤ a ∧ a < 9223372036854775808) (hb : -9223372036854775808 ≤ b ∧ b < 9223372036854775808) (kt : b < a → G ρ E μ QQ nw0 tgt lv st nw k u mem) (kf : ¬ b < a → G ρ E μ QQ nw0 (pc + 4) lv st nw k u mem) : G ρ E μ QQ nw0 pc lv (vl b :: vl a :: st) nw k u mem := by
  refine G_lcmp hd (cmpL_eq ha hb) ?_
  refine G_if_gt hd2 ht (cmpL_rng a b) (fun h => kt ?_) (fun h => kf ?_)
  · unfold cmpL at h
    split at h <;> (try split at h) <;> omega
  · unfold cmpL at h
    split at h <;> (try split at h) <;> omega
theorem G_lcmp_le {a b off : Int} {tgt : Nat} (hd : decode μ.cc pc = .ok (.lcmp, 1)) (hd2 : decode μ.cc (pc + 1) = .ok (.ifCond .le off, 3)) (ht : ((pc + 1 : Nat) : Int) + off = (tgt : Int)) (ha : -9223372036854775808 ≤ a ∧ a < 9223372036854775808) (hb : -9223372036854775808 ≤ b ∧ b < 9223372036854775808) (kt : a ≤ b → G ρ E μ QQ nw0 tgt lv st nw k u mem) (kf : ¬ a ≤ b → G ρ E μ QQ nw0 (pc + 4) lv st nw k u mem) : G ρ E μ QQ nw0 pc lv (vl b :: vl a :: st) nw k u mem := by
  refine G_lcmp hd (cmpL_eq ha hb) ?_
  refine G_if_le hd2 ht (cmpL_rng a b) (fun h => kt ?_) (fun h => kf ?_)
  · unfold cmpL at h
    split at h <;> (try split at h) <;> omega
  · unfold cmpL at h
    split at h <;> (try split at h) <;> omega
end GL
