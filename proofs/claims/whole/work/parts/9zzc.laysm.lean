/-! the reference's constructor -/
abbrev mi_12 : Mu := (cX12_init, 1, RX12, none, ⟨1, 38, 3078, 40⟩, "<init>")
theorem ci_12 {E : Nat × (Nat → Int32)} {mem : Mem} : Ct ρ0 E yX12_init mi_12 (170) [.ref 169] (upr mem 169 (dfl 12)) (PB 169 (208) mem) := by
  refine Ct_of (lv := [.ref 169]) (by decide) rfl rfl (Nat.le_of_ble_eq_true rfl) rfl ?_
  refine G_aload_n dX12_init_0 rfl ?_
  refine G_objInit dX12_init_1 ml_12_3 ⟨by decide, by decide⟩ (by decide) ?_
  refine G_aload_n dX12_init_4 rfl ?_
  refine G_bipush (z := 24) dX12_init_5 rfl ?_
  refine G_newL (n := 24) rfl rfl (by decide) dX12_init_7 (by omega) ⟨by decide, by decide⟩ (okL_all (And.intro (show (169 : Nat) < 170 by omega) (And.intro (show (169 : Nat) < 170 by omega) (trivial)))) ?_
  refine G_putFD dX12_init_9 fpf_12_9 rfl pd_1 rfl pk_1 (by omega) rfl rfl (by omega) rfl ?_
  refine G_aload_n dX12_init_12 rfl ?_
  refine G_bipush (z := 6) dX12_init_13 rfl ?_
  refine G_newI (n := 6) rfl rfl (by decide) dX12_init_15 (by omega) ⟨by decide, by decide⟩ (okL_all (And.intro (show (169 : Nat) < 171 by omega) (And.intro (show (169 : Nat) < 171 by omega) (trivial)))) ?_
  refine G_putFD dX12_init_17 fpf_12_13 rfl pd_0 rfl pk_0 (by omega) rfl rfl (by omega) rfl ?_
  refine G_aload_n dX12_init_20 rfl ?_
  refine G_bipush (z := 6) dX12_init_21 rfl ?_
  refine G_newI (n := 6) rfl rfl (by decide) dX12_init_23 (by omega) ⟨by decide, by decide⟩ (okL_all (And.intro (show (169 : Nat) < 172 by omega) (And.intro (show (169 : Nat) < 172 by omega) (trivial)))) ?_
  refine G_putFD dX12_init_25 fpf_12_17 rfl pd_0 rfl pk_0 (by omega) rfl rfl (by omega) rfl ?_
  refine G_aload_n dX12_init_28 rfl ?_
  refine G_bipush (z := 6) dX12_init_29 rfl ?_
  refine G_newI (n := 6) rfl rfl (by decide) dX12_init_31 (by omega) ⟨by decide, by decide⟩ (okL_all (And.intro (show (169 : Nat) < 173 by omega) (And.intro (show (169 : Nat) < 173 by omega) (trivial)))) ?_
  refine G_putFD dX12_init_33 fpf_12_20 rfl pd_0 rfl pk_0 (by omega) rfl rfl (by omega) rfl ?_
  refine G_aload_n dX12_init_36 rfl ?_
  refine G_bipush (z := 6) dX12_init_37 rfl ?_
  refine G_newZ (n := 6) rfl rfl (by decide) dX12_init_39 (by omega) ⟨by decide, by decide⟩ (okL_all (And.intro (show (169 : Nat) < 174 by omega) (And.intro (show (169 : Nat) < 174 by omega) (trivial)))) ?_
  refine G_putFD dX12_init_41 fpf_12_23 rfl pd_2 rfl pk_2 (by omega) rfl rfl (by omega) rfl ?_
  refine G_aload_n dX12_init_44 rfl ?_
  refine G_bipush (z := 6) dX12_init_45 rfl ?_
  refine G_newI (n := 6) rfl rfl (by decide) dX12_init_47 (by omega) ⟨by decide, by decide⟩ (okL_all (And.intro (show (169 : Nat) < 175 by omega) (And.intro (show (169 : Nat) < 175 by omega) (trivial)))) ?_
  refine G_putFD dX12_init_49 fpf_12_27 rfl pd_0 rfl pk_0 (by omega) rfl rfl (by omega) rfl ?_
  refine G_aload_n dX12_init_52 rfl ?_
  refine G_bipush (z := 6) dX12_init_53 rfl ?_
  refine G_newI (n := 6) rfl rfl (by decide) dX12_init_55 (by omega) ⟨by decide, by decide⟩ (okL_all (And.intro (show (169 : Nat) < 176 by omega) (And.intro (show (169 : Nat) < 176 by omega) (trivial)))) ?_
  refine G_putFD dX12_init_57 fpf_12_30 rfl pd_0 rfl pk_0 (by omega) rfl rfl (by omega) rfl ?_
  refine G_aload_n dX12_init_60 rfl ?_
  refine G_bipush (z := 6) dX12_init_61 rfl ?_
  refine G_newI (n := 6) rfl rfl (by decide) dX12_init_63 (by omega) ⟨by decide, by decide⟩ (okL_all (And.intro (show (169 : Nat) < 177 by omega) (And.intro (show (169 : Nat) < 177 by omega) (trivial)))) ?_
  refine G_putFD dX12_init_65 fpf_12_33 rfl pd_0 rfl pk_0 (by omega) rfl rfl (by omega) rfl ?_
  refine G_aload_n dX12_init_68 rfl ?_
  refine G_bipush (z := 96) dX12_init_69 rfl ?_
  refine G_newI (n := 96) rfl rfl (by decide) dX12_init_71 (by omega) ⟨by decide, by decide⟩ (okL_all (And.intro (show (169 : Nat) < 178 by omega) (And.intro (show (169 : Nat) < 178 by omega) (trivial)))) ?_
  refine G_putFD dX12_init_73 fpf_12_36 rfl pd_0 rfl pk_0 (by omega) rfl rfl (by omega) rfl ?_
  refine G_aload_n dX12_init_76 rfl ?_
  refine G_bipush (z := 7) dX12_init_77 rfl ?_
  refine G_newI (n := 7) rfl rfl (by decide) dX12_init_79 (by omega) ⟨by decide, by decide⟩ (okL_all (And.intro (show (169 : Nat) < 179 by omega) (And.intro (show (169 : Nat) < 179 by omega) (trivial)))) ?_
  refine G_dup dX12_init_81 (by decide) ?_
  refine G_iconst (z := 0) dX12_init_82 rfl ?_
  refine G_bipush (z := 100) dX12_init_83 rfl ?_
  refine G_iast dX12_init_85 (by omega) rfl (by decide) (by decide) (by decide) rfl ?_
  refine G_dup dX12_init_86 (by decide) ?_
  refine G_iconst (z := 1) dX12_init_87 rfl ?_
  refine G_iconst (z := 2) dX12_init_88 rfl ?_
  refine G_iast dX12_init_89 (by omega) rfl (by decide) (by decide) (by decide) rfl ?_
  refine G_dup dX12_init_90 (by decide) ?_
  refine G_iconst (z := 2) dX12_init_91 rfl ?_
  refine G_iconst (z := 0) dX12_init_92 rfl ?_
  refine G_iast dX12_init_93 (by omega) rfl (by decide) (by decide) (by decide) rfl ?_
  refine G_dup dX12_init_94 (by decide) ?_
  refine G_iconst (z := 3) dX12_init_95 rfl ?_
  refine G_iconst (z := 1) dX12_init_96 rfl ?_
  refine G_iast dX12_init_97 (by omega) rfl (by decide) (by decide) (by decide) rfl ?_
  refine G_dup dX12_init_98 (by decide) ?_
  refine G_iconst (z := 4) dX12_init_99 rfl ?_
  refine G_bipush (z := 30) dX12_init_100 rfl ?_
  refine G_iast dX12_init_102 (by omega) rfl (by decide) (by decide) (by decide) rfl ?_
  refine G_dup dX12_init_103 (by decide) ?_
  refine G_iconst (z := 5) dX12_init_104 rfl ?_
  refine G_bipush (z := 50) dX12_init_105 rfl ?_
  refine G_iast dX12_init_107 (by omega) rfl (by decide) (by decide) (by decide) rfl ?_
  refine G_dup dX12_init_108 (by decide) ?_
  refine G_bipush (z := 6) dX12_init_109 rfl ?_
  refine G_sipush (z := 480) dX12_init_111 rfl ?_
  refine G_iast dX12_init_114 (by omega) rfl (by decide) (by decide) (by decide) rfl ?_
  refine G_putFD dX12_init_115 fpf_12_39 rfl pd_0 rfl pk_0 (by omega) rfl rfl (by omega) rfl ?_
  refine G_aload_n dX12_init_118 rfl ?_
  refine G_bipush (z := 99) dX12_init_119 rfl ?_
  refine G_newI (n := 99) rfl rfl (by decide) dX12_init_121 (by omega) ⟨by decide, by decide⟩ (okL_all (And.intro (show (169 : Nat) < 180 by omega) (And.intro (show (169 : Nat) < 180 by omega) (trivial)))) ?_
  refine G_putFD dX12_init_123 fpf_12_42 rfl pd_0 rfl pk_0 (by omega) rfl rfl (by omega) rfl ?_
  refine G_aload_n dX12_init_126 rfl ?_
  refine G_bipush (z := 99) dX12_init_127 rfl ?_
  refine G_newI (n := 99) rfl rfl (by decide) dX12_init_129 (by omega) ⟨by decide, by decide⟩ (okL_all (And.intro (show (169 : Nat) < 181 by omega) (And.intro (show (169 : Nat) < 181 by omega) (trivial)))) ?_
  refine G_putFD dX12_init_131 fpf_12_45 rfl pd_0 rfl pk_0 (by omega) rfl rfl (by omega) rfl ?_
  refine G_aload_n dX12_init_134 rfl ?_
  refine G_bipush (z := 80) dX12_init_135 rfl ?_
  refine G_newI (n := 80) rfl rfl (by decide) dX12_init_137 (by omega) ⟨by decide, by decide⟩ (okL_all (And.intro (show (169 : Nat) < 182 by omega) (And.intro (show (169 : Nat) < 182 by omega) (trivial)))) ?_
  refine G_putFD dX12_init_139 fpf_12_48 rfl pd_0 rfl pk_0 (by omega) rfl rfl (by omega) rfl ?_
  refine G_aload_n dX12_init_142 rfl ?_
  refine G_bipush (z := 36) dX12_init_143 rfl ?_
  refine G_newI (n := 36) rfl rfl (by decide) dX12_init_145 (by omega) ⟨by decide, by decide⟩ (okL_all (And.intro (show (169 : Nat) < 183 by omega) (And.intro (show (169 : Nat) < 183 by omega) (trivial)))) ?_
  refine G_putFD dX12_init_147 fpf_12_51 rfl pd_0 rfl pk_0 (by omega) rfl rfl (by omega) rfl ?_
  refine G_aload_n dX12_init_150 rfl ?_
  refine G_bipush (z := 96) dX12_init_151 rfl ?_
  refine G_newI (n := 96) rfl rfl (by decide) dX12_init_153 (by omega) ⟨by decide, by decide⟩ (okL_all (And.intro (show (169 : Nat) < 184 by omega) (And.intro (show (169 : Nat) < 184 by omega) (trivial)))) ?_
  refine G_putFD dX12_init_155 fpf_12_54 rfl pd_0 rfl pk_0 (by omega) rfl rfl (by omega) rfl ?_
  refine G_aload_n dX12_init_158 rfl ?_
  refine G_bipush (z := 80) dX12_init_159 rfl ?_
  refine G_newI (n := 80) rfl rfl (by decide) dX12_init_161 (by omega) ⟨by decide, by decide⟩ (okL_all (And.intro (show (169 : Nat) < 185 by omega) (And.intro (show (169 : Nat) < 185 by omega) (trivial)))) ?_
  refine G_putFD dX12_init_163 fpf_12_57 rfl pd_0 rfl pk_0 (by omega) rfl rfl (by omega) rfl ?_
  refine G_aload_n dX12_init_166 rfl ?_
  refine G_bipush (z := 80) dX12_init_167 rfl ?_
  refine G_newI (n := 80) rfl rfl (by decide) dX12_init_169 (by omega) ⟨by decide, by decide⟩ (okL_all (And.intro (show (169 : Nat) < 186 by omega) (And.intro (show (169 : Nat) < 186 by omega) (trivial)))) ?_
  refine G_putFD dX12_init_171 fpf_12_60 rfl pd_0 rfl pk_0 (by omega) rfl rfl (by omega) rfl ?_
  refine G_aload_n dX12_init_174 rfl ?_
  refine G_bipush (z := 80) dX12_init_175 rfl ?_
  refine G_newI (n := 80) rfl rfl (by decide) dX12_init_177 (by omega) ⟨by decide, by decide⟩ (okL_all (And.intro (show (169 : Nat) < 187 by omega) (And.intro (show (169 : Nat) < 187 by omega) (trivial)))) ?_
  refine G_putFD dX12_init_179 fpf_12_63 rfl pd_0 rfl pk_0 (by omega) rfl rfl (by omega) rfl ?_
  refine G_aload_n dX12_init_182 rfl ?_
  refine G_bipush (z := 8) dX12_init_183 rfl ?_
  refine G_newI (n := 8) rfl rfl (by decide) dX12_init_185 (by omega) ⟨by decide, by decide⟩ (okL_all (And.intro (show (169 : Nat) < 188 by omega) (And.intro (show (169 : Nat) < 188 by omega) (trivial)))) ?_
  refine G_putFD dX12_init_187 fpf_12_66 rfl pd_0 rfl pk_0 (by omega) rfl rfl (by omega) rfl ?_
  refine G_aload_n dX12_init_190 rfl ?_
  refine G_bipush (z := 99) dX12_init_191 rfl ?_
  refine G_newI (n := 99) rfl rfl (by decide) dX12_init_193 (by omega) ⟨by decide, by decide⟩ (okL_all (And.intro (show (169 : Nat) < 189 by omega) (And.intro (show (169 : Nat) < 189 by omega) (trivial)))) ?_
  refine G_putFD dX12_init_195 fpf_12_69 rfl pd_0 rfl pk_0 (by omega) rfl rfl (by omega) rfl ?_
  refine G_aload_n dX12_init_198 rfl ?_
  refine G_sipush (z := 1584) dX12_init_199 rfl ?_
  refine G_newI (n := 1584) rfl rfl (by decide) dX12_init_202 (by omega) ⟨by decide, by decide⟩ (okL_all (And.intro (show (169 : Nat) < 190 by omega) (And.intro (show (169 : Nat) < 190 by omega) (trivial)))) ?_
  refine G_putFD dX12_init_204 fpf_12_72 rfl pd_0 rfl pk_0 (by omega) rfl rfl (by omega) rfl ?_
  refine G_aload_n dX12_init_207 rfl ?_
  refine G_bipush (z := 60) dX12_init_208 rfl ?_
  refine G_newI (n := 60) rfl rfl (by decide) dX12_init_210 (by omega) ⟨by decide, by decide⟩ (okL_all (And.intro (show (169 : Nat) < 191 by omega) (And.intro (show (169 : Nat) < 191 by omega) (trivial)))) ?_
  refine G_putFD dX12_init_212 fpf_12_75 rfl pd_0 rfl pk_0 (by omega) rfl rfl (by omega) rfl ?_
  refine G_aload_n dX12_init_215 rfl ?_
  refine G_bipush (z := 60) dX12_init_216 rfl ?_
  refine G_newI (n := 60) rfl rfl (by decide) dX12_init_218 (by omega) ⟨by decide, by decide⟩ (okL_all (And.intro (show (169 : Nat) < 192 by omega) (And.intro (show (169 : Nat) < 192 by omega) (trivial)))) ?_
  refine G_putFD dX12_init_220 fpf_12_78 rfl pd_0 rfl pk_0 (by omega) rfl rfl (by omega) rfl ?_
  refine G_aload_n dX12_init_223 rfl ?_
  refine G_bipush (z := 60) dX12_init_224 rfl ?_
  refine G_newI (n := 60) rfl rfl (by decide) dX12_init_226 (by omega) ⟨by decide, by decide⟩ (okL_all (And.intro (show (169 : Nat) < 193 by omega) (And.intro (show (169 : Nat) < 193 by omega) (trivial)))) ?_
  refine G_putFD dX12_init_228 fpf_12_81 rfl pd_0 rfl pk_0 (by omega) rfl rfl (by omega) rfl ?_
  refine G_aload_n dX12_init_231 rfl ?_
  refine G_bipush (z := 16) dX12_init_232 rfl ?_
  refine G_newI (n := 16) rfl rfl (by decide) dX12_init_234 (by omega) ⟨by decide, by decide⟩ (okL_all (And.intro (show (169 : Nat) < 194 by omega) (And.intro (show (169 : Nat) < 194 by omega) (trivial)))) ?_
  refine G_putFD dX12_init_236 fpf_12_84 rfl pd_0 rfl pk_0 (by omega) rfl rfl (by omega) rfl ?_
  refine G_aload_n dX12_init_239 rfl ?_
  refine G_bipush (z := 6) dX12_init_240 rfl ?_
  refine G_newI (n := 6) rfl rfl (by decide) dX12_init_242 (by omega) ⟨by decide, by decide⟩ (okL_all (And.intro (show (169 : Nat) < 195 by omega) (And.intro (show (169 : Nat) < 195 by omega) (trivial)))) ?_
  refine G_putFD dX12_init_244 fpf_12_87 rfl pd_0 rfl pk_0 (by omega) rfl rfl (by omega) rfl ?_
  refine G_aload_n dX12_init_247 rfl ?_
  refine G_bipush (z := 6) dX12_init_248 rfl ?_
  refine G_newI (n := 6) rfl rfl (by decide) dX12_init_250 (by omega) ⟨by decide, by decide⟩ (okL_all (And.intro (show (169 : Nat) < 196 by omega) (And.intro (show (169 : Nat) < 196 by omega) (trivial)))) ?_
  refine G_putFD dX12_init_252 fpf_12_90 rfl pd_0 rfl pk_0 (by omega) rfl rfl (by omega) rfl ?_
  refine G_aload_n dX12_init_255 rfl ?_
  refine G_bipush (z := 7) dX12_init_256 rfl ?_
  refine G_newI (n := 7) rfl rfl (by decide) dX12_init_258 (by omega) ⟨by decide, by decide⟩ (okL_all (And.intro (show (169 : Nat) < 197 by omega) (And.intro (show (169 : Nat) < 197 by omega) (trivial)))) ?_
  refine G_putFD dX12_init_260 fpf_12_93 rfl pd_0 rfl pk_0 (by omega) rfl rfl (by omega) rfl ?_
  refine G_aload_n dX12_init_263 rfl ?_
  refine G_bipush (z := 6) dX12_init_264 rfl ?_
  refine G_newI (n := 6) rfl rfl (by decide) dX12_init_266 (by omega) ⟨by decide, by decide⟩ (okL_all (And.intro (show (169 : Nat) < 198 by omega) (And.intro (show (169 : Nat) < 198 by omega) (trivial)))) ?_
  refine G_putFD dX12_init_268 fpf_12_96 rfl pd_0 rfl pk_0 (by omega) rfl rfl (by omega) rfl ?_
  refine G_aload_n dX12_init_271 rfl ?_
  refine G_bipush (z := 6) dX12_init_272 rfl ?_
  refine G_newI (n := 6) rfl rfl (by decide) dX12_init_274 (by omega) ⟨by decide, by decide⟩ (okL_all (And.intro (show (169 : Nat) < 199 by omega) (And.intro (show (169 : Nat) < 199 by omega) (trivial)))) ?_
  refine G_putFD dX12_init_276 fpf_12_99 rfl pd_0 rfl pk_0 (by omega) rfl rfl (by omega) rfl ?_
  refine G_aload_n dX12_init_279 rfl ?_
  refine G_bipush (z := 6) dX12_init_280 rfl ?_
  refine G_newI (n := 6) rfl rfl (by decide) dX12_init_282 (by omega) ⟨by decide, by decide⟩ (okL_all (And.intro (show (169 : Nat) < 200 by omega) (And.intro (show (169 : Nat) < 200 by omega) (trivial)))) ?_
  refine G_putFD dX12_init_284 fpf_12_102 rfl pd_0 rfl pk_0 (by omega) rfl rfl (by omega) rfl ?_
  refine G_aload_n dX12_init_287 rfl ?_
  refine G_bipush (z := 10) dX12_init_288 rfl ?_
  refine G_newI (n := 10) rfl rfl (by decide) dX12_init_290 (by omega) ⟨by decide, by decide⟩ (okL_all (And.intro (show (169 : Nat) < 201 by omega) (And.intro (show (169 : Nat) < 201 by omega) (trivial)))) ?_
  refine G_putFD dX12_init_292 fpf_12_105 rfl pd_0 rfl pk_0 (by omega) rfl rfl (by omega) rfl ?_
  refine G_aload_n dX12_init_295 rfl ?_
  refine G_bipush (z := 10) dX12_init_296 rfl ?_
  refine G_newI (n := 10) rfl rfl (by decide) dX12_init_298 (by omega) ⟨by decide, by decide⟩ (okL_all (And.intro (show (169 : Nat) < 202 by omega) (And.intro (show (169 : Nat) < 202 by omega) (trivial)))) ?_
  refine G_putFD dX12_init_300 fpf_12_108 rfl pd_0 rfl pk_0 (by omega) rfl rfl (by omega) rfl ?_
  refine G_aload_n dX12_init_303 rfl ?_
  refine G_bipush (z := 6) dX12_init_304 rfl ?_
  refine G_newI (n := 6) rfl rfl (by decide) dX12_init_306 (by omega) ⟨by decide, by decide⟩ (okL_all (And.intro (show (169 : Nat) < 203 by omega) (And.intro (show (169 : Nat) < 203 by omega) (trivial)))) ?_
  refine G_putFD dX12_init_308 fpf_12_111 rfl pd_0 rfl pk_0 (by omega) rfl rfl (by omega) rfl ?_
  refine G_aload_n dX12_init_311 rfl ?_
  refine G_bipush (z := 6) dX12_init_312 rfl ?_
  refine G_newI (n := 6) rfl rfl (by decide) dX12_init_314 (by omega) ⟨by decide, by decide⟩ (okL_all (And.intro (show (169 : Nat) < 204 by omega) (And.intro (show (169 : Nat) < 204 by omega) (trivial)))) ?_
  refine G_putFD dX12_init_316 fpf_12_114 rfl pd_0 rfl pk_0 (by omega) rfl rfl (by omega) rfl ?_
  refine G_aload_n dX12_init_319 rfl ?_
  refine G_iconst (z := 3) dX12_init_320 rfl ?_
  refine G_newZ (n := 3) rfl rfl (by decide) dX12_init_321 (by omega) ⟨by decide, by decide⟩ (okL_all (And.intro (show (169 : Nat) < 205 by omega) (And.intro (show (169 : Nat) < 205 by omega) (trivial)))) ?_
  refine G_putFD dX12_init_323 fpf_12_117 rfl pd_2 rfl pk_2 (by omega) rfl rfl (by omega) rfl ?_
  refine G_aload_n dX12_init_326 rfl ?_
  refine G_iconst (z := 3) dX12_init_327 rfl ?_
  refine G_newI (n := 3) rfl rfl (by decide) dX12_init_328 (by omega) ⟨by decide, by decide⟩ (okL_all (And.intro (show (169 : Nat) < 206 by omega) (And.intro (show (169 : Nat) < 206 by omega) (trivial)))) ?_
  refine G_putFD dX12_init_330 fpf_12_120 rfl pd_0 rfl pk_0 (by omega) rfl rfl (by omega) rfl ?_
  refine G_aload_n dX12_init_333 rfl ?_
  refine G_sipush (z := 297) dX12_init_334 rfl ?_
  refine G_newI (n := 297) rfl rfl (by decide) dX12_init_337 (by omega) ⟨by decide, by decide⟩ (okL_all (And.intro (show (169 : Nat) < 207 by omega) (And.intro (show (169 : Nat) < 207 by omega) (trivial)))) ?_
  refine G_putFD dX12_init_339 fpf_12_123 rfl pd_0 rfl pk_0 (by omega) rfl rfl (by omega) rfl ?_
  refine G_vret dX12_init_342 rfl (by decide) (by decide) (by omega) ⟨rfl, rfl, fun k hk => by rw [up2_k (by omega), upr_k (by omega), up2_k (by omega), upr_k (by omega), up2_k (by omega), upr_k (by omega), up2_k (by omega), upr_k (by omega), up2_k (by omega), upr_k (by omega), up2_k (by omega), upr_k (by omega), up2_k (by omega), upr_k (by omega), up2_k (by omega), upr_k (by omega), up2_k (by omega), upr_k (by omega), up2_k (by omega), upr_k (by omega), up2_k (by omega), upr_k (by omega), up2_k (by omega), upr_k (by omega), up2_k (by omega), upr_k (by omega), up2_k (by omega), upr_k (by omega), up2_k (by omega), upr_k (by omega), up2_k (by omega), upr_k (by omega), up2_k (by omega), upr_k (by omega), up2_k (by omega), upr_k (by omega), up2_k (by omega), upr_k (by omega), up2_k (by omega), upr_k (by omega), up2_k (by omega), upr_k (by omega), up2_k (by omega), upr_k (by omega), up2_k (by omega), upr_k (by omega), up2_k (by omega), upr_k (by omega), up2_k (by omega), upr_k (by omega), up2_k (by omega), upr_k (by omega), up2_k (by omega), upr_k (by omega), up2_k (by omega), upr_k (by omega), up2_k (by omega), up2_k (by omega), up2_k (by omega), up2_k (by omega), up2_k (by omega), up2_k (by omega), up2_k (by omega), up2_k (by omega), upr_k (by omega), up2_k (by omega), upr_k (by omega), up2_k (by omega), upr_k (by omega), up2_k (by omega), upr_k (by omega), up2_k (by omega), upr_k (by omega), up2_k (by omega), upr_k (by omega), up2_k (by omega), upr_k (by omega), up2_k (by omega), upr_k (by omega), up2_k (by omega), upr_k (by omega), up2_k (by omega), upr_k (by omega), upr_k (by omega)], fun k h1 h2 j hj => ?_⟩
  have hk : k = 169 ∨ k = 170 ∨ k = 171 ∨ k = 172 ∨ k = 173 ∨ k = 174 ∨ k = 175 ∨ k = 176 ∨ k = 177 ∨ k = 178 ∨ k = 179 ∨ k = 180 ∨ k = 181 ∨ k = 182 ∨ k = 183 ∨ k = 184 ∨ k = 185 ∨ k = 186 ∨ k = 187 ∨ k = 188 ∨ k = 189 ∨ k = 190 ∨ k = 191 ∨ k = 192 ∨ k = 193 ∨ k = 194 ∨ k = 195 ∨ k = 196 ∨ k = 197 ∨ k = 198 ∨ k = 199 ∨ k = 200 ∨ k = 201 ∨ k = 202 ∨ k = 203 ∨ k = 204 ∨ k = 205 ∨ k = 206 ∨ k = 207 := by omega
  rcases hk with e | e | e | e | e | e | e | e | e | e | e | e | e | e | e | e | e | e | e | e | e | e | e | e | e | e | e | e | e | e | e | e | e | e | e | e | e | e | e <;> rw [e] at hj ⊢
  · have hj : j < 72 := hj
    match j, hj with
    | 0, _ => exact dz12 0 (by decide)
    | 1, _ => exact dz12 1 (by decide)
    | 2, _ => rfl
    | 3, _ => exact dz12 3 (by decide)
    | 4, _ => exact dz12 4 (by decide)
    | 5, _ => rfl
    | 6, _ => rfl
    | 7, _ => rfl
    | 8, _ => rfl
    | 9, _ => rfl
    | 10, _ => rfl
    | 11, _ => rfl
    | 12, _ => rfl
    | 13, _ => rfl
    | 14, _ => rfl
    | 15, _ => rfl
    | 16, _ => rfl
    | 17, _ => exact dz12 17 (by decide)
    | 18, _ => exact dz12 18 (by decide)
    | 19, _ => exact dz12 19 (by decide)
    | 20, _ => exact dz12 20 (by decide)
    | 21, _ => rfl
    | 22, _ => rfl
    | 23, _ => exact dz12 23 (by decide)
    | 24, _ => rfl
    | 25, _ => rfl
    | 26, _ => exact dz12 26 (by decide)
    | 27, _ => exact dz12 27 (by decide)
    | 28, _ => rfl
    | 29, _ => rfl
    | 30, _ => exact dz12 30 (by decide)
    | 31, _ => exact dz12 31 (by decide)
    | 32, _ => exact dz12 32 (by decide)
    | 33, _ => exact dz12 33 (by decide)
    | 34, _ => exact dz12 34 (by decide)
    | 35, _ => exact dz12 35 (by decide)
    | 36, _ => exact dz12 36 (by decide)
    | 37, _ => exact dz12 37 (by decide)
    | 38, _ => rfl
    | 39, _ => exact dz12 39 (by decide)
    | 40, _ => exact dz12 40 (by decide)
    | 41, _ => rfl
    | 42, _ => exact dz12 42 (by decide)
    | 43, _ => rfl
    | 44, _ => rfl
    | 45, _ => rfl
    | 46, _ => exact dz12 46 (by decide)
    | 47, _ => exact dz12 47 (by decide)
    | 48, _ => rfl
    | 49, _ => exact dz12 49 (by decide)
    | 50, _ => exact dz12 50 (by decide)
    | 51, _ => rfl
    | 52, _ => exact dz12 52 (by decide)
    | 53, _ => rfl
    | 54, _ => exact dz12 54 (by decide)
    | 55, _ => rfl
    | 56, _ => rfl
    | 57, _ => rfl
    | 58, _ => rfl
    | 59, _ => exact dz12 59 (by decide)
    | 60, _ => exact dz12 60 (by decide)
    | 61, _ => exact dz12 61 (by decide)
    | 62, _ => exact dz12 62 (by decide)
    | 63, _ => rfl
    | 64, _ => rfl
    | 65, _ => rfl
    | 66, _ => rfl
    | 67, _ => exact dz12 67 (by decide)
    | 68, _ => exact dz12 68 (by decide)
    | 69, _ => rfl
    | 70, _ => rfl
    | 71, _ => rfl
    | n + 72, h => omega
  · rfl
  · rfl
  · rfl
  · rfl
  · rfl
  · rfl
  · rfl
  · rfl
  · rfl
  · have hj : j < 7 := hj
    match j, hj with
    | 0, _ => rfl
    | 1, _ => rfl
    | 2, _ => rfl
    | 3, _ => rfl
    | 4, _ => rfl
    | 5, _ => rfl
    | 6, _ => rfl
    | n + 7, h => omega
  · rfl
  · rfl
  · rfl
  · rfl
  · rfl
  · rfl
  · rfl
  · rfl
  · rfl
  · rfl
  · rfl
  · rfl
  · rfl
  · rfl
  · rfl
  · rfl
  · rfl
  · rfl
  · rfl
  · rfl
  · rfl
  · rfl
  · rfl
  · rfl
  · rfl
  · rfl
  · rfl
  · rfl
