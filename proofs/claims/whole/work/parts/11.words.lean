theorem tw_in {w : Cond} (h : w ∈ tables_1) (hg : goodN w = true) : w ∈ T0 := T0_ofN (List.mem_append_right _ h) hg
set_option maxRecDepth 100000 in
theorem tw1 {w : Cond} (i : Nat) (h : tables_1_1[i]? = some w) (hg : goodN w = true) : w ∈ T0 := tw_in (List.mem_append_left _ (List.mem_of_getElem? h)) hg
set_option maxRecDepth 100000 in
theorem tw2 {w : Cond} (i : Nat) (h : tables_1_2[i]? = some w) (hg : goodN w = true) : w ∈ T0 := tw_in (List.mem_append_right _ (List.mem_append_left _ (List.mem_of_getElem? h))) hg
set_option maxRecDepth 100000 in
theorem tw3 {w : Cond} (i : Nat) (h : tables_1_3[i]? = some w) (hg : goodN w = true) : w ∈ T0 := tw_in (List.mem_append_right _ (List.mem_append_right _ (List.mem_append_left _ (List.mem_of_getElem? h)))) hg
set_option maxRecDepth 100000 in
theorem tw4 {w : Cond} (i : Nat) (h : tables_1_4[i]? = some w) (hg : goodN w = true) : w ∈ T0 := tw_in (List.mem_append_right _ (List.mem_append_right _ (List.mem_append_right _ (List.mem_append_left _ (List.mem_of_getElem? h))))) hg
set_option maxRecDepth 100000 in
theorem tw5 {w : Cond} (i : Nat) (h : tables_1_5[i]? = some w) (hg : goodN w = true) : w ∈ T0 := tw_in (List.mem_append_right _ (List.mem_append_right _ (List.mem_append_right _ (List.mem_append_right _ (List.mem_append_left _ (List.mem_of_getElem? h)))))) hg
set_option maxRecDepth 100000 in
theorem tw6 {w : Cond} (i : Nat) (h : tables_1_6[i]? = some w) (hg : goodN w = true) : w ∈ T0 := tw_in (List.mem_append_right _ (List.mem_append_right _ (List.mem_append_right _ (List.mem_append_right _ (List.mem_append_right _ (List.mem_append_left _ (List.mem_of_getElem? h))))))) hg
set_option maxRecDepth 100000 in
theorem tw7 {w : Cond} (i : Nat) (h : tables_1_7[i]? = some w) (hg : goodN w = true) : w ∈ T0 := tw_in (List.mem_append_right _ (List.mem_append_right _ (List.mem_append_right _ (List.mem_append_right _ (List.mem_append_right _ (List.mem_append_right _ (List.mem_append_left _ (List.mem_of_getElem? h)))))))) hg
set_option maxRecDepth 100000 in
theorem tw8 {w : Cond} (i : Nat) (h : tables_1_8[i]? = some w) (hg : goodN w = true) : w ∈ T0 := tw_in (List.mem_append_right _ (List.mem_append_right _ (List.mem_append_right _ (List.mem_append_right _ (List.mem_append_right _ (List.mem_append_right _ (List.mem_append_right _ (List.mem_append_left _ (List.mem_of_getElem? h))))))))) hg
set_option maxRecDepth 100000 in
theorem tw9 {w : Cond} (i : Nat) (h : tables_1_9[i]? = some w) (hg : goodN w = true) : w ∈ T0 := tw_in (List.mem_append_right _ (List.mem_append_right _ (List.mem_append_right _ (List.mem_append_right _ (List.mem_append_right _ (List.mem_append_right _ (List.mem_append_right _ (List.mem_append_right _ (List.mem_of_getElem? h))))))))) hg
set_option maxRecDepth 100000 in
theorem fl_9_9 : FL RX9 9 9 0 2 := ⟨(RX9, TX9, 4), rfl, by decide, by decide +kernel, Or.inl (tw1 41 rfl (by decide +kernel))⟩
set_option maxRecDepth 100000 in
theorem fpf_9_9 : FPF RX9 9 9 0 "[I" := ⟨(RX9, TX9, 4), rfl, by decide, by decide +kernel, by decide, by decide, tw1 41 rfl (by decide +kernel)⟩
set_option maxRecDepth 100000 in
theorem fl_9_15 : FL RX9 15 9 1 0 := ⟨(RX9, TX9, 4), rfl, by decide, by decide +kernel, Or.inl (tw1 42 rfl (by decide +kernel))⟩
set_option maxRecDepth 100000 in
theorem fp_9_15 : FP RX9 15 9 1 "I" := ⟨(RX9, TX9, 4), rfl, by decide, by decide +kernel, by decide, Or.inl (tw1 42 rfl (by decide +kernel))⟩
set_option maxRecDepth 100000 in
theorem fl_11_106 : FL RX11 106 9 1 0 := ⟨(RX9, TX9, 4), rfl, by decide, by decide +kernel, Or.inr ⟨"BinsBothSides", (tw1 43 rfl (by decide +kernel))⟩⟩
set_option maxRecDepth 100000 in
theorem fl_9_19 : FL RX9 19 9 2 0 := ⟨(RX9, TX9, 4), rfl, by decide, by decide +kernel, Or.inl (tw1 44 rfl (by decide +kernel))⟩
set_option maxRecDepth 100000 in
theorem fp_9_19 : FP RX9 19 9 2 "I" := ⟨(RX9, TX9, 4), rfl, by decide, by decide +kernel, by decide, Or.inl (tw1 44 rfl (by decide +kernel))⟩
set_option maxRecDepth 100000 in
theorem fl_9_28 : FL RX9 28 9 3 0 := ⟨(RX9, TX9, 4), rfl, by decide, by decide +kernel, Or.inl (tw1 45 rfl (by decide +kernel))⟩
set_option maxRecDepth 100000 in
theorem fp_9_28 : FP RX9 28 9 3 "I" := ⟨(RX9, TX9, 4), rfl, by decide, by decide +kernel, by decide, Or.inl (tw1 45 rfl (by decide +kernel))⟩
set_option maxRecDepth 100000 in
theorem fl_6_9 : FL RX6 9 6 0 2 := ⟨(RX6, TX6, 1), rfl, by decide, by decide +kernel, Or.inl (tw1 62 rfl (by decide +kernel))⟩
set_option maxRecDepth 100000 in
theorem fpf_6_9 : FPF RX6 9 6 0 "[I" := ⟨(RX6, TX6, 1), rfl, by decide, by decide +kernel, by decide, by decide, tw1 62 rfl (by decide +kernel)⟩
set_option maxRecDepth 100000 in
theorem fl_5_9 : FL RX5 9 5 0 2 := ⟨(RX5, TX5, 6), rfl, by decide, by decide +kernel, Or.inl (tw1 72 rfl (by decide +kernel))⟩
set_option maxRecDepth 100000 in
theorem fp_5_9 : FP RX5 9 5 0 "[I" := ⟨(RX5, TX5, 6), rfl, by decide, by decide +kernel, by decide, Or.inl (tw1 72 rfl (by decide +kernel))⟩
set_option maxRecDepth 100000 in
theorem fl_5_43 : FL RX5 43 5 1 0 := ⟨(RX5, TX5, 6), rfl, by decide, by decide +kernel, Or.inl (tw1 73 rfl (by decide +kernel))⟩
set_option maxRecDepth 100000 in
theorem fp_5_43 : FP RX5 43 5 1 "I" := ⟨(RX5, TX5, 6), rfl, by decide, by decide +kernel, by decide, Or.inl (tw1 73 rfl (by decide +kernel))⟩
set_option maxRecDepth 100000 in
theorem fl_5_15 : FL RX5 15 5 2 2 := ⟨(RX5, TX5, 6), rfl, by decide, by decide +kernel, Or.inl (tw1 74 rfl (by decide +kernel))⟩
set_option maxRecDepth 100000 in
theorem fp_5_15 : FP RX5 15 5 2 "[I" := ⟨(RX5, TX5, 6), rfl, by decide, by decide +kernel, by decide, Or.inl (tw1 74 rfl (by decide +kernel))⟩
set_option maxRecDepth 100000 in
theorem fl_5_27 : FL RX5 27 5 3 0 := ⟨(RX5, TX5, 6), rfl, by decide, by decide +kernel, Or.inl (tw1 75 rfl (by decide +kernel))⟩
set_option maxRecDepth 100000 in
theorem fp_5_27 : FP RX5 27 5 3 "I" := ⟨(RX5, TX5, 6), rfl, by decide, by decide +kernel, by decide, Or.inl (tw1 75 rfl (by decide +kernel))⟩
set_option maxRecDepth 100000 in
theorem fl_5_18 : FL RX5 18 5 4 2 := ⟨(RX5, TX5, 6), rfl, by decide, by decide +kernel, Or.inl (tw1 76 rfl (by decide +kernel))⟩
set_option maxRecDepth 100000 in
theorem fpf_5_18 : FPF RX5 18 5 4 "[I" := ⟨(RX5, TX5, 6), rfl, by decide, by decide +kernel, by decide, by decide, tw1 76 rfl (by decide +kernel)⟩
set_option maxRecDepth 100000 in
theorem fl_5_87 : FL RX5 87 5 5 0 := ⟨(RX5, TX5, 6), rfl, by decide, by decide +kernel, Or.inl (tw1 77 rfl (by decide +kernel))⟩
set_option maxRecDepth 100000 in
theorem fp_5_87 : FP RX5 87 5 5 "I" := ⟨(RX5, TX5, 6), rfl, by decide, by decide +kernel, by decide, Or.inl (tw1 77 rfl (by decide +kernel))⟩
set_option maxRecDepth 100000 in
theorem fl_8_22 : FL RX8 22 8 0 0 := ⟨(RX8, TX8, 9), rfl, by decide, by decide +kernel, Or.inl (tw1 104 rfl (by decide +kernel))⟩
set_option maxRecDepth 100000 in
theorem fpf_8_22 : FPF RX8 22 8 0 "I" := ⟨(RX8, TX8, 9), rfl, by decide, by decide +kernel, by decide, by decide, tw1 104 rfl (by decide +kernel)⟩
set_option maxRecDepth 100000 in
theorem fl_0_37 : FL RX0 37 8 0 0 := ⟨(RX8, TX8, 9), rfl, by decide, by decide +kernel, Or.inr ⟨"BinsBothSides", (tw1 105 rfl (by decide +kernel))⟩⟩
set_option maxRecDepth 100000 in
theorem fl_2_88 : FL RX2 88 8 0 0 := ⟨(RX8, TX8, 9), rfl, by decide, by decide +kernel, Or.inr ⟨"BinsBothSides", (tw1 106 rfl (by decide +kernel))⟩⟩
set_option maxRecDepth 100000 in
theorem fl_11_347 : FL RX11 347 8 0 0 := ⟨(RX8, TX8, 9), rfl, by decide, by decide +kernel, Or.inr ⟨"BinsBothSides", (tw1 107 rfl (by decide +kernel))⟩⟩
set_option maxRecDepth 100000 in
theorem fl_8_9 : FL RX8 9 8 1 2 := ⟨(RX8, TX8, 9), rfl, by decide, by decide +kernel, Or.inl (tw1 108 rfl (by decide +kernel))⟩
set_option maxRecDepth 100000 in
theorem fpf_8_9 : FPF RX8 9 8 1 "[I" := ⟨(RX8, TX8, 9), rfl, by decide, by decide +kernel, by decide, by decide, tw1 108 rfl (by decide +kernel)⟩
set_option maxRecDepth 100000 in
theorem fl_8_38 : FL RX8 38 8 2 0 := ⟨(RX8, TX8, 9), rfl, by decide, by decide +kernel, Or.inl (tw1 109 rfl (by decide +kernel))⟩
set_option maxRecDepth 100000 in
theorem fp_8_38 : FP RX8 38 8 2 "I" := ⟨(RX8, TX8, 9), rfl, by decide, by decide +kernel, by decide, Or.inl (tw1 109 rfl (by decide +kernel))⟩
set_option maxRecDepth 100000 in
theorem fl_10_64 : FL RX10 64 8 2 0 := ⟨(RX8, TX8, 9), rfl, by decide, by decide +kernel, Or.inr ⟨"BinsBothSides", (tw1 110 rfl (by decide +kernel))⟩⟩
set_option maxRecDepth 100000 in
theorem fp_10_64 : FP RX10 64 8 2 "I" := ⟨(RX8, TX8, 9), rfl, by decide, by decide +kernel, by decide, Or.inr ⟨"BinsBothSides", (tw1 110 rfl (by decide +kernel))⟩⟩
set_option maxRecDepth 100000 in
theorem fl_11_144 : FL RX11 144 8 2 0 := ⟨(RX8, TX8, 9), rfl, by decide, by decide +kernel, Or.inr ⟨"BinsBothSides", (tw1 111 rfl (by decide +kernel))⟩⟩
set_option maxRecDepth 100000 in
theorem fl_4_125 : FL RX4 125 8 2 0 := ⟨(RX8, TX8, 9), rfl, by decide, by decide +kernel, Or.inr ⟨"BinsBothSides", (tw1 112 rfl (by decide +kernel))⟩⟩
set_option maxRecDepth 100000 in
theorem fl_2_85 : FL RX2 85 8 3 0 := ⟨(RX8, TX8, 9), rfl, by decide, by decide +kernel, Or.inr ⟨"BinsBothSides", (tw1 113 rfl (by decide +kernel))⟩⟩
set_option maxRecDepth 100000 in
theorem fl_3_83 : FL RX3 83 8 3 0 := ⟨(RX8, TX8, 9), rfl, by decide, by decide +kernel, Or.inr ⟨"BinsBothSides", (tw1 114 rfl (by decide +kernel))⟩⟩
set_option maxRecDepth 100000 in
theorem fl_11_149 : FL RX11 149 8 3 0 := ⟨(RX8, TX8, 9), rfl, by decide, by decide +kernel, Or.inr ⟨"BinsBothSides", (tw1 115 rfl (by decide +kernel))⟩⟩
set_option maxRecDepth 100000 in
theorem fl_8_65 : FL RX8 65 8 3 0 := ⟨(RX8, TX8, 9), rfl, by decide, by decide +kernel, Or.inl (tw1 116 rfl (by decide +kernel))⟩
set_option maxRecDepth 100000 in
theorem fp_8_65 : FP RX8 65 8 3 "I" := ⟨(RX8, TX8, 9), rfl, by decide, by decide +kernel, by decide, Or.inl (tw1 116 rfl (by decide +kernel))⟩
set_option maxRecDepth 100000 in
theorem fl_4_77 : FL RX4 77 8 4 0 := ⟨(RX8, TX8, 9), rfl, by decide, by decide +kernel, Or.inr ⟨"BinsBothSides", (tw1 117 rfl (by decide +kernel))⟩⟩
set_option maxRecDepth 100000 in
theorem fl_8_49 : FL RX8 49 8 4 0 := ⟨(RX8, TX8, 9), rfl, by decide, by decide +kernel, Or.inl (tw1 118 rfl (by decide +kernel))⟩
set_option maxRecDepth 100000 in
theorem fp_8_49 : FP RX8 49 8 4 "I" := ⟨(RX8, TX8, 9), rfl, by decide, by decide +kernel, by decide, Or.inl (tw1 118 rfl (by decide +kernel))⟩
set_option maxRecDepth 100000 in
theorem fl_11_152 : FL RX11 152 8 4 0 := ⟨(RX8, TX8, 9), rfl, by decide, by decide +kernel, Or.inr ⟨"BinsBothSides", (tw1 119 rfl (by decide +kernel))⟩⟩
set_option maxRecDepth 100000 in
theorem fl_2_97 : FL RX2 97 8 5 0 := ⟨(RX8, TX8, 9), rfl, by decide, by decide +kernel, Or.inr ⟨"BinsBothSides", (tw1 120 rfl (by decide +kernel))⟩⟩
set_option maxRecDepth 100000 in
theorem fl_8_45 : FL RX8 45 8 5 0 := ⟨(RX8, TX8, 9), rfl, by decide, by decide +kernel, Or.inl (tw1 121 rfl (by decide +kernel))⟩
set_option maxRecDepth 100000 in
theorem fp_8_45 : FP RX8 45 8 5 "Z" := ⟨(RX8, TX8, 9), rfl, by decide, by decide +kernel, by decide, Or.inl (tw1 121 rfl (by decide +kernel))⟩
set_option maxRecDepth 100000 in
theorem fl_11_155 : FL RX11 155 8 5 0 := ⟨(RX8, TX8, 9), rfl, by decide, by decide +kernel, Or.inr ⟨"BinsBothSides", (tw1 122 rfl (by decide +kernel))⟩⟩
set_option maxRecDepth 100000 in
theorem fl_0_43 : FL RX0 43 8 6 0 := ⟨(RX8, TX8, 9), rfl, by decide, by decide +kernel, Or.inr ⟨"BinsBothSides", (tw1 123 rfl (by decide +kernel))⟩⟩
set_option maxRecDepth 100000 in
theorem fl_11_159 : FL RX11 159 8 6 0 := ⟨(RX8, TX8, 9), rfl, by decide, by decide +kernel, Or.inr ⟨"BinsBothSides", (tw1 124 rfl (by decide +kernel))⟩⟩
set_option maxRecDepth 100000 in
theorem fp_11_159 : FP RX11 159 8 6 "I" := ⟨(RX8, TX8, 9), rfl, by decide, by decide +kernel, by decide, Or.inr ⟨"BinsBothSides", (tw1 124 rfl (by decide +kernel))⟩⟩
set_option maxRecDepth 100000 in
theorem fl_8_15 : FL RX8 15 8 7 0 := ⟨(RX8, TX8, 9), rfl, by decide, by decide +kernel, Or.inl (tw1 125 rfl (by decide +kernel))⟩
set_option maxRecDepth 100000 in
theorem fp_8_15 : FP RX8 15 8 7 "I" := ⟨(RX8, TX8, 9), rfl, by decide, by decide +kernel, by decide, Or.inl (tw1 125 rfl (by decide +kernel))⟩
set_option maxRecDepth 100000 in
theorem fl_11_162 : FL RX11 162 8 7 0 := ⟨(RX8, TX8, 9), rfl, by decide, by decide +kernel, Or.inr ⟨"BinsBothSides", (tw1 126 rfl (by decide +kernel))⟩⟩
set_option maxRecDepth 100000 in
theorem fl_8_19 : FL RX8 19 8 8 0 := ⟨(RX8, TX8, 9), rfl, by decide, by decide +kernel, Or.inl (tw1 127 rfl (by decide +kernel))⟩
set_option maxRecDepth 100000 in
theorem fp_8_19 : FP RX8 19 8 8 "I" := ⟨(RX8, TX8, 9), rfl, by decide, by decide +kernel, by decide, Or.inl (tw1 127 rfl (by decide +kernel))⟩
set_option maxRecDepth 100000 in
theorem fl_11_165 : FL RX11 165 8 8 0 := ⟨(RX8, TX8, 9), rfl, by decide, by decide +kernel, Or.inr ⟨"BinsBothSides", (tw1 128 rfl (by decide +kernel))⟩⟩
set_option maxRecDepth 100000 in
theorem fl_10_11 : FL RX10 11 10 0 2 := ⟨(RX10, TX10, 2), rfl, by decide, by decide +kernel, Or.inl (tw1 148 rfl (by decide +kernel))⟩
set_option maxRecDepth 100000 in
theorem fpf_10_11 : FPF RX10 11 10 0 "[LBinsBothSides$Street;" := ⟨(RX10, TX10, 2), rfl, by decide, by decide +kernel, by decide, by decide, tw1 148 rfl (by decide +kernel)⟩
set_option maxRecDepth 100000 in
theorem fl_10_20 : FL RX10 20 10 1 0 := ⟨(RX10, TX10, 2), rfl, by decide, by decide +kernel, Or.inl (tw1 149 rfl (by decide +kernel))⟩
set_option maxRecDepth 100000 in
theorem fp_10_20 : FP RX10 20 10 1 "I" := ⟨(RX10, TX10, 2), rfl, by decide, by decide +kernel, by decide, Or.inl (tw1 149 rfl (by decide +kernel))⟩
set_option maxRecDepth 100000 in
theorem fl_4_68 : FL RX4 68 10 1 0 := ⟨(RX10, TX10, 2), rfl, by decide, by decide +kernel, Or.inr ⟨"BinsBothSides", (tw1 150 rfl (by decide +kernel))⟩⟩
set_option maxRecDepth 100000 in
theorem fl_11_113 : FL RX11 113 10 1 0 := ⟨(RX10, TX10, 2), rfl, by decide, by decide +kernel, Or.inr ⟨"BinsBothSides", (tw1 151 rfl (by decide +kernel))⟩⟩
set_option maxRecDepth 100000 in
theorem fl_0_49 : FL RX0 49 10 1 0 := ⟨(RX10, TX10, 2), rfl, by decide, by decide +kernel, Or.inr ⟨"BinsBothSides", (tw1 152 rfl (by decide +kernel))⟩⟩
set_option maxRecDepth 100000 in
theorem fl_7_9 : FL RX7 9 7 0 2 := ⟨(RX7, TX7, 6), rfl, by decide, by decide +kernel, Or.inl (tw1 164 rfl (by decide +kernel))⟩
set_option maxRecDepth 100000 in
theorem fpf_7_9 : FPF RX7 9 7 0 "[I" := ⟨(RX7, TX7, 6), rfl, by decide, by decide +kernel, by decide, by decide, tw1 164 rfl (by decide +kernel)⟩
set_option maxRecDepth 100000 in
theorem fl_11_352 : FL RX11 352 7 0 2 := ⟨(RX7, TX7, 6), rfl, by decide, by decide +kernel, Or.inr ⟨"BinsBothSides", (tw1 165 rfl (by decide +kernel))⟩⟩
set_option maxRecDepth 100000 in
theorem fl_7_15 : FL RX7 15 7 1 2 := ⟨(RX7, TX7, 6), rfl, by decide, by decide +kernel, Or.inl (tw1 166 rfl (by decide +kernel))⟩
set_option maxRecDepth 100000 in
theorem fpf_7_15 : FPF RX7 15 7 1 "[I" := ⟨(RX7, TX7, 6), rfl, by decide, by decide +kernel, by decide, by decide, tw1 166 rfl (by decide +kernel)⟩
set_option maxRecDepth 100000 in
theorem fl_7_18 : FL RX7 18 7 2 2 := ⟨(RX7, TX7, 6), rfl, by decide, by decide +kernel, Or.inl (tw1 167 rfl (by decide +kernel))⟩
set_option maxRecDepth 100000 in
theorem fpf_7_18 : FPF RX7 18 7 2 "[I" := ⟨(RX7, TX7, 6), rfl, by decide, by decide +kernel, by decide, by decide, tw1 167 rfl (by decide +kernel)⟩
set_option maxRecDepth 100000 in
theorem fl_7_27 : FL RX7 27 7 3 0 := ⟨(RX7, TX7, 6), rfl, by decide, by decide +kernel, Or.inl (tw1 168 rfl (by decide +kernel))⟩
set_option maxRecDepth 100000 in
theorem fp_7_27 : FP RX7 27 7 3 "I" := ⟨(RX7, TX7, 6), rfl, by decide, by decide +kernel, by decide, Or.inl (tw1 168 rfl (by decide +kernel))⟩
set_option maxRecDepth 100000 in
theorem fl_11_203 : FL RX11 203 7 3 0 := ⟨(RX7, TX7, 6), rfl, by decide, by decide +kernel, Or.inr ⟨"BinsBothSides", (tw1 169 rfl (by decide +kernel))⟩⟩
set_option maxRecDepth 100000 in
theorem fp_11_203 : FP RX11 203 7 3 "I" := ⟨(RX7, TX7, 6), rfl, by decide, by decide +kernel, by decide, Or.inr ⟨"BinsBothSides", (tw1 169 rfl (by decide +kernel))⟩⟩
set_option maxRecDepth 100000 in
theorem fl_7_31 : FL RX7 31 7 4 0 := ⟨(RX7, TX7, 6), rfl, by decide, by decide +kernel, Or.inl (tw1 170 rfl (by decide +kernel))⟩
set_option maxRecDepth 100000 in
theorem fp_7_31 : FP RX7 31 7 4 "I" := ⟨(RX7, TX7, 6), rfl, by decide, by decide +kernel, by decide, Or.inl (tw1 170 rfl (by decide +kernel))⟩
set_option maxRecDepth 100000 in
theorem fl_11_252 : FL RX11 252 7 4 0 := ⟨(RX7, TX7, 6), rfl, by decide, by decide +kernel, Or.inr ⟨"BinsBothSides", (tw1 171 rfl (by decide +kernel))⟩⟩
set_option maxRecDepth 100000 in
theorem fp_11_252 : FP RX11 252 7 4 "I" := ⟨(RX7, TX7, 6), rfl, by decide, by decide +kernel, by decide, Or.inr ⟨"BinsBothSides", (tw1 171 rfl (by decide +kernel))⟩⟩
set_option maxRecDepth 100000 in
theorem fl_7_34 : FL RX7 34 7 5 0 := ⟨(RX7, TX7, 6), rfl, by decide, by decide +kernel, Or.inl (tw1 172 rfl (by decide +kernel))⟩
set_option maxRecDepth 100000 in
theorem fp_7_34 : FP RX7 34 7 5 "I" := ⟨(RX7, TX7, 6), rfl, by decide, by decide +kernel, by decide, Or.inl (tw1 172 rfl (by decide +kernel))⟩
set_option maxRecDepth 100000 in
theorem fl_11_253 : FL RX11 253 7 5 0 := ⟨(RX7, TX7, 6), rfl, by decide, by decide +kernel, Or.inr ⟨"BinsBothSides", (tw1 173 rfl (by decide +kernel))⟩⟩
set_option maxRecDepth 100000 in
theorem fp_11_253 : FP RX11 253 7 5 "I" := ⟨(RX7, TX7, 6), rfl, by decide, by decide +kernel, by decide, Or.inr ⟨"BinsBothSides", (tw1 173 rfl (by decide +kernel))⟩⟩
set_option maxRecDepth 100000 in
theorem fl_1_11 : FL RX1 11 1 0 2 := ⟨(RX1, TX1, 3), rfl, by decide, by decide +kernel, Or.inl (tw1 196 rfl (by decide +kernel))⟩
set_option maxRecDepth 100000 in
theorem fpf_1_11 : FPF RX1 11 1 0 "[LBinsBothSides$State;" := ⟨(RX1, TX1, 3), rfl, by decide, by decide +kernel, by decide, by decide, tw1 196 rfl (by decide +kernel)⟩
set_option maxRecDepth 100000 in
theorem fl_1_16 : FL RX1 16 1 1 2 := ⟨(RX1, TX1, 3), rfl, by decide, by decide +kernel, Or.inl (tw1 197 rfl (by decide +kernel))⟩
set_option maxRecDepth 100000 in
theorem fpf_1_16 : FPF RX1 16 1 1 "LBinsBothSides$State;" := ⟨(RX1, TX1, 3), rfl, by decide, by decide +kernel, by decide, by decide, tw1 197 rfl (by decide +kernel)⟩
set_option maxRecDepth 100000 in
theorem fl_1_24 : FL RX1 24 1 2 0 := ⟨(RX1, TX1, 3), rfl, by decide, by decide +kernel, Or.inl (tw1 198 rfl (by decide +kernel))⟩
set_option maxRecDepth 100000 in
theorem fp_1_24 : FP RX1 24 1 2 "I" := ⟨(RX1, TX1, 3), rfl, by decide, by decide +kernel, by decide, Or.inl (tw1 198 rfl (by decide +kernel))⟩
set_option maxRecDepth 100000 in
theorem fl_11_272 : FL RX11 272 1 2 0 := ⟨(RX1, TX1, 3), rfl, by decide, by decide +kernel, Or.inr ⟨"BinsBothSides", (tw1 199 rfl (by decide +kernel))⟩⟩
set_option maxRecDepth 100000 in
theorem fl_3_30 : FL RX3 30 3 0 2 := ⟨(RX3, TX3, 10), rfl, by decide, by decide +kernel, Or.inl (tw1 213 rfl (by decide +kernel))⟩
set_option maxRecDepth 100000 in
theorem fpf_3_30 : FPF RX3 30 3 0 "LBinsBothSides$Town;" := ⟨(RX3, TX3, 10), rfl, by decide, by decide +kernel, by decide, by decide, tw1 213 rfl (by decide +kernel)⟩
set_option maxRecDepth 100000 in
theorem fl_3_34 : FL RX3 34 3 1 2 := ⟨(RX3, TX3, 10), rfl, by decide, by decide +kernel, Or.inl (tw1 214 rfl (by decide +kernel))⟩
set_option maxRecDepth 100000 in
theorem fpf_3_34 : FPF RX3 34 3 1 "LBinsBothSides$Settings;" := ⟨(RX3, TX3, 10), rfl, by decide, by decide +kernel, by decide, by decide, tw1 214 rfl (by decide +kernel)⟩
set_option maxRecDepth 100000 in
theorem fl_3_11 : FL RX3 11 3 2 2 := ⟨(RX3, TX3, 10), rfl, by decide, by decide +kernel, Or.inl (tw1 215 rfl (by decide +kernel))⟩
set_option maxRecDepth 100000 in
theorem fpf_3_11 : FPF RX3 11 3 2 "[I" := ⟨(RX3, TX3, 10), rfl, by decide, by decide +kernel, by decide, by decide, tw1 215 rfl (by decide +kernel)⟩
set_option maxRecDepth 100000 in
theorem fl_3_15 : FL RX3 15 3 3 2 := ⟨(RX3, TX3, 10), rfl, by decide, by decide +kernel, Or.inl (tw1 216 rfl (by decide +kernel))⟩
set_option maxRecDepth 100000 in
theorem fpf_3_15 : FPF RX3 15 3 3 "[I" := ⟨(RX3, TX3, 10), rfl, by decide, by decide +kernel, by decide, by decide, tw1 216 rfl (by decide +kernel)⟩
set_option maxRecDepth 100000 in
theorem fl_3_38 : FL RX3 38 3 4 0 := ⟨(RX3, TX3, 10), rfl, by decide, by decide +kernel, Or.inl (tw1 217 rfl (by decide +kernel))⟩
set_option maxRecDepth 100000 in
theorem fp_3_38 : FP RX3 38 3 4 "I" := ⟨(RX3, TX3, 10), rfl, by decide, by decide +kernel, by decide, Or.inl (tw1 217 rfl (by decide +kernel))⟩
set_option maxRecDepth 100000 in
theorem fl_11_422 : FL RX11 422 3 4 0 := ⟨(RX3, TX3, 10), rfl, by decide, by decide +kernel, Or.inr ⟨"BinsBothSides", (tw1 218 rfl (by decide +kernel))⟩⟩
set_option maxRecDepth 100000 in
theorem fp_11_422 : FP RX11 422 3 4 "I" := ⟨(RX3, TX3, 10), rfl, by decide, by decide +kernel, by decide, Or.inr ⟨"BinsBothSides", (tw1 218 rfl (by decide +kernel))⟩⟩
set_option maxRecDepth 100000 in
theorem fl_3_18 : FL RX3 18 3 5 2 := ⟨(RX3, TX3, 10), rfl, by decide, by decide +kernel, Or.inl (tw1 219 rfl (by decide +kernel))⟩
set_option maxRecDepth 100000 in
theorem fpf_3_18 : FPF RX3 18 3 5 "[I" := ⟨(RX3, TX3, 10), rfl, by decide, by decide +kernel, by decide, by decide, tw1 219 rfl (by decide +kernel)⟩
set_option maxRecDepth 100000 in
theorem fl_3_21 : FL RX3 21 3 6 2 := ⟨(RX3, TX3, 10), rfl, by decide, by decide +kernel, Or.inl (tw1 220 rfl (by decide +kernel))⟩
set_option maxRecDepth 100000 in
theorem fpf_3_21 : FPF RX3 21 3 6 "[I" := ⟨(RX3, TX3, 10), rfl, by decide, by decide +kernel, by decide, by decide, tw1 220 rfl (by decide +kernel)⟩
set_option maxRecDepth 100000 in
theorem fl_3_24 : FL RX3 24 3 7 2 := ⟨(RX3, TX3, 10), rfl, by decide, by decide +kernel, Or.inl (tw1 221 rfl (by decide +kernel))⟩
set_option maxRecDepth 100000 in
theorem fpf_3_24 : FPF RX3 24 3 7 "[I" := ⟨(RX3, TX3, 10), rfl, by decide, by decide +kernel, by decide, by decide, tw1 221 rfl (by decide +kernel)⟩
set_option maxRecDepth 100000 in
theorem fl_3_27 : FL RX3 27 3 8 2 := ⟨(RX3, TX3, 10), rfl, by decide, by decide +kernel, Or.inl (tw1 222 rfl (by decide +kernel))⟩
set_option maxRecDepth 100000 in
theorem fpf_3_27 : FPF RX3 27 3 8 "[I" := ⟨(RX3, TX3, 10), rfl, by decide, by decide +kernel, by decide, by decide, tw1 222 rfl (by decide +kernel)⟩
set_option maxRecDepth 100000 in
theorem fl_3_64 : FL RX3 64 3 9 0 := ⟨(RX3, TX3, 10), rfl, by decide, by decide +kernel, Or.inl (tw1 223 rfl (by decide +kernel))⟩
set_option maxRecDepth 100000 in
theorem fp_3_64 : FP RX3 64 3 9 "Z" := ⟨(RX3, TX3, 10), rfl, by decide, by decide +kernel, by decide, Or.inl (tw1 223 rfl (by decide +kernel))⟩
set_option maxRecDepth 100000 in
theorem fl_11_432 : FL RX11 432 3 9 0 := ⟨(RX3, TX3, 10), rfl, by decide, by decide +kernel, Or.inr ⟨"BinsBothSides", (tw1 224 rfl (by decide +kernel))⟩⟩
set_option maxRecDepth 100000 in
theorem fl_2_31 : FL RX2 31 2 0 2 := ⟨(RX2, TX2, 19), rfl, by decide, by decide +kernel, Or.inl (tw2 12 rfl (by decide +kernel))⟩
set_option maxRecDepth 100000 in
theorem fpf_2_31 : FPF RX2 31 2 0 "LBinsBothSides$Settings;" := ⟨(RX2, TX2, 19), rfl, by decide, by decide +kernel, by decide, by decide, tw2 12 rfl (by decide +kernel)⟩
set_option maxRecDepth 100000 in
theorem fl_2_35 : FL RX2 35 2 1 2 := ⟨(RX2, TX2, 19), rfl, by decide, by decide +kernel, Or.inl (tw2 13 rfl (by decide +kernel))⟩
set_option maxRecDepth 100000 in
theorem fpf_2_35 : FPF RX2 35 2 1 "LBinsBothSides$Rule;" := ⟨(RX2, TX2, 19), rfl, by decide, by decide +kernel, by decide, by decide, tw2 13 rfl (by decide +kernel)⟩
set_option maxRecDepth 100000 in
theorem fl_2_11 : FL RX2 11 2 2 2 := ⟨(RX2, TX2, 19), rfl, by decide, by decide +kernel, Or.inl (tw2 14 rfl (by decide +kernel))⟩
set_option maxRecDepth 100000 in
theorem fpf_2_11 : FPF RX2 11 2 2 "[I" := ⟨(RX2, TX2, 19), rfl, by decide, by decide +kernel, by decide, by decide, tw2 14 rfl (by decide +kernel)⟩
set_option maxRecDepth 100000 in
theorem fl_2_15 : FL RX2 15 2 3 2 := ⟨(RX2, TX2, 19), rfl, by decide, by decide +kernel, Or.inl (tw2 15 rfl (by decide +kernel))⟩
set_option maxRecDepth 100000 in
theorem fpf_2_15 : FPF RX2 15 2 3 "[I" := ⟨(RX2, TX2, 19), rfl, by decide, by decide +kernel, by decide, by decide, tw2 15 rfl (by decide +kernel)⟩
set_option maxRecDepth 100000 in
theorem fl_2_18 : FL RX2 18 2 4 2 := ⟨(RX2, TX2, 19), rfl, by decide, by decide +kernel, Or.inl (tw2 16 rfl (by decide +kernel))⟩
set_option maxRecDepth 100000 in
theorem fpf_2_18 : FPF RX2 18 2 4 "[I" := ⟨(RX2, TX2, 19), rfl, by decide, by decide +kernel, by decide, by decide, tw2 16 rfl (by decide +kernel)⟩
set_option maxRecDepth 100000 in
theorem fl_2_21 : FL RX2 21 2 5 2 := ⟨(RX2, TX2, 19), rfl, by decide, by decide +kernel, Or.inl (tw2 17 rfl (by decide +kernel))⟩
set_option maxRecDepth 100000 in
theorem fpf_2_21 : FPF RX2 21 2 5 "[I" := ⟨(RX2, TX2, 19), rfl, by decide, by decide +kernel, by decide, by decide, tw2 17 rfl (by decide +kernel)⟩
set_option maxRecDepth 100000 in
theorem fl_2_24 : FL RX2 24 2 6 2 := ⟨(RX2, TX2, 19), rfl, by decide, by decide +kernel, Or.inl (tw2 18 rfl (by decide +kernel))⟩
set_option maxRecDepth 100000 in
theorem fpf_2_24 : FPF RX2 24 2 6 "[I" := ⟨(RX2, TX2, 19), rfl, by decide, by decide +kernel, by decide, by decide, tw2 18 rfl (by decide +kernel)⟩
set_option maxRecDepth 100000 in
theorem fl_2_27 : FL RX2 27 2 7 0 := ⟨(RX2, TX2, 19), rfl, by decide, by decide +kernel, Or.inl (tw2 19 rfl (by decide +kernel))⟩
set_option maxRecDepth 100000 in
theorem fp_2_27 : FP RX2 27 2 7 "I" := ⟨(RX2, TX2, 19), rfl, by decide, by decide +kernel, by decide, Or.inl (tw2 19 rfl (by decide +kernel))⟩
set_option maxRecDepth 100000 in
theorem fl_2_45 : FL RX2 45 2 8 0 := ⟨(RX2, TX2, 19), rfl, by decide, by decide +kernel, Or.inl (tw2 20 rfl (by decide +kernel))⟩
set_option maxRecDepth 100000 in
theorem fp_2_45 : FP RX2 45 2 8 "I" := ⟨(RX2, TX2, 19), rfl, by decide, by decide +kernel, by decide, Or.inl (tw2 20 rfl (by decide +kernel))⟩
set_option maxRecDepth 100000 in
theorem fl_2_60 : FL RX2 60 2 9 0 := ⟨(RX2, TX2, 19), rfl, by decide, by decide +kernel, Or.inl (tw2 21 rfl (by decide +kernel))⟩
set_option maxRecDepth 100000 in
theorem fp_2_60 : FP RX2 60 2 9 "I" := ⟨(RX2, TX2, 19), rfl, by decide, by decide +kernel, by decide, Or.inl (tw2 21 rfl (by decide +kernel))⟩
set_option maxRecDepth 100000 in
theorem fl_2_48 : FL RX2 48 2 10 0 := ⟨(RX2, TX2, 19), rfl, by decide, by decide +kernel, Or.inl (tw2 22 rfl (by decide +kernel))⟩
set_option maxRecDepth 100000 in
theorem fp_2_48 : FP RX2 48 2 10 "I" := ⟨(RX2, TX2, 19), rfl, by decide, by decide +kernel, by decide, Or.inl (tw2 22 rfl (by decide +kernel))⟩
set_option maxRecDepth 100000 in
theorem fl_2_82 : FL RX2 82 2 11 0 := ⟨(RX2, TX2, 19), rfl, by decide, by decide +kernel, Or.inl (tw2 23 rfl (by decide +kernel))⟩
set_option maxRecDepth 100000 in
theorem fp_2_82 : FP RX2 82 2 11 "I" := ⟨(RX2, TX2, 19), rfl, by decide, by decide +kernel, by decide, Or.inl (tw2 23 rfl (by decide +kernel))⟩
set_option maxRecDepth 100000 in
theorem fl_11_321 : FL RX11 321 2 11 0 := ⟨(RX2, TX2, 19), rfl, by decide, by decide +kernel, Or.inr ⟨"BinsBothSides", (tw2 24 rfl (by decide +kernel))⟩⟩
set_option maxRecDepth 100000 in
theorem fl_2_51 : FL RX2 51 2 12 0 := ⟨(RX2, TX2, 19), rfl, by decide, by decide +kernel, Or.inl (tw2 25 rfl (by decide +kernel))⟩
set_option maxRecDepth 100000 in
theorem fp_2_51 : FP RX2 51 2 12 "I" := ⟨(RX2, TX2, 19), rfl, by decide, by decide +kernel, by decide, Or.inl (tw2 25 rfl (by decide +kernel))⟩
set_option maxRecDepth 100000 in
theorem fl_4_122 : FL RX4 122 2 12 0 := ⟨(RX2, TX2, 19), rfl, by decide, by decide +kernel, Or.inr ⟨"BinsBothSides", (tw2 26 rfl (by decide +kernel))⟩⟩
set_option maxRecDepth 100000 in
theorem fl_11_390 : FL RX11 390 2 12 0 := ⟨(RX2, TX2, 19), rfl, by decide, by decide +kernel, Or.inr ⟨"BinsBothSides", (tw2 27 rfl (by decide +kernel))⟩⟩
set_option maxRecDepth 100000 in
theorem fl_2_116 : FL RX2 116 2 13 0 := ⟨(RX2, TX2, 19), rfl, by decide, by decide +kernel, Or.inl (tw2 28 rfl (by decide +kernel))⟩
set_option maxRecDepth 100000 in
theorem fp_2_116 : FP RX2 116 2 13 "I" := ⟨(RX2, TX2, 19), rfl, by decide, by decide +kernel, by decide, Or.inl (tw2 28 rfl (by decide +kernel))⟩
set_option maxRecDepth 100000 in
theorem fl_11_334 : FL RX11 334 2 13 0 := ⟨(RX2, TX2, 19), rfl, by decide, by decide +kernel, Or.inr ⟨"BinsBothSides", (tw2 29 rfl (by decide +kernel))⟩⟩
set_option maxRecDepth 100000 in
theorem fl_2_101 : FL RX2 101 2 14 0 := ⟨(RX2, TX2, 19), rfl, by decide, by decide +kernel, Or.inl (tw2 30 rfl (by decide +kernel))⟩
set_option maxRecDepth 100000 in
theorem fp_2_101 : FP RX2 101 2 14 "I" := ⟨(RX2, TX2, 19), rfl, by decide, by decide +kernel, by decide, Or.inl (tw2 30 rfl (by decide +kernel))⟩
set_option maxRecDepth 100000 in
theorem fl_7_43 : FL RX7 43 2 14 0 := ⟨(RX2, TX2, 19), rfl, by decide, by decide +kernel, Or.inr ⟨"BinsBothSides", (tw2 31 rfl (by decide +kernel))⟩⟩
set_option maxRecDepth 100000 in
theorem fl_11_226 : FL RX11 226 2 14 0 := ⟨(RX2, TX2, 19), rfl, by decide, by decide +kernel, Or.inr ⟨"BinsBothSides", (tw2 32 rfl (by decide +kernel))⟩⟩
set_option maxRecDepth 100000 in
theorem fl_2_104 : FL RX2 104 2 15 0 := ⟨(RX2, TX2, 19), rfl, by decide, by decide +kernel, Or.inl (tw2 33 rfl (by decide +kernel))⟩
set_option maxRecDepth 100000 in
theorem fp_2_104 : FP RX2 104 2 15 "I" := ⟨(RX2, TX2, 19), rfl, by decide, by decide +kernel, by decide, Or.inl (tw2 33 rfl (by decide +kernel))⟩
set_option maxRecDepth 100000 in
theorem fl_7_48 : FL RX7 48 2 15 0 := ⟨(RX2, TX2, 19), rfl, by decide, by decide +kernel, Or.inr ⟨"BinsBothSides", (tw2 34 rfl (by decide +kernel))⟩⟩
set_option maxRecDepth 100000 in
theorem fl_11_233 : FL RX11 233 2 15 0 := ⟨(RX2, TX2, 19), rfl, by decide, by decide +kernel, Or.inr ⟨"BinsBothSides", (tw2 35 rfl (by decide +kernel))⟩⟩
set_option maxRecDepth 100000 in
theorem fl_2_107 : FL RX2 107 2 16 0 := ⟨(RX2, TX2, 19), rfl, by decide, by decide +kernel, Or.inl (tw2 36 rfl (by decide +kernel))⟩
set_option maxRecDepth 100000 in
theorem fp_2_107 : FP RX2 107 2 16 "I" := ⟨(RX2, TX2, 19), rfl, by decide, by decide +kernel, by decide, Or.inl (tw2 36 rfl (by decide +kernel))⟩
set_option maxRecDepth 100000 in
theorem fl_7_51 : FL RX7 51 2 16 0 := ⟨(RX2, TX2, 19), rfl, by decide, by decide +kernel, Or.inr ⟨"BinsBothSides", (tw2 37 rfl (by decide +kernel))⟩⟩
set_option maxRecDepth 100000 in
theorem fl_4_135 : FL RX4 135 2 16 0 := ⟨(RX2, TX2, 19), rfl, by decide, by decide +kernel, Or.inr ⟨"BinsBothSides", (tw2 38 rfl (by decide +kernel))⟩⟩
set_option maxRecDepth 100000 in
theorem fl_11_239 : FL RX11 239 2 16 0 := ⟨(RX2, TX2, 19), rfl, by decide, by decide +kernel, Or.inr ⟨"BinsBothSides", (tw2 39 rfl (by decide +kernel))⟩⟩
set_option maxRecDepth 100000 in
theorem fl_4_141 : FL RX4 141 2 17 0 := ⟨(RX2, TX2, 19), rfl, by decide, by decide +kernel, Or.inr ⟨"BinsBothSides", (tw2 40 rfl (by decide +kernel))⟩⟩
set_option maxRecDepth 100000 in
theorem fl_2_110 : FL RX2 110 2 17 0 := ⟨(RX2, TX2, 19), rfl, by decide, by decide +kernel, Or.inl (tw2 41 rfl (by decide +kernel))⟩
set_option maxRecDepth 100000 in
theorem fp_2_110 : FP RX2 110 2 17 "I" := ⟨(RX2, TX2, 19), rfl, by decide, by decide +kernel, by decide, Or.inl (tw2 41 rfl (by decide +kernel))⟩
set_option maxRecDepth 100000 in
theorem fl_11_242 : FL RX11 242 2 17 0 := ⟨(RX2, TX2, 19), rfl, by decide, by decide +kernel, Or.inr ⟨"BinsBothSides", (tw2 42 rfl (by decide +kernel))⟩⟩
set_option maxRecDepth 100000 in
theorem fl_2_113 : FL RX2 113 2 18 0 := ⟨(RX2, TX2, 19), rfl, by decide, by decide +kernel, Or.inl (tw2 43 rfl (by decide +kernel))⟩
set_option maxRecDepth 100000 in
theorem fp_2_113 : FP RX2 113 2 18 "I" := ⟨(RX2, TX2, 19), rfl, by decide, by decide +kernel, by decide, Or.inl (tw2 43 rfl (by decide +kernel))⟩
set_option maxRecDepth 100000 in
theorem fl_11_318 : FL RX11 318 2 18 0 := ⟨(RX2, TX2, 19), rfl, by decide, by decide +kernel, Or.inr ⟨"BinsBothSides", (tw2 44 rfl (by decide +kernel))⟩⟩
set_option maxRecDepth 100000 in
theorem fl_4_27 : FL RX4 27 4 0 2 := ⟨(RX4, TX4, 16), rfl, by decide, by decide +kernel, Or.inl (tw2 93 rfl (by decide +kernel))⟩
set_option maxRecDepth 100000 in
theorem fpf_4_27 : FPF RX4 27 4 0 "LBinsBothSides$Town;" := ⟨(RX4, TX4, 16), rfl, by decide, by decide +kernel, by decide, by decide, tw2 93 rfl (by decide +kernel)⟩
set_option maxRecDepth 100000 in
theorem fl_4_31 : FL RX4 31 4 1 2 := ⟨(RX4, TX4, 16), rfl, by decide, by decide +kernel, Or.inl (tw2 94 rfl (by decide +kernel))⟩
set_option maxRecDepth 100000 in
theorem fpf_4_31 : FPF RX4 31 4 1 "LBinsBothSides$Settings;" := ⟨(RX4, TX4, 16), rfl, by decide, by decide +kernel, by decide, by decide, tw2 94 rfl (by decide +kernel)⟩
set_option maxRecDepth 100000 in
theorem fl_4_11 : FL RX4 11 4 2 2 := ⟨(RX4, TX4, 16), rfl, by decide, by decide +kernel, Or.inl (tw2 95 rfl (by decide +kernel))⟩
set_option maxRecDepth 100000 in
theorem fpf_4_11 : FPF RX4 11 4 2 "[LBinsBothSides$Job;" := ⟨(RX4, TX4, 16), rfl, by decide, by decide +kernel, by decide, by decide, tw2 95 rfl (by decide +kernel)⟩
set_option maxRecDepth 100000 in
theorem fl_4_17 : FL RX4 17 4 3 2 := ⟨(RX4, TX4, 16), rfl, by decide, by decide +kernel, Or.inl (tw2 96 rfl (by decide +kernel))⟩
set_option maxRecDepth 100000 in
theorem fpf_4_17 : FPF RX4 17 4 3 "[I" := ⟨(RX4, TX4, 16), rfl, by decide, by decide +kernel, by decide, by decide, tw2 96 rfl (by decide +kernel)⟩
set_option maxRecDepth 100000 in
theorem fl_11_455 : FL RX11 455 4 3 2 := ⟨(RX4, TX4, 16), rfl, by decide, by decide +kernel, Or.inr ⟨"BinsBothSides", (tw2 97 rfl (by decide +kernel))⟩⟩
set_option maxRecDepth 100000 in
theorem fl_4_21 : FL RX4 21 4 4 2 := ⟨(RX4, TX4, 16), rfl, by decide, by decide +kernel, Or.inl (tw2 98 rfl (by decide +kernel))⟩
set_option maxRecDepth 100000 in
theorem fpf_4_21 : FPF RX4 21 4 4 "[I" := ⟨(RX4, TX4, 16), rfl, by decide, by decide +kernel, by decide, by decide, tw2 98 rfl (by decide +kernel)⟩
set_option maxRecDepth 100000 in
theorem fl_4_44 : FL RX4 44 4 5 0 := ⟨(RX4, TX4, 16), rfl, by decide, by decide +kernel, Or.inl (tw2 99 rfl (by decide +kernel))⟩
set_option maxRecDepth 100000 in
theorem fp_4_44 : FP RX4 44 4 5 "I" := ⟨(RX4, TX4, 16), rfl, by decide, by decide +kernel, by decide, Or.inl (tw2 99 rfl (by decide +kernel))⟩
set_option maxRecDepth 100000 in
theorem fl_4_100 : FL RX4 100 4 6 0 := ⟨(RX4, TX4, 16), rfl, by decide, by decide +kernel, Or.inl (tw2 100 rfl (by decide +kernel))⟩
set_option maxRecDepth 100000 in
theorem fp_4_100 : FP RX4 100 4 6 "I" := ⟨(RX4, TX4, 16), rfl, by decide, by decide +kernel, by decide, Or.inl (tw2 100 rfl (by decide +kernel))⟩
set_option maxRecDepth 100000 in
theorem fl_4_103 : FL RX4 103 4 7 0 := ⟨(RX4, TX4, 16), rfl, by decide, by decide +kernel, Or.inl (tw2 101 rfl (by decide +kernel))⟩
set_option maxRecDepth 100000 in
theorem fp_4_103 : FP RX4 103 4 7 "I" := ⟨(RX4, TX4, 16), rfl, by decide, by decide +kernel, by decide, Or.inl (tw2 101 rfl (by decide +kernel))⟩
set_option maxRecDepth 100000 in
theorem fl_4_106 : FL RX4 106 4 8 0 := ⟨(RX4, TX4, 16), rfl, by decide, by decide +kernel, Or.inl (tw2 102 rfl (by decide +kernel))⟩
set_option maxRecDepth 100000 in
theorem fp_4_106 : FP RX4 106 4 8 "I" := ⟨(RX4, TX4, 16), rfl, by decide, by decide +kernel, by decide, Or.inl (tw2 102 rfl (by decide +kernel))⟩
set_option maxRecDepth 100000 in
theorem fl_11_370 : FL RX11 370 4 8 0 := ⟨(RX4, TX4, 16), rfl, by decide, by decide +kernel, Or.inr ⟨"BinsBothSides", (tw2 103 rfl (by decide +kernel))⟩⟩
set_option maxRecDepth 100000 in
theorem fl_4_109 : FL RX4 109 4 9 0 := ⟨(RX4, TX4, 16), rfl, by decide, by decide +kernel, Or.inl (tw2 104 rfl (by decide +kernel))⟩
set_option maxRecDepth 100000 in
theorem fp_4_109 : FP RX4 109 4 9 "I" := ⟨(RX4, TX4, 16), rfl, by decide, by decide +kernel, by decide, Or.inl (tw2 104 rfl (by decide +kernel))⟩
set_option maxRecDepth 100000 in
theorem fl_11_366 : FL RX11 366 4 9 0 := ⟨(RX4, TX4, 16), rfl, by decide, by decide +kernel, Or.inr ⟨"BinsBothSides", (tw2 105 rfl (by decide +kernel))⟩⟩
set_option maxRecDepth 100000 in
theorem fl_4_112 : FL RX4 112 4 10 0 := ⟨(RX4, TX4, 16), rfl, by decide, by decide +kernel, Or.inl (tw2 106 rfl (by decide +kernel))⟩
set_option maxRecDepth 100000 in
theorem fp_4_112 : FP RX4 112 4 10 "I" := ⟨(RX4, TX4, 16), rfl, by decide, by decide +kernel, by decide, Or.inl (tw2 106 rfl (by decide +kernel))⟩
set_option maxRecDepth 100000 in
theorem fl_11_369 : FL RX11 369 4 10 0 := ⟨(RX4, TX4, 16), rfl, by decide, by decide +kernel, Or.inr ⟨"BinsBothSides", (tw2 107 rfl (by decide +kernel))⟩⟩
set_option maxRecDepth 100000 in
theorem fl_4_24 : FL RX4 24 4 11 2 := ⟨(RX4, TX4, 16), rfl, by decide, by decide +kernel, Or.inl (tw2 108 rfl (by decide +kernel))⟩
set_option maxRecDepth 100000 in
theorem fpf_4_24 : FPF RX4 24 4 11 "[I" := ⟨(RX4, TX4, 16), rfl, by decide, by decide +kernel, by decide, by decide, tw2 108 rfl (by decide +kernel)⟩
set_option maxRecDepth 100000 in
theorem fl_4_148 : FL RX4 148 4 12 0 := ⟨(RX4, TX4, 16), rfl, by decide, by decide +kernel, Or.inl (tw2 109 rfl (by decide +kernel))⟩
set_option maxRecDepth 100000 in
theorem fp_4_148 : FP RX4 148 4 12 "I" := ⟨(RX4, TX4, 16), rfl, by decide, by decide +kernel, by decide, Or.inl (tw2 109 rfl (by decide +kernel))⟩
set_option maxRecDepth 100000 in
theorem fl_11_377 : FL RX11 377 4 12 0 := ⟨(RX4, TX4, 16), rfl, by decide, by decide +kernel, Or.inr ⟨"BinsBothSides", (tw2 110 rfl (by decide +kernel))⟩⟩
set_option maxRecDepth 100000 in
theorem fl_4_151 : FL RX4 151 4 13 0 := ⟨(RX4, TX4, 16), rfl, by decide, by decide +kernel, Or.inl (tw2 111 rfl (by decide +kernel))⟩
set_option maxRecDepth 100000 in
theorem fp_4_151 : FP RX4 151 4 13 "I" := ⟨(RX4, TX4, 16), rfl, by decide, by decide +kernel, by decide, Or.inl (tw2 111 rfl (by decide +kernel))⟩
set_option maxRecDepth 100000 in
theorem fl_11_387 : FL RX11 387 4 13 0 := ⟨(RX4, TX4, 16), rfl, by decide, by decide +kernel, Or.inr ⟨"BinsBothSides", (tw2 112 rfl (by decide +kernel))⟩⟩
set_option maxRecDepth 100000 in
theorem fl_4_142 : FL RX4 142 4 14 0 := ⟨(RX4, TX4, 16), rfl, by decide, by decide +kernel, Or.inl (tw2 113 rfl (by decide +kernel))⟩
set_option maxRecDepth 100000 in
theorem fp_4_142 : FP RX4 142 4 14 "I" := ⟨(RX4, TX4, 16), rfl, by decide, by decide +kernel, by decide, Or.inl (tw2 113 rfl (by decide +kernel))⟩
set_option maxRecDepth 100000 in
theorem fl_4_145 : FL RX4 145 4 15 0 := ⟨(RX4, TX4, 16), rfl, by decide, by decide +kernel, Or.inl (tw2 114 rfl (by decide +kernel))⟩
set_option maxRecDepth 100000 in
theorem fp_4_145 : FP RX4 145 4 15 "I" := ⟨(RX4, TX4, 16), rfl, by decide, by decide +kernel, by decide, Or.inl (tw2 114 rfl (by decide +kernel))⟩
set_option maxRecDepth 100000 in
theorem fl_0_27 : FL RX0 27 0 0 2 := ⟨(RX0, TX0, 11), rfl, by decide, by decide +kernel, Or.inl (tw2 154 rfl (by decide +kernel))⟩
set_option maxRecDepth 100000 in
theorem fpf_0_27 : FPF RX0 27 0 0 "LBinsBothSides$Town;" := ⟨(RX0, TX0, 11), rfl, by decide, by decide +kernel, by decide, by decide, tw2 154 rfl (by decide +kernel)⟩
set_option maxRecDepth 100000 in
theorem fl_0_9 : FL RX0 9 0 1 2 := ⟨(RX0, TX0, 11), rfl, by decide, by decide +kernel, Or.inl (tw2 155 rfl (by decide +kernel))⟩
set_option maxRecDepth 100000 in
theorem fpf_0_9 : FPF RX0 9 0 1 "[I" := ⟨(RX0, TX0, 11), rfl, by decide, by decide +kernel, by decide, by decide, tw2 155 rfl (by decide +kernel)⟩
set_option maxRecDepth 100000 in
theorem fl_0_15 : FL RX0 15 0 2 2 := ⟨(RX0, TX0, 11), rfl, by decide, by decide +kernel, Or.inl (tw2 156 rfl (by decide +kernel))⟩
set_option maxRecDepth 100000 in
theorem fpf_0_15 : FPF RX0 15 0 2 "[I" := ⟨(RX0, TX0, 11), rfl, by decide, by decide +kernel, by decide, by decide, tw2 156 rfl (by decide +kernel)⟩
set_option maxRecDepth 100000 in
theorem fl_0_18 : FL RX0 18 0 3 2 := ⟨(RX0, TX0, 11), rfl, by decide, by decide +kernel, Or.inl (tw2 157 rfl (by decide +kernel))⟩
set_option maxRecDepth 100000 in
theorem fpf_0_18 : FPF RX0 18 0 3 "[I" := ⟨(RX0, TX0, 11), rfl, by decide, by decide +kernel, by decide, by decide, tw2 157 rfl (by decide +kernel)⟩
set_option maxRecDepth 100000 in
theorem fl_0_46 : FL RX0 46 0 4 0 := ⟨(RX0, TX0, 11), rfl, by decide, by decide +kernel, Or.inl (tw2 158 rfl (by decide +kernel))⟩
set_option maxRecDepth 100000 in
theorem fp_0_46 : FP RX0 46 0 4 "I" := ⟨(RX0, TX0, 11), rfl, by decide, by decide +kernel, by decide, Or.inl (tw2 158 rfl (by decide +kernel))⟩
set_option maxRecDepth 100000 in
theorem fl_0_21 : FL RX0 21 0 5 2 := ⟨(RX0, TX0, 11), rfl, by decide, by decide +kernel, Or.inl (tw2 159 rfl (by decide +kernel))⟩
set_option maxRecDepth 100000 in
theorem fpf_0_21 : FPF RX0 21 0 5 "[I" := ⟨(RX0, TX0, 11), rfl, by decide, by decide +kernel, by decide, by decide, tw2 159 rfl (by decide +kernel)⟩
set_option maxRecDepth 100000 in
theorem fl_0_24 : FL RX0 24 0 6 2 := ⟨(RX0, TX0, 11), rfl, by decide, by decide +kernel, Or.inl (tw2 160 rfl (by decide +kernel))⟩
set_option maxRecDepth 100000 in
theorem fpf_0_24 : FPF RX0 24 0 6 "[I" := ⟨(RX0, TX0, 11), rfl, by decide, by decide +kernel, by decide, by decide, tw2 160 rfl (by decide +kernel)⟩
set_option maxRecDepth 100000 in
theorem fl_0_68 : FL RX0 68 0 7 0 := ⟨(RX0, TX0, 11), rfl, by decide, by decide +kernel, Or.inl (tw2 161 rfl (by decide +kernel))⟩
set_option maxRecDepth 100000 in
theorem fp_0_68 : FP RX0 68 0 7 "I" := ⟨(RX0, TX0, 11), rfl, by decide, by decide +kernel, by decide, Or.inl (tw2 161 rfl (by decide +kernel))⟩
set_option maxRecDepth 100000 in
theorem fl_0_58 : FL RX0 58 0 8 0 := ⟨(RX0, TX0, 11), rfl, by decide, by decide +kernel, Or.inl (tw2 162 rfl (by decide +kernel))⟩
set_option maxRecDepth 100000 in
theorem fp_0_58 : FP RX0 58 0 8 "I" := ⟨(RX0, TX0, 11), rfl, by decide, by decide +kernel, by decide, Or.inl (tw2 162 rfl (by decide +kernel))⟩
set_option maxRecDepth 100000 in
theorem fl_0_61 : FL RX0 61 0 9 0 := ⟨(RX0, TX0, 11), rfl, by decide, by decide +kernel, Or.inl (tw2 163 rfl (by decide +kernel))⟩
set_option maxRecDepth 100000 in
theorem fp_0_61 : FP RX0 61 0 9 "I" := ⟨(RX0, TX0, 11), rfl, by decide, by decide +kernel, by decide, Or.inl (tw2 163 rfl (by decide +kernel))⟩
set_option maxRecDepth 100000 in
theorem fl_0_64 : FL RX0 64 0 10 0 := ⟨(RX0, TX0, 11), rfl, by decide, by decide +kernel, Or.inl (tw2 164 rfl (by decide +kernel))⟩
set_option maxRecDepth 100000 in
theorem fp_0_64 : FP RX0 64 0 10 "I" := ⟨(RX0, TX0, 11), rfl, by decide, by decide +kernel, by decide, Or.inl (tw2 164 rfl (by decide +kernel))⟩
set_option maxRecDepth 100000 in
theorem fl_11_12 : FL RX11 12 11 0 2 := ⟨(RX11, TX11, 16), rfl, by decide, by decide +kernel, Or.inl (tw2 188 rfl (by decide +kernel))⟩
set_option maxRecDepth 100000 in
theorem fpf_11_12 : FPF RX11 12 11 0 "LBinsBothSides$Text;" := ⟨(RX11, TX11, 16), rfl, by decide, by decide +kernel, by decide, by decide, tw2 188 rfl (by decide +kernel)⟩
set_option maxRecDepth 100000 in
theorem fl_11_19 : FL RX11 19 11 1 2 := ⟨(RX11, TX11, 16), rfl, by decide, by decide +kernel, Or.inl (tw2 189 rfl (by decide +kernel))⟩
set_option maxRecDepth 100000 in
theorem fpf_11_19 : FPF RX11 19 11 1 "LBinsBothSides$Settings;" := ⟨(RX11, TX11, 16), rfl, by decide, by decide +kernel, by decide, by decide, tw2 189 rfl (by decide +kernel)⟩
set_option maxRecDepth 100000 in
theorem fl_11_26 : FL RX11 26 11 2 2 := ⟨(RX11, TX11, 16), rfl, by decide, by decide +kernel, Or.inl (tw2 190 rfl (by decide +kernel))⟩
set_option maxRecDepth 100000 in
theorem fpf_11_26 : FPF RX11 26 11 2 "LBinsBothSides$Rule;" := ⟨(RX11, TX11, 16), rfl, by decide, by decide +kernel, by decide, by decide, tw2 190 rfl (by decide +kernel)⟩
set_option maxRecDepth 100000 in
theorem fl_11_33 : FL RX11 33 11 3 2 := ⟨(RX11, TX11, 16), rfl, by decide, by decide +kernel, Or.inl (tw2 191 rfl (by decide +kernel))⟩
set_option maxRecDepth 100000 in
theorem fpf_11_33 : FPF RX11 33 11 3 "LBinsBothSides$Town;" := ⟨(RX11, TX11, 16), rfl, by decide, by decide +kernel, by decide, by decide, tw2 191 rfl (by decide +kernel)⟩
set_option maxRecDepth 100000 in
theorem fl_11_40 : FL RX11 40 11 4 2 := ⟨(RX11, TX11, 16), rfl, by decide, by decide +kernel, Or.inl (tw2 192 rfl (by decide +kernel))⟩
set_option maxRecDepth 100000 in
theorem fpf_11_40 : FPF RX11 40 11 4 "LBinsBothSides$State;" := ⟨(RX11, TX11, 16), rfl, by decide, by decide +kernel, by decide, by decide, tw2 192 rfl (by decide +kernel)⟩
set_option maxRecDepth 100000 in
theorem fl_11_47 : FL RX11 47 11 5 2 := ⟨(RX11, TX11, 16), rfl, by decide, by decide +kernel, Or.inl (tw2 193 rfl (by decide +kernel))⟩
set_option maxRecDepth 100000 in
theorem fpf_11_47 : FPF RX11 47 11 5 "LBinsBothSides$History;" := ⟨(RX11, TX11, 16), rfl, by decide, by decide +kernel, by decide, by decide, tw2 193 rfl (by decide +kernel)⟩
set_option maxRecDepth 100000 in
theorem fl_11_56 : FL RX11 56 11 6 2 := ⟨(RX11, TX11, 16), rfl, by decide, by decide +kernel, Or.inl (tw2 194 rfl (by decide +kernel))⟩
set_option maxRecDepth 100000 in
theorem fpf_11_56 : FPF RX11 56 11 6 "LBinsBothSides$Loads;" := ⟨(RX11, TX11, 16), rfl, by decide, by decide +kernel, by decide, by decide, tw2 194 rfl (by decide +kernel)⟩
set_option maxRecDepth 100000 in
theorem fl_11_65 : FL RX11 65 11 7 2 := ⟨(RX11, TX11, 16), rfl, by decide, by decide +kernel, Or.inl (tw2 195 rfl (by decide +kernel))⟩
set_option maxRecDepth 100000 in
theorem fpf_11_65 : FPF RX11 65 11 7 "LBinsBothSides$Job;" := ⟨(RX11, TX11, 16), rfl, by decide, by decide +kernel, by decide, by decide, tw2 195 rfl (by decide +kernel)⟩
set_option maxRecDepth 100000 in
theorem fl_11_74 : FL RX11 74 11 8 2 := ⟨(RX11, TX11, 16), rfl, by decide, by decide +kernel, Or.inl (tw2 196 rfl (by decide +kernel))⟩
set_option maxRecDepth 100000 in
theorem fpf_11_74 : FPF RX11 74 11 8 "LBinsBothSides$Orders;" := ⟨(RX11, TX11, 16), rfl, by decide, by decide +kernel, by decide, by decide, tw2 196 rfl (by decide +kernel)⟩
set_option maxRecDepth 100000 in
theorem fl_11_83 : FL RX11 83 11 9 2 := ⟨(RX11, TX11, 16), rfl, by decide, by decide +kernel, Or.inl (tw2 197 rfl (by decide +kernel))⟩
set_option maxRecDepth 100000 in
theorem fpf_11_83 : FPF RX11 83 11 9 "LBinsBothSides$Days;" := ⟨(RX11, TX11, 16), rfl, by decide, by decide +kernel, by decide, by decide, tw2 197 rfl (by decide +kernel)⟩
set_option maxRecDepth 100000 in
theorem fl_11_87 : FL RX11 87 11 10 2 := ⟨(RX11, TX11, 16), rfl, by decide, by decide +kernel, Or.inl (tw2 198 rfl (by decide +kernel))⟩
set_option maxRecDepth 100000 in
theorem fpf_11_87 : FPF RX11 87 11 10 "[LBinsBothSides$State;" := ⟨(RX11, TX11, 16), rfl, by decide, by decide +kernel, by decide, by decide, tw2 198 rfl (by decide +kernel)⟩
set_option maxRecDepth 100000 in
theorem fl_11_91 : FL RX11 91 11 11 2 := ⟨(RX11, TX11, 16), rfl, by decide, by decide +kernel, Or.inl (tw2 199 rfl (by decide +kernel))⟩
set_option maxRecDepth 100000 in
theorem fpf_11_91 : FPF RX11 91 11 11 "[I" := ⟨(RX11, TX11, 16), rfl, by decide, by decide +kernel, by decide, by decide, tw2 199 rfl (by decide +kernel)⟩
set_option maxRecDepth 100000 in
theorem fl_11_95 : FL RX11 95 11 12 2 := ⟨(RX11, TX11, 16), rfl, by decide, by decide +kernel, Or.inl (tw2 200 rfl (by decide +kernel))⟩
set_option maxRecDepth 100000 in
theorem fpf_11_95 : FPF RX11 95 11 12 "[I" := ⟨(RX11, TX11, 16), rfl, by decide, by decide +kernel, by decide, by decide, tw2 200 rfl (by decide +kernel)⟩
set_option maxRecDepth 100000 in
theorem fl_11_98 : FL RX11 98 11 13 2 := ⟨(RX11, TX11, 16), rfl, by decide, by decide +kernel, Or.inl (tw2 201 rfl (by decide +kernel))⟩
set_option maxRecDepth 100000 in
theorem fpf_11_98 : FPF RX11 98 11 13 "[J" := ⟨(RX11, TX11, 16), rfl, by decide, by decide +kernel, by decide, by decide, tw2 201 rfl (by decide +kernel)⟩
set_option maxRecDepth 100000 in
theorem fl_11_465 : FL RX11 465 11 14 0 := ⟨(RX11, TX11, 16), rfl, by decide, by decide +kernel, Or.inl (tw2 202 rfl (by decide +kernel))⟩
set_option maxRecDepth 100000 in
theorem fp_11_465 : FP RX11 465 11 14 "I" := ⟨(RX11, TX11, 16), rfl, by decide, by decide +kernel, by decide, Or.inl (tw2 202 rfl (by decide +kernel))⟩
set_option maxRecDepth 100000 in
theorem fl_11_445 : FL RX11 445 11 15 0 := ⟨(RX11, TX11, 16), rfl, by decide, by decide +kernel, Or.inl (tw2 203 rfl (by decide +kernel))⟩
set_option maxRecDepth 100000 in
theorem fp_11_445 : FP RX11 445 11 15 "I" := ⟨(RX11, TX11, 16), rfl, by decide, by decide +kernel, by decide, Or.inl (tw2 203 rfl (by decide +kernel))⟩
set_option maxRecDepth 100000 in
theorem gs_6_15 : Cond.fieldLink RX6 15 "BinsBothSides$Settings" "LEAST" "[I" ∈ T0 := tw3 238 rfl (by decide +kernel)
set_option maxRecDepth 100000 in
theorem gs_6_18 : Cond.fieldLink RX6 18 "BinsBothSides$Settings" "GREATEST" "[I" ∈ T0 := tw4 0 rfl (by decide +kernel)
set_option maxRecDepth 100000 in
theorem fl_12_126 : FL RX12 126 12 0 0 := ⟨(RX12, TX12, 72), rfl, by decide, by decide +kernel, Or.inl (tw6 124 rfl (by decide +kernel))⟩
set_option maxRecDepth 100000 in
theorem fp_12_126 : FP RX12 126 12 0 "I" := ⟨(RX12, TX12, 72), rfl, by decide, by decide +kernel, by decide, Or.inl (tw6 124 rfl (by decide +kernel))⟩
set_option maxRecDepth 100000 in
theorem fl_12_134 : FL RX12 134 12 1 0 := ⟨(RX12, TX12, 72), rfl, by decide, by decide +kernel, Or.inl (tw6 125 rfl (by decide +kernel))⟩
set_option maxRecDepth 100000 in
theorem fp_12_134 : FP RX12 134 12 1 "I" := ⟨(RX12, TX12, 72), rfl, by decide, by decide +kernel, by decide, Or.inl (tw6 125 rfl (by decide +kernel))⟩
set_option maxRecDepth 100000 in
theorem fl_12_9 : FL RX12 9 12 2 2 := ⟨(RX12, TX12, 72), rfl, by decide, by decide +kernel, Or.inl (tw6 126 rfl (by decide +kernel))⟩
set_option maxRecDepth 100000 in
theorem fpf_12_9 : FPF RX12 9 12 2 "[J" := ⟨(RX12, TX12, 72), rfl, by decide, by decide +kernel, by decide, by decide, tw6 126 rfl (by decide +kernel)⟩
set_option maxRecDepth 100000 in
theorem fl_12_137 : FL RX12 137 12 3 0 := ⟨(RX12, TX12, 72), rfl, by decide, by decide +kernel, Or.inl (tw6 127 rfl (by decide +kernel))⟩
set_option maxRecDepth 100000 in
theorem fp_12_137 : FP RX12 137 12 3 "I" := ⟨(RX12, TX12, 72), rfl, by decide, by decide +kernel, by decide, Or.inl (tw6 127 rfl (by decide +kernel))⟩
set_option maxRecDepth 100000 in
theorem fl_12_227 : FL RX12 227 12 4 0 := ⟨(RX12, TX12, 72), rfl, by decide, by decide +kernel, Or.inl (tw6 128 rfl (by decide +kernel))⟩
set_option maxRecDepth 100000 in
theorem fp_12_227 : FP RX12 227 12 4 "I" := ⟨(RX12, TX12, 72), rfl, by decide, by decide +kernel, by decide, Or.inl (tw6 128 rfl (by decide +kernel))⟩
set_option maxRecDepth 100000 in
theorem fl_12_13 : FL RX12 13 12 5 2 := ⟨(RX12, TX12, 72), rfl, by decide, by decide +kernel, Or.inl (tw6 129 rfl (by decide +kernel))⟩
set_option maxRecDepth 100000 in
theorem fpf_12_13 : FPF RX12 13 12 5 "[I" := ⟨(RX12, TX12, 72), rfl, by decide, by decide +kernel, by decide, by decide, tw6 129 rfl (by decide +kernel)⟩
set_option maxRecDepth 100000 in
theorem fl_12_17 : FL RX12 17 12 6 2 := ⟨(RX12, TX12, 72), rfl, by decide, by decide +kernel, Or.inl (tw6 130 rfl (by decide +kernel))⟩
set_option maxRecDepth 100000 in
theorem fpf_12_17 : FPF RX12 17 12 6 "[I" := ⟨(RX12, TX12, 72), rfl, by decide, by decide +kernel, by decide, by decide, tw6 130 rfl (by decide +kernel)⟩
set_option maxRecDepth 100000 in
theorem fl_12_20 : FL RX12 20 12 7 2 := ⟨(RX12, TX12, 72), rfl, by decide, by decide +kernel, Or.inl (tw6 131 rfl (by decide +kernel))⟩
set_option maxRecDepth 100000 in
theorem fpf_12_20 : FPF RX12 20 12 7 "[I" := ⟨(RX12, TX12, 72), rfl, by decide, by decide +kernel, by decide, by decide, tw6 131 rfl (by decide +kernel)⟩
set_option maxRecDepth 100000 in
theorem fl_12_23 : FL RX12 23 12 8 2 := ⟨(RX12, TX12, 72), rfl, by decide, by decide +kernel, Or.inl (tw6 132 rfl (by decide +kernel))⟩
set_option maxRecDepth 100000 in
theorem fpf_12_23 : FPF RX12 23 12 8 "[Z" := ⟨(RX12, TX12, 72), rfl, by decide, by decide +kernel, by decide, by decide, tw6 132 rfl (by decide +kernel)⟩
set_option maxRecDepth 100000 in
theorem fl_12_27 : FL RX12 27 12 9 2 := ⟨(RX12, TX12, 72), rfl, by decide, by decide +kernel, Or.inl (tw6 133 rfl (by decide +kernel))⟩
set_option maxRecDepth 100000 in
theorem fpf_12_27 : FPF RX12 27 12 9 "[I" := ⟨(RX12, TX12, 72), rfl, by decide, by decide +kernel, by decide, by decide, tw6 133 rfl (by decide +kernel)⟩
set_option maxRecDepth 100000 in
theorem fl_12_30 : FL RX12 30 12 10 2 := ⟨(RX12, TX12, 72), rfl, by decide, by decide +kernel, Or.inl (tw6 134 rfl (by decide +kernel))⟩
set_option maxRecDepth 100000 in
theorem fpf_12_30 : FPF RX12 30 12 10 "[I" := ⟨(RX12, TX12, 72), rfl, by decide, by decide +kernel, by decide, by decide, tw6 134 rfl (by decide +kernel)⟩
set_option maxRecDepth 100000 in
theorem fl_12_33 : FL RX12 33 12 11 2 := ⟨(RX12, TX12, 72), rfl, by decide, by decide +kernel, Or.inl (tw6 135 rfl (by decide +kernel))⟩
set_option maxRecDepth 100000 in
theorem fpf_12_33 : FPF RX12 33 12 11 "[I" := ⟨(RX12, TX12, 72), rfl, by decide, by decide +kernel, by decide, by decide, tw6 135 rfl (by decide +kernel)⟩
set_option maxRecDepth 100000 in
theorem fl_12_36 : FL RX12 36 12 12 2 := ⟨(RX12, TX12, 72), rfl, by decide, by decide +kernel, Or.inl (tw6 136 rfl (by decide +kernel))⟩
set_option maxRecDepth 100000 in
theorem fpf_12_36 : FPF RX12 36 12 12 "[I" := ⟨(RX12, TX12, 72), rfl, by decide, by decide +kernel, by decide, by decide, tw6 136 rfl (by decide +kernel)⟩
set_option maxRecDepth 100000 in
theorem fl_12_39 : FL RX12 39 12 13 2 := ⟨(RX12, TX12, 72), rfl, by decide, by decide +kernel, Or.inl (tw6 137 rfl (by decide +kernel))⟩
set_option maxRecDepth 100000 in
theorem fpf_12_39 : FPF RX12 39 12 13 "[I" := ⟨(RX12, TX12, 72), rfl, by decide, by decide +kernel, by decide, by decide, tw6 137 rfl (by decide +kernel)⟩
set_option maxRecDepth 100000 in
theorem fl_12_42 : FL RX12 42 12 14 2 := ⟨(RX12, TX12, 72), rfl, by decide, by decide +kernel, Or.inl (tw6 138 rfl (by decide +kernel))⟩
set_option maxRecDepth 100000 in
theorem fpf_12_42 : FPF RX12 42 12 14 "[I" := ⟨(RX12, TX12, 72), rfl, by decide, by decide +kernel, by decide, by decide, tw6 138 rfl (by decide +kernel)⟩
set_option maxRecDepth 100000 in
theorem fl_12_45 : FL RX12 45 12 15 2 := ⟨(RX12, TX12, 72), rfl, by decide, by decide +kernel, Or.inl (tw6 139 rfl (by decide +kernel))⟩
set_option maxRecDepth 100000 in
theorem fpf_12_45 : FPF RX12 45 12 15 "[I" := ⟨(RX12, TX12, 72), rfl, by decide, by decide +kernel, by decide, by decide, tw6 139 rfl (by decide +kernel)⟩
set_option maxRecDepth 100000 in
theorem fl_12_48 : FL RX12 48 12 16 2 := ⟨(RX12, TX12, 72), rfl, by decide, by decide +kernel, Or.inl (tw6 140 rfl (by decide +kernel))⟩
set_option maxRecDepth 100000 in
theorem fpf_12_48 : FPF RX12 48 12 16 "[I" := ⟨(RX12, TX12, 72), rfl, by decide, by decide +kernel, by decide, by decide, tw6 140 rfl (by decide +kernel)⟩
set_option maxRecDepth 100000 in
theorem fl_12_148 : FL RX12 148 12 17 0 := ⟨(RX12, TX12, 72), rfl, by decide, by decide +kernel, Or.inl (tw6 141 rfl (by decide +kernel))⟩
set_option maxRecDepth 100000 in
theorem fp_12_148 : FP RX12 148 12 17 "I" := ⟨(RX12, TX12, 72), rfl, by decide, by decide +kernel, by decide, Or.inl (tw6 141 rfl (by decide +kernel))⟩
set_option maxRecDepth 100000 in
theorem fl_12_151 : FL RX12 151 12 18 0 := ⟨(RX12, TX12, 72), rfl, by decide, by decide +kernel, Or.inl (tw6 142 rfl (by decide +kernel))⟩
set_option maxRecDepth 100000 in
theorem fp_12_151 : FP RX12 151 12 18 "I" := ⟨(RX12, TX12, 72), rfl, by decide, by decide +kernel, by decide, Or.inl (tw6 142 rfl (by decide +kernel))⟩
set_option maxRecDepth 100000 in
theorem fl_12_163 : FL RX12 163 12 19 0 := ⟨(RX12, TX12, 72), rfl, by decide, by decide +kernel, Or.inl (tw6 143 rfl (by decide +kernel))⟩
set_option maxRecDepth 100000 in
theorem fp_12_163 : FP RX12 163 12 19 "I" := ⟨(RX12, TX12, 72), rfl, by decide, by decide +kernel, by decide, Or.inl (tw6 143 rfl (by decide +kernel))⟩
set_option maxRecDepth 100000 in
theorem fl_12_154 : FL RX12 154 12 20 0 := ⟨(RX12, TX12, 72), rfl, by decide, by decide +kernel, Or.inl (tw6 144 rfl (by decide +kernel))⟩
set_option maxRecDepth 100000 in
theorem fp_12_154 : FP RX12 154 12 20 "I" := ⟨(RX12, TX12, 72), rfl, by decide, by decide +kernel, by decide, Or.inl (tw6 144 rfl (by decide +kernel))⟩
set_option maxRecDepth 100000 in
theorem fl_12_51 : FL RX12 51 12 21 2 := ⟨(RX12, TX12, 72), rfl, by decide, by decide +kernel, Or.inl (tw6 145 rfl (by decide +kernel))⟩
set_option maxRecDepth 100000 in
theorem fpf_12_51 : FPF RX12 51 12 21 "[I" := ⟨(RX12, TX12, 72), rfl, by decide, by decide +kernel, by decide, by decide, tw6 145 rfl (by decide +kernel)⟩
set_option maxRecDepth 100000 in
theorem fl_12_54 : FL RX12 54 12 22 2 := ⟨(RX12, TX12, 72), rfl, by decide, by decide +kernel, Or.inl (tw6 146 rfl (by decide +kernel))⟩
set_option maxRecDepth 100000 in
theorem fpf_12_54 : FPF RX12 54 12 22 "[I" := ⟨(RX12, TX12, 72), rfl, by decide, by decide +kernel, by decide, by decide, tw6 146 rfl (by decide +kernel)⟩
set_option maxRecDepth 100000 in
theorem fl_12_192 : FL RX12 192 12 23 0 := ⟨(RX12, TX12, 72), rfl, by decide, by decide +kernel, Or.inl (tw6 147 rfl (by decide +kernel))⟩
set_option maxRecDepth 100000 in
theorem fp_12_192 : FP RX12 192 12 23 "I" := ⟨(RX12, TX12, 72), rfl, by decide, by decide +kernel, by decide, Or.inl (tw6 147 rfl (by decide +kernel))⟩
set_option maxRecDepth 100000 in
theorem fl_12_57 : FL RX12 57 12 24 2 := ⟨(RX12, TX12, 72), rfl, by decide, by decide +kernel, Or.inl (tw6 148 rfl (by decide +kernel))⟩
set_option maxRecDepth 100000 in
theorem fpf_12_57 : FPF RX12 57 12 24 "[I" := ⟨(RX12, TX12, 72), rfl, by decide, by decide +kernel, by decide, by decide, tw6 148 rfl (by decide +kernel)⟩
set_option maxRecDepth 100000 in
theorem fl_12_60 : FL RX12 60 12 25 2 := ⟨(RX12, TX12, 72), rfl, by decide, by decide +kernel, Or.inl (tw6 149 rfl (by decide +kernel))⟩
set_option maxRecDepth 100000 in
theorem fpf_12_60 : FPF RX12 60 12 25 "[I" := ⟨(RX12, TX12, 72), rfl, by decide, by decide +kernel, by decide, by decide, tw6 149 rfl (by decide +kernel)⟩
set_option maxRecDepth 100000 in
theorem fl_12_251 : FL RX12 251 12 26 0 := ⟨(RX12, TX12, 72), rfl, by decide, by decide +kernel, Or.inl (tw6 150 rfl (by decide +kernel))⟩
set_option maxRecDepth 100000 in
theorem fp_12_251 : FP RX12 251 12 26 "I" := ⟨(RX12, TX12, 72), rfl, by decide, by decide +kernel, by decide, Or.inl (tw6 150 rfl (by decide +kernel))⟩
set_option maxRecDepth 100000 in
theorem fl_12_230 : FL RX12 230 12 27 0 := ⟨(RX12, TX12, 72), rfl, by decide, by decide +kernel, Or.inl (tw6 151 rfl (by decide +kernel))⟩
set_option maxRecDepth 100000 in
theorem fp_12_230 : FP RX12 230 12 27 "I" := ⟨(RX12, TX12, 72), rfl, by decide, by decide +kernel, by decide, Or.inl (tw6 151 rfl (by decide +kernel))⟩
set_option maxRecDepth 100000 in
theorem fl_12_63 : FL RX12 63 12 28 2 := ⟨(RX12, TX12, 72), rfl, by decide, by decide +kernel, Or.inl (tw6 152 rfl (by decide +kernel))⟩
set_option maxRecDepth 100000 in
theorem fpf_12_63 : FPF RX12 63 12 28 "[I" := ⟨(RX12, TX12, 72), rfl, by decide, by decide +kernel, by decide, by decide, tw6 152 rfl (by decide +kernel)⟩
set_option maxRecDepth 100000 in
theorem fl_12_66 : FL RX12 66 12 29 2 := ⟨(RX12, TX12, 72), rfl, by decide, by decide +kernel, Or.inl (tw6 153 rfl (by decide +kernel))⟩
set_option maxRecDepth 100000 in
theorem fpf_12_66 : FPF RX12 66 12 29 "[I" := ⟨(RX12, TX12, 72), rfl, by decide, by decide +kernel, by decide, by decide, tw6 153 rfl (by decide +kernel)⟩
set_option maxRecDepth 100000 in
theorem fl_12_269 : FL RX12 269 12 30 0 := ⟨(RX12, TX12, 72), rfl, by decide, by decide +kernel, Or.inl (tw6 154 rfl (by decide +kernel))⟩
set_option maxRecDepth 100000 in
theorem fp_12_269 : FP RX12 269 12 30 "I" := ⟨(RX12, TX12, 72), rfl, by decide, by decide +kernel, by decide, Or.inl (tw6 154 rfl (by decide +kernel))⟩
set_option maxRecDepth 100000 in
theorem fl_12_266 : FL RX12 266 12 31 0 := ⟨(RX12, TX12, 72), rfl, by decide, by decide +kernel, Or.inl (tw6 155 rfl (by decide +kernel))⟩
set_option maxRecDepth 100000 in
theorem fp_12_266 : FP RX12 266 12 31 "I" := ⟨(RX12, TX12, 72), rfl, by decide, by decide +kernel, by decide, Or.inl (tw6 155 rfl (by decide +kernel))⟩
set_option maxRecDepth 100000 in
theorem fl_12_282 : FL RX12 282 12 32 0 := ⟨(RX12, TX12, 72), rfl, by decide, by decide +kernel, Or.inl (tw6 156 rfl (by decide +kernel))⟩
set_option maxRecDepth 100000 in
theorem fp_12_282 : FP RX12 282 12 32 "I" := ⟨(RX12, TX12, 72), rfl, by decide, by decide +kernel, by decide, Or.inl (tw6 156 rfl (by decide +kernel))⟩
set_option maxRecDepth 100000 in
theorem fl_12_299 : FL RX12 299 12 33 0 := ⟨(RX12, TX12, 72), rfl, by decide, by decide +kernel, Or.inl (tw6 157 rfl (by decide +kernel))⟩
set_option maxRecDepth 100000 in
theorem fp_12_299 : FP RX12 299 12 33 "I" := ⟨(RX12, TX12, 72), rfl, by decide, by decide +kernel, by decide, Or.inl (tw6 157 rfl (by decide +kernel))⟩
set_option maxRecDepth 100000 in
theorem fl_12_288 : FL RX12 288 12 34 0 := ⟨(RX12, TX12, 72), rfl, by decide, by decide +kernel, Or.inl (tw6 158 rfl (by decide +kernel))⟩
set_option maxRecDepth 100000 in
theorem fp_12_288 : FP RX12 288 12 34 "I" := ⟨(RX12, TX12, 72), rfl, by decide, by decide +kernel, by decide, Or.inl (tw6 158 rfl (by decide +kernel))⟩
set_option maxRecDepth 100000 in
theorem fl_12_279 : FL RX12 279 12 35 0 := ⟨(RX12, TX12, 72), rfl, by decide, by decide +kernel, Or.inl (tw6 159 rfl (by decide +kernel))⟩
set_option maxRecDepth 100000 in
theorem fp_12_279 : FP RX12 279 12 35 "I" := ⟨(RX12, TX12, 72), rfl, by decide, by decide +kernel, by decide, Or.inl (tw6 159 rfl (by decide +kernel))⟩
set_option maxRecDepth 100000 in
theorem fl_12_285 : FL RX12 285 12 36 0 := ⟨(RX12, TX12, 72), rfl, by decide, by decide +kernel, Or.inl (tw6 160 rfl (by decide +kernel))⟩
set_option maxRecDepth 100000 in
theorem fp_12_285 : FP RX12 285 12 36 "I" := ⟨(RX12, TX12, 72), rfl, by decide, by decide +kernel, by decide, Or.inl (tw6 160 rfl (by decide +kernel))⟩
set_option maxRecDepth 100000 in
theorem fl_12_275 : FL RX12 275 12 37 0 := ⟨(RX12, TX12, 72), rfl, by decide, by decide +kernel, Or.inl (tw6 161 rfl (by decide +kernel))⟩
set_option maxRecDepth 100000 in
theorem fp_12_275 : FP RX12 275 12 37 "Z" := ⟨(RX12, TX12, 72), rfl, by decide, by decide +kernel, by decide, Or.inl (tw6 161 rfl (by decide +kernel))⟩
set_option maxRecDepth 100000 in
theorem fl_12_69 : FL RX12 69 12 38 2 := ⟨(RX12, TX12, 72), rfl, by decide, by decide +kernel, Or.inl (tw6 162 rfl (by decide +kernel))⟩
set_option maxRecDepth 100000 in
theorem fpf_12_69 : FPF RX12 69 12 38 "[I" := ⟨(RX12, TX12, 72), rfl, by decide, by decide +kernel, by decide, by decide, tw6 162 rfl (by decide +kernel)⟩
set_option maxRecDepth 100000 in
theorem fl_12_314 : FL RX12 314 12 39 0 := ⟨(RX12, TX12, 72), rfl, by decide, by decide +kernel, Or.inl (tw6 163 rfl (by decide +kernel))⟩
set_option maxRecDepth 100000 in
theorem fp_12_314 : FP RX12 314 12 39 "I" := ⟨(RX12, TX12, 72), rfl, by decide, by decide +kernel, by decide, Or.inl (tw6 163 rfl (by decide +kernel))⟩
set_option maxRecDepth 100000 in
theorem fl_12_224 : FL RX12 224 12 40 0 := ⟨(RX12, TX12, 72), rfl, by decide, by decide +kernel, Or.inl (tw6 164 rfl (by decide +kernel))⟩
set_option maxRecDepth 100000 in
theorem fp_12_224 : FP RX12 224 12 40 "I" := ⟨(RX12, TX12, 72), rfl, by decide, by decide +kernel, by decide, Or.inl (tw6 164 rfl (by decide +kernel))⟩
set_option maxRecDepth 100000 in
theorem fl_12_72 : FL RX12 72 12 41 2 := ⟨(RX12, TX12, 72), rfl, by decide, by decide +kernel, Or.inl (tw6 165 rfl (by decide +kernel))⟩
set_option maxRecDepth 100000 in
theorem fpf_12_72 : FPF RX12 72 12 41 "[I" := ⟨(RX12, TX12, 72), rfl, by decide, by decide +kernel, by decide, by decide, tw6 165 rfl (by decide +kernel)⟩
set_option maxRecDepth 100000 in
theorem fl_12_362 : FL RX12 362 12 42 0 := ⟨(RX12, TX12, 72), rfl, by decide, by decide +kernel, Or.inl (tw6 166 rfl (by decide +kernel))⟩
set_option maxRecDepth 100000 in
theorem fp_12_362 : FP RX12 362 12 42 "I" := ⟨(RX12, TX12, 72), rfl, by decide, by decide +kernel, by decide, Or.inl (tw6 166 rfl (by decide +kernel))⟩
set_option maxRecDepth 100000 in
theorem fl_12_75 : FL RX12 75 12 43 2 := ⟨(RX12, TX12, 72), rfl, by decide, by decide +kernel, Or.inl (tw6 167 rfl (by decide +kernel))⟩
set_option maxRecDepth 100000 in
theorem fpf_12_75 : FPF RX12 75 12 43 "[I" := ⟨(RX12, TX12, 72), rfl, by decide, by decide +kernel, by decide, by decide, tw6 167 rfl (by decide +kernel)⟩
set_option maxRecDepth 100000 in
theorem fl_12_78 : FL RX12 78 12 44 2 := ⟨(RX12, TX12, 72), rfl, by decide, by decide +kernel, Or.inl (tw6 168 rfl (by decide +kernel))⟩
set_option maxRecDepth 100000 in
theorem fpf_12_78 : FPF RX12 78 12 44 "[I" := ⟨(RX12, TX12, 72), rfl, by decide, by decide +kernel, by decide, by decide, tw6 168 rfl (by decide +kernel)⟩
set_option maxRecDepth 100000 in
theorem fl_12_81 : FL RX12 81 12 45 2 := ⟨(RX12, TX12, 72), rfl, by decide, by decide +kernel, Or.inl (tw6 169 rfl (by decide +kernel))⟩
set_option maxRecDepth 100000 in
theorem fpf_12_81 : FPF RX12 81 12 45 "[I" := ⟨(RX12, TX12, 72), rfl, by decide, by decide +kernel, by decide, by decide, tw6 169 rfl (by decide +kernel)⟩
set_option maxRecDepth 100000 in
theorem fl_12_387 : FL RX12 387 12 46 0 := ⟨(RX12, TX12, 72), rfl, by decide, by decide +kernel, Or.inl (tw6 170 rfl (by decide +kernel))⟩
set_option maxRecDepth 100000 in
theorem fp_12_387 : FP RX12 387 12 46 "I" := ⟨(RX12, TX12, 72), rfl, by decide, by decide +kernel, by decide, Or.inl (tw6 170 rfl (by decide +kernel))⟩
set_option maxRecDepth 100000 in
theorem fl_12_394 : FL RX12 394 12 47 0 := ⟨(RX12, TX12, 72), rfl, by decide, by decide +kernel, Or.inl (tw6 171 rfl (by decide +kernel))⟩
set_option maxRecDepth 100000 in
theorem fp_12_394 : FP RX12 394 12 47 "I" := ⟨(RX12, TX12, 72), rfl, by decide, by decide +kernel, by decide, Or.inl (tw6 171 rfl (by decide +kernel))⟩
set_option maxRecDepth 100000 in
theorem fl_12_84 : FL RX12 84 12 48 2 := ⟨(RX12, TX12, 72), rfl, by decide, by decide +kernel, Or.inl (tw6 172 rfl (by decide +kernel))⟩
set_option maxRecDepth 100000 in
theorem fpf_12_84 : FPF RX12 84 12 48 "[I" := ⟨(RX12, TX12, 72), rfl, by decide, by decide +kernel, by decide, by decide, tw6 172 rfl (by decide +kernel)⟩
set_option maxRecDepth 100000 in
theorem fl_12_406 : FL RX12 406 12 49 0 := ⟨(RX12, TX12, 72), rfl, by decide, by decide +kernel, Or.inl (tw6 173 rfl (by decide +kernel))⟩
set_option maxRecDepth 100000 in
theorem fp_12_406 : FP RX12 406 12 49 "I" := ⟨(RX12, TX12, 72), rfl, by decide, by decide +kernel, by decide, Or.inl (tw6 173 rfl (by decide +kernel))⟩
set_option maxRecDepth 100000 in
theorem fl_12_416 : FL RX12 416 12 50 0 := ⟨(RX12, TX12, 72), rfl, by decide, by decide +kernel, Or.inl (tw6 174 rfl (by decide +kernel))⟩
set_option maxRecDepth 100000 in
theorem fp_12_416 : FP RX12 416 12 50 "I" := ⟨(RX12, TX12, 72), rfl, by decide, by decide +kernel, by decide, Or.inl (tw6 174 rfl (by decide +kernel))⟩
set_option maxRecDepth 100000 in
theorem fl_12_87 : FL RX12 87 12 51 2 := ⟨(RX12, TX12, 72), rfl, by decide, by decide +kernel, Or.inl (tw6 175 rfl (by decide +kernel))⟩
set_option maxRecDepth 100000 in
theorem fpf_12_87 : FPF RX12 87 12 51 "[I" := ⟨(RX12, TX12, 72), rfl, by decide, by decide +kernel, by decide, by decide, tw6 175 rfl (by decide +kernel)⟩
set_option maxRecDepth 100000 in
theorem fl_12_419 : FL RX12 419 12 52 0 := ⟨(RX12, TX12, 72), rfl, by decide, by decide +kernel, Or.inl (tw6 176 rfl (by decide +kernel))⟩
set_option maxRecDepth 100000 in
theorem fp_12_419 : FP RX12 419 12 52 "I" := ⟨(RX12, TX12, 72), rfl, by decide, by decide +kernel, by decide, Or.inl (tw6 176 rfl (by decide +kernel))⟩
set_option maxRecDepth 100000 in
theorem fl_12_90 : FL RX12 90 12 53 2 := ⟨(RX12, TX12, 72), rfl, by decide, by decide +kernel, Or.inl (tw6 177 rfl (by decide +kernel))⟩
set_option maxRecDepth 100000 in
theorem fpf_12_90 : FPF RX12 90 12 53 "[I" := ⟨(RX12, TX12, 72), rfl, by decide, by decide +kernel, by decide, by decide, tw6 177 rfl (by decide +kernel)⟩
set_option maxRecDepth 100000 in
theorem fl_12_432 : FL RX12 432 12 54 0 := ⟨(RX12, TX12, 72), rfl, by decide, by decide +kernel, Or.inl (tw6 178 rfl (by decide +kernel))⟩
set_option maxRecDepth 100000 in
theorem fp_12_432 : FP RX12 432 12 54 "I" := ⟨(RX12, TX12, 72), rfl, by decide, by decide +kernel, by decide, Or.inl (tw6 178 rfl (by decide +kernel))⟩
set_option maxRecDepth 100000 in
theorem fl_12_93 : FL RX12 93 12 55 2 := ⟨(RX12, TX12, 72), rfl, by decide, by decide +kernel, Or.inl (tw6 179 rfl (by decide +kernel))⟩
set_option maxRecDepth 100000 in
theorem fpf_12_93 : FPF RX12 93 12 55 "[I" := ⟨(RX12, TX12, 72), rfl, by decide, by decide +kernel, by decide, by decide, tw6 179 rfl (by decide +kernel)⟩
set_option maxRecDepth 100000 in
theorem fl_12_96 : FL RX12 96 12 56 2 := ⟨(RX12, TX12, 72), rfl, by decide, by decide +kernel, Or.inl (tw6 180 rfl (by decide +kernel))⟩
set_option maxRecDepth 100000 in
theorem fpf_12_96 : FPF RX12 96 12 56 "[I" := ⟨(RX12, TX12, 72), rfl, by decide, by decide +kernel, by decide, by decide, tw6 180 rfl (by decide +kernel)⟩
set_option maxRecDepth 100000 in
theorem fl_12_99 : FL RX12 99 12 57 2 := ⟨(RX12, TX12, 72), rfl, by decide, by decide +kernel, Or.inl (tw6 181 rfl (by decide +kernel))⟩
set_option maxRecDepth 100000 in
theorem fpf_12_99 : FPF RX12 99 12 57 "[I" := ⟨(RX12, TX12, 72), rfl, by decide, by decide +kernel, by decide, by decide, tw6 181 rfl (by decide +kernel)⟩
set_option maxRecDepth 100000 in
theorem fl_12_102 : FL RX12 102 12 58 2 := ⟨(RX12, TX12, 72), rfl, by decide, by decide +kernel, Or.inl (tw6 182 rfl (by decide +kernel))⟩
set_option maxRecDepth 100000 in
theorem fpf_12_102 : FPF RX12 102 12 58 "[I" := ⟨(RX12, TX12, 72), rfl, by decide, by decide +kernel, by decide, by decide, tw6 182 rfl (by decide +kernel)⟩
set_option maxRecDepth 100000 in
theorem fl_12_457 : FL RX12 457 12 59 0 := ⟨(RX12, TX12, 72), rfl, by decide, by decide +kernel, Or.inl (tw6 183 rfl (by decide +kernel))⟩
set_option maxRecDepth 100000 in
theorem fp_12_457 : FP RX12 457 12 59 "I" := ⟨(RX12, TX12, 72), rfl, by decide, by decide +kernel, by decide, Or.inl (tw6 183 rfl (by decide +kernel))⟩
set_option maxRecDepth 100000 in
theorem fl_12_454 : FL RX12 454 12 60 0 := ⟨(RX12, TX12, 72), rfl, by decide, by decide +kernel, Or.inl (tw6 184 rfl (by decide +kernel))⟩
set_option maxRecDepth 100000 in
theorem fp_12_454 : FP RX12 454 12 60 "I" := ⟨(RX12, TX12, 72), rfl, by decide, by decide +kernel, by decide, Or.inl (tw6 184 rfl (by decide +kernel))⟩
set_option maxRecDepth 100000 in
theorem fl_12_460 : FL RX12 460 12 61 0 := ⟨(RX12, TX12, 72), rfl, by decide, by decide +kernel, Or.inl (tw6 185 rfl (by decide +kernel))⟩
set_option maxRecDepth 100000 in
theorem fp_12_460 : FP RX12 460 12 61 "I" := ⟨(RX12, TX12, 72), rfl, by decide, by decide +kernel, by decide, Or.inl (tw6 185 rfl (by decide +kernel))⟩
set_option maxRecDepth 100000 in
theorem fl_12_470 : FL RX12 470 12 62 0 := ⟨(RX12, TX12, 72), rfl, by decide, by decide +kernel, Or.inl (tw6 186 rfl (by decide +kernel))⟩
set_option maxRecDepth 100000 in
theorem fp_12_470 : FP RX12 470 12 62 "I" := ⟨(RX12, TX12, 72), rfl, by decide, by decide +kernel, by decide, Or.inl (tw6 186 rfl (by decide +kernel))⟩
set_option maxRecDepth 100000 in
theorem fl_12_105 : FL RX12 105 12 63 2 := ⟨(RX12, TX12, 72), rfl, by decide, by decide +kernel, Or.inl (tw6 187 rfl (by decide +kernel))⟩
set_option maxRecDepth 100000 in
theorem fpf_12_105 : FPF RX12 105 12 63 "[I" := ⟨(RX12, TX12, 72), rfl, by decide, by decide +kernel, by decide, by decide, tw6 187 rfl (by decide +kernel)⟩
set_option maxRecDepth 100000 in
theorem fl_12_108 : FL RX12 108 12 64 2 := ⟨(RX12, TX12, 72), rfl, by decide, by decide +kernel, Or.inl (tw6 188 rfl (by decide +kernel))⟩
set_option maxRecDepth 100000 in
theorem fpf_12_108 : FPF RX12 108 12 64 "[I" := ⟨(RX12, TX12, 72), rfl, by decide, by decide +kernel, by decide, by decide, tw6 188 rfl (by decide +kernel)⟩
set_option maxRecDepth 100000 in
theorem fl_12_111 : FL RX12 111 12 65 2 := ⟨(RX12, TX12, 72), rfl, by decide, by decide +kernel, Or.inl (tw6 189 rfl (by decide +kernel))⟩
set_option maxRecDepth 100000 in
theorem fpf_12_111 : FPF RX12 111 12 65 "[I" := ⟨(RX12, TX12, 72), rfl, by decide, by decide +kernel, by decide, by decide, tw6 189 rfl (by decide +kernel)⟩
set_option maxRecDepth 100000 in
theorem fl_12_114 : FL RX12 114 12 66 2 := ⟨(RX12, TX12, 72), rfl, by decide, by decide +kernel, Or.inl (tw6 190 rfl (by decide +kernel))⟩
set_option maxRecDepth 100000 in
theorem fpf_12_114 : FPF RX12 114 12 66 "[I" := ⟨(RX12, TX12, 72), rfl, by decide, by decide +kernel, by decide, by decide, tw6 190 rfl (by decide +kernel)⟩
set_option maxRecDepth 100000 in
theorem fl_12_482 : FL RX12 482 12 67 1 := ⟨(RX12, TX12, 72), rfl, by decide, by decide +kernel, Or.inl (tw6 191 rfl (by decide +kernel))⟩
set_option maxRecDepth 100000 in
theorem fp_12_482 : FP RX12 482 12 67 "J" := ⟨(RX12, TX12, 72), rfl, by decide, by decide +kernel, by decide, Or.inl (tw6 191 rfl (by decide +kernel))⟩
set_option maxRecDepth 100000 in
theorem fl_12_486 : FL RX12 486 12 68 1 := ⟨(RX12, TX12, 72), rfl, by decide, by decide +kernel, Or.inl (tw6 192 rfl (by decide +kernel))⟩
set_option maxRecDepth 100000 in
theorem fp_12_486 : FP RX12 486 12 68 "J" := ⟨(RX12, TX12, 72), rfl, by decide, by decide +kernel, by decide, Or.inl (tw6 192 rfl (by decide +kernel))⟩
set_option maxRecDepth 100000 in
theorem fl_12_117 : FL RX12 117 12 69 2 := ⟨(RX12, TX12, 72), rfl, by decide, by decide +kernel, Or.inl (tw6 193 rfl (by decide +kernel))⟩
set_option maxRecDepth 100000 in
theorem fpf_12_117 : FPF RX12 117 12 69 "[Z" := ⟨(RX12, TX12, 72), rfl, by decide, by decide +kernel, by decide, by decide, tw6 193 rfl (by decide +kernel)⟩
set_option maxRecDepth 100000 in
theorem fl_12_120 : FL RX12 120 12 70 2 := ⟨(RX12, TX12, 72), rfl, by decide, by decide +kernel, Or.inl (tw6 194 rfl (by decide +kernel))⟩
set_option maxRecDepth 100000 in
theorem fpf_12_120 : FPF RX12 120 12 70 "[I" := ⟨(RX12, TX12, 72), rfl, by decide, by decide +kernel, by decide, by decide, tw6 194 rfl (by decide +kernel)⟩
set_option maxRecDepth 100000 in
theorem fl_12_123 : FL RX12 123 12 71 2 := ⟨(RX12, TX12, 72), rfl, by decide, by decide +kernel, Or.inl (tw6 195 rfl (by decide +kernel))⟩
set_option maxRecDepth 100000 in
theorem fpf_12_123 : FPF RX12 123 12 71 "[I" := ⟨(RX12, TX12, 72), rfl, by decide, by decide +kernel, by decide, by decide, tw6 195 rfl (by decide +kernel)⟩
set_option maxRecDepth 100000 in
theorem cv_L_27 : CV RL 27 yX11_init 0 cX11_init 1 none := ⟨Or.inl (tw1 29 rfl (by decide +kernel)), (tw1 1 rfl (by decide +kernel)), (tw1 31 rfl (by decide +kernel)), by decide, by decide +kernel⟩
set_option maxRecDepth 100000 in
theorem im_X11_init : Cond.instanceMethod yX11_init ∈ T0 := tw1 30 rfl (by decide +kernel)
set_option maxRecDepth 100000 in
theorem ml_11_3 : Cond.methodLink RX11 3 Lib.objectInit ∈ T0 := tw1 32 rfl (by decide +kernel)
set_option maxRecDepth 100000 in
theorem cv_11_11 : CV RX11 11 yX9_init 0 cX9_init 1 none := ⟨Or.inr ⟨"BinsBothSides", (tw1 37 rfl (by decide +kernel))⟩, (tw1 2 rfl (by decide +kernel)), (tw1 39 rfl (by decide +kernel)), by decide, by decide +kernel⟩
set_option maxRecDepth 100000 in
theorem im_X9_init : Cond.instanceMethod yX9_init ∈ T0 := tw1 38 rfl (by decide +kernel)
set_option maxRecDepth 100000 in
theorem ml_9_3 : Cond.methodLink RX9 3 Lib.objectInit ∈ T0 := tw1 40 rfl (by decide +kernel)
set_option maxRecDepth 100000 in
theorem cv_11_18 : CV RX11 18 yX6_init 0 cX6_init 1 none := ⟨Or.inr ⟨"BinsBothSides", (tw1 58 rfl (by decide +kernel))⟩, (tw1 3 rfl (by decide +kernel)), (tw1 60 rfl (by decide +kernel)), by decide, by decide +kernel⟩
set_option maxRecDepth 100000 in
theorem im_X6_init : Cond.instanceMethod yX6_init ∈ T0 := tw1 59 rfl (by decide +kernel)
set_option maxRecDepth 100000 in
theorem ml_6_3 : Cond.methodLink RX6 3 Lib.objectInit ∈ T0 := tw1 61 rfl (by decide +kernel)
set_option maxRecDepth 100000 in
theorem cv_11_25 : CV RX11 25 yX5_init 0 cX5_init 1 none := ⟨Or.inr ⟨"BinsBothSides", (tw1 68 rfl (by decide +kernel))⟩, (tw1 4 rfl (by decide +kernel)), (tw1 70 rfl (by decide +kernel)), by decide, by decide +kernel⟩
set_option maxRecDepth 100000 in
theorem im_X5_init : Cond.instanceMethod yX5_init ∈ T0 := tw1 69 rfl (by decide +kernel)
set_option maxRecDepth 100000 in
theorem ml_5_3 : Cond.methodLink RX5 3 Lib.objectInit ∈ T0 := tw1 71 rfl (by decide +kernel)
set_option maxRecDepth 100000 in
theorem cv_11_32 : CV RX11 32 yX10_init 0 cX10_init 2 none := ⟨Or.inl (tw1 93 rfl (by decide +kernel)), (tw1 5 rfl (by decide +kernel)), (tw1 95 rfl (by decide +kernel)), by decide, by decide +kernel⟩
set_option maxRecDepth 100000 in
theorem im_X10_init : Cond.instanceMethod yX10_init ∈ T0 := tw1 94 rfl (by decide +kernel)
set_option maxRecDepth 100000 in
theorem ml_10_3 : Cond.methodLink RX10 3 Lib.objectInit ∈ T0 := tw1 96 rfl (by decide +kernel)
set_option maxRecDepth 100000 in
theorem cv_10_17 : CV RX10 17 yX8_init 1 cX8_init 2 none := ⟨Or.inl (tw1 100 rfl (by decide +kernel)), (tw1 6 rfl (by decide +kernel)), (tw1 102 rfl (by decide +kernel)), by decide, by decide +kernel⟩
set_option maxRecDepth 100000 in
theorem im_X8_init : Cond.instanceMethod yX8_init ∈ T0 := tw1 101 rfl (by decide +kernel)
set_option maxRecDepth 100000 in
theorem ml_8_3 : Cond.methodLink RX8 3 Lib.objectInit ∈ T0 := tw1 103 rfl (by decide +kernel)
set_option maxRecDepth 100000 in
theorem cv_11_39 : CV RX11 39 yX7_init 0 cX7_init 1 none := ⟨Or.inr ⟨"BinsBothSides", (tw1 160 rfl (by decide +kernel))⟩, (tw1 7 rfl (by decide +kernel)), (tw1 162 rfl (by decide +kernel)), by decide, by decide +kernel⟩
set_option maxRecDepth 100000 in
theorem im_X7_init : Cond.instanceMethod yX7_init ∈ T0 := tw1 161 rfl (by decide +kernel)
set_option maxRecDepth 100000 in
theorem ml_7_3 : Cond.methodLink RX7 3 Lib.objectInit ∈ T0 := tw1 163 rfl (by decide +kernel)
set_option maxRecDepth 100000 in
theorem cv_11_46 : CV RX11 46 yX1_init 0 cX1_init 2 none := ⟨Or.inl (tw1 189 rfl (by decide +kernel)), (tw1 8 rfl (by decide +kernel)), (tw1 191 rfl (by decide +kernel)), by decide, by decide +kernel⟩
set_option maxRecDepth 100000 in
theorem im_X1_init : Cond.instanceMethod yX1_init ∈ T0 := tw1 190 rfl (by decide +kernel)
set_option maxRecDepth 100000 in
theorem ml_1_1 : Cond.methodLink RX1 1 Lib.objectInit ∈ T0 := tw1 192 rfl (by decide +kernel)
set_option maxRecDepth 100000 in
theorem cv_1_15 : CV RX1 15 yX7_init 0 cX7_init 1 none := ⟨Or.inr ⟨"BinsBothSides", (tw1 195 rfl (by decide +kernel))⟩, (tw1 7 rfl (by decide +kernel)), (tw1 162 rfl (by decide +kernel)), by decide, by decide +kernel⟩
set_option maxRecDepth 100000 in
theorem cv_11_53 : CV RX11 53 yX3_init 2 cX3_init 3 none := ⟨Or.inl (tw1 209 rfl (by decide +kernel)), (tw1 9 rfl (by decide +kernel)), (tw1 211 rfl (by decide +kernel)), by decide, by decide +kernel⟩
set_option maxRecDepth 100000 in
theorem im_X3_init : Cond.instanceMethod yX3_init ∈ T0 := tw1 210 rfl (by decide +kernel)
set_option maxRecDepth 100000 in
theorem ml_3_3 : Cond.methodLink RX3 3 Lib.objectInit ∈ T0 := tw1 212 rfl (by decide +kernel)
set_option maxRecDepth 100000 in
theorem cv_11_62 : CV RX11 62 yX2_init 2 cX2_init 3 none := ⟨Or.inl (tw2 8 rfl (by decide +kernel)), (tw1 10 rfl (by decide +kernel)), (tw2 10 rfl (by decide +kernel)), by decide, by decide +kernel⟩
set_option maxRecDepth 100000 in
theorem im_X2_init : Cond.instanceMethod yX2_init ∈ T0 := tw2 9 rfl (by decide +kernel)
set_option maxRecDepth 100000 in
theorem ml_2_3 : Cond.methodLink RX2 3 Lib.objectInit ∈ T0 := tw2 11 rfl (by decide +kernel)
set_option maxRecDepth 100000 in
theorem cv_11_71 : CV RX11 71 yX4_init 3 cX4_init 5 none := ⟨Or.inl (tw2 86 rfl (by decide +kernel)), (tw1 11 rfl (by decide +kernel)), (tw2 88 rfl (by decide +kernel)), by decide, by decide +kernel⟩
set_option maxRecDepth 100000 in
theorem im_X4_init : Cond.instanceMethod yX4_init ∈ T0 := tw2 87 rfl (by decide +kernel)
set_option maxRecDepth 100000 in
theorem ml_4_3 : Cond.methodLink RX4 3 Lib.objectInit ∈ T0 := tw2 89 rfl (by decide +kernel)
set_option maxRecDepth 100000 in
theorem cv_4_35 : CV RX4 35 yX2_init 2 cX2_init 3 none := ⟨Or.inl (tw2 92 rfl (by decide +kernel)), (tw1 10 rfl (by decide +kernel)), (tw2 10 rfl (by decide +kernel)), by decide, by decide +kernel⟩
set_option maxRecDepth 100000 in
theorem cv_11_80 : CV RX11 80 yX0_init 1 cX0_init 2 none := ⟨Or.inl (tw2 150 rfl (by decide +kernel)), (tw1 12 rfl (by decide +kernel)), (tw2 152 rfl (by decide +kernel)), by decide, by decide +kernel⟩
set_option maxRecDepth 100000 in
theorem im_X0_init : Cond.instanceMethod yX0_init ∈ T0 := tw2 151 rfl (by decide +kernel)
set_option maxRecDepth 100000 in
theorem ml_0_3 : Cond.methodLink RX0 3 Lib.objectInit ∈ T0 := tw2 153 rfl (by decide +kernel)
set_option maxRecDepth 100000 in
theorem cv_L_31 : CV RL 31 yX11_sign 1 cX11_sign 2 (some .int) := ⟨Or.inl (tw2 238 rfl (by decide +kernel)), (tw1 1 rfl (by decide +kernel)), (tw3 1 rfl (by decide +kernel)), by decide, by decide +kernel⟩
set_option maxRecDepth 100000 in
theorem im_X11_sign : Cond.instanceMethod yX11_sign ∈ T0 := tw2 239 rfl (by decide +kernel)
set_option maxRecDepth 100000 in
theorem sl_X11_sign : Cond.selects yX11_sign.cls yX11_sign yX11_sign ∈ T0 := tw3 0 rfl (by decide +kernel)
set_option maxRecDepth 100000 in
theorem cv_11_102 : CV RX11 102 yX9_append 1 cX9_append 3 (some .boolean) := ⟨Or.inl (tw3 2 rfl (by decide +kernel)), (tw1 2 rfl (by decide +kernel)), (tw3 5 rfl (by decide +kernel)), by decide, by decide +kernel⟩
set_option maxRecDepth 100000 in
theorem im_X9_append : Cond.instanceMethod yX9_append ∈ T0 := tw3 3 rfl (by decide +kernel)
set_option maxRecDepth 100000 in
theorem sl_X9_append : Cond.selects yX9_append.cls yX9_append yX9_append ∈ T0 := tw3 4 rfl (by decide +kernel)
set_option maxRecDepth 100000 in
theorem cv_L_35 : CV RL 35 yX11_end 1 cX11_end 2 (some .boolean) := ⟨Or.inl (tw3 6 rfl (by decide +kernel)), (tw1 1 rfl (by decide +kernel)), (tw3 9 rfl (by decide +kernel)), by decide, by decide +kernel⟩
set_option maxRecDepth 100000 in
theorem im_X11_end : Cond.instanceMethod yX11_end ∈ T0 := tw3 7 rfl (by decide +kernel)
set_option maxRecDepth 100000 in
theorem sl_X11_end : Cond.selects yX11_end.cls yX11_end yX11_end ∈ T0 := tw3 8 rfl (by decide +kernel)
set_option maxRecDepth 100000 in
theorem cv_11_110 : CV RX11 110 yX9_shorten 1 cX9_shorten 2 (some .boolean) := ⟨Or.inl (tw3 10 rfl (by decide +kernel)), (tw1 2 rfl (by decide +kernel)), (tw3 13 rfl (by decide +kernel)), by decide, by decide +kernel⟩
set_option maxRecDepth 100000 in
theorem im_X9_shorten : Cond.instanceMethod yX9_shorten ∈ T0 := tw3 11 rfl (by decide +kernel)
set_option maxRecDepth 100000 in
theorem sl_X9_shorten : Cond.selects yX9_shorten.cls yX9_shorten yX9_shorten ∈ T0 := tw3 12 rfl (by decide +kernel)
set_option maxRecDepth 100000 in
theorem cv_L_40 : CV RL 40 yX11_streets 0 cX11_streets 4 (some .int) := ⟨Or.inl (tw3 14 rfl (by decide +kernel)), (tw1 1 rfl (by decide +kernel)), (tw3 17 rfl (by decide +kernel)), by decide, by decide +kernel⟩
set_option maxRecDepth 100000 in
theorem im_X11_streets : Cond.instanceMethod yX11_streets ∈ T0 := tw3 15 rfl (by decide +kernel)
set_option maxRecDepth 100000 in
theorem sl_X11_streets : Cond.selects yX11_streets.cls yX11_streets yX11_streets ∈ T0 := tw3 16 rfl (by decide +kernel)
set_option maxRecDepth 100000 in
theorem cv_11_116 : CV RX11 116 yX10_read 1 cX10_read 4 (some .int) := ⟨Or.inl (tw3 18 rfl (by decide +kernel)), (tw1 5 rfl (by decide +kernel)), (tw3 21 rfl (by decide +kernel)), by decide, by decide +kernel⟩
set_option maxRecDepth 100000 in
theorem im_X10_read : Cond.instanceMethod yX10_read ∈ T0 := tw3 19 rfl (by decide +kernel)
set_option maxRecDepth 100000 in
theorem sl_X10_read : Cond.selects yX10_read.cls yX10_read yX10_read ∈ T0 := tw3 20 rfl (by decide +kernel)
set_option maxRecDepth 100000 in
theorem cv_10_32 : CV RX10 32 yX9_begin 1 cX9_begin 2 none := ⟨Or.inl (tw3 22 rfl (by decide +kernel)), (tw1 2 rfl (by decide +kernel)), (tw3 25 rfl (by decide +kernel)), by decide, by decide +kernel⟩
set_option maxRecDepth 100000 in
theorem im_X9_begin : Cond.instanceMethod yX9_begin ∈ T0 := tw3 23 rfl (by decide +kernel)
set_option maxRecDepth 100000 in
theorem sl_X9_begin : Cond.selects yX9_begin.cls yX9_begin yX9_begin ∈ T0 := tw3 24 rfl (by decide +kernel)
set_option maxRecDepth 100000 in
theorem ml_9_22 : Cond.methodLink RX9 22 Lib.Math.min.name ∈ T0 := tw3 26 rfl (by decide +kernel)
set_option maxRecDepth 100000 in
theorem cv_10_37 : CV RX10 37 yX9_isRead 0 cX9_isRead 1 (some .boolean) := ⟨Or.inl (tw3 29 rfl (by decide +kernel)), (tw1 2 rfl (by decide +kernel)), (tw3 32 rfl (by decide +kernel)), by decide, by decide +kernel⟩
set_option maxRecDepth 100000 in
theorem im_X9_isRead : Cond.instanceMethod yX9_isRead ∈ T0 := tw3 30 rfl (by decide +kernel)
set_option maxRecDepth 100000 in
theorem sl_X9_isRead : Cond.selects yX9_isRead.cls yX9_isRead yX9_isRead ∈ T0 := tw3 31 rfl (by decide +kernel)
set_option maxRecDepth 100000 in
theorem cv_10_41 : CV RX10 41 yX8_read 1 cX8_read 2 (some .boolean) := ⟨Or.inl (tw3 33 rfl (by decide +kernel)), (tw1 6 rfl (by decide +kernel)), (tw3 36 rfl (by decide +kernel)), by decide, by decide +kernel⟩
set_option maxRecDepth 100000 in
theorem im_X8_read : Cond.instanceMethod yX8_read ∈ T0 := tw3 34 rfl (by decide +kernel)
set_option maxRecDepth 100000 in
theorem sl_X8_read : Cond.selects yX8_read.cls yX8_read yX8_read ∈ T0 := tw3 35 rfl (by decide +kernel)
set_option maxRecDepth 100000 in
theorem cv_8_29 : CV RX8 29 yX9_accept 1 cX9_accept 2 (some .boolean) := ⟨Or.inl (tw3 37 rfl (by decide +kernel)), (tw1 2 rfl (by decide +kernel)), (tw3 40 rfl (by decide +kernel)), by decide, by decide +kernel⟩
set_option maxRecDepth 100000 in
theorem im_X9_accept : Cond.instanceMethod yX9_accept ∈ T0 := tw3 38 rfl (by decide +kernel)
set_option maxRecDepth 100000 in
theorem sl_X9_accept : Cond.selects yX9_accept.cls yX9_accept yX9_accept ∈ T0 := tw3 39 rfl (by decide +kernel)
set_option maxRecDepth 100000 in
theorem cv_9_31 : CV RX9 31 yX9_look 0 cX9_look 1 (some .int) := ⟨Or.inl (tw3 41 rfl (by decide +kernel)), (tw1 2 rfl (by decide +kernel)), (tw3 44 rfl (by decide +kernel)), by decide, by decide +kernel⟩
set_option maxRecDepth 100000 in
theorem im_X9_look : Cond.instanceMethod yX9_look ∈ T0 := tw3 42 rfl (by decide +kernel)
set_option maxRecDepth 100000 in
theorem sl_X9_look : Cond.selects yX9_look.cls yX9_look yX9_look ∈ T0 := tw3 43 rfl (by decide +kernel)
set_option maxRecDepth 100000 in
theorem cv_9_35 : CV RX9 35 yX9_pass 0 cX9_pass 1 none := ⟨Or.inl (tw3 45 rfl (by decide +kernel)), (tw1 2 rfl (by decide +kernel)), (tw3 48 rfl (by decide +kernel)), by decide, by decide +kernel⟩
set_option maxRecDepth 100000 in
theorem im_X9_pass : Cond.instanceMethod yX9_pass ∈ T0 := tw3 46 rfl (by decide +kernel)
set_option maxRecDepth 100000 in
theorem sl_X9_pass : Cond.selects yX9_pass.cls yX9_pass yX9_pass ∈ T0 := tw3 47 rfl (by decide +kernel)
set_option maxRecDepth 100000 in
theorem cv_8_35 : CV RX8 35 yX9_number 1 cX9_number 5 (some .int) := ⟨Or.inl (tw3 49 rfl (by decide +kernel)), (tw1 2 rfl (by decide +kernel)), (tw3 52 rfl (by decide +kernel)), by decide, by decide +kernel⟩
set_option maxRecDepth 100000 in
theorem im_X9_number : Cond.instanceMethod yX9_number ∈ T0 := tw3 50 rfl (by decide +kernel)
set_option maxRecDepth 100000 in
theorem sl_X9_number : Cond.selects yX9_number.cls yX9_number yX9_number ∈ T0 := tw3 51 rfl (by decide +kernel)
set_option maxRecDepth 100000 in
theorem cv_8_41 : CV RX8 41 yX8_readSides 1 cX8_readSides 2 (some .boolean) := ⟨Or.inl (tw3 53 rfl (by decide +kernel)), (tw1 6 rfl (by decide +kernel)), (tw3 56 rfl (by decide +kernel)), by decide, by decide +kernel⟩
set_option maxRecDepth 100000 in
theorem im_X8_readSides : Cond.instanceMethod yX8_readSides ∈ T0 := tw3 55 rfl (by decide +kernel)
theorem sl_X8_readSides : Cond.selects yX8_readSides.cls yX8_readSides yX8_readSides ∈ T0 := T0_ofN (by decide +kernel) (by decide +kernel)
set_option maxRecDepth 100000 in
theorem cv_8_55 : CV RX8 55 yJ7_fill_53178 2 cJ7_fill_53178 4 none := ⟨Or.inl (tw3 57 rfl (by decide +kernel)), (tw1 15 rfl (by decide +kernel)), (tw3 59 rfl (by decide +kernel)), by decide, by decide +kernel⟩
set_option maxRecDepth 100000 in
theorem st_J7_fill_53178 : Cond.static yJ7_fill_53178 ∈ T0 := tw3 58 rfl (by decide +kernel)
set_option maxRecDepth 100000 in
theorem cv_8_61 : CV RX8 61 yX8_readSide 3 cX8_readSide 7 (some .int) := ⟨Or.inl (tw3 60 rfl (by decide +kernel)), (tw1 6 rfl (by decide +kernel)), (tw3 63 rfl (by decide +kernel)), by decide, by decide +kernel⟩
set_option maxRecDepth 100000 in
theorem im_X8_readSide : Cond.instanceMethod yX8_readSide ∈ T0 := tw3 62 rfl (by decide +kernel)
theorem sl_X8_readSide : Cond.selects yX8_readSide.cls yX8_readSide yX8_readSide ∈ T0 := T0_ofN (by decide +kernel) (by decide +kernel)
set_option maxRecDepth 100000 in
theorem cv_8_68 : CV RX8 68 yX9_digitBelow 1 cX9_digitBelow 3 (some .int) := ⟨Or.inl (tw3 64 rfl (by decide +kernel)), (tw1 2 rfl (by decide +kernel)), (tw3 67 rfl (by decide +kernel)), by decide, by decide +kernel⟩
set_option maxRecDepth 100000 in
theorem im_X9_digitBelow : Cond.instanceMethod yX9_digitBelow ∈ T0 := tw3 65 rfl (by decide +kernel)
set_option maxRecDepth 100000 in
theorem sl_X9_digitBelow : Cond.selects yX9_digitBelow.cls yX9_digitBelow yX9_digitBelow ∈ T0 := tw3 66 rfl (by decide +kernel)
set_option maxRecDepth 100000 in
theorem cv_8_52 : CV RX8 52 yX8_readBarred 1 cX8_readBarred 2 (some .boolean) := ⟨Or.inl (tw3 68 rfl (by decide +kernel)), (tw1 6 rfl (by decide +kernel)), (tw3 71 rfl (by decide +kernel)), by decide, by decide +kernel⟩
set_option maxRecDepth 100000 in
theorem im_X8_readBarred : Cond.instanceMethod yX8_readBarred ∈ T0 := tw3 70 rfl (by decide +kernel)
theorem sl_X8_readBarred : Cond.selects yX8_readBarred.cls yX8_readBarred yX8_readBarred ∈ T0 := T0_ofN (by decide +kernel) (by decide +kernel)
set_option maxRecDepth 100000 in
theorem cv_8_71 : CV RX8 71 yX9_stepBack 0 cX9_stepBack 1 none := ⟨Or.inl (tw3 72 rfl (by decide +kernel)), (tw1 2 rfl (by decide +kernel)), (tw3 75 rfl (by decide +kernel)), by decide, by decide +kernel⟩
set_option maxRecDepth 100000 in
theorem im_X9_stepBack : Cond.instanceMethod yX9_stepBack ∈ T0 := tw3 73 rfl (by decide +kernel)
set_option maxRecDepth 100000 in
theorem sl_X9_stepBack : Cond.selects yX9_stepBack.cls yX9_stepBack yX9_stepBack ∈ T0 := tw3 74 rfl (by decide +kernel)
set_option maxRecDepth 100000 in
theorem cv_10_45 : CV RX10 45 yX9_fault 0 cX9_fault 1 (some .int) := ⟨Or.inl (tw3 76 rfl (by decide +kernel)), (tw1 2 rfl (by decide +kernel)), (tw3 79 rfl (by decide +kernel)), by decide, by decide +kernel⟩
set_option maxRecDepth 100000 in
theorem im_X9_fault : Cond.instanceMethod yX9_fault ∈ T0 := tw3 77 rfl (by decide +kernel)
set_option maxRecDepth 100000 in
theorem sl_X9_fault : Cond.selects yX9_fault.cls yX9_fault yX9_fault ∈ T0 := tw3 78 rfl (by decide +kernel)
set_option maxRecDepth 100000 in
theorem cv_10_48 : CV RX10 48 yX9_accept 1 cX9_accept 2 (some .boolean) := ⟨Or.inl (tw3 80 rfl (by decide +kernel)), (tw1 2 rfl (by decide +kernel)), (tw3 40 rfl (by decide +kernel)), by decide, by decide +kernel⟩
set_option maxRecDepth 100000 in
theorem cv_11_120 : CV RX11 120 yX9_clear 0 cX9_clear 1 none := ⟨Or.inl (tw3 81 rfl (by decide +kernel)), (tw1 2 rfl (by decide +kernel)), (tw3 84 rfl (by decide +kernel)), by decide, by decide +kernel⟩
set_option maxRecDepth 100000 in
theorem im_X9_clear : Cond.instanceMethod yX9_clear ∈ T0 := tw3 82 rfl (by decide +kernel)
set_option maxRecDepth 100000 in
theorem sl_X9_clear : Cond.selects yX9_clear.cls yX9_clear yX9_clear ∈ T0 := tw3 83 rfl (by decide +kernel)
set_option maxRecDepth 100000 in
theorem cv_11_123 : CV RX11 123 yX10_binsOf 1 cX10_binsOf 3 (some .int) := ⟨Or.inl (tw3 85 rfl (by decide +kernel)), (tw1 5 rfl (by decide +kernel)), (tw3 88 rfl (by decide +kernel)), by decide, by decide +kernel⟩
set_option maxRecDepth 100000 in
theorem im_X10_binsOf : Cond.instanceMethod yX10_binsOf ∈ T0 := tw3 86 rfl (by decide +kernel)
set_option maxRecDepth 100000 in
theorem sl_X10_binsOf : Cond.selects yX10_binsOf.cls yX10_binsOf yX10_binsOf ∈ T0 := tw3 87 rfl (by decide +kernel)
set_option maxRecDepth 100000 in
theorem cv_10_24 : CV RX10 24 yX10_at 1 cX10_at 2 (some (.object "BinsBothSides$Street")) := ⟨Or.inl (tw3 89 rfl (by decide +kernel)), (tw1 5 rfl (by decide +kernel)), (tw3 92 rfl (by decide +kernel)), by decide, by decide +kernel⟩
set_option maxRecDepth 100000 in
theorem im_X10_at : Cond.instanceMethod yX10_at ∈ T0 := tw3 90 rfl (by decide +kernel)
set_option maxRecDepth 100000 in
theorem sl_X10_at : Cond.selects yX10_at.cls yX10_at yX10_at ∈ T0 := tw3 91 rfl (by decide +kernel)
set_option maxRecDepth 100000 in
theorem cv_10_28 : CV RX10 28 yX8_bins 0 cX8_bins 3 (some .int) := ⟨Or.inl (tw3 93 rfl (by decide +kernel)), (tw1 6 rfl (by decide +kernel)), (tw3 96 rfl (by decide +kernel)), by decide, by decide +kernel⟩
set_option maxRecDepth 100000 in
theorem im_X8_bins : Cond.instanceMethod yX8_bins ∈ T0 := tw3 94 rfl (by decide +kernel)
set_option maxRecDepth 100000 in
theorem sl_X8_bins : Cond.selects yX8_bins.cls yX8_bins yX8_bins ∈ T0 := tw3 95 rfl (by decide +kernel)
set_option maxRecDepth 100000 in
theorem cv_11_127 : CV RX11 127 yX7_putOut 2 cX7_putOut 3 none := ⟨Or.inl (tw3 97 rfl (by decide +kernel)), (tw1 7 rfl (by decide +kernel)), (tw3 100 rfl (by decide +kernel)), by decide, by decide +kernel⟩
set_option maxRecDepth 100000 in
theorem im_X7_putOut : Cond.instanceMethod yX7_putOut ∈ T0 := tw3 98 rfl (by decide +kernel)
set_option maxRecDepth 100000 in
theorem sl_X7_putOut : Cond.selects yX7_putOut.cls yX7_putOut yX7_putOut ∈ T0 := tw3 99 rfl (by decide +kernel)
set_option maxRecDepth 100000 in
theorem cv_11_131 : CV RX11 131 yX1_clear 0 cX1_clear 1 none := ⟨Or.inl (tw3 101 rfl (by decide +kernel)), (tw1 8 rfl (by decide +kernel)), (tw3 104 rfl (by decide +kernel)), by decide, by decide +kernel⟩
set_option maxRecDepth 100000 in
theorem im_X1_clear : Cond.instanceMethod yX1_clear ∈ T0 := tw3 102 rfl (by decide +kernel)
set_option maxRecDepth 100000 in
theorem sl_X1_clear : Cond.selects yX1_clear.cls yX1_clear yX1_clear ∈ T0 := tw3 103 rfl (by decide +kernel)
set_option maxRecDepth 100000 in
theorem cv_L_45 : CV RL 45 yX11_rule 0 cX11_rule 2 (some .int) := ⟨Or.inl (tw3 105 rfl (by decide +kernel)), (tw1 1 rfl (by decide +kernel)), (tw3 108 rfl (by decide +kernel)), by decide, by decide +kernel⟩
set_option maxRecDepth 100000 in
theorem im_X11_rule : Cond.instanceMethod yX11_rule ∈ T0 := tw3 106 rfl (by decide +kernel)
set_option maxRecDepth 100000 in
theorem sl_X11_rule : Cond.selects yX11_rule.cls yX11_rule yX11_rule ∈ T0 := tw3 107 rfl (by decide +kernel)
set_option maxRecDepth 100000 in
theorem cv_11_132 : CV RX11 132 yX5_read 1 cX5_read 3 (some .int) := ⟨Or.inl (tw3 109 rfl (by decide +kernel)), (tw1 4 rfl (by decide +kernel)), (tw3 112 rfl (by decide +kernel)), by decide, by decide +kernel⟩
set_option maxRecDepth 100000 in
theorem im_X5_read : Cond.instanceMethod yX5_read ∈ T0 := tw3 110 rfl (by decide +kernel)
set_option maxRecDepth 100000 in
theorem sl_X5_read : Cond.selects yX5_read.cls yX5_read yX5_read ∈ T0 := tw3 111 rfl (by decide +kernel)
set_option maxRecDepth 100000 in
theorem cv_5_21 : CV RX5 21 yX9_begin 1 cX9_begin 2 none := ⟨Or.inl (tw3 113 rfl (by decide +kernel)), (tw1 2 rfl (by decide +kernel)), (tw3 25 rfl (by decide +kernel)), by decide, by decide +kernel⟩
set_option maxRecDepth 100000 in
theorem cv_5_31 : CV RX5 31 yX9_isRead 0 cX9_isRead 1 (some .boolean) := ⟨Or.inl (tw3 114 rfl (by decide +kernel)), (tw1 2 rfl (by decide +kernel)), (tw3 32 rfl (by decide +kernel)), by decide, by decide +kernel⟩
set_option maxRecDepth 100000 in
theorem cv_5_35 : CV RX5 35 yX5_readComparison 2 cX5_readComparison 4 (some .boolean) := ⟨Or.inl (tw3 115 rfl (by decide +kernel)), (tw1 4 rfl (by decide +kernel)), (tw3 118 rfl (by decide +kernel)), by decide, by decide +kernel⟩
set_option maxRecDepth 100000 in
theorem im_X5_readComparison : Cond.instanceMethod yX5_readComparison ∈ T0 := tw3 117 rfl (by decide +kernel)
theorem sl_X5_readComparison : Cond.selects yX5_readComparison.cls yX5_readComparison yX5_readComparison ∈ T0 := T0_ofN (by decide +kernel) (by decide +kernel)
set_option maxRecDepth 100000 in
theorem cv_5_46 : CV RX5 46 yX5_readSum 2 cX5_readSum 6 (some .boolean) := ⟨Or.inl (tw3 119 rfl (by decide +kernel)), (tw1 4 rfl (by decide +kernel)), (tw3 122 rfl (by decide +kernel)), by decide, by decide +kernel⟩
set_option maxRecDepth 100000 in
theorem im_X5_readSum : Cond.instanceMethod yX5_readSum ∈ T0 := tw3 121 rfl (by decide +kernel)
theorem sl_X5_readSum : Cond.selects yX5_readSum.cls yX5_readSum yX5_readSum ∈ T0 := T0_ofN (by decide +kernel) (by decide +kernel)
set_option maxRecDepth 100000 in
theorem cv_5_59 : CV RX5 59 yX5_readProduct 2 cX5_readProduct 6 (some .boolean) := ⟨Or.inl (tw3 123 rfl (by decide +kernel)), (tw1 4 rfl (by decide +kernel)), (tw3 126 rfl (by decide +kernel)), by decide, by decide +kernel⟩
set_option maxRecDepth 100000 in
theorem im_X5_readProduct : Cond.instanceMethod yX5_readProduct ∈ T0 := tw3 125 rfl (by decide +kernel)
theorem sl_X5_readProduct : Cond.selects yX5_readProduct.cls yX5_readProduct yX5_readProduct ∈ T0 := T0_ofN (by decide +kernel) (by decide +kernel)
set_option maxRecDepth 100000 in
theorem cv_5_62 : CV RX5 62 yX5_readThing 2 cX5_readThing 6 (some .boolean) := ⟨Or.inl (tw3 127 rfl (by decide +kernel)), (tw1 4 rfl (by decide +kernel)), (tw3 130 rfl (by decide +kernel)), by decide, by decide +kernel⟩
set_option maxRecDepth 100000 in
theorem im_X5_readThing : Cond.instanceMethod yX5_readThing ∈ T0 := tw3 129 rfl (by decide +kernel)
theorem sl_X5_readThing : Cond.selects yX5_readThing.cls yX5_readThing yX5_readThing ∈ T0 := T0_ofN (by decide +kernel) (by decide +kernel)
set_option maxRecDepth 100000 in
theorem cv_5_65 : CV RX5 65 yX9_accept 1 cX9_accept 2 (some .boolean) := ⟨Or.inl (tw3 131 rfl (by decide +kernel)), (tw1 2 rfl (by decide +kernel)), (tw3 40 rfl (by decide +kernel)), by decide, by decide +kernel⟩
set_option maxRecDepth 100000 in
theorem cv_5_69 : CV RX5 69 yX9_number 1 cX9_number 5 (some .int) := ⟨Or.inl (tw3 132 rfl (by decide +kernel)), (tw1 2 rfl (by decide +kernel)), (tw3 52 rfl (by decide +kernel)), by decide, by decide +kernel⟩
set_option maxRecDepth 100000 in
theorem cv_5_55 : CV RX5 55 yX5_write 1 cX5_write 2 (some .boolean) := ⟨Or.inl (tw3 133 rfl (by decide +kernel)), (tw1 4 rfl (by decide +kernel)), (tw3 136 rfl (by decide +kernel)), by decide, by decide +kernel⟩
set_option maxRecDepth 100000 in
theorem im_X5_write : Cond.instanceMethod yX5_write ∈ T0 := tw3 135 rfl (by decide +kernel)
theorem sl_X5_write : Cond.selects yX5_write.cls yX5_write yX5_write ∈ T0 := T0_ofN (by decide +kernel) (by decide +kernel)
set_option maxRecDepth 100000 in
theorem cv_5_49 : CV RX5 49 yX9_look 0 cX9_look 1 (some .int) := ⟨Or.inl (tw3 137 rfl (by decide +kernel)), (tw1 2 rfl (by decide +kernel)), (tw3 44 rfl (by decide +kernel)), by decide, by decide +kernel⟩
set_option maxRecDepth 100000 in
theorem cv_5_52 : CV RX5 52 yX9_pass 0 cX9_pass 1 none := ⟨Or.inl (tw3 138 rfl (by decide +kernel)), (tw1 2 rfl (by decide +kernel)), (tw3 48 rfl (by decide +kernel)), by decide, by decide +kernel⟩
set_option maxRecDepth 100000 in
theorem cv_5_73 : CV RX5 73 yX5_readLetter 1 cX5_readLetter 4 (some .boolean) := ⟨Or.inl (tw3 139 rfl (by decide +kernel)), (tw1 4 rfl (by decide +kernel)), (tw3 142 rfl (by decide +kernel)), by decide, by decide +kernel⟩
set_option maxRecDepth 100000 in
theorem im_X5_readLetter : Cond.instanceMethod yX5_readLetter ∈ T0 := tw3 141 rfl (by decide +kernel)
theorem sl_X5_readLetter : Cond.selects yX5_readLetter.cls yX5_readLetter yX5_readLetter ∈ T0 := T0_ofN (by decide +kernel) (by decide +kernel)
set_option maxRecDepth 100000 in
theorem cv_5_79 : CV RX5 79 yJ0_indexOf_0f7a4 1 cJ0_indexOf_0f7a4 2 (some .int) := ⟨Or.inl (tw3 144 rfl (by decide +kernel)), (tw1 16 rfl (by decide +kernel)), (tw3 147 rfl (by decide +kernel)), by decide, by decide +kernel⟩
set_option maxRecDepth 100000 in
theorem im_J0_indexOf_0f7a4 : Cond.instanceMethod yJ0_indexOf_0f7a4 ∈ T0 := tw3 145 rfl (by decide +kernel)
set_option maxRecDepth 100000 in
theorem sl_J0_indexOf_0f7a4 : Cond.selects yJ0_indexOf_0f7a4.cls yJ0_indexOf_0f7a4 yJ0_indexOf_0f7a4 ∈ T0 := tw3 146 rfl (by decide +kernel)
set_option maxRecDepth 100000 in
theorem cv_J0_633 : CV RJ0 633 yJ0_indexOf_7cf53 2 cJ0_indexOf_7cf53 3 (some .int) := ⟨Or.inl (tw3 148 rfl (by decide +kernel)), (tw1 16 rfl (by decide +kernel)), (tw3 151 rfl (by decide +kernel)), by decide, by decide +kernel⟩
set_option maxRecDepth 100000 in
theorem im_J0_indexOf_7cf53 : Cond.instanceMethod yJ0_indexOf_7cf53 ∈ T0 := tw3 149 rfl (by decide +kernel)
set_option maxRecDepth 100000 in
theorem sl_J0_indexOf_7cf53 : Cond.selects yJ0_indexOf_7cf53.cls yJ0_indexOf_7cf53 yJ0_indexOf_7cf53 ∈ T0 := tw3 150 rfl (by decide +kernel)
set_option maxRecDepth 100000 in
theorem cv_J0_492 : CV RJ0 492 yJ0_isLatin1_aae02 0 cJ0_isLatin1_aae02 1 (some .boolean) := ⟨Or.inl (tw3 152 rfl (by decide +kernel)), (tw1 16 rfl (by decide +kernel)), (tw3 155 rfl (by decide +kernel)), by decide, by decide +kernel⟩
set_option maxRecDepth 100000 in
theorem im_J0_isLatin1_aae02 : Cond.instanceMethod yJ0_isLatin1_aae02 ∈ T0 := tw3 153 rfl (by decide +kernel)
set_option maxRecDepth 100000 in
theorem sl_J0_isLatin1_aae02 : Cond.selects yJ0_isLatin1_aae02.cls yJ0_isLatin1_aae02 yJ0_isLatin1_aae02 ∈ T0 := tw3 154 rfl (by decide +kernel)
set_option maxRecDepth 100000 in
theorem cv_J0_505 : CV RJ0 505 yJ0_length_8abf5 0 cJ0_length_8abf5 1 (some .int) := ⟨Or.inl (tw3 158 rfl (by decide +kernel)), (tw1 16 rfl (by decide +kernel)), (tw3 161 rfl (by decide +kernel)), by decide, by decide +kernel⟩
set_option maxRecDepth 100000 in
theorem im_J0_length_8abf5 : Cond.instanceMethod yJ0_length_8abf5 ∈ T0 := tw3 159 rfl (by decide +kernel)
set_option maxRecDepth 100000 in
theorem sl_J0_length_8abf5 : Cond.selects yJ0_length_8abf5.cls yJ0_length_8abf5 yJ0_length_8abf5 ∈ T0 := tw3 160 rfl (by decide +kernel)
set_option maxRecDepth 100000 in
theorem cv_J0_335 : CV RJ0 335 yJ0_coder_7d493 0 cJ0_coder_7d493 1 (some .byte) := ⟨Or.inl (tw3 162 rfl (by decide +kernel)), (tw1 16 rfl (by decide +kernel)), (tw3 165 rfl (by decide +kernel)), by decide, by decide +kernel⟩
set_option maxRecDepth 100000 in
theorem im_J0_coder_7d493 : Cond.instanceMethod yJ0_coder_7d493 ∈ T0 := tw3 163 rfl (by decide +kernel)
set_option maxRecDepth 100000 in
theorem sl_J0_coder_7d493 : Cond.selects yJ0_coder_7d493.cls yJ0_coder_7d493 yJ0_coder_7d493 ∈ T0 := tw3 164 rfl (by decide +kernel)
set_option maxRecDepth 100000 in
theorem cv_J0_637 : CV RJ0 637 yJ1_indexOf_4cfef 4 cJ1_indexOf_4cfef 4 (some .int) := ⟨Or.inl (tw3 166 rfl (by decide +kernel)), (tw1 17 rfl (by decide +kernel)), (tw3 168 rfl (by decide +kernel)), by decide, by decide +kernel⟩
set_option maxRecDepth 100000 in
theorem st_J1_indexOf_4cfef : Cond.static yJ1_indexOf_4cfef ∈ T0 := tw3 167 rfl (by decide +kernel)
set_option maxRecDepth 100000 in
theorem cv_J1_88 : CV RJ1 88 yJ1_canEncode_9a6ad 1 cJ1_canEncode_9a6ad 1 (some .boolean) := ⟨Or.inl (tw3 169 rfl (by decide +kernel)), (tw1 17 rfl (by decide +kernel)), (tw3 171 rfl (by decide +kernel)), by decide, by decide +kernel⟩
set_option maxRecDepth 100000 in
theorem st_J1_canEncode_9a6ad : Cond.static yJ1_canEncode_9a6ad ∈ T0 := tw3 170 rfl (by decide +kernel)
set_option maxRecDepth 100000 in
theorem ml_J1_92 : Cond.methodLink RJ1 92 Lib.Math.max.name ∈ T0 := tw3 172 rfl (by decide +kernel)
set_option maxRecDepth 100000 in
theorem ml_J1_38 : Cond.methodLink RJ1 38 Lib.Math.min.name ∈ T0 := tw3 175 rfl (by decide +kernel)
set_option maxRecDepth 100000 in
theorem cv_J1_95 : CV RJ1 95 yJ1_indexOfChar_4cfef 4 cJ1_indexOfChar_4cfef 6 (some .int) := ⟨Or.inl (tw3 176 rfl (by decide +kernel)), (tw1 17 rfl (by decide +kernel)), (tw3 178 rfl (by decide +kernel)), by decide, by decide +kernel⟩
set_option maxRecDepth 100000 in
theorem st_J1_indexOfChar_4cfef : Cond.static yJ1_indexOfChar_4cfef ∈ T0 := tw3 177 rfl (by decide +kernel)
set_option maxRecDepth 100000 in
theorem cv_J0_640 : CV RJ0 640 yJ2_indexOf_4cfef 4 cJ2_indexOf_4cfef 4 (some .int) := ⟨Or.inl (tw3 179 rfl (by decide +kernel)), (tw1 19 rfl (by decide +kernel)), (tw3 181 rfl (by decide +kernel)), by decide, by decide +kernel⟩
set_option maxRecDepth 100000 in
theorem st_J2_indexOf_4cfef : Cond.static yJ2_indexOf_4cfef ∈ T0 := tw3 180 rfl (by decide +kernel)
set_option maxRecDepth 100000 in
theorem ml_J2_224 : Cond.methodLink RJ2 224 Lib.Math.max.name ∈ T0 := tw3 182 rfl (by decide +kernel)
set_option maxRecDepth 100000 in
theorem ml_J2_183 : Cond.methodLink RJ2 183 Lib.Math.min.name ∈ T0 := tw3 183 rfl (by decide +kernel)
set_option maxRecDepth 100000 in
theorem cv_J2_228 : CV RJ2 228 yJ2_indexOfChar_4cfef 4 cJ2_indexOfChar_4cfef 4 (some .int) := ⟨Or.inl (tw3 185 rfl (by decide +kernel)), (tw1 19 rfl (by decide +kernel)), (tw3 187 rfl (by decide +kernel)), by decide, by decide +kernel⟩
set_option maxRecDepth 100000 in
theorem st_J2_indexOfChar_4cfef : Cond.static yJ2_indexOfChar_4cfef ∈ T0 := tw3 186 rfl (by decide +kernel)
set_option maxRecDepth 100000 in
theorem cv_J2_96 : CV RJ2 96 yJ2_checkBoundsBeginEnd_d044e 3 cJ2_checkBoundsBeginEnd_d044e 3 none := ⟨Or.inl (tw3 188 rfl (by decide +kernel)), (tw1 19 rfl (by decide +kernel)), (tw3 190 rfl (by decide +kernel)), by decide, by decide +kernel⟩
set_option maxRecDepth 100000 in
theorem st_J2_checkBoundsBeginEnd_d044e : Cond.static yJ2_checkBoundsBeginEnd_d044e ∈ T0 := tw3 189 rfl (by decide +kernel)
set_option maxRecDepth 100000 in
theorem cv_J2_48 : CV RJ2 48 yJ2_length_9d52b 1 cJ2_length_9d52b 1 (some .int) := ⟨Or.inl (tw3 191 rfl (by decide +kernel)), (tw1 19 rfl (by decide +kernel)), (tw3 193 rfl (by decide +kernel)), by decide, by decide +kernel⟩
set_option maxRecDepth 100000 in
theorem st_J2_length_9d52b : Cond.static yJ2_length_9d52b ∈ T0 := tw3 192 rfl (by decide +kernel)
set_option maxRecDepth 100000 in
theorem cv_J2_241 : CV RJ2 241 yJ0_checkBoundsBeginEnd_23922 3 cJ0_checkBoundsBeginEnd_23922 3 none := ⟨Or.inl (tw3 194 rfl (by decide +kernel)), (tw1 16 rfl (by decide +kernel)), (tw3 196 rfl (by decide +kernel)), by decide, by decide +kernel⟩
set_option maxRecDepth 100000 in
theorem st_J0_checkBoundsBeginEnd_23922 : Cond.static yJ0_checkBoundsBeginEnd_23922 ∈ T0 := tw3 195 rfl (by decide +kernel)
set_option maxRecDepth 100000 in
theorem cv_J0_1062 : CV RJ0 1062 yJ3_checkFromToIndex_8c36e 4 cJ3_checkFromToIndex_8c36e 4 (some .int) := ⟨Or.inl (tw3 199 rfl (by decide +kernel)), (tw1 18 rfl (by decide +kernel)), (tw3 201 rfl (by decide +kernel)), by decide, by decide +kernel⟩
set_option maxRecDepth 100000 in
theorem st_J3_checkFromToIndex_8c36e : Cond.static yJ3_checkFromToIndex_8c36e ∈ T0 := tw3 200 rfl (by decide +kernel)
set_option maxRecDepth 100000 in
theorem cv_J2_244 : CV RJ2 244 yJ2_indexOfCharUnsafe_4cfef 4 cJ2_indexOfCharUnsafe_4cfef 5 (some .int) := ⟨Or.inl (tw3 202 rfl (by decide +kernel)), (tw1 19 rfl (by decide +kernel)), (tw3 204 rfl (by decide +kernel)), by decide, by decide +kernel⟩
set_option maxRecDepth 100000 in
theorem st_J2_indexOfCharUnsafe_4cfef : Cond.static yJ2_indexOfCharUnsafe_4cfef ∈ T0 := tw3 203 rfl (by decide +kernel)
set_option maxRecDepth 100000 in
theorem cv_J2_71 : CV RJ2 71 yJ2_getChar_3b067 2 cJ2_getChar_3b067 2 (some .char) := ⟨Or.inl (tw3 205 rfl (by decide +kernel)), (tw1 19 rfl (by decide +kernel)), (tw3 207 rfl (by decide +kernel)), by decide, by decide +kernel⟩
set_option maxRecDepth 100000 in
theorem st_J2_getChar_3b067 : Cond.static yJ2_getChar_3b067 ∈ T0 := tw3 206 rfl (by decide +kernel)
set_option maxRecDepth 100000 in
theorem cv_J2_232 : CV RJ2 232 yJ2_indexOfSupplementary_4cfef 4 cJ2_indexOfSupplementary_4cfef 7 (some .int) := ⟨Or.inl (tw3 214 rfl (by decide +kernel)), (tw1 19 rfl (by decide +kernel)), (tw3 216 rfl (by decide +kernel)), by decide, by decide +kernel⟩
set_option maxRecDepth 100000 in
theorem st_J2_indexOfSupplementary_4cfef : Cond.static yJ2_indexOfSupplementary_4cfef ∈ T0 := tw3 215 rfl (by decide +kernel)
set_option maxRecDepth 100000 in
theorem cv_J2_164 : CV RJ2 164 yJ11_isValidCodePoint_9a6ad 1 cJ11_isValidCodePoint_9a6ad 2 (some .boolean) := ⟨Or.inl (tw3 217 rfl (by decide +kernel)), (tw1 20 rfl (by decide +kernel)), (tw3 219 rfl (by decide +kernel)), by decide, by decide +kernel⟩
set_option maxRecDepth 100000 in
theorem st_J11_isValidCodePoint_9a6ad : Cond.static yJ11_isValidCodePoint_9a6ad ∈ T0 := tw3 218 rfl (by decide +kernel)
set_option maxRecDepth 100000 in
theorem cv_J2_157 : CV RJ2 157 yJ11_highSurrogate_5068e 1 cJ11_highSurrogate_5068e 1 (some .char) := ⟨Or.inl (tw3 220 rfl (by decide +kernel)), (tw1 20 rfl (by decide +kernel)), (tw3 222 rfl (by decide +kernel)), by decide, by decide +kernel⟩
set_option maxRecDepth 100000 in
theorem st_J11_highSurrogate_5068e : Cond.static yJ11_highSurrogate_5068e ∈ T0 := tw3 221 rfl (by decide +kernel)
set_option maxRecDepth 100000 in
theorem cv_J2_161 : CV RJ2 161 yJ11_lowSurrogate_5068e 1 cJ11_lowSurrogate_5068e 1 (some .char) := ⟨Or.inl (tw3 224 rfl (by decide +kernel)), (tw1 20 rfl (by decide +kernel)), (tw3 226 rfl (by decide +kernel)), by decide, by decide +kernel⟩
set_option maxRecDepth 100000 in
theorem st_J11_lowSurrogate_5068e : Cond.static yJ11_lowSurrogate_5068e ∈ T0 := tw3 225 rfl (by decide +kernel)
set_option maxRecDepth 100000 in
theorem cv_5_39 : CV RX5 39 yX9_fault 0 cX9_fault 1 (some .int) := ⟨Or.inl (tw3 228 rfl (by decide +kernel)), (tw1 2 rfl (by decide +kernel)), (tw3 79 rfl (by decide +kernel)), by decide, by decide +kernel⟩
set_option maxRecDepth 100000 in
theorem cv_L_62 : CV RL 62 yX11_set 2 cX11_set 3 (some .int) := ⟨Or.inl (tw3 230 rfl (by decide +kernel)), (tw1 1 rfl (by decide +kernel)), (tw3 233 rfl (by decide +kernel)), by decide, by decide +kernel⟩
set_option maxRecDepth 100000 in
theorem im_X11_set : Cond.instanceMethod yX11_set ∈ T0 := tw3 231 rfl (by decide +kernel)
set_option maxRecDepth 100000 in
theorem sl_X11_set : Cond.selects yX11_set.cls yX11_set yX11_set ∈ T0 := tw3 232 rfl (by decide +kernel)
set_option maxRecDepth 100000 in
theorem cv_11_206 : CV RX11 206 yX6_change 2 cX6_change 4 (some .int) := ⟨Or.inl (tw3 234 rfl (by decide +kernel)), (tw1 3 rfl (by decide +kernel)), (tw3 237 rfl (by decide +kernel)), by decide, by decide +kernel⟩
set_option maxRecDepth 100000 in
theorem im_X6_change : Cond.instanceMethod yX6_change ∈ T0 := tw3 235 rfl (by decide +kernel)
set_option maxRecDepth 100000 in
theorem sl_X6_change : Cond.selects yX6_change.cls yX6_change yX6_change ∈ T0 := tw3 236 rfl (by decide +kernel)
set_option maxRecDepth 100000 in
theorem cv_L_66 : CV RL 66 yX11_dayOf 2 cX11_dayOf 5 (some .int) := ⟨Or.inl (tw4 2 rfl (by decide +kernel)), (tw1 1 rfl (by decide +kernel)), (tw4 5 rfl (by decide +kernel)), by decide, by decide +kernel⟩
set_option maxRecDepth 100000 in
theorem im_X11_dayOf : Cond.instanceMethod yX11_dayOf ∈ T0 := tw4 3 rfl (by decide +kernel)
set_option maxRecDepth 100000 in
theorem sl_X11_dayOf : Cond.selects yX11_dayOf.cls yX11_dayOf yX11_dayOf ∈ T0 := tw4 4 rfl (by decide +kernel)
set_option maxRecDepth 100000 in
theorem cv_11_133 : CV RX11 133 yX10_at 1 cX10_at 2 (some (.object "BinsBothSides$Street")) := ⟨Or.inl (tw4 6 rfl (by decide +kernel)), (tw1 5 rfl (by decide +kernel)), (tw3 92 rfl (by decide +kernel)), by decide, by decide +kernel⟩
set_option maxRecDepth 100000 in
theorem cv_L_70 : CV RL 70 yX11_sheet 4 cX11_sheet 5 (some .int) := ⟨Or.inl (tw4 7 rfl (by decide +kernel)), (tw1 1 rfl (by decide +kernel)), (tw4 10 rfl (by decide +kernel)), by decide, by decide +kernel⟩
set_option maxRecDepth 100000 in
theorem im_X11_sheet : Cond.instanceMethod yX11_sheet ∈ T0 := tw4 8 rfl (by decide +kernel)
set_option maxRecDepth 100000 in
theorem sl_X11_sheet : Cond.selects yX11_sheet.cls yX11_sheet yX11_sheet ∈ T0 := tw4 9 rfl (by decide +kernel)
set_option maxRecDepth 100000 in
theorem cv_11_209 : CV RX11 209 yX10_placeAll 4 cX10_placeAll 8 (some .int) := ⟨Or.inl (tw4 11 rfl (by decide +kernel)), (tw1 5 rfl (by decide +kernel)), (tw4 14 rfl (by decide +kernel)), by decide, by decide +kernel⟩
set_option maxRecDepth 100000 in
theorem im_X10_placeAll : Cond.instanceMethod yX10_placeAll ∈ T0 := tw4 12 rfl (by decide +kernel)
set_option maxRecDepth 100000 in
theorem sl_X10_placeAll : Cond.selects yX10_placeAll.cls yX10_placeAll yX10_placeAll ∈ T0 := tw4 13 rfl (by decide +kernel)
set_option maxRecDepth 100000 in
theorem cv_10_52 : CV RX10 52 yX10_entryOf 2 cX10_entryOf 3 (some .int) := ⟨Or.inl (tw4 15 rfl (by decide +kernel)), (tw1 5 rfl (by decide +kernel)), (tw4 18 rfl (by decide +kernel)), by decide, by decide +kernel⟩
set_option maxRecDepth 100000 in
theorem im_X10_entryOf : Cond.instanceMethod yX10_entryOf ∈ T0 := tw4 17 rfl (by decide +kernel)
theorem sl_X10_entryOf : Cond.selects yX10_entryOf.cls yX10_entryOf yX10_entryOf ∈ T0 := T0_ofN (by decide +kernel) (by decide +kernel)
set_option maxRecDepth 100000 in
theorem ml_10_56 : Cond.methodLink RX10 56 Lib.Math.min.name ∈ T0 := tw4 19 rfl (by decide +kernel)
set_option maxRecDepth 100000 in
theorem ml_10_61 : Cond.methodLink RX10 61 Lib.Math.max.name ∈ T0 := tw4 20 rfl (by decide +kernel)
set_option maxRecDepth 100000 in
theorem cv_L_74 : CV RL 74 yX11_drive 1 cX11_drive 2 (some .int) := ⟨Or.inl (tw4 21 rfl (by decide +kernel)), (tw1 1 rfl (by decide +kernel)), (tw4 24 rfl (by decide +kernel)), by decide, by decide +kernel⟩
set_option maxRecDepth 100000 in
theorem im_X11_drive : Cond.instanceMethod yX11_drive ∈ T0 := tw4 22 rfl (by decide +kernel)
set_option maxRecDepth 100000 in
theorem sl_X11_drive : Cond.selects yX11_drive.cls yX11_drive yX11_drive ∈ T0 := tw4 23 rfl (by decide +kernel)
set_option maxRecDepth 100000 in
theorem cv_11_213 : CV RX11 213 yX1_note 1 cX1_note 2 none := ⟨Or.inl (tw4 25 rfl (by decide +kernel)), (tw1 8 rfl (by decide +kernel)), (tw4 28 rfl (by decide +kernel)), by decide, by decide +kernel⟩
set_option maxRecDepth 100000 in
theorem im_X1_note : Cond.instanceMethod yX1_note ∈ T0 := tw4 26 rfl (by decide +kernel)
set_option maxRecDepth 100000 in
theorem sl_X1_note : Cond.selects yX1_note.cls yX1_note yX1_note ∈ T0 := tw4 27 rfl (by decide +kernel)
set_option maxRecDepth 100000 in
theorem cv_1_20 : CV RX1 20 yX7_become 1 cX7_become 2 none := ⟨Or.inl (tw4 29 rfl (by decide +kernel)), (tw1 7 rfl (by decide +kernel)), (tw4 32 rfl (by decide +kernel)), by decide, by decide +kernel⟩
set_option maxRecDepth 100000 in
theorem im_X7_become : Cond.instanceMethod yX7_become ∈ T0 := tw4 30 rfl (by decide +kernel)
set_option maxRecDepth 100000 in
theorem sl_X7_become : Cond.selects yX7_become.cls yX7_become yX7_become ∈ T0 := tw4 31 rfl (by decide +kernel)
set_option maxRecDepth 100000 in
theorem ml_7_21 : Cond.methodLink RX7 21 arraycopyName ∈ T0 := tw4 33 rfl (by decide +kernel)
set_option maxRecDepth 100000 in
theorem cv_11_217 : CV RX11 217 yX11_goTo 1 cX11_goTo 4 (some .int) := ⟨Or.inl (tw4 36 rfl (by decide +kernel)), (tw1 1 rfl (by decide +kernel)), (tw4 39 rfl (by decide +kernel)), by decide, by decide +kernel⟩
set_option maxRecDepth 100000 in
theorem im_X11_goTo : Cond.instanceMethod yX11_goTo ∈ T0 := tw4 38 rfl (by decide +kernel)
theorem sl_X11_goTo : Cond.selects yX11_goTo.cls yX11_goTo yX11_goTo ∈ T0 := T0_ofN (by decide +kernel) (by decide +kernel)
set_option maxRecDepth 100000 in
theorem cv_11_273 : CV RX11 273 yX11_driving 2 cX11_driving 2 (some .int) := ⟨Or.inl (tw4 40 rfl (by decide +kernel)), (tw1 1 rfl (by decide +kernel)), (tw4 42 rfl (by decide +kernel)), by decide, by decide +kernel⟩
set_option maxRecDepth 100000 in
theorem st_X11_driving : Cond.static yX11_driving ∈ T0 := tw4 41 rfl (by decide +kernel)
set_option maxRecDepth 100000 in
theorem ml_11_470 : Cond.methodLink RX11 470 Lib.Math.abs.name ∈ T0 := tw4 43 rfl (by decide +kernel)
set_option maxRecDepth 100000 in
theorem cv_11_220 : CV RX11 220 yX11_remember 1 cX11_remember 2 (some .int) := ⟨Or.inl (tw4 46 rfl (by decide +kernel)), (tw1 1 rfl (by decide +kernel)), (tw4 49 rfl (by decide +kernel)), by decide, by decide +kernel⟩
set_option maxRecDepth 100000 in
theorem im_X11_remember : Cond.instanceMethod yX11_remember ∈ T0 := tw4 48 rfl (by decide +kernel)
theorem sl_X11_remember : Cond.selects yX11_remember.cls yX11_remember yX11_remember ∈ T0 := T0_ofN (by decide +kernel) (by decide +kernel)
set_option maxRecDepth 100000 in
theorem cv_11_265 : CV RX11 265 yX1_push 0 cX1_push 1 none := ⟨Or.inl (tw4 50 rfl (by decide +kernel)), (tw1 8 rfl (by decide +kernel)), (tw4 53 rfl (by decide +kernel)), by decide, by decide +kernel⟩
set_option maxRecDepth 100000 in
theorem im_X1_push : Cond.instanceMethod yX1_push ∈ T0 := tw4 51 rfl (by decide +kernel)
set_option maxRecDepth 100000 in
theorem sl_X1_push : Cond.selects yX1_push.cls yX1_push yX1_push ∈ T0 := tw4 52 rfl (by decide +kernel)
set_option maxRecDepth 100000 in
theorem cv_1_28 : CV RX1 28 yX1_dropOldest 0 cX1_dropOldest 3 none := ⟨Or.inl (tw4 54 rfl (by decide +kernel)), (tw1 8 rfl (by decide +kernel)), (tw4 57 rfl (by decide +kernel)), by decide, by decide +kernel⟩
set_option maxRecDepth 100000 in
theorem im_X1_dropOldest : Cond.instanceMethod yX1_dropOldest ∈ T0 := tw4 56 rfl (by decide +kernel)
theorem sl_X1_dropOldest : Cond.selects yX1_dropOldest.cls yX1_dropOldest yX1_dropOldest ∈ T0 := T0_ofN (by decide +kernel) (by decide +kernel)
set_option maxRecDepth 100000 in
theorem cv_L_78 : CV RL 78 yX11_empty 2 cX11_empty 4 (some .int) := ⟨Or.inl (tw4 58 rfl (by decide +kernel)), (tw1 1 rfl (by decide +kernel)), (tw4 61 rfl (by decide +kernel)), by decide, by decide +kernel⟩
set_option maxRecDepth 100000 in
theorem im_X11_empty : Cond.instanceMethod yX11_empty ∈ T0 := tw4 59 rfl (by decide +kernel)
set_option maxRecDepth 100000 in
theorem sl_X11_empty : Cond.selects yX11_empty.cls yX11_empty yX11_empty ∈ T0 := tw4 60 rfl (by decide +kernel)
set_option maxRecDepth 100000 in
theorem cv_11_223 : CV RX11 223 yX11_emptyBins 2 cX11_emptyBins 4 (some .int) := ⟨Or.inl (tw4 62 rfl (by decide +kernel)), (tw1 1 rfl (by decide +kernel)), (tw4 65 rfl (by decide +kernel)), by decide, by decide +kernel⟩
set_option maxRecDepth 100000 in
theorem im_X11_emptyBins : Cond.instanceMethod yX11_emptyBins ∈ T0 := tw4 64 rfl (by decide +kernel)
theorem sl_X11_emptyBins : Cond.selects yX11_emptyBins.cls yX11_emptyBins yX11_emptyBins ∈ T0 := T0_ofN (by decide +kernel) (by decide +kernel)
set_option maxRecDepth 100000 in
theorem cv_11_276 : CV RX11 276 yX8_isBarred 1 cX8_isBarred 3 (some .boolean) := ⟨Or.inl (tw4 66 rfl (by decide +kernel)), (tw1 6 rfl (by decide +kernel)), (tw4 69 rfl (by decide +kernel)), by decide, by decide +kernel⟩
set_option maxRecDepth 100000 in
theorem im_X8_isBarred : Cond.instanceMethod yX8_isBarred ∈ T0 := tw4 67 rfl (by decide +kernel)
set_option maxRecDepth 100000 in
theorem sl_X8_isBarred : Cond.selects yX8_isBarred.cls yX8_isBarred yX8_isBarred ∈ T0 := tw4 68 rfl (by decide +kernel)
set_option maxRecDepth 100000 in
theorem cv_11_176 : CV RX11 176 yX6_get 1 cX6_get 2 (some .int) := ⟨Or.inl (tw4 70 rfl (by decide +kernel)), (tw1 3 rfl (by decide +kernel)), (tw4 73 rfl (by decide +kernel)), by decide, by decide +kernel⟩
set_option maxRecDepth 100000 in
theorem im_X6_get : Cond.instanceMethod yX6_get ∈ T0 := tw4 71 rfl (by decide +kernel)
set_option maxRecDepth 100000 in
theorem sl_X6_get : Cond.selects yX6_get.cls yX6_get yX6_get ∈ T0 := tw4 72 rfl (by decide +kernel)
set_option maxRecDepth 100000 in
theorem cv_11_197 : CV RX11 197 yX2_think 2 cX2_think 3 none := ⟨Or.inl (tw4 74 rfl (by decide +kernel)), (tw1 10 rfl (by decide +kernel)), (tw4 77 rfl (by decide +kernel)), by decide, by decide +kernel⟩
set_option maxRecDepth 100000 in
theorem im_X2_think : Cond.instanceMethod yX2_think ∈ T0 := tw4 75 rfl (by decide +kernel)
set_option maxRecDepth 100000 in
theorem sl_X2_think : Cond.selects yX2_think.cls yX2_think yX2_think ∈ T0 := tw4 76 rfl (by decide +kernel)
set_option maxRecDepth 100000 in
theorem ml_2_39 : Cond.methodLink RX2 39 Lib.Math.max.name ∈ T0 := tw4 78 rfl (by decide +kernel)
set_option maxRecDepth 100000 in
theorem cv_11_168 : CV RX11 168 yX7_outOf 1 cX7_outOf 2 (some .int) := ⟨Or.inl (tw4 79 rfl (by decide +kernel)), (tw1 7 rfl (by decide +kernel)), (tw4 82 rfl (by decide +kernel)), by decide, by decide +kernel⟩
set_option maxRecDepth 100000 in
theorem im_X7_outOf : Cond.instanceMethod yX7_outOf ∈ T0 := tw4 80 rfl (by decide +kernel)
set_option maxRecDepth 100000 in
theorem sl_X7_outOf : Cond.selects yX7_outOf.cls yX7_outOf yX7_outOf ∈ T0 := tw4 81 rfl (by decide +kernel)
set_option maxRecDepth 100000 in
theorem cv_11_279 : CV RX11 279 yX2_lay 3 cX2_lay 9 none := ⟨Or.inl (tw4 83 rfl (by decide +kernel)), (tw1 10 rfl (by decide +kernel)), (tw4 86 rfl (by decide +kernel)), by decide, by decide +kernel⟩
set_option maxRecDepth 100000 in
theorem im_X2_lay : Cond.instanceMethod yX2_lay ∈ T0 := tw4 84 rfl (by decide +kernel)
set_option maxRecDepth 100000 in
theorem sl_X2_lay : Cond.selects yX2_lay.cls yX2_lay yX2_lay ∈ T0 := tw4 85 rfl (by decide +kernel)
set_option maxRecDepth 100000 in
theorem cv_2_54 : CV RX2 54 yX6_get 1 cX6_get 2 (some .int) := ⟨Or.inl (tw4 87 rfl (by decide +kernel)), (tw1 3 rfl (by decide +kernel)), (tw4 73 rfl (by decide +kernel)), by decide, by decide +kernel⟩
set_option maxRecDepth 100000 in
theorem cv_2_63 : CV RX2 63 yX2_houseAt 3 cX2_houseAt 4 (some .int) := ⟨Or.inl (tw4 88 rfl (by decide +kernel)), (tw1 10 rfl (by decide +kernel)), (tw4 90 rfl (by decide +kernel)), by decide, by decide +kernel⟩
set_option maxRecDepth 100000 in
theorem st_X2_houseAt : Cond.static yX2_houseAt ∈ T0 := tw4 89 rfl (by decide +kernel)
set_option maxRecDepth 100000 in
theorem cv_2_67 : CV RX2 67 yX8_weightAt 1 cX8_weightAt 2 (some .int) := ⟨Or.inl (tw4 91 rfl (by decide +kernel)), (tw1 6 rfl (by decide +kernel)), (tw4 94 rfl (by decide +kernel)), by decide, by decide +kernel⟩
set_option maxRecDepth 100000 in
theorem im_X8_weightAt : Cond.instanceMethod yX8_weightAt ∈ T0 := tw4 92 rfl (by decide +kernel)
set_option maxRecDepth 100000 in
theorem sl_X8_weightAt : Cond.selects yX8_weightAt.cls yX8_weightAt yX8_weightAt ∈ T0 := tw4 93 rfl (by decide +kernel)
set_option maxRecDepth 100000 in
theorem cv_2_72 : CV RX2 72 yX6_heavy 2 cX6_heavy 3 (some .int) := ⟨Or.inl (tw4 95 rfl (by decide +kernel)), (tw1 3 rfl (by decide +kernel)), (tw4 98 rfl (by decide +kernel)), by decide, by decide +kernel⟩
set_option maxRecDepth 100000 in
theorem im_X6_heavy : Cond.instanceMethod yX6_heavy ∈ T0 := tw4 96 rfl (by decide +kernel)
set_option maxRecDepth 100000 in
theorem sl_X6_heavy : Cond.selects yX6_heavy.cls yX6_heavy yX6_heavy ∈ T0 := tw4 97 rfl (by decide +kernel)
set_option maxRecDepth 100000 in
theorem cv_6_21 : CV RX6 21 yX6_get 1 cX6_get 2 (some .int) := ⟨Or.inl (tw4 99 rfl (by decide +kernel)), (tw1 3 rfl (by decide +kernel)), (tw4 73 rfl (by decide +kernel)), by decide, by decide +kernel⟩
set_option maxRecDepth 100000 in
theorem cv_2_75 : CV RX2 75 yX2_byHand 3 cX2_byHand 4 (some .int) := ⟨Or.inl (tw4 100 rfl (by decide +kernel)), (tw1 10 rfl (by decide +kernel)), (tw4 103 rfl (by decide +kernel)), by decide, by decide +kernel⟩
set_option maxRecDepth 100000 in
theorem im_X2_byHand : Cond.instanceMethod yX2_byHand ∈ T0 := tw4 101 rfl (by decide +kernel)
set_option maxRecDepth 100000 in
theorem sl_X2_byHand : Cond.selects yX2_byHand.cls yX2_byHand yX2_byHand ∈ T0 := tw4 102 rfl (by decide +kernel)
set_option maxRecDepth 100000 in
theorem cv_2_91 : CV RX2 91 yX5_seconds 1 cX5_seconds 5 (some .int) := ⟨Or.inl (tw4 104 rfl (by decide +kernel)), (tw1 4 rfl (by decide +kernel)), (tw4 107 rfl (by decide +kernel)), by decide, by decide +kernel⟩
set_option maxRecDepth 100000 in
theorem im_X5_seconds : Cond.instanceMethod yX5_seconds ∈ T0 := tw4 105 rfl (by decide +kernel)
set_option maxRecDepth 100000 in
theorem sl_X5_seconds : Cond.selects yX5_seconds.cls yX5_seconds yX5_seconds ∈ T0 := tw4 106 rfl (by decide +kernel)
set_option maxRecDepth 100000 in
theorem cv_5_84 : CV RX5 84 yX5_clamped 1 cX5_clamped 1 (some .int) := ⟨Or.inl (tw4 108 rfl (by decide +kernel)), (tw1 4 rfl (by decide +kernel)), (tw4 110 rfl (by decide +kernel)), by decide, by decide +kernel⟩
set_option maxRecDepth 100000 in
theorem st_X5_clamped : Cond.static yX5_clamped ∈ T0 := tw4 109 rfl (by decide +kernel)
set_option maxRecDepth 100000 in
theorem ml_5_100 : Cond.methodLink RX5 100 Lib.Math.min.name ∈ T0 := tw4 111 rfl (by decide +kernel)
set_option maxRecDepth 100000 in
theorem ml_5_106 : Cond.methodLink RX5 106 Lib.Math.max.name ∈ T0 := tw4 112 rfl (by decide +kernel)
set_option maxRecDepth 100000 in
theorem cv_5_90 : CV RX5 90 yX5_push 1 cX5_push 2 none := ⟨Or.inl (tw4 113 rfl (by decide +kernel)), (tw1 4 rfl (by decide +kernel)), (tw4 116 rfl (by decide +kernel)), by decide, by decide +kernel⟩
set_option maxRecDepth 100000 in
theorem im_X5_push : Cond.instanceMethod yX5_push ∈ T0 := tw4 115 rfl (by decide +kernel)
theorem sl_X5_push : Cond.selects yX5_push.cls yX5_push yX5_push ∈ T0 := T0_ofN (by decide +kernel) (by decide +kernel)
set_option maxRecDepth 100000 in
theorem cv_5_93 : CV RX5 93 yX5_pop 0 cX5_pop 1 (some .int) := ⟨Or.inl (tw4 117 rfl (by decide +kernel)), (tw1 4 rfl (by decide +kernel)), (tw4 120 rfl (by decide +kernel)), by decide, by decide +kernel⟩
set_option maxRecDepth 100000 in
theorem im_X5_pop : Cond.instanceMethod yX5_pop ∈ T0 := tw4 119 rfl (by decide +kernel)
theorem sl_X5_pop : Cond.selects yX5_pop.cls yX5_pop yX5_pop ∈ T0 := T0_ofN (by decide +kernel) (by decide +kernel)
set_option maxRecDepth 100000 in
theorem cv_5_96 : CV RX5 96 yX5_join 3 cX5_join 3 (some .int) := ⟨Or.inl (tw4 121 rfl (by decide +kernel)), (tw1 4 rfl (by decide +kernel)), (tw4 123 rfl (by decide +kernel)), by decide, by decide +kernel⟩
set_option maxRecDepth 100000 in
theorem st_X5_join : Cond.static yX5_join ∈ T0 := tw4 122 rfl (by decide +kernel)
set_option maxRecDepth 100000 in
theorem cv_2_78 : CV RX2 78 yX2_movesOf 2 cX2_movesOf 2 (some .int) := ⟨Or.inl (tw4 124 rfl (by decide +kernel)), (tw1 10 rfl (by decide +kernel)), (tw4 126 rfl (by decide +kernel)), by decide, by decide +kernel⟩
set_option maxRecDepth 100000 in
theorem st_X2_movesOf : Cond.static yX2_movesOf ∈ T0 := tw4 125 rfl (by decide +kernel)
set_option maxRecDepth 100000 in
theorem cv_11_283 : CV RX11 283 yX2_go 2 cX2_go 7 none := ⟨Or.inl (tw4 127 rfl (by decide +kernel)), (tw1 10 rfl (by decide +kernel)), (tw4 130 rfl (by decide +kernel)), by decide, by decide +kernel⟩
set_option maxRecDepth 100000 in
theorem im_X2_go : Cond.instanceMethod yX2_go ∈ T0 := tw4 128 rfl (by decide +kernel)
set_option maxRecDepth 100000 in
theorem sl_X2_go : Cond.selects yX2_go.cls yX2_go yX2_go ∈ T0 := tw4 129 rfl (by decide +kernel)
set_option maxRecDepth 100000 in
theorem cv_11_286 : CV RX11 286 yX7_record 2 cX7_record 3 none := ⟨Or.inl (tw4 131 rfl (by decide +kernel)), (tw1 7 rfl (by decide +kernel)), (tw4 134 rfl (by decide +kernel)), by decide, by decide +kernel⟩
set_option maxRecDepth 100000 in
theorem im_X7_record : Cond.instanceMethod yX7_record ∈ T0 := tw4 132 rfl (by decide +kernel)
set_option maxRecDepth 100000 in
theorem sl_X7_record : Cond.selects yX7_record.cls yX7_record yX7_record ∈ T0 := tw4 133 rfl (by decide +kernel)
set_option maxRecDepth 100000 in
theorem cv_7_54 : CV RX7 54 yX2_seconds 0 cX2_seconds 1 (some .int) := ⟨Or.inl (tw4 135 rfl (by decide +kernel)), (tw1 10 rfl (by decide +kernel)), (tw4 138 rfl (by decide +kernel)), by decide, by decide +kernel⟩
set_option maxRecDepth 100000 in
theorem im_X2_seconds : Cond.instanceMethod yX2_seconds ∈ T0 := tw4 136 rfl (by decide +kernel)
set_option maxRecDepth 100000 in
theorem sl_X2_seconds : Cond.selects yX2_seconds.cls yX2_seconds yX2_seconds ∈ T0 := tw4 137 rfl (by decide +kernel)
set_option maxRecDepth 100000 in
theorem cv_11_290 : CV RX11 290 yX2_seconds 0 cX2_seconds 1 (some .int) := ⟨Or.inl (tw4 139 rfl (by decide +kernel)), (tw1 10 rfl (by decide +kernel)), (tw4 138 rfl (by decide +kernel)), by decide, by decide +kernel⟩
set_option maxRecDepth 100000 in
theorem cv_11_171 : CV RX11 171 yJ6_bitCount_0f7a4 1 cJ6_bitCount_0f7a4 1 (some .int) := ⟨Or.inl (tw4 140 rfl (by decide +kernel)), (tw1 25 rfl (by decide +kernel)), (tw4 142 rfl (by decide +kernel)), by decide, by decide +kernel⟩
set_option maxRecDepth 100000 in
theorem st_J6_bitCount_0f7a4 : Cond.static yJ6_bitCount_0f7a4 ∈ T0 := tw4 141 rfl (by decide +kernel)
set_option maxRecDepth 100000 in
theorem cv_11_229 : CV RX11 229 yX11_tell 1 cX11_tell 3 none := ⟨Or.inl (tw4 146 rfl (by decide +kernel)), (tw1 1 rfl (by decide +kernel)), (tw4 149 rfl (by decide +kernel)), by decide, by decide +kernel⟩
set_option maxRecDepth 100000 in
theorem im_X11_tell : Cond.instanceMethod yX11_tell ∈ T0 := tw4 148 rfl (by decide +kernel)
theorem sl_X11_tell : Cond.selects yX11_tell.cls yX11_tell yX11_tell ∈ T0 := T0_ofN (by decide +kernel) (by decide +kernel)
set_option maxRecDepth 100000 in
theorem cv_11_380 : CV RX11 380 yX11_clearRow 0 cX11_clearRow 1 none := ⟨Or.inl (tw4 150 rfl (by decide +kernel)), (tw1 1 rfl (by decide +kernel)), (tw4 153 rfl (by decide +kernel)), by decide, by decide +kernel⟩
set_option maxRecDepth 100000 in
theorem im_X11_clearRow : Cond.instanceMethod yX11_clearRow ∈ T0 := tw4 152 rfl (by decide +kernel)
theorem sl_X11_clearRow : Cond.selects yX11_clearRow.cls yX11_clearRow yX11_clearRow ∈ T0 := T0_ofN (by decide +kernel) (by decide +kernel)
set_option maxRecDepth 100000 in
theorem cv_11_236 : CV RX11 236 yX11_tellMore 1 cX11_tellMore 3 none := ⟨Or.inl (tw4 154 rfl (by decide +kernel)), (tw1 1 rfl (by decide +kernel)), (tw4 157 rfl (by decide +kernel)), by decide, by decide +kernel⟩
set_option maxRecDepth 100000 in
theorem im_X11_tellMore : Cond.instanceMethod yX11_tellMore ∈ T0 := tw4 156 rfl (by decide +kernel)
theorem sl_X11_tellMore : Cond.selects yX11_tellMore.cls yX11_tellMore yX11_tellMore ∈ T0 := T0_ofN (by decide +kernel) (by decide +kernel)
set_option maxRecDepth 100000 in
theorem cv_L_82 : CV RL 82 yX11_tip 0 cX11_tip 3 (some .int) := ⟨Or.inl (tw4 158 rfl (by decide +kernel)), (tw1 1 rfl (by decide +kernel)), (tw4 161 rfl (by decide +kernel)), by decide, by decide +kernel⟩
set_option maxRecDepth 100000 in
theorem im_X11_tip : Cond.instanceMethod yX11_tip ∈ T0 := tw4 159 rfl (by decide +kernel)
set_option maxRecDepth 100000 in
theorem sl_X11_tip : Cond.selects yX11_tip.cls yX11_tip yX11_tip ∈ T0 := tw4 160 rfl (by decide +kernel)
set_option maxRecDepth 100000 in
theorem cv_11_245 : CV RX11 245 yX11_goTip 0 cX11_goTip 2 (some .int) := ⟨Or.inl (tw4 162 rfl (by decide +kernel)), (tw1 1 rfl (by decide +kernel)), (tw4 165 rfl (by decide +kernel)), by decide, by decide +kernel⟩
set_option maxRecDepth 100000 in
theorem im_X11_goTip : Cond.instanceMethod yX11_goTip ∈ T0 := tw4 164 rfl (by decide +kernel)
theorem sl_X11_goTip : Cond.selects yX11_goTip.cls yX11_goTip yX11_goTip ∈ T0 := T0_ofN (by decide +kernel) (by decide +kernel)
set_option maxRecDepth 100000 in
theorem cv_L_86 : CV RL 86 yX11_pause 1 cX11_pause 2 (some .int) := ⟨Or.inl (tw4 166 rfl (by decide +kernel)), (tw1 1 rfl (by decide +kernel)), (tw4 169 rfl (by decide +kernel)), by decide, by decide +kernel⟩
set_option maxRecDepth 100000 in
theorem im_X11_pause : Cond.instanceMethod yX11_pause ∈ T0 := tw4 167 rfl (by decide +kernel)
set_option maxRecDepth 100000 in
theorem sl_X11_pause : Cond.selects yX11_pause.cls yX11_pause yX11_pause ∈ T0 := tw4 168 rfl (by decide +kernel)
set_option maxRecDepth 100000 in
theorem cv_11_249 : CV RX11 249 yX11_waitFor 1 cX11_waitFor 2 (some .int) := ⟨Or.inl (tw4 170 rfl (by decide +kernel)), (tw1 1 rfl (by decide +kernel)), (tw4 173 rfl (by decide +kernel)), by decide, by decide +kernel⟩
set_option maxRecDepth 100000 in
theorem im_X11_waitFor : Cond.instanceMethod yX11_waitFor ∈ T0 := tw4 172 rfl (by decide +kernel)
theorem sl_X11_waitFor : Cond.selects yX11_waitFor.cls yX11_waitFor yX11_waitFor ∈ T0 := T0_ofN (by decide +kernel) (by decide +kernel)
set_option maxRecDepth 100000 in
theorem cv_L_90 : CV RL 90 yX11_week 0 cX11_week 2 (some .int) := ⟨Or.inl (tw4 174 rfl (by decide +kernel)), (tw1 1 rfl (by decide +kernel)), (tw4 177 rfl (by decide +kernel)), by decide, by decide +kernel⟩
set_option maxRecDepth 100000 in
theorem im_X11_week : Cond.instanceMethod yX11_week ∈ T0 := tw4 175 rfl (by decide +kernel)
set_option maxRecDepth 100000 in
theorem sl_X11_week : Cond.selects yX11_week.cls yX11_week yX11_week ∈ T0 := tw4 176 rfl (by decide +kernel)
set_option maxRecDepth 100000 in
theorem cv_11_256 : CV RX11 256 yX7_countOf 1 cX7_countOf 5 (some .int) := ⟨Or.inl (tw4 178 rfl (by decide +kernel)), (tw1 7 rfl (by decide +kernel)), (tw4 181 rfl (by decide +kernel)), by decide, by decide +kernel⟩
set_option maxRecDepth 100000 in
theorem im_X7_countOf : Cond.instanceMethod yX7_countOf ∈ T0 := tw4 179 rfl (by decide +kernel)
set_option maxRecDepth 100000 in
theorem sl_X7_countOf : Cond.selects yX7_countOf.cls yX7_countOf yX7_countOf ∈ T0 := tw4 180 rfl (by decide +kernel)
set_option maxRecDepth 100000 in
theorem cv_7_37 : CV RX7 37 yJ6_bitCount_0f7a4 1 cJ6_bitCount_0f7a4 1 (some .int) := ⟨Or.inl (tw4 182 rfl (by decide +kernel)), (tw1 25 rfl (by decide +kernel)), (tw4 142 rfl (by decide +kernel)), by decide, by decide +kernel⟩
set_option maxRecDepth 100000 in
theorem cv_L_94 : CV RL 94 yX11_round 0 cX11_round 5 (some .int) := ⟨Or.inl (tw4 183 rfl (by decide +kernel)), (tw1 1 rfl (by decide +kernel)), (tw4 186 rfl (by decide +kernel)), by decide, by decide +kernel⟩
set_option maxRecDepth 100000 in
theorem im_X11_round : Cond.instanceMethod yX11_round ∈ T0 := tw4 184 rfl (by decide +kernel)
set_option maxRecDepth 100000 in
theorem sl_X11_round : Cond.selects yX11_round.cls yX11_round yX11_round ∈ T0 := tw4 185 rfl (by decide +kernel)
set_option maxRecDepth 100000 in
theorem cv_11_259 : CV RX11 259 yX11_readActs 0 cX11_readActs 3 (some .int) := ⟨Or.inl (tw4 187 rfl (by decide +kernel)), (tw1 1 rfl (by decide +kernel)), (tw4 190 rfl (by decide +kernel)), by decide, by decide +kernel⟩
set_option maxRecDepth 100000 in
theorem im_X11_readActs : Cond.instanceMethod yX11_readActs ∈ T0 := tw4 189 rfl (by decide +kernel)
theorem sl_X11_readActs : Cond.selects yX11_readActs.cls yX11_readActs yX11_readActs ∈ T0 := T0_ofN (by decide +kernel) (by decide +kernel)
set_option maxRecDepth 100000 in
theorem cv_11_293 : CV RX11 293 yX9_begin 1 cX9_begin 2 none := ⟨Or.inl (tw4 191 rfl (by decide +kernel)), (tw1 2 rfl (by decide +kernel)), (tw3 25 rfl (by decide +kernel)), by decide, by decide +kernel⟩
set_option maxRecDepth 100000 in
theorem cv_11_297 : CV RX11 297 yX9_isRead 0 cX9_isRead 1 (some .boolean) := ⟨Or.inl (tw4 192 rfl (by decide +kernel)), (tw1 2 rfl (by decide +kernel)), (tw3 32 rfl (by decide +kernel)), by decide, by decide +kernel⟩
set_option maxRecDepth 100000 in
theorem cv_11_301 : CV RX11 301 yX11_readAct 0 cX11_readAct 3 (some .int) := ⟨Or.inl (tw4 193 rfl (by decide +kernel)), (tw1 1 rfl (by decide +kernel)), (tw4 196 rfl (by decide +kernel)), by decide, by decide +kernel⟩
set_option maxRecDepth 100000 in
theorem im_X11_readAct : Cond.instanceMethod yX11_readAct ∈ T0 := tw4 195 rfl (by decide +kernel)
theorem sl_X11_readAct : Cond.selects yX11_readAct.cls yX11_readAct yX11_readAct ∈ T0 := T0_ofN (by decide +kernel) (by decide +kernel)
set_option maxRecDepth 100000 in
theorem cv_11_307 : CV RX11 307 yX9_accept 1 cX9_accept 2 (some .boolean) := ⟨Or.inl (tw4 197 rfl (by decide +kernel)), (tw1 2 rfl (by decide +kernel)), (tw3 40 rfl (by decide +kernel)), by decide, by decide +kernel⟩
set_option maxRecDepth 100000 in
theorem cv_11_311 : CV RX11 311 yX9_digitBelow 1 cX9_digitBelow 3 (some .int) := ⟨Or.inl (tw4 198 rfl (by decide +kernel)), (tw1 2 rfl (by decide +kernel)), (tw3 67 rfl (by decide +kernel)), by decide, by decide +kernel⟩
set_option maxRecDepth 100000 in
theorem cv_11_314 : CV RX11 314 yX9_number 1 cX9_number 5 (some .int) := ⟨Or.inl (tw4 199 rfl (by decide +kernel)), (tw1 2 rfl (by decide +kernel)), (tw3 52 rfl (by decide +kernel)), by decide, by decide +kernel⟩
set_option maxRecDepth 100000 in
theorem cv_11_304 : CV RX11 304 yX9_fault 0 cX9_fault 1 (some .int) := ⟨Or.inl (tw4 200 rfl (by decide +kernel)), (tw1 2 rfl (by decide +kernel)), (tw3 79 rfl (by decide +kernel)), by decide, by decide +kernel⟩
set_option maxRecDepth 100000 in
theorem cv_11_262 : CV RX11 262 yX11_act 1 cX11_act 3 (some .int) := ⟨Or.inl (tw4 201 rfl (by decide +kernel)), (tw1 1 rfl (by decide +kernel)), (tw4 204 rfl (by decide +kernel)), by decide, by decide +kernel⟩
set_option maxRecDepth 100000 in
theorem im_X11_act : Cond.instanceMethod yX11_act ∈ T0 := tw4 203 rfl (by decide +kernel)
theorem sl_X11_act : Cond.selects yX11_act.cls yX11_act yX11_act ∈ T0 := T0_ofN (by decide +kernel) (by decide +kernel)
set_option maxRecDepth 100000 in
theorem cv_L_98 : CV RL 98 yX11_undo 0 cX11_undo 1 (some .int) := ⟨Or.inl (tw4 205 rfl (by decide +kernel)), (tw1 1 rfl (by decide +kernel)), (tw4 208 rfl (by decide +kernel)), by decide, by decide +kernel⟩
set_option maxRecDepth 100000 in
theorem im_X11_undo : Cond.instanceMethod yX11_undo ∈ T0 := tw4 206 rfl (by decide +kernel)
set_option maxRecDepth 100000 in
theorem sl_X11_undo : Cond.selects yX11_undo.cls yX11_undo yX11_undo ∈ T0 := tw4 207 rfl (by decide +kernel)
set_option maxRecDepth 100000 in
theorem cv_11_268 : CV RX11 268 yX1_back 1 cX1_back 2 (some .boolean) := ⟨Or.inl (tw4 209 rfl (by decide +kernel)), (tw1 8 rfl (by decide +kernel)), (tw4 212 rfl (by decide +kernel)), by decide, by decide +kernel⟩
set_option maxRecDepth 100000 in
theorem im_X1_back : Cond.instanceMethod yX1_back ∈ T0 := tw4 210 rfl (by decide +kernel)
set_option maxRecDepth 100000 in
theorem sl_X1_back : Cond.selects yX1_back.cls yX1_back yX1_back ∈ T0 := tw4 211 rfl (by decide +kernel)
set_option maxRecDepth 100000 in
theorem cv_L_102 : CV RL 102 yX11_takes 2 cX11_takes 4 (some .int) := ⟨Or.inl (tw4 213 rfl (by decide +kernel)), (tw1 1 rfl (by decide +kernel)), (tw4 216 rfl (by decide +kernel)), by decide, by decide +kernel⟩
set_option maxRecDepth 100000 in
theorem im_X11_takes : Cond.instanceMethod yX11_takes ∈ T0 := tw4 214 rfl (by decide +kernel)
set_option maxRecDepth 100000 in
theorem sl_X11_takes : Cond.selects yX11_takes.cls yX11_takes yX11_takes ∈ T0 := tw4 215 rfl (by decide +kernel)
set_option maxRecDepth 100000 in
theorem cv_L_106 : CV RL 106 yX11_best 1 cX11_best 4 (some .int) := ⟨Or.inl (tw4 218 rfl (by decide +kernel)), (tw1 1 rfl (by decide +kernel)), (tw4 221 rfl (by decide +kernel)), by decide, by decide +kernel⟩
set_option maxRecDepth 100000 in
theorem im_X11_best : Cond.instanceMethod yX11_best ∈ T0 := tw4 219 rfl (by decide +kernel)
set_option maxRecDepth 100000 in
theorem sl_X11_best : Cond.selects yX11_best.cls yX11_best yX11_best ∈ T0 := tw4 220 rfl (by decide +kernel)
set_option maxRecDepth 100000 in
theorem cv_11_324 : CV RX11 324 yX2_chooseHow 2 cX2_chooseHow 4 (some .int) := ⟨Or.inl (tw4 222 rfl (by decide +kernel)), (tw1 10 rfl (by decide +kernel)), (tw4 225 rfl (by decide +kernel)), by decide, by decide +kernel⟩
set_option maxRecDepth 100000 in
theorem im_X2_chooseHow : Cond.instanceMethod yX2_chooseHow ∈ T0 := tw4 223 rfl (by decide +kernel)
set_option maxRecDepth 100000 in
theorem sl_X2_chooseHow : Cond.selects yX2_chooseHow.cls yX2_chooseHow yX2_chooseHow ∈ T0 := tw4 224 rfl (by decide +kernel)
set_option maxRecDepth 100000 in
theorem cv_2_119 : CV RX2 119 yX2_lay 3 cX2_lay 9 none := ⟨Or.inl (tw4 226 rfl (by decide +kernel)), (tw1 10 rfl (by decide +kernel)), (tw4 86 rfl (by decide +kernel)), by decide, by decide +kernel⟩
set_option maxRecDepth 100000 in
theorem cv_2_124 : CV RX2 124 yX2_go 2 cX2_go 7 none := ⟨Or.inl (tw4 228 rfl (by decide +kernel)), (tw1 10 rfl (by decide +kernel)), (tw4 130 rfl (by decide +kernel)), by decide, by decide +kernel⟩
set_option maxRecDepth 100000 in
theorem cv_2_128 : CV RX2 128 yX2_seconds 0 cX2_seconds 1 (some .int) := ⟨Or.inl (tw4 229 rfl (by decide +kernel)), (tw1 10 rfl (by decide +kernel)), (tw4 138 rfl (by decide +kernel)), by decide, by decide +kernel⟩
set_option maxRecDepth 100000 in
theorem cv_11_328 : CV RX11 328 yX2_secondsOf 1 cX2_secondsOf 2 (some .int) := ⟨Or.inl (tw4 230 rfl (by decide +kernel)), (tw1 10 rfl (by decide +kernel)), (tw4 233 rfl (by decide +kernel)), by decide, by decide +kernel⟩
set_option maxRecDepth 100000 in
theorem im_X2_secondsOf : Cond.instanceMethod yX2_secondsOf ∈ T0 := tw4 231 rfl (by decide +kernel)
set_option maxRecDepth 100000 in
theorem sl_X2_secondsOf : Cond.selects yX2_secondsOf.cls yX2_secondsOf yX2_secondsOf ∈ T0 := tw4 232 rfl (by decide +kernel)
set_option maxRecDepth 100000 in
theorem cv_L_110 : CV RL 110 yX11_less 1 cX11_less 6 (some .int) := ⟨Or.inl (tw4 234 rfl (by decide +kernel)), (tw1 1 rfl (by decide +kernel)), (tw4 237 rfl (by decide +kernel)), by decide, by decide +kernel⟩
set_option maxRecDepth 100000 in
theorem im_X11_less : Cond.instanceMethod yX11_less ∈ T0 := tw4 235 rfl (by decide +kernel)
set_option maxRecDepth 100000 in
theorem sl_X11_less : Cond.selects yX11_less.cls yX11_less yX11_less ∈ T0 := tw4 236 rfl (by decide +kernel)
set_option maxRecDepth 100000 in
theorem cv_11_331 : CV RX11 331 yX11_quickest 3 cX11_quickest 4 (some .int) := ⟨Or.inl (tw4 238 rfl (by decide +kernel)), (tw1 1 rfl (by decide +kernel)), (tw5 1 rfl (by decide +kernel)), by decide, by decide +kernel⟩
set_option maxRecDepth 100000 in
theorem im_X11_quickest : Cond.instanceMethod yX11_quickest ∈ T0 := tw5 0 rfl (by decide +kernel)
theorem sl_X11_quickest : Cond.selects yX11_quickest.cls yX11_quickest yX11_quickest ∈ T0 := T0_ofN (by decide +kernel) (by decide +kernel)
set_option maxRecDepth 100000 in
theorem cv_L_114 : CV RL 114 yX11_line 1 cX11_line 8 (some .int) := ⟨Or.inl (tw5 2 rfl (by decide +kernel)), (tw1 1 rfl (by decide +kernel)), (tw5 5 rfl (by decide +kernel)), by decide, by decide +kernel⟩
set_option maxRecDepth 100000 in
theorem im_X11_line : Cond.instanceMethod yX11_line ∈ T0 := tw5 3 rfl (by decide +kernel)
set_option maxRecDepth 100000 in
theorem sl_X11_line : Cond.selects yX11_line.cls yX11_line yX11_line ∈ T0 := tw5 4 rfl (by decide +kernel)
set_option maxRecDepth 100000 in
theorem ml_11_337 : Cond.methodLink RX11 337 Lib.Math.min.name ∈ T0 := tw5 6 rfl (by decide +kernel)
set_option maxRecDepth 100000 in
theorem cv_L_122 : CV RL 122 yX11_wet 2 cX11_wet 4 (some .int) := ⟨Or.inl (tw5 8 rfl (by decide +kernel)), (tw1 1 rfl (by decide +kernel)), (tw5 11 rfl (by decide +kernel)), by decide, by decide +kernel⟩
set_option maxRecDepth 100000 in
theorem im_X11_wet : Cond.instanceMethod yX11_wet ∈ T0 := tw5 9 rfl (by decide +kernel)
set_option maxRecDepth 100000 in
theorem sl_X11_wet : Cond.selects yX11_wet.cls yX11_wet yX11_wet ∈ T0 := tw5 10 rfl (by decide +kernel)
set_option maxRecDepth 100000 in
theorem cv_11_344 : CV RX11 344 yX6_tooHeavy 3 cX6_tooHeavy 6 (some .int) := ⟨Or.inl (tw5 12 rfl (by decide +kernel)), (tw1 3 rfl (by decide +kernel)), (tw5 15 rfl (by decide +kernel)), by decide, by decide +kernel⟩
set_option maxRecDepth 100000 in
theorem im_X6_tooHeavy : Cond.instanceMethod yX6_tooHeavy ∈ T0 := tw5 13 rfl (by decide +kernel)
set_option maxRecDepth 100000 in
theorem sl_X6_tooHeavy : Cond.selects yX6_tooHeavy.cls yX6_tooHeavy yX6_tooHeavy ∈ T0 := tw5 14 rfl (by decide +kernel)
set_option maxRecDepth 100000 in
theorem cv_6_25 : CV RX6 25 yX8_weightAt 1 cX8_weightAt 2 (some .int) := ⟨Or.inl (tw5 16 rfl (by decide +kernel)), (tw1 6 rfl (by decide +kernel)), (tw4 94 rfl (by decide +kernel)), by decide, by decide +kernel⟩
set_option maxRecDepth 100000 in
theorem cv_6_30 : CV RX6 30 yX6_heavy 2 cX6_heavy 3 (some .int) := ⟨Or.inl (tw5 17 rfl (by decide +kernel)), (tw1 3 rfl (by decide +kernel)), (tw4 98 rfl (by decide +kernel)), by decide, by decide +kernel⟩
set_option maxRecDepth 100000 in
theorem cv_11_179 : CV RX11 179 yX6_weigh 3 cX6_weigh 6 (some .int) := ⟨Or.inl (tw5 18 rfl (by decide +kernel)), (tw1 3 rfl (by decide +kernel)), (tw5 21 rfl (by decide +kernel)), by decide, by decide +kernel⟩
set_option maxRecDepth 100000 in
theorem im_X6_weigh : Cond.instanceMethod yX6_weigh ∈ T0 := tw5 19 rfl (by decide +kernel)
set_option maxRecDepth 100000 in
theorem sl_X6_weigh : Cond.selects yX6_weigh.cls yX6_weigh yX6_weigh ∈ T0 := tw5 20 rfl (by decide +kernel)
set_option maxRecDepth 100000 in
theorem cv_L_126 : CV RL 126 yX11_order 0 cX11_order 2 (some .int) := ⟨Or.inl (tw5 22 rfl (by decide +kernel)), (tw1 1 rfl (by decide +kernel)), (tw5 25 rfl (by decide +kernel)), by decide, by decide +kernel⟩
set_option maxRecDepth 100000 in
theorem im_X11_order : Cond.instanceMethod yX11_order ∈ T0 := tw5 23 rfl (by decide +kernel)
set_option maxRecDepth 100000 in
theorem sl_X11_order : Cond.selects yX11_order.cls yX11_order yX11_order ∈ T0 := tw5 24 rfl (by decide +kernel)
set_option maxRecDepth 100000 in
theorem cv_11_349 : CV RX11 349 yX4_readPath 1 cX4_readPath 5 (some .int) := ⟨Or.inl (tw5 26 rfl (by decide +kernel)), (tw1 11 rfl (by decide +kernel)), (tw5 29 rfl (by decide +kernel)), by decide, by decide +kernel⟩
set_option maxRecDepth 100000 in
theorem im_X4_readPath : Cond.instanceMethod yX4_readPath ∈ T0 := tw5 27 rfl (by decide +kernel)
set_option maxRecDepth 100000 in
theorem sl_X4_readPath : Cond.selects yX4_readPath.cls yX4_readPath yX4_readPath ∈ T0 := tw5 28 rfl (by decide +kernel)
set_option maxRecDepth 100000 in
theorem cv_4_38 : CV RX4 38 yX9_begin 1 cX9_begin 2 none := ⟨Or.inl (tw5 30 rfl (by decide +kernel)), (tw1 2 rfl (by decide +kernel)), (tw3 25 rfl (by decide +kernel)), by decide, by decide +kernel⟩
set_option maxRecDepth 100000 in
theorem cv_4_48 : CV RX4 48 yX9_look 0 cX9_look 1 (some .int) := ⟨Or.inl (tw5 31 rfl (by decide +kernel)), (tw1 2 rfl (by decide +kernel)), (tw3 44 rfl (by decide +kernel)), by decide, by decide +kernel⟩
set_option maxRecDepth 100000 in
theorem cv_4_52 : CV RX4 52 yX10_at 1 cX10_at 2 (some (.object "BinsBothSides$Street")) := ⟨Or.inl (tw5 32 rfl (by decide +kernel)), (tw1 5 rfl (by decide +kernel)), (tw3 92 rfl (by decide +kernel)), by decide, by decide +kernel⟩
set_option maxRecDepth 100000 in
theorem cv_4_58 : CV RX4 58 yX9_fault 0 cX9_fault 1 (some .int) := ⟨Or.inl (tw5 33 rfl (by decide +kernel)), (tw1 2 rfl (by decide +kernel)), (tw3 79 rfl (by decide +kernel)), by decide, by decide +kernel⟩
set_option maxRecDepth 100000 in
theorem cv_4_61 : CV RX4 61 yX9_pass 0 cX9_pass 1 none := ⟨Or.inl (tw5 34 rfl (by decide +kernel)), (tw1 2 rfl (by decide +kernel)), (tw3 48 rfl (by decide +kernel)), by decide, by decide +kernel⟩
set_option maxRecDepth 100000 in
theorem cv_4_64 : CV RX4 64 yX9_isRead 0 cX9_isRead 1 (some .boolean) := ⟨Or.inl (tw5 35 rfl (by decide +kernel)), (tw1 2 rfl (by decide +kernel)), (tw3 32 rfl (by decide +kernel)), by decide, by decide +kernel⟩
set_option maxRecDepth 100000 in
theorem cv_11_355 : CV RX11 355 yX4_prepare 1 cX4_prepare 5 none := ⟨Or.inl (tw5 36 rfl (by decide +kernel)), (tw1 11 rfl (by decide +kernel)), (tw5 39 rfl (by decide +kernel)), by decide, by decide +kernel⟩
set_option maxRecDepth 100000 in
theorem im_X4_prepare : Cond.instanceMethod yX4_prepare ∈ T0 := tw5 37 rfl (by decide +kernel)
set_option maxRecDepth 100000 in
theorem sl_X4_prepare : Cond.selects yX4_prepare.cls yX4_prepare yX4_prepare ∈ T0 := tw5 38 rfl (by decide +kernel)
set_option maxRecDepth 100000 in
theorem cv_4_71 : CV RX4 71 yX6_get 1 cX6_get 2 (some .int) := ⟨Or.inl (tw5 40 rfl (by decide +kernel)), (tw1 3 rfl (by decide +kernel)), (tw4 73 rfl (by decide +kernel)), by decide, by decide +kernel⟩
set_option maxRecDepth 100000 in
theorem cv_4_82 : CV RX4 82 yX2_think 2 cX2_think 3 none := ⟨Or.inl (tw5 41 rfl (by decide +kernel)), (tw1 10 rfl (by decide +kernel)), (tw4 77 rfl (by decide +kernel)), by decide, by decide +kernel⟩
set_option maxRecDepth 100000 in
theorem cv_4_86 : CV RX4 86 yX2_chooseHow 2 cX2_chooseHow 4 (some .int) := ⟨Or.inl (tw5 42 rfl (by decide +kernel)), (tw1 10 rfl (by decide +kernel)), (tw4 225 rfl (by decide +kernel)), by decide, by decide +kernel⟩
set_option maxRecDepth 100000 in
theorem cv_4_90 : CV RX4 90 yX2_lay 3 cX2_lay 9 none := ⟨Or.inl (tw5 43 rfl (by decide +kernel)), (tw1 10 rfl (by decide +kernel)), (tw4 86 rfl (by decide +kernel)), by decide, by decide +kernel⟩
set_option maxRecDepth 100000 in
theorem cv_11_359 : CV RX11 359 yX4_start 3 cX4_start 4 none := ⟨Or.inl (tw5 44 rfl (by decide +kernel)), (tw1 11 rfl (by decide +kernel)), (tw5 47 rfl (by decide +kernel)), by decide, by decide +kernel⟩
set_option maxRecDepth 100000 in
theorem im_X4_start : Cond.instanceMethod yX4_start ∈ T0 := tw5 45 rfl (by decide +kernel)
set_option maxRecDepth 100000 in
theorem sl_X4_start : Cond.selects yX4_start.cls yX4_start yX4_start ∈ T0 := tw5 46 rfl (by decide +kernel)
set_option maxRecDepth 100000 in
theorem cv_11_363 : CV RX11 363 yX4_followPath 0 cX4_followPath 2 (some .boolean) := ⟨Or.inl (tw5 48 rfl (by decide +kernel)), (tw1 11 rfl (by decide +kernel)), (tw5 51 rfl (by decide +kernel)), by decide, by decide +kernel⟩
set_option maxRecDepth 100000 in
theorem im_X4_followPath : Cond.instanceMethod yX4_followPath ∈ T0 := tw5 49 rfl (by decide +kernel)
set_option maxRecDepth 100000 in
theorem sl_X4_followPath : Cond.selects yX4_followPath.cls yX4_followPath yX4_followPath ∈ T0 := tw5 50 rfl (by decide +kernel)
set_option maxRecDepth 100000 in
theorem cv_4_115 : CV RX4 115 yX4_visit 1 cX4_visit 4 (some .boolean) := ⟨Or.inl (tw5 52 rfl (by decide +kernel)), (tw1 11 rfl (by decide +kernel)), (tw5 55 rfl (by decide +kernel)), by decide, by decide +kernel⟩
set_option maxRecDepth 100000 in
theorem im_X4_visit : Cond.instanceMethod yX4_visit ∈ T0 := tw5 54 rfl (by decide +kernel)
theorem sl_X4_visit : Cond.selects yX4_visit.cls yX4_visit yX4_visit ∈ T0 := T0_ofN (by decide +kernel) (by decide +kernel)
set_option maxRecDepth 100000 in
theorem cv_4_119 : CV RX4 119 yX4_goTip 0 cX4_goTip 2 (some .boolean) := ⟨Or.inl (tw5 56 rfl (by decide +kernel)), (tw1 11 rfl (by decide +kernel)), (tw5 59 rfl (by decide +kernel)), by decide, by decide +kernel⟩
set_option maxRecDepth 100000 in
theorem im_X4_goTip : Cond.instanceMethod yX4_goTip ∈ T0 := tw5 58 rfl (by decide +kernel)
theorem sl_X4_goTip : Cond.selects yX4_goTip.cls yX4_goTip yX4_goTip ∈ T0 := T0_ofN (by decide +kernel) (by decide +kernel)
set_option maxRecDepth 100000 in
theorem cv_4_126 : CV RX4 126 yX11_driving 2 cX11_driving 2 (some .int) := ⟨Or.inr ⟨"BinsBothSides", (tw5 60 rfl (by decide +kernel))⟩, (tw1 1 rfl (by decide +kernel)), (tw4 42 rfl (by decide +kernel)), by decide, by decide +kernel⟩
set_option maxRecDepth 100000 in
theorem cv_4_129 : CV RX4 129 yX8_openFrom 1 cX8_openFrom 2 (some .int) := ⟨Or.inl (tw5 61 rfl (by decide +kernel)), (tw1 6 rfl (by decide +kernel)), (tw5 64 rfl (by decide +kernel)), by decide, by decide +kernel⟩
set_option maxRecDepth 100000 in
theorem im_X8_openFrom : Cond.instanceMethod yX8_openFrom ∈ T0 := tw5 62 rfl (by decide +kernel)
set_option maxRecDepth 100000 in
theorem sl_X8_openFrom : Cond.selects yX8_openFrom.cls yX8_openFrom yX8_openFrom ∈ T0 := tw5 63 rfl (by decide +kernel)
set_option maxRecDepth 100000 in
theorem cv_8_25 : CV RX8 25 yX8_isBarred 1 cX8_isBarred 3 (some .boolean) := ⟨Or.inl (tw5 65 rfl (by decide +kernel)), (tw1 6 rfl (by decide +kernel)), (tw4 69 rfl (by decide +kernel)), by decide, by decide +kernel⟩
set_option maxRecDepth 100000 in
theorem cv_4_132 : CV RX4 132 yX2_go 2 cX2_go 7 none := ⟨Or.inl (tw5 66 rfl (by decide +kernel)), (tw1 10 rfl (by decide +kernel)), (tw4 130 rfl (by decide +kernel)), by decide, by decide +kernel⟩
set_option maxRecDepth 100000 in
theorem cv_4_138 : CV RX4 138 yX2_seconds 0 cX2_seconds 1 (some .int) := ⟨Or.inl (tw5 67 rfl (by decide +kernel)), (tw1 10 rfl (by decide +kernel)), (tw4 138 rfl (by decide +kernel)), by decide, by decide +kernel⟩
set_option maxRecDepth 100000 in
theorem cv_L_130 : CV RL 130 yX11_soonest 1 cX11_soonest 3 (some .int) := ⟨Or.inl (tw5 68 rfl (by decide +kernel)), (tw1 1 rfl (by decide +kernel)), (tw5 71 rfl (by decide +kernel)), by decide, by decide +kernel⟩
set_option maxRecDepth 100000 in
theorem im_X11_soonest : Cond.instanceMethod yX11_soonest ∈ T0 := tw5 69 rfl (by decide +kernel)
set_option maxRecDepth 100000 in
theorem sl_X11_soonest : Cond.selects yX11_soonest.cls yX11_soonest yX11_soonest ∈ T0 := tw5 70 rfl (by decide +kernel)
set_option maxRecDepth 100000 in
theorem cv_11_371 : CV RX11 371 yX10_hasAll 1 cX10_hasAll 2 (some .boolean) := ⟨Or.inl (tw5 72 rfl (by decide +kernel)), (tw1 5 rfl (by decide +kernel)), (tw5 75 rfl (by decide +kernel)), by decide, by decide +kernel⟩
set_option maxRecDepth 100000 in
theorem im_X10_hasAll : Cond.instanceMethod yX10_hasAll ∈ T0 := tw5 73 rfl (by decide +kernel)
set_option maxRecDepth 100000 in
theorem sl_X10_hasAll : Cond.selects yX10_hasAll.cls yX10_hasAll yX10_hasAll ∈ T0 := tw5 74 rfl (by decide +kernel)
set_option maxRecDepth 100000 in
theorem cv_11_374 : CV RX11 374 yX4_search 2 cX4_search 3 none := ⟨Or.inl (tw5 76 rfl (by decide +kernel)), (tw1 11 rfl (by decide +kernel)), (tw5 79 rfl (by decide +kernel)), by decide, by decide +kernel⟩
set_option maxRecDepth 100000 in
theorem im_X4_search : Cond.instanceMethod yX4_search ∈ T0 := tw5 77 rfl (by decide +kernel)
set_option maxRecDepth 100000 in
theorem sl_X4_search : Cond.selects yX4_search.cls yX4_search yX4_search ∈ T0 := tw5 78 rfl (by decide +kernel)
set_option maxRecDepth 100000 in
theorem cv_4_154 : CV RX4 154 yX4_explore 2 cX4_explore 7 none := ⟨Or.inl (tw5 80 rfl (by decide +kernel)), (tw1 11 rfl (by decide +kernel)), (tw5 83 rfl (by decide +kernel)), by decide, by decide +kernel⟩
set_option maxRecDepth 100000 in
theorem im_X4_explore : Cond.instanceMethod yX4_explore ∈ T0 := tw5 82 rfl (by decide +kernel)
theorem sl_X4_explore : Cond.selects yX4_explore.cls yX4_explore yX4_explore ∈ T0 := T0_ofN (by decide +kernel) (by decide +kernel)
set_option maxRecDepth 100000 in
theorem cv_4_157 : CV RX4 157 yX4_judge 2 cX4_judge 6 none := ⟨Or.inl (tw5 84 rfl (by decide +kernel)), (tw1 11 rfl (by decide +kernel)), (tw5 87 rfl (by decide +kernel)), by decide, by decide +kernel⟩
set_option maxRecDepth 100000 in
theorem im_X4_judge : Cond.instanceMethod yX4_judge ∈ T0 := tw5 86 rfl (by decide +kernel)
theorem sl_X4_judge : Cond.selects yX4_judge.cls yX4_judge yX4_judge ∈ T0 := T0_ofN (by decide +kernel) (by decide +kernel)
set_option maxRecDepth 100000 in
theorem ml_4_94 : Cond.methodLink RX4 94 Lib.Math.min.name ∈ T0 := tw5 88 rfl (by decide +kernel)
set_option maxRecDepth 100000 in
theorem ml_4_160 : Cond.methodLink RX4 160 arraycopyName ∈ T0 := tw5 89 rfl (by decide +kernel)
set_option maxRecDepth 100000 in
theorem cv_4_166 : CV RX4 166 yJ6_bitCount_0f7a4 1 cJ6_bitCount_0f7a4 1 (some .int) := ⟨Or.inl (tw5 90 rfl (by decide +kernel)), (tw1 25 rfl (by decide +kernel)), (tw4 142 rfl (by decide +kernel)), by decide, by decide +kernel⟩
set_option maxRecDepth 100000 in
theorem cv_11_383 : CV RX11 383 yX4_soonestAt 1 cX4_soonestAt 2 (some .int) := ⟨Or.inl (tw5 91 rfl (by decide +kernel)), (tw1 11 rfl (by decide +kernel)), (tw5 94 rfl (by decide +kernel)), by decide, by decide +kernel⟩
set_option maxRecDepth 100000 in
theorem im_X4_soonestAt : Cond.instanceMethod yX4_soonestAt ∈ T0 := tw5 92 rfl (by decide +kernel)
set_option maxRecDepth 100000 in
theorem sl_X4_soonestAt : Cond.selects yX4_soonestAt.cls yX4_soonestAt yX4_soonestAt ∈ T0 := tw5 93 rfl (by decide +kernel)
set_option maxRecDepth 100000 in
theorem cv_L_134 : CV RL 134 yX11_most 2 cX11_most 3 (some .int) := ⟨Or.inl (tw5 95 rfl (by decide +kernel)), (tw1 1 rfl (by decide +kernel)), (tw5 98 rfl (by decide +kernel)), by decide, by decide +kernel⟩
set_option maxRecDepth 100000 in
theorem im_X11_most : Cond.instanceMethod yX11_most ∈ T0 := tw5 96 rfl (by decide +kernel)
set_option maxRecDepth 100000 in
theorem sl_X11_most : Cond.selects yX11_most.cls yX11_most yX11_most ∈ T0 := tw5 97 rfl (by decide +kernel)
set_option maxRecDepth 100000 in
theorem cv_L_138 : CV RL 138 yX11_tipnow 1 cX11_tipnow 7 (some .int) := ⟨Or.inl (tw5 100 rfl (by decide +kernel)), (tw1 1 rfl (by decide +kernel)), (tw5 103 rfl (by decide +kernel)), by decide, by decide +kernel⟩
set_option maxRecDepth 100000 in
theorem im_X11_tipnow : Cond.instanceMethod yX11_tipnow ∈ T0 := tw5 101 rfl (by decide +kernel)
set_option maxRecDepth 100000 in
theorem sl_X11_tipnow : Cond.selects yX11_tipnow.cls yX11_tipnow yX11_tipnow ∈ T0 := tw5 102 rfl (by decide +kernel)
set_option maxRecDepth 100000 in
theorem cv_L_142 : CV RL 142 yX11_share 1 cX11_share 8 (some .int) := ⟨Or.inl (tw5 104 rfl (by decide +kernel)), (tw1 1 rfl (by decide +kernel)), (tw5 107 rfl (by decide +kernel)), by decide, by decide +kernel⟩
set_option maxRecDepth 100000 in
theorem im_X11_share : Cond.instanceMethod yX11_share ∈ T0 := tw5 105 rfl (by decide +kernel)
set_option maxRecDepth 100000 in
theorem sl_X11_share : Cond.selects yX11_share.cls yX11_share yX11_share ∈ T0 := tw5 106 rfl (by decide +kernel)
set_option maxRecDepth 100000 in
theorem cv_11_393 : CV RX11 393 yX11_measureDays 0 cX11_measureDays 3 none := ⟨Or.inl (tw5 108 rfl (by decide +kernel)), (tw1 1 rfl (by decide +kernel)), (tw5 111 rfl (by decide +kernel)), by decide, by decide +kernel⟩
set_option maxRecDepth 100000 in
theorem im_X11_measureDays : Cond.instanceMethod yX11_measureDays ∈ T0 := tw5 110 rfl (by decide +kernel)
theorem sl_X11_measureDays : Cond.selects yX11_measureDays.cls yX11_measureDays yX11_measureDays ∈ T0 := T0_ofN (by decide +kernel) (by decide +kernel)
set_option maxRecDepth 100000 in
theorem cv_11_413 : CV RX11 413 yX0_clear 0 cX0_clear 1 none := ⟨Or.inl (tw5 112 rfl (by decide +kernel)), (tw1 12 rfl (by decide +kernel)), (tw5 115 rfl (by decide +kernel)), by decide, by decide +kernel⟩
set_option maxRecDepth 100000 in
theorem im_X0_clear : Cond.instanceMethod yX0_clear ∈ T0 := tw5 113 rfl (by decide +kernel)
set_option maxRecDepth 100000 in
theorem sl_X0_clear : Cond.selects yX0_clear.cls yX0_clear yX0_clear ∈ T0 := tw5 114 rfl (by decide +kernel)
set_option maxRecDepth 100000 in
theorem cv_0_31 : CV RX0 31 yJ7_fill_53178 2 cJ7_fill_53178 4 none := ⟨Or.inl (tw5 116 rfl (by decide +kernel)), (tw1 15 rfl (by decide +kernel)), (tw3 59 rfl (by decide +kernel)), by decide, by decide +kernel⟩
set_option maxRecDepth 100000 in
theorem cv_11_414 : CV RX11 414 yX0_put 2 cX0_put 3 none := ⟨Or.inl (tw5 117 rfl (by decide +kernel)), (tw1 12 rfl (by decide +kernel)), (tw5 120 rfl (by decide +kernel)), by decide, by decide +kernel⟩
set_option maxRecDepth 100000 in
theorem im_X0_put : Cond.instanceMethod yX0_put ∈ T0 := tw5 118 rfl (by decide +kernel)
set_option maxRecDepth 100000 in
theorem sl_X0_put : Cond.selects yX0_put.cls yX0_put yX0_put ∈ T0 := tw5 119 rfl (by decide +kernel)
set_option maxRecDepth 100000 in
theorem cv_11_396 : CV RX11 396 yX0_secondsOf 1 cX0_secondsOf 4 (some .int) := ⟨Or.inl (tw5 121 rfl (by decide +kernel)), (tw1 12 rfl (by decide +kernel)), (tw5 124 rfl (by decide +kernel)), by decide, by decide +kernel⟩
set_option maxRecDepth 100000 in
theorem im_X0_secondsOf : Cond.instanceMethod yX0_secondsOf ∈ T0 := tw5 122 rfl (by decide +kernel)
set_option maxRecDepth 100000 in
theorem sl_X0_secondsOf : Cond.selects yX0_secondsOf.cls yX0_secondsOf yX0_secondsOf ∈ T0 := tw5 123 rfl (by decide +kernel)
set_option maxRecDepth 100000 in
theorem ml_11_397 : Cond.methodLink RX11 397 Lib.Math.max.name ∈ T0 := tw5 125 rfl (by decide +kernel)
set_option maxRecDepth 100000 in
theorem cv_L_146 : CV RL 146 yX11_holiday 2 cX11_holiday 6 (some .int) := ⟨Or.inl (tw5 126 rfl (by decide +kernel)), (tw1 1 rfl (by decide +kernel)), (tw5 129 rfl (by decide +kernel)), by decide, by decide +kernel⟩
set_option maxRecDepth 100000 in
theorem im_X11_holiday : Cond.instanceMethod yX11_holiday ∈ T0 := tw5 127 rfl (by decide +kernel)
set_option maxRecDepth 100000 in
theorem sl_X11_holiday : Cond.selects yX11_holiday.cls yX11_holiday yX11_holiday ∈ T0 := tw5 128 rfl (by decide +kernel)
set_option maxRecDepth 100000 in
theorem cv_11_400 : CV RX11 400 yX0_takeOff 1 cX0_takeOff 4 (some .int) := ⟨Or.inl (tw5 130 rfl (by decide +kernel)), (tw1 12 rfl (by decide +kernel)), (tw5 133 rfl (by decide +kernel)), by decide, by decide +kernel⟩
set_option maxRecDepth 100000 in
theorem im_X0_takeOff : Cond.instanceMethod yX0_takeOff ∈ T0 := tw5 131 rfl (by decide +kernel)
set_option maxRecDepth 100000 in
theorem sl_X0_takeOff : Cond.selects yX0_takeOff.cls yX0_takeOff yX0_takeOff ∈ T0 := tw5 132 rfl (by decide +kernel)
set_option maxRecDepth 100000 in
theorem cv_0_54 : CV RX0 54 yX10_at 1 cX10_at 2 (some (.object "BinsBothSides$Street")) := ⟨Or.inl (tw5 134 rfl (by decide +kernel)), (tw1 5 rfl (by decide +kernel)), (tw3 92 rfl (by decide +kernel)), by decide, by decide +kernel⟩
set_option maxRecDepth 100000 in
theorem cv_11_403 : CV RX11 403 yX0_spread 3 cX0_spread 4 (some .boolean) := ⟨Or.inl (tw5 135 rfl (by decide +kernel)), (tw1 12 rfl (by decide +kernel)), (tw5 138 rfl (by decide +kernel)), by decide, by decide +kernel⟩
set_option maxRecDepth 100000 in
theorem im_X0_spread : Cond.instanceMethod yX0_spread ∈ T0 := tw5 136 rfl (by decide +kernel)
set_option maxRecDepth 100000 in
theorem sl_X0_spread : Cond.selects yX0_spread.cls yX0_spread yX0_spread ∈ T0 := tw5 137 rfl (by decide +kernel)
set_option maxRecDepth 100000 in
theorem cv_0_71 : CV RX0 71 yX0_spreadFrom 2 cX0_spreadFrom 5 none := ⟨Or.inl (tw5 140 rfl (by decide +kernel)), (tw1 12 rfl (by decide +kernel)), (tw5 143 rfl (by decide +kernel)), by decide, by decide +kernel⟩
set_option maxRecDepth 100000 in
theorem im_X0_spreadFrom : Cond.instanceMethod yX0_spreadFrom ∈ T0 := tw5 142 rfl (by decide +kernel)
theorem sl_X0_spreadFrom : Cond.selects yX0_spreadFrom.cls yX0_spreadFrom yX0_spreadFrom ∈ T0 := T0_ofN (by decide +kernel) (by decide +kernel)
set_option maxRecDepth 100000 in
theorem ml_0_75 : Cond.methodLink RX0 75 arraycopyName ∈ T0 := tw5 144 rfl (by decide +kernel)
set_option maxRecDepth 100000 in
theorem cv_0_81 : CV RX0 81 yX0_secondsOf 1 cX0_secondsOf 4 (some .int) := ⟨Or.inl (tw5 145 rfl (by decide +kernel)), (tw1 12 rfl (by decide +kernel)), (tw5 124 rfl (by decide +kernel)), by decide, by decide +kernel⟩
set_option maxRecDepth 100000 in
theorem ml_0_85 : Cond.methodLink RX0 85 Lib.Math.max.name ∈ T0 := tw5 146 rfl (by decide +kernel)
set_option maxRecDepth 100000 in
theorem cv_11_407 : CV RX11 407 yX0_foundAt 1 cX0_foundAt 2 (some .int) := ⟨Or.inl (tw5 147 rfl (by decide +kernel)), (tw1 12 rfl (by decide +kernel)), (tw5 150 rfl (by decide +kernel)), by decide, by decide +kernel⟩
set_option maxRecDepth 100000 in
theorem im_X0_foundAt : Cond.instanceMethod yX0_foundAt ∈ T0 := tw5 148 rfl (by decide +kernel)
set_option maxRecDepth 100000 in
theorem sl_X0_foundAt : Cond.selects yX0_foundAt.cls yX0_foundAt yX0_foundAt ∈ T0 := tw5 149 rfl (by decide +kernel)
set_option maxRecDepth 100000 in
theorem cv_L_150 : CV RL 150 yX11_busiest 0 cX11_busiest 4 (some .int) := ⟨Or.inl (tw5 151 rfl (by decide +kernel)), (tw1 1 rfl (by decide +kernel)), (tw5 154 rfl (by decide +kernel)), by decide, by decide +kernel⟩
set_option maxRecDepth 100000 in
theorem im_X11_busiest : Cond.instanceMethod yX11_busiest ∈ T0 := tw5 152 rfl (by decide +kernel)
set_option maxRecDepth 100000 in
theorem sl_X11_busiest : Cond.selects yX11_busiest.cls yX11_busiest yX11_busiest ∈ T0 := tw5 153 rfl (by decide +kernel)
set_option maxRecDepth 100000 in
theorem cv_11_410 : CV RX11 410 yX0_secondsOn 1 cX0_secondsOn 2 (some .int) := ⟨Or.inl (tw5 155 rfl (by decide +kernel)), (tw1 12 rfl (by decide +kernel)), (tw5 158 rfl (by decide +kernel)), by decide, by decide +kernel⟩
set_option maxRecDepth 100000 in
theorem im_X0_secondsOn : Cond.instanceMethod yX0_secondsOn ∈ T0 := tw5 156 rfl (by decide +kernel)
set_option maxRecDepth 100000 in
theorem sl_X0_secondsOn : Cond.selects yX0_secondsOn.cls yX0_secondsOn yX0_secondsOn ∈ T0 := tw5 157 rfl (by decide +kernel)
set_option maxRecDepth 100000 in
theorem cv_L_154 : CV RL 154 yX11_weighed 2 cX11_weighed 3 (some .int) := ⟨Or.inl (tw5 159 rfl (by decide +kernel)), (tw1 1 rfl (by decide +kernel)), (tw5 162 rfl (by decide +kernel)), by decide, by decide +kernel⟩
set_option maxRecDepth 100000 in
theorem im_X11_weighed : Cond.instanceMethod yX11_weighed ∈ T0 := tw5 160 rfl (by decide +kernel)
set_option maxRecDepth 100000 in
theorem sl_X11_weighed : Cond.selects yX11_weighed.cls yX11_weighed yX11_weighed ∈ T0 := tw5 161 rfl (by decide +kernel)
set_option maxRecDepth 100000 in
theorem cv_11_418 : CV RX11 418 yX3_add 2 cX3_add 3 (some .boolean) := ⟨Or.inl (tw5 163 rfl (by decide +kernel)), (tw1 9 rfl (by decide +kernel)), (tw5 166 rfl (by decide +kernel)), by decide, by decide +kernel⟩
set_option maxRecDepth 100000 in
theorem im_X3_add : Cond.instanceMethod yX3_add ∈ T0 := tw5 164 rfl (by decide +kernel)
set_option maxRecDepth 100000 in
theorem sl_X3_add : Cond.selects yX3_add.cls yX3_add yX3_add ∈ T0 := tw5 165 rfl (by decide +kernel)
set_option maxRecDepth 100000 in
theorem cv_L_158 : CV RL 158 yX11_forget 0 cX11_forget 2 (some .int) := ⟨Or.inl (tw5 167 rfl (by decide +kernel)), (tw1 1 rfl (by decide +kernel)), (tw5 170 rfl (by decide +kernel)), by decide, by decide +kernel⟩
set_option maxRecDepth 100000 in
theorem im_X11_forget : Cond.instanceMethod yX11_forget ∈ T0 := tw5 168 rfl (by decide +kernel)
set_option maxRecDepth 100000 in
theorem sl_X11_forget : Cond.selects yX11_forget.cls yX11_forget yX11_forget ∈ T0 := tw5 169 rfl (by decide +kernel)
set_option maxRecDepth 100000 in
theorem cv_L_162 : CV RL 162 yX11_rubble 0 cX11_rubble 2 (some .int) := ⟨Or.inl (tw5 171 rfl (by decide +kernel)), (tw1 1 rfl (by decide +kernel)), (tw5 174 rfl (by decide +kernel)), by decide, by decide +kernel⟩
set_option maxRecDepth 100000 in
theorem im_X11_rubble : Cond.instanceMethod yX11_rubble ∈ T0 := tw5 172 rfl (by decide +kernel)
set_option maxRecDepth 100000 in
theorem sl_X11_rubble : Cond.selects yX11_rubble.cls yX11_rubble yX11_rubble ∈ T0 := tw5 173 rfl (by decide +kernel)
set_option maxRecDepth 100000 in
theorem cv_11_423 : CV RX11 423 yX3_study 0 cX3_study 3 none := ⟨Or.inl (tw5 175 rfl (by decide +kernel)), (tw1 9 rfl (by decide +kernel)), (tw5 178 rfl (by decide +kernel)), by decide, by decide +kernel⟩
set_option maxRecDepth 100000 in
theorem im_X3_study : Cond.instanceMethod yX3_study ∈ T0 := tw5 176 rfl (by decide +kernel)
set_option maxRecDepth 100000 in
theorem sl_X3_study : Cond.selects yX3_study.cls yX3_study yX3_study ∈ T0 := tw5 177 rfl (by decide +kernel)
set_option maxRecDepth 100000 in
theorem cv_3_42 : CV RX3 42 yX10_at 1 cX10_at 2 (some (.object "BinsBothSides$Street")) := ⟨Or.inl (tw5 179 rfl (by decide +kernel)), (tw1 5 rfl (by decide +kernel)), (tw3 92 rfl (by decide +kernel)), by decide, by decide +kernel⟩
set_option maxRecDepth 100000 in
theorem cv_3_48 : CV RX3 48 yX8_bins 0 cX8_bins 3 (some .int) := ⟨Or.inl (tw5 180 rfl (by decide +kernel)), (tw1 6 rfl (by decide +kernel)), (tw3 96 rfl (by decide +kernel)), by decide, by decide +kernel⟩
set_option maxRecDepth 100000 in
theorem cv_3_54 : CV RX3 54 yX6_get 1 cX6_get 2 (some .int) := ⟨Or.inl (tw5 181 rfl (by decide +kernel)), (tw1 3 rfl (by decide +kernel)), (tw4 73 rfl (by decide +kernel)), by decide, by decide +kernel⟩
set_option maxRecDepth 100000 in
theorem cv_3_60 : CV RX3 60 yX6_weigh 3 cX6_weigh 6 (some .int) := ⟨Or.inl (tw5 182 rfl (by decide +kernel)), (tw1 3 rfl (by decide +kernel)), (tw5 21 rfl (by decide +kernel)), by decide, by decide +kernel⟩
set_option maxRecDepth 100000 in
theorem cv_3_68 : CV RX3 68 yX3_heavyOf 1 cX3_heavyOf 4 (some .int) := ⟨Or.inl (tw5 183 rfl (by decide +kernel)), (tw1 9 rfl (by decide +kernel)), (tw5 186 rfl (by decide +kernel)), by decide, by decide +kernel⟩
set_option maxRecDepth 100000 in
theorem im_X3_heavyOf : Cond.instanceMethod yX3_heavyOf ∈ T0 := tw5 185 rfl (by decide +kernel)
theorem sl_X3_heavyOf : Cond.selects yX3_heavyOf.cls yX3_heavyOf yX3_heavyOf ∈ T0 := T0_ofN (by decide +kernel) (by decide +kernel)
set_option maxRecDepth 100000 in
theorem cv_3_71 : CV RX3 71 yX3_findPairs 1 cX3_findPairs 5 (some .int) := ⟨Or.inl (tw5 187 rfl (by decide +kernel)), (tw1 9 rfl (by decide +kernel)), (tw5 190 rfl (by decide +kernel)), by decide, by decide +kernel⟩
set_option maxRecDepth 100000 in
theorem im_X3_findPairs : Cond.instanceMethod yX3_findPairs ∈ T0 := tw5 189 rfl (by decide +kernel)
theorem sl_X3_findPairs : Cond.selects yX3_findPairs.cls yX3_findPairs yX3_findPairs ∈ T0 := T0_ofN (by decide +kernel) (by decide +kernel)
set_option maxRecDepth 100000 in
theorem ml_3_74 : Cond.methodLink RX3 74 Lib.Math.max.name ∈ T0 := tw5 191 rfl (by decide +kernel)
set_option maxRecDepth 100000 in
theorem ml_3_80 : Cond.methodLink RX3 80 Lib.Math.min.name ∈ T0 := tw5 192 rfl (by decide +kernel)
set_option maxRecDepth 100000 in
theorem cv_11_426 : CV RX11 426 yX3_pairsIn 1 cX3_pairsIn 4 (some .int) := ⟨Or.inl (tw5 193 rfl (by decide +kernel)), (tw1 9 rfl (by decide +kernel)), (tw5 196 rfl (by decide +kernel)), by decide, by decide +kernel⟩
set_option maxRecDepth 100000 in
theorem im_X3_pairsIn : Cond.instanceMethod yX3_pairsIn ∈ T0 := tw5 194 rfl (by decide +kernel)
set_option maxRecDepth 100000 in
theorem sl_X3_pairsIn : Cond.selects yX3_pairsIn.cls yX3_pairsIn yX3_pairsIn ∈ T0 := tw5 195 rfl (by decide +kernel)
set_option maxRecDepth 100000 in
theorem cv_11_429 : CV RX11 429 yX3_leastMoreOf 1 cX3_leastMoreOf 2 (some .int) := ⟨Or.inl (tw5 197 rfl (by decide +kernel)), (tw1 9 rfl (by decide +kernel)), (tw5 200 rfl (by decide +kernel)), by decide, by decide +kernel⟩
set_option maxRecDepth 100000 in
theorem im_X3_leastMoreOf : Cond.instanceMethod yX3_leastMoreOf ∈ T0 := tw5 198 rfl (by decide +kernel)
set_option maxRecDepth 100000 in
theorem sl_X3_leastMoreOf : Cond.selects yX3_leastMoreOf.cls yX3_leastMoreOf yX3_leastMoreOf ∈ T0 := tw5 199 rfl (by decide +kernel)
set_option maxRecDepth 100000 in
theorem cv_L_166 : CV RL 166 yX11_whose 0 cX11_whose 3 (some .int) := ⟨Or.inl (tw5 201 rfl (by decide +kernel)), (tw1 1 rfl (by decide +kernel)), (tw5 204 rfl (by decide +kernel)), by decide, by decide +kernel⟩
set_option maxRecDepth 100000 in
theorem im_X11_whose : Cond.instanceMethod yX11_whose ∈ T0 := tw5 202 rfl (by decide +kernel)
set_option maxRecDepth 100000 in
theorem sl_X11_whose : Cond.selects yX11_whose.cls yX11_whose yX11_whose ∈ T0 := tw5 203 rfl (by decide +kernel)
set_option maxRecDepth 100000 in
theorem cv_L_170 : CV RL 170 yX11_next 0 cX11_next 7 (some .int) := ⟨Or.inl (tw5 205 rfl (by decide +kernel)), (tw1 1 rfl (by decide +kernel)), (tw5 208 rfl (by decide +kernel)), by decide, by decide +kernel⟩
set_option maxRecDepth 100000 in
theorem im_X11_next : Cond.instanceMethod yX11_next ∈ T0 := tw5 206 rfl (by decide +kernel)
set_option maxRecDepth 100000 in
theorem sl_X11_next : Cond.selects yX11_next.cls yX11_next yX11_next ∈ T0 := tw5 207 rfl (by decide +kernel)
set_option maxRecDepth 100000 in
theorem cv_L_174 : CV RL 174 yX11_right 2 cX11_right 10 (some .int) := ⟨Or.inl (tw5 209 rfl (by decide +kernel)), (tw1 1 rfl (by decide +kernel)), (tw5 212 rfl (by decide +kernel)), by decide, by decide +kernel⟩
set_option maxRecDepth 100000 in
theorem im_X11_right : Cond.instanceMethod yX11_right ∈ T0 := tw5 210 rfl (by decide +kernel)
set_option maxRecDepth 100000 in
theorem sl_X11_right : Cond.selects yX11_right.cls yX11_right yX11_right ∈ T0 := tw5 211 rfl (by decide +kernel)
set_option maxRecDepth 100000 in
theorem cv_11_435 : CV RX11 435 yX11_power 2 cX11_power 5 (some .long) := ⟨Or.inl (tw5 213 rfl (by decide +kernel)), (tw1 1 rfl (by decide +kernel)), (tw5 215 rfl (by decide +kernel)), by decide, by decide +kernel⟩
set_option maxRecDepth 100000 in
theorem st_X11_power : Cond.static yX11_power ∈ T0 := tw5 214 rfl (by decide +kernel)
set_option maxRecDepth 100000 in
theorem cv_11_439 : CV RX11 439 yX11_commonDivisor 2 cX11_commonDivisor 11 (some .long) := ⟨Or.inl (tw5 216 rfl (by decide +kernel)), (tw1 1 rfl (by decide +kernel)), (tw5 218 rfl (by decide +kernel)), by decide, by decide +kernel⟩
set_option maxRecDepth 100000 in
theorem st_X11_commonDivisor : Cond.static yX11_commonDivisor ∈ T0 := tw5 217 rfl (by decide +kernel)
set_option maxRecDepth 100000 in
theorem cv_L_178 : CV RL 178 yX11_care 2 cX11_care 5 (some .int) := ⟨Or.inl (tw5 219 rfl (by decide +kernel)), (tw1 1 rfl (by decide +kernel)), (tw5 222 rfl (by decide +kernel)), by decide, by decide +kernel⟩
set_option maxRecDepth 100000 in
theorem im_X11_care : Cond.instanceMethod yX11_care ∈ T0 := tw5 220 rfl (by decide +kernel)
set_option maxRecDepth 100000 in
theorem sl_X11_care : Cond.selects yX11_care.cls yX11_care yX11_care ∈ T0 := tw5 221 rfl (by decide +kernel)
set_option maxRecDepth 100000 in
theorem cv_L_182 : CV RL 182 yX11_weeks 3 cX11_weeks 8 (some .int) := ⟨Or.inl (tw5 224 rfl (by decide +kernel)), (tw1 1 rfl (by decide +kernel)), (tw5 227 rfl (by decide +kernel)), by decide, by decide +kernel⟩
set_option maxRecDepth 100000 in
theorem im_X11_weeks : Cond.instanceMethod yX11_weeks ∈ T0 := tw5 225 rfl (by decide +kernel)
set_option maxRecDepth 100000 in
theorem sl_X11_weeks : Cond.selects yX11_weeks.cls yX11_weeks yX11_weeks ∈ T0 := tw5 226 rfl (by decide +kernel)
set_option maxRecDepth 100000 in
theorem cv_11_448 : CV RX11 448 yX4_pathToAll 0 cX4_pathToAll 2 none := ⟨Or.inl (tw5 228 rfl (by decide +kernel)), (tw1 11 rfl (by decide +kernel)), (tw5 231 rfl (by decide +kernel)), by decide, by decide +kernel⟩
set_option maxRecDepth 100000 in
theorem im_X4_pathToAll : Cond.instanceMethod yX4_pathToAll ∈ T0 := tw5 229 rfl (by decide +kernel)
set_option maxRecDepth 100000 in
theorem sl_X4_pathToAll : Cond.selects yX4_pathToAll.cls yX4_pathToAll yX4_pathToAll ∈ T0 := tw5 230 rfl (by decide +kernel)
set_option maxRecDepth 100000 in
theorem cv_11_451 : CV RX11 451 yX11_drawOut 1 cX11_drawOut 7 (some (.array .int)) := ⟨Or.inl (tw5 232 rfl (by decide +kernel)), (tw1 1 rfl (by decide +kernel)), (tw5 235 rfl (by decide +kernel)), by decide, by decide +kernel⟩
set_option maxRecDepth 100000 in
theorem im_X11_drawOut : Cond.instanceMethod yX11_drawOut ∈ T0 := tw5 234 rfl (by decide +kernel)
theorem sl_X11_drawOut : Cond.selects yX11_drawOut.cls yX11_drawOut yX11_drawOut ∈ T0 := T0_ofN (by decide +kernel) (by decide +kernel)
set_option maxRecDepth 100000 in
theorem cv_11_458 : CV RX11 458 yX11_drawTenth 0 cX11_drawTenth 1 (some .int) := ⟨Or.inl (tw5 236 rfl (by decide +kernel)), (tw1 1 rfl (by decide +kernel)), (tw5 239 rfl (by decide +kernel)), by decide, by decide +kernel⟩
set_option maxRecDepth 100000 in
theorem im_X11_drawTenth : Cond.instanceMethod yX11_drawTenth ∈ T0 := tw5 238 rfl (by decide +kernel)
theorem sl_X11_drawTenth : Cond.selects yX11_drawTenth.cls yX11_drawTenth yX11_drawTenth ∈ T0 := T0_ofN (by decide +kernel) (by decide +kernel)
set_option maxRecDepth 100000 in
theorem cv_L_187 : CV RL 187 yX11_keep 1 cX11_keep 2 (some .boolean) := ⟨Or.inl (tw6 1 rfl (by decide +kernel)), (tw1 1 rfl (by decide +kernel)), (tw6 4 rfl (by decide +kernel)), by decide, by decide +kernel⟩
set_option maxRecDepth 100000 in
theorem im_X11_keep : Cond.instanceMethod yX11_keep ∈ T0 := tw6 2 rfl (by decide +kernel)
set_option maxRecDepth 100000 in
theorem sl_X11_keep : Cond.selects yX11_keep.cls yX11_keep yX11_keep ∈ T0 := tw6 3 rfl (by decide +kernel)
set_option maxRecDepth 100000 in
theorem cv_11_462 : CV RX11 462 yX7_become 1 cX7_become 2 none := ⟨Or.inl (tw6 5 rfl (by decide +kernel)), (tw1 7 rfl (by decide +kernel)), (tw4 32 rfl (by decide +kernel)), by decide, by decide +kernel⟩
set_option maxRecDepth 100000 in
theorem cv_L_191 : CV RL 191 yX11_again 1 cX11_again 2 (some .boolean) := ⟨Or.inl (tw6 6 rfl (by decide +kernel)), (tw1 1 rfl (by decide +kernel)), (tw6 9 rfl (by decide +kernel)), by decide, by decide +kernel⟩
set_option maxRecDepth 100000 in
theorem im_X11_again : Cond.instanceMethod yX11_again ∈ T0 := tw6 7 rfl (by decide +kernel)
set_option maxRecDepth 100000 in
theorem sl_X11_again : Cond.selects yX11_again.cls yX11_again yX11_again ∈ T0 := tw6 8 rfl (by decide +kernel)
set_option maxRecDepth 100000 in
theorem cv_L_195 : CV RL 195 yX11_count 1 cX11_count 2 (some .int) := ⟨Or.inl (tw6 10 rfl (by decide +kernel)), (tw1 1 rfl (by decide +kernel)), (tw6 13 rfl (by decide +kernel)), by decide, by decide +kernel⟩
set_option maxRecDepth 100000 in
theorem im_X11_count : Cond.instanceMethod yX11_count ∈ T0 := tw6 11 rfl (by decide +kernel)
set_option maxRecDepth 100000 in
theorem sl_X11_count : Cond.selects yX11_count.cls yX11_count yX11_count ∈ T0 := tw6 12 rfl (by decide +kernel)
set_option maxRecDepth 100000 in
theorem cv_L_7 : CV RL 7 yX11_street 2 cX11_street 4 (some .int) := ⟨Or.inl (tw6 18 rfl (by decide +kernel)), (tw1 1 rfl (by decide +kernel)), (tw6 21 rfl (by decide +kernel)), by decide, by decide +kernel⟩
set_option maxRecDepth 100000 in
theorem im_X11_street : Cond.instanceMethod yX11_street ∈ T0 := tw6 19 rfl (by decide +kernel)
set_option maxRecDepth 100000 in
theorem sl_X11_street : Cond.selects yX11_street.cls yX11_street yX11_street ∈ T0 := tw6 20 rfl (by decide +kernel)
set_option maxRecDepth 100000 in
theorem cv_L_15 : CV RL 15 yX11_bin 4 cX11_bin 7 (some .int) := ⟨Or.inl (tw6 91 rfl (by decide +kernel)), (tw1 1 rfl (by decide +kernel)), (tw6 94 rfl (by decide +kernel)), by decide, by decide +kernel⟩
set_option maxRecDepth 100000 in
theorem im_X11_bin : Cond.instanceMethod yX11_bin ∈ T0 := tw6 92 rfl (by decide +kernel)
set_option maxRecDepth 100000 in
theorem sl_X11_bin : Cond.selects yX11_bin.cls yX11_bin yX11_bin ∈ T0 := tw6 93 rfl (by decide +kernel)
set_option maxRecDepth 100000 in
theorem cv_11_187 : CV RX11 187 yX8_weightAt 1 cX8_weightAt 2 (some .int) := ⟨Or.inl (tw6 96 rfl (by decide +kernel)), (tw1 6 rfl (by decide +kernel)), (tw4 94 rfl (by decide +kernel)), by decide, by decide +kernel⟩
set_option maxRecDepth 100000 in
theorem cv_11_190 : CV RX11 190 yX6_heavy 2 cX6_heavy 3 (some .int) := ⟨Or.inl (tw6 97 rfl (by decide +kernel)), (tw1 3 rfl (by decide +kernel)), (tw4 98 rfl (by decide +kernel)), by decide, by decide +kernel⟩
set_option maxRecDepth 100000 in
theorem cv_11_194 : CV RX11 194 yX7_kindOf 2 cX7_kindOf 4 (some .int) := ⟨Or.inl (tw6 98 rfl (by decide +kernel)), (tw1 7 rfl (by decide +kernel)), (tw6 101 rfl (by decide +kernel)), by decide, by decide +kernel⟩
set_option maxRecDepth 100000 in
theorem im_X7_kindOf : Cond.instanceMethod yX7_kindOf ∈ T0 := tw6 99 rfl (by decide +kernel)
set_option maxRecDepth 100000 in
theorem sl_X7_kindOf : Cond.selects yX7_kindOf.cls yX7_kindOf yX7_kindOf ∈ T0 := tw6 100 rfl (by decide +kernel)
set_option maxRecDepth 100000 in
theorem cv_11_200 : CV RX11 200 yX2_byHand 3 cX2_byHand 4 (some .int) := ⟨Or.inl (tw6 102 rfl (by decide +kernel)), (tw1 10 rfl (by decide +kernel)), (tw4 103 rfl (by decide +kernel)), by decide, by decide +kernel⟩
set_option maxRecDepth 100000 in
theorem cv_L_19 : CV RL 19 yX11_hill 1 cX11_hill 4 (some .int) := ⟨Or.inl (tw6 106 rfl (by decide +kernel)), (tw1 1 rfl (by decide +kernel)), (tw6 109 rfl (by decide +kernel)), by decide, by decide +kernel⟩
set_option maxRecDepth 100000 in
theorem im_X11_hill : Cond.instanceMethod yX11_hill ∈ T0 := tw6 107 rfl (by decide +kernel)
set_option maxRecDepth 100000 in
theorem sl_X11_hill : Cond.selects yX11_hill.cls yX11_hill yX11_hill ∈ T0 := tw6 108 rfl (by decide +kernel)
set_option maxRecDepth 100000 in
theorem cv_L_23 : CV RL 23 yX11_row 1 cX11_row 2 (some .long) := ⟨Or.inl (tw6 113 rfl (by decide +kernel)), (tw1 1 rfl (by decide +kernel)), (tw6 116 rfl (by decide +kernel)), by decide, by decide +kernel⟩
set_option maxRecDepth 100000 in
theorem im_X11_row : Cond.instanceMethod yX11_row ∈ T0 := tw6 114 rfl (by decide +kernel)
set_option maxRecDepth 100000 in
theorem sl_X11_row : Cond.selects yX11_row.cls yX11_row yX11_row ∈ T0 := tw6 115 rfl (by decide +kernel)
set_option maxRecDepth 100000 in
theorem cv_L_30 : CV RL 30 yX12_init 0 cX12_init 1 none := ⟨Or.inl (tw6 120 rfl (by decide +kernel)), (tw1 13 rfl (by decide +kernel)), (tw6 122 rfl (by decide +kernel)), by decide, by decide +kernel⟩
set_option maxRecDepth 100000 in
theorem im_X12_init : Cond.instanceMethod yX12_init ∈ T0 := tw6 121 rfl (by decide +kernel)
set_option maxRecDepth 100000 in
theorem ml_12_3 : Cond.methodLink RX12 3 Lib.objectInit ∈ T0 := tw6 123 rfl (by decide +kernel)
set_option maxRecDepth 100000 in
theorem cv_L_55 : CV RL 55 yX12_thrown 0 cX12_thrown 1 (some .int) := ⟨Or.inl (tw7 102 rfl (by decide +kernel)), (tw1 13 rfl (by decide +kernel)), (tw7 105 rfl (by decide +kernel)), by decide, by decide +kernel⟩
set_option maxRecDepth 100000 in
theorem im_X12_thrown : Cond.instanceMethod yX12_thrown ∈ T0 := tw7 103 rfl (by decide +kernel)
set_option maxRecDepth 100000 in
theorem sl_X12_thrown : Cond.selects yX12_thrown.cls yX12_thrown yX12_thrown ∈ T0 := tw7 104 rfl (by decide +kernel)
set_option maxRecDepth 100000 in
theorem cv_L_34 : CV RL 34 yX12_sign 1 cX12_sign 3 (some .int) := ⟨Or.inl (tw7 106 rfl (by decide +kernel)), (tw1 13 rfl (by decide +kernel)), (tw7 109 rfl (by decide +kernel)), by decide, by decide +kernel⟩
set_option maxRecDepth 100000 in
theorem im_X12_sign : Cond.instanceMethod yX12_sign ∈ T0 := tw7 107 rfl (by decide +kernel)
set_option maxRecDepth 100000 in
theorem sl_X12_sign : Cond.selects yX12_sign.cls yX12_sign yX12_sign ∈ T0 := tw7 108 rfl (by decide +kernel)
set_option maxRecDepth 100000 in
theorem cv_L_39 : CV RL 39 yX12_end 1 cX12_end 2 (some .boolean) := ⟨Or.inl (tw7 110 rfl (by decide +kernel)), (tw1 13 rfl (by decide +kernel)), (tw7 113 rfl (by decide +kernel)), by decide, by decide +kernel⟩
set_option maxRecDepth 100000 in
theorem im_X12_end : Cond.instanceMethod yX12_end ∈ T0 := tw7 111 rfl (by decide +kernel)
set_option maxRecDepth 100000 in
theorem sl_X12_end : Cond.selects yX12_end.cls yX12_end yX12_end ∈ T0 := tw7 112 rfl (by decide +kernel)
set_option maxRecDepth 100000 in
theorem cv_12_140 : CV RX12 140 yX12_in 3 cX12_in 6 (some .boolean) := ⟨Or.inl (tw7 114 rfl (by decide +kernel)), (tw1 13 rfl (by decide +kernel)), (tw7 116 rfl (by decide +kernel)), by decide, by decide +kernel⟩
set_option maxRecDepth 100000 in
theorem st_X12_in : Cond.static yX12_in ∈ T0 := tw7 115 rfl (by decide +kernel)
set_option maxRecDepth 100000 in
theorem cv_L_44 : CV RL 44 yX12_streets 0 cX12_streets 6 (some .int) := ⟨Or.inl (tw7 117 rfl (by decide +kernel)), (tw1 13 rfl (by decide +kernel)), (tw7 120 rfl (by decide +kernel)), by decide, by decide +kernel⟩
set_option maxRecDepth 100000 in
theorem im_X12_streets : Cond.instanceMethod yX12_streets ∈ T0 := tw7 118 rfl (by decide +kernel)
set_option maxRecDepth 100000 in
theorem sl_X12_streets : Cond.selects yX12_streets.cls yX12_streets yX12_streets ∈ T0 := tw7 119 rfl (by decide +kernel)
set_option maxRecDepth 100000 in
theorem cv_12_210 : CV RX12 210 yX12_begins 1 cX12_begins 3 (some .int) := ⟨Or.inl (tw7 121 rfl (by decide +kernel)), (tw1 13 rfl (by decide +kernel)), (tw7 124 rfl (by decide +kernel)), by decide, by decide +kernel⟩
set_option maxRecDepth 100000 in
theorem im_X12_begins : Cond.instanceMethod yX12_begins ∈ T0 := tw7 123 rfl (by decide +kernel)
theorem sl_X12_begins : Cond.selects yX12_begins.cls yX12_begins yX12_begins ∈ T0 := T0_ofN (by decide +kernel) (by decide +kernel)
set_option maxRecDepth 100000 in
theorem ml_12_157 : Cond.methodLink RX12 157 Lib.Math.min.name ∈ T0 := tw7 125 rfl (by decide +kernel)
set_option maxRecDepth 100000 in
theorem cv_12_213 : CV RX12 213 yX12_readsStreet 0 cX12_readsStreet 4 (some .boolean) := ⟨Or.inl (tw7 126 rfl (by decide +kernel)), (tw1 13 rfl (by decide +kernel)), (tw7 129 rfl (by decide +kernel)), by decide, by decide +kernel⟩
set_option maxRecDepth 100000 in
theorem im_X12_readsStreet : Cond.instanceMethod yX12_readsStreet ∈ T0 := tw7 128 rfl (by decide +kernel)
theorem sl_X12_readsStreet : Cond.selects yX12_readsStreet.cls yX12_readsStreet yX12_readsStreet ∈ T0 := T0_ofN (by decide +kernel) (by decide +kernel)
set_option maxRecDepth 100000 in
theorem cv_12_195 : CV RX12 195 yX12_isNext 1 cX12_isNext 3 (some .boolean) := ⟨Or.inl (tw7 130 rfl (by decide +kernel)), (tw1 13 rfl (by decide +kernel)), (tw7 133 rfl (by decide +kernel)), by decide, by decide +kernel⟩
set_option maxRecDepth 100000 in
theorem im_X12_isNext : Cond.instanceMethod yX12_isNext ∈ T0 := tw7 132 rfl (by decide +kernel)
theorem sl_X12_isNext : Cond.selects yX12_isNext.cls yX12_isNext yX12_isNext ∈ T0 := T0_ofN (by decide +kernel) (by decide +kernel)
set_option maxRecDepth 100000 in
theorem cv_12_166 : CV RX12 166 yX12_flag 1 cX12_flag 1 (some .int) := ⟨Or.inl (tw7 134 rfl (by decide +kernel)), (tw1 13 rfl (by decide +kernel)), (tw7 136 rfl (by decide +kernel)), by decide, by decide +kernel⟩
set_option maxRecDepth 100000 in
theorem st_X12_flag : Cond.static yX12_flag ∈ T0 := tw7 135 rfl (by decide +kernel)
set_option maxRecDepth 100000 in
theorem cv_12_198 : CV RX12 198 yX12_number 1 cX12_number 4 (some .int) := ⟨Or.inl (tw7 137 rfl (by decide +kernel)), (tw1 13 rfl (by decide +kernel)), (tw7 140 rfl (by decide +kernel)), by decide, by decide +kernel⟩
set_option maxRecDepth 100000 in
theorem im_X12_number : Cond.instanceMethod yX12_number ∈ T0 := tw7 139 rfl (by decide +kernel)
theorem sl_X12_number : Cond.selects yX12_number.cls yX12_number yX12_number ∈ T0 := T0_ofN (by decide +kernel) (by decide +kernel)
set_option maxRecDepth 100000 in
theorem cv_12_188 : CV RX12 188 yX12_isDigit 0 cX12_isDigit 1 (some .boolean) := ⟨Or.inl (tw7 141 rfl (by decide +kernel)), (tw1 13 rfl (by decide +kernel)), (tw7 144 rfl (by decide +kernel)), by decide, by decide +kernel⟩
set_option maxRecDepth 100000 in
theorem im_X12_isDigit : Cond.instanceMethod yX12_isDigit ∈ T0 := tw7 143 rfl (by decide +kernel)
theorem sl_X12_isDigit : Cond.selects yX12_isDigit.cls yX12_isDigit yX12_isDigit ∈ T0 := T0_ofN (by decide +kernel) (by decide +kernel)
set_option maxRecDepth 100000 in
theorem cv_12_202 : CV RX12 202 yX12_at 3 cX12_at 3 (some .int) := ⟨Or.inl (tw7 147 rfl (by decide +kernel)), (tw1 13 rfl (by decide +kernel)), (tw7 149 rfl (by decide +kernel)), by decide, by decide +kernel⟩
set_option maxRecDepth 100000 in
theorem st_X12_at : Cond.static yX12_at ∈ T0 := tw7 148 rfl (by decide +kernel)
set_option maxRecDepth 100000 in
theorem cv_12_207 : CV RX12 207 yX12_takesOf 1 cX12_takesOf 3 (some .int) := ⟨Or.inl (tw7 151 rfl (by decide +kernel)), (tw1 13 rfl (by decide +kernel)), (tw7 154 rfl (by decide +kernel)), by decide, by decide +kernel⟩
set_option maxRecDepth 100000 in
theorem im_X12_takesOf : Cond.instanceMethod yX12_takesOf ∈ T0 := tw7 153 rfl (by decide +kernel)
theorem sl_X12_takesOf : Cond.selects yX12_takesOf.cls yX12_takesOf yX12_takesOf ∈ T0 := T0_ofN (by decide +kernel) (by decide +kernel)
set_option maxRecDepth 100000 in
theorem cv_12_184 : CV RX12 184 yX12_among 1 cX12_among 3 (some .int) := ⟨Or.inl (tw7 155 rfl (by decide +kernel)), (tw1 13 rfl (by decide +kernel)), (tw7 158 rfl (by decide +kernel)), by decide, by decide +kernel⟩
set_option maxRecDepth 100000 in
theorem im_X12_among : Cond.instanceMethod yX12_among ∈ T0 := tw7 157 rfl (by decide +kernel)
theorem sl_X12_among : Cond.selects yX12_among.cls yX12_among yX12_among ∈ T0 := T0_ofN (by decide +kernel) (by decide +kernel)
set_option maxRecDepth 100000 in
theorem cv_12_174 : CV RX12 174 yJ0_length_8abf5 0 cJ0_length_8abf5 1 (some .int) := ⟨Or.inl (tw7 159 rfl (by decide +kernel)), (tw1 16 rfl (by decide +kernel)), (tw3 161 rfl (by decide +kernel)), by decide, by decide +kernel⟩
set_option maxRecDepth 100000 in
theorem cv_12_180 : CV RX12 180 yJ0_charAt_5068e 1 cJ0_charAt_5068e 2 (some .char) := ⟨Or.inl (tw7 160 rfl (by decide +kernel)), (tw1 16 rfl (by decide +kernel)), (tw7 163 rfl (by decide +kernel)), by decide, by decide +kernel⟩
set_option maxRecDepth 100000 in
theorem im_J0_charAt_5068e : Cond.instanceMethod yJ0_charAt_5068e ∈ T0 := tw7 161 rfl (by decide +kernel)
set_option maxRecDepth 100000 in
theorem sl_J0_charAt_5068e : Cond.selects yJ0_charAt_5068e.cls yJ0_charAt_5068e yJ0_charAt_5068e ∈ T0 := tw7 162 rfl (by decide +kernel)
set_option maxRecDepth 100000 in
theorem cv_J0_495 : CV RJ0 495 yJ1_charAt_3b067 2 cJ1_charAt_3b067 2 (some .char) := ⟨Or.inl (tw7 164 rfl (by decide +kernel)), (tw1 17 rfl (by decide +kernel)), (tw7 166 rfl (by decide +kernel)), by decide, by decide +kernel⟩
set_option maxRecDepth 100000 in
theorem st_J1_charAt_3b067 : Cond.static yJ1_charAt_3b067 ∈ T0 := tw7 165 rfl (by decide +kernel)
set_option maxRecDepth 100000 in
theorem cv_J1_9 : CV RJ1 9 yJ0_checkIndex_df160 2 cJ0_checkIndex_df160 2 none := ⟨Or.inl (tw7 167 rfl (by decide +kernel)), (tw1 16 rfl (by decide +kernel)), (tw7 169 rfl (by decide +kernel)), by decide, by decide +kernel⟩
set_option maxRecDepth 100000 in
theorem st_J0_checkIndex_df160 : Cond.static yJ0_checkIndex_df160 ∈ T0 := tw7 168 rfl (by decide +kernel)
set_option maxRecDepth 100000 in
theorem cv_J0_1059 : CV RJ0 1059 yJ3_checkIndex_8e157 3 cJ3_checkIndex_8e157 3 (some .int) := ⟨Or.inl (tw7 170 rfl (by decide +kernel)), (tw1 18 rfl (by decide +kernel)), (tw7 172 rfl (by decide +kernel)), by decide, by decide +kernel⟩
set_option maxRecDepth 100000 in
theorem st_J3_checkIndex_8e157 : Cond.static yJ3_checkIndex_8e157 ∈ T0 := tw7 171 rfl (by decide +kernel)
set_option maxRecDepth 100000 in
theorem cv_J0_498 : CV RJ0 498 yJ2_charAt_3b067 2 cJ2_charAt_3b067 2 (some .char) := ⟨Or.inl (tw7 173 rfl (by decide +kernel)), (tw1 19 rfl (by decide +kernel)), (tw7 175 rfl (by decide +kernel)), by decide, by decide +kernel⟩
set_option maxRecDepth 100000 in
theorem st_J2_charAt_3b067 : Cond.static yJ2_charAt_3b067 ∈ T0 := tw7 174 rfl (by decide +kernel)
set_option maxRecDepth 100000 in
theorem cv_J2_67 : CV RJ2 67 yJ2_checkIndex_2214a 2 cJ2_checkIndex_2214a 2 none := ⟨Or.inl (tw7 176 rfl (by decide +kernel)), (tw1 19 rfl (by decide +kernel)), (tw7 178 rfl (by decide +kernel)), by decide, by decide +kernel⟩
set_option maxRecDepth 100000 in
theorem st_J2_checkIndex_2214a : Cond.static yJ2_checkIndex_2214a ∈ T0 := tw7 177 rfl (by decide +kernel)
set_option maxRecDepth 100000 in
theorem cv_J2_414 : CV RJ2 414 yJ0_checkIndex_df160 2 cJ0_checkIndex_df160 2 none := ⟨Or.inl (tw7 179 rfl (by decide +kernel)), (tw1 16 rfl (by decide +kernel)), (tw7 169 rfl (by decide +kernel)), by decide, by decide +kernel⟩
set_option maxRecDepth 100000 in
theorem cv_12_216 : CV RX12 216 yX12_faultOf 3 cX12_faultOf 5 (some .int) := ⟨Or.inl (tw7 180 rfl (by decide +kernel)), (tw1 13 rfl (by decide +kernel)), (tw7 183 rfl (by decide +kernel)), by decide, by decide +kernel⟩
set_option maxRecDepth 100000 in
theorem im_X12_faultOf : Cond.instanceMethod yX12_faultOf ∈ T0 := tw7 182 rfl (by decide +kernel)
theorem sl_X12_faultOf : Cond.selects yX12_faultOf.cls yX12_faultOf yX12_faultOf ∈ T0 := T0_ofN (by decide +kernel) (by decide +kernel)
set_option maxRecDepth 100000 in
theorem cv_12_220 : CV RX12 220 yX12_laysStreet 2 cX12_laysStreet 6 none := ⟨Or.inl (tw7 184 rfl (by decide +kernel)), (tw1 13 rfl (by decide +kernel)), (tw7 187 rfl (by decide +kernel)), by decide, by decide +kernel⟩
set_option maxRecDepth 100000 in
theorem im_X12_laysStreet : Cond.instanceMethod yX12_laysStreet ∈ T0 := tw7 186 rfl (by decide +kernel)
theorem sl_X12_laysStreet : Cond.selects yX12_laysStreet.cls yX12_laysStreet yX12_laysStreet ∈ T0 := T0_ofN (by decide +kernel) (by decide +kernel)
set_option maxRecDepth 100000 in
theorem cv_L_48 : CV RL 48 yX12_rule 0 cX12_rule 5 (some .int) := ⟨Or.inl (tw7 188 rfl (by decide +kernel)), (tw1 13 rfl (by decide +kernel)), (tw7 191 rfl (by decide +kernel)), by decide, by decide +kernel⟩
set_option maxRecDepth 100000 in
theorem im_X12_rule : Cond.instanceMethod yX12_rule ∈ T0 := tw7 189 rfl (by decide +kernel)
set_option maxRecDepth 100000 in
theorem sl_X12_rule : Cond.selects yX12_rule.cls yX12_rule yX12_rule ∈ T0 := tw7 190 rfl (by decide +kernel)
set_option maxRecDepth 100000 in
theorem cv_12_242 : CV RX12 242 yX12_readsRank 1 cX12_readsRank 4 (some .boolean) := ⟨Or.inl (tw7 192 rfl (by decide +kernel)), (tw1 13 rfl (by decide +kernel)), (tw7 195 rfl (by decide +kernel)), by decide, by decide +kernel⟩
set_option maxRecDepth 100000 in
theorem im_X12_readsRank : Cond.instanceMethod yX12_readsRank ∈ T0 := tw7 194 rfl (by decide +kernel)
theorem sl_X12_readsRank : Cond.selects yX12_readsRank.cls yX12_readsRank yX12_readsRank ∈ T0 := T0_ofN (by decide +kernel) (by decide +kernel)
set_option maxRecDepth 100000 in
theorem cv_12_233 : CV RX12 233 yX12_readsThing 0 cX12_readsThing 2 (some .boolean) := ⟨Or.inl (tw7 196 rfl (by decide +kernel)), (tw1 13 rfl (by decide +kernel)), (tw7 199 rfl (by decide +kernel)), by decide, by decide +kernel⟩
set_option maxRecDepth 100000 in
theorem im_X12_readsThing : Cond.instanceMethod yX12_readsThing ∈ T0 := tw7 198 rfl (by decide +kernel)
theorem sl_X12_readsThing : Cond.selects yX12_readsThing.cls yX12_readsThing yX12_readsThing ∈ T0 := T0_ofN (by decide +kernel) (by decide +kernel)
set_option maxRecDepth 100000 in
theorem cv_12_236 : CV RX12 236 yX12_codes 1 cX12_codes 2 none := ⟨Or.inl (tw7 200 rfl (by decide +kernel)), (tw1 13 rfl (by decide +kernel)), (tw7 203 rfl (by decide +kernel)), by decide, by decide +kernel⟩
set_option maxRecDepth 100000 in
theorem im_X12_codes : Cond.instanceMethod yX12_codes ∈ T0 := tw7 202 rfl (by decide +kernel)
theorem sl_X12_codes : Cond.selects yX12_codes.cls yX12_codes yX12_codes ∈ T0 := T0_ofN (by decide +kernel) (by decide +kernel)
set_option maxRecDepth 100000 in
theorem cv_L_54 : CV RL 54 yX12_street 2 cX12_street 5 (some .int) := ⟨Or.inl (tw7 208 rfl (by decide +kernel)), (tw1 13 rfl (by decide +kernel)), (tw7 211 rfl (by decide +kernel)), by decide, by decide +kernel⟩
set_option maxRecDepth 100000 in
theorem im_X12_street : Cond.instanceMethod yX12_street ∈ T0 := tw7 209 rfl (by decide +kernel)
set_option maxRecDepth 100000 in
theorem sl_X12_street : Cond.selects yX12_street.cls yX12_street yX12_street ∈ T0 := tw7 210 rfl (by decide +kernel)
set_option maxRecDepth 100000 in
theorem cv_12_144 : CV RX12 144 yX12_isStreet 1 cX12_isStreet 2 (some .boolean) := ⟨Or.inl (tw7 212 rfl (by decide +kernel)), (tw1 13 rfl (by decide +kernel)), (tw7 215 rfl (by decide +kernel)), by decide, by decide +kernel⟩
set_option maxRecDepth 100000 in
theorem im_X12_isStreet : Cond.instanceMethod yX12_isStreet ∈ T0 := tw7 214 rfl (by decide +kernel)
theorem sl_X12_isStreet : Cond.selects yX12_isStreet.cls yX12_isStreet yX12_isStreet ∈ T0 := T0_ofN (by decide +kernel) (by decide +kernel)
set_option maxRecDepth 100000 in
theorem cv_12_326 : CV RX12 326 yX12_refuse 0 cX12_refuse 1 (some .int) := ⟨Or.inl (tw7 217 rfl (by decide +kernel)), (tw1 13 rfl (by decide +kernel)), (tw7 220 rfl (by decide +kernel)), by decide, by decide +kernel⟩
set_option maxRecDepth 100000 in
theorem im_X12_refuse : Cond.instanceMethod yX12_refuse ∈ T0 := tw7 219 rfl (by decide +kernel)
theorem sl_X12_refuse : Cond.selects yX12_refuse.cls yX12_refuse yX12_refuse ∈ T0 := T0_ofN (by decide +kernel) (by decide +kernel)
set_option maxRecDepth 100000 in
theorem cv_12_329 : CV RX12 329 yX12_outOf 2 cX12_outOf 5 (some .int) := ⟨Or.inl (tw7 221 rfl (by decide +kernel)), (tw1 13 rfl (by decide +kernel)), (tw7 224 rfl (by decide +kernel)), by decide, by decide +kernel⟩
set_option maxRecDepth 100000 in
theorem im_X12_outOf : Cond.instanceMethod yX12_outOf ∈ T0 := tw7 223 rfl (by decide +kernel)
theorem sl_X12_outOf : Cond.selects yX12_outOf.cls yX12_outOf yX12_outOf ∈ T0 := T0_ofN (by decide +kernel) (by decide +kernel)
set_option maxRecDepth 100000 in
theorem cv_12_263 : CV RX12 263 yX12_heavy 1 cX12_heavy 2 (some .int) := ⟨Or.inl (tw7 225 rfl (by decide +kernel)), (tw1 13 rfl (by decide +kernel)), (tw7 228 rfl (by decide +kernel)), by decide, by decide +kernel⟩
set_option maxRecDepth 100000 in
theorem im_X12_heavy : Cond.instanceMethod yX12_heavy ∈ T0 := tw7 227 rfl (by decide +kernel)
theorem sl_X12_heavy : Cond.selects yX12_heavy.cls yX12_heavy yX12_heavy ∈ T0 := T0_ofN (by decide +kernel) (by decide +kernel)
set_option maxRecDepth 100000 in
theorem cv_12_260 : CV RX12 260 yX12_heavyBy 2 cX12_heavyBy 3 (some .int) := ⟨Or.inl (tw7 229 rfl (by decide +kernel)), (tw1 13 rfl (by decide +kernel)), (tw7 232 rfl (by decide +kernel)), by decide, by decide +kernel⟩
set_option maxRecDepth 100000 in
theorem im_X12_heavyBy : Cond.instanceMethod yX12_heavyBy ∈ T0 := tw7 231 rfl (by decide +kernel)
theorem sl_X12_heavyBy : Cond.selects yX12_heavyBy.cls yX12_heavyBy yX12_heavyBy ∈ T0 := T0_ofN (by decide +kernel) (by decide +kernel)
set_option maxRecDepth 100000 in
theorem cv_L_61 : CV RL 61 yX12_bin 4 cX12_bin 6 (some .int) := ⟨Or.inl (tw7 233 rfl (by decide +kernel)), (tw1 13 rfl (by decide +kernel)), (tw7 236 rfl (by decide +kernel)), by decide, by decide +kernel⟩
set_option maxRecDepth 100000 in
theorem im_X12_bin : Cond.instanceMethod yX12_bin ∈ T0 := tw7 234 rfl (by decide +kernel)
set_option maxRecDepth 100000 in
theorem sl_X12_bin : Cond.selects yX12_bin.cls yX12_bin yX12_bin ∈ T0 := tw7 235 rfl (by decide +kernel)
set_option maxRecDepth 100000 in
theorem cv_12_332 : CV RX12 332 yX12_isHouse 3 cX12_isHouse 4 (some .boolean) := ⟨Or.inl (tw7 237 rfl (by decide +kernel)), (tw1 13 rfl (by decide +kernel)), (tw8 0 rfl (by decide +kernel)), by decide, by decide +kernel⟩
set_option maxRecDepth 100000 in
theorem im_X12_isHouse : Cond.instanceMethod yX12_isHouse ∈ T0 := tw7 239 rfl (by decide +kernel)
theorem sl_X12_isHouse : Cond.selects yX12_isHouse.cls yX12_isHouse yX12_isHouse ∈ T0 := T0_ofN (by decide +kernel) (by decide +kernel)
set_option maxRecDepth 100000 in
theorem cv_12_317 : CV RX12 317 yX12_thinksAsIs 1 cX12_thinksAsIs 2 none := ⟨Or.inl (tw8 2 rfl (by decide +kernel)), (tw1 13 rfl (by decide +kernel)), (tw8 5 rfl (by decide +kernel)), by decide, by decide +kernel⟩
set_option maxRecDepth 100000 in
theorem im_X12_thinksAsIs : Cond.instanceMethod yX12_thinksAsIs ∈ T0 := tw8 4 rfl (by decide +kernel)
theorem sl_X12_thinksAsIs : Cond.selects yX12_thinksAsIs.cls yX12_thinksAsIs yX12_thinksAsIs ∈ T0 := T0_ofN (by decide +kernel) (by decide +kernel)
set_option maxRecDepth 100000 in
theorem cv_12_291 : CV RX12 291 yX12_secondsOf 4 cX12_secondsOf 5 (some .int) := ⟨Or.inl (tw8 6 rfl (by decide +kernel)), (tw1 13 rfl (by decide +kernel)), (tw8 9 rfl (by decide +kernel)), by decide, by decide +kernel⟩
set_option maxRecDepth 100000 in
theorem im_X12_secondsOf : Cond.instanceMethod yX12_secondsOf ∈ T0 := tw8 8 rfl (by decide +kernel)
theorem sl_X12_secondsOf : Cond.selects yX12_secondsOf.cls yX12_secondsOf yX12_secondsOf ∈ T0 := T0_ofN (by decide +kernel) (by decide +kernel)
set_option maxRecDepth 100000 in
theorem cv_12_272 : CV RX12 272 yX12_ruled 0 cX12_ruled 4 (some .int) := ⟨Or.inl (tw8 10 rfl (by decide +kernel)), (tw1 13 rfl (by decide +kernel)), (tw8 13 rfl (by decide +kernel)), by decide, by decide +kernel⟩
set_option maxRecDepth 100000 in
theorem im_X12_ruled : Cond.instanceMethod yX12_ruled ∈ T0 := tw8 12 rfl (by decide +kernel)
theorem sl_X12_ruled : Cond.selects yX12_ruled.cls yX12_ruled yX12_ruled ∈ T0 := T0_ofN (by decide +kernel) (by decide +kernel)
set_option maxRecDepth 100000 in
theorem cv_12_254 : CV RX12 254 yX12_worked 3 cX12_worked 3 (some .int) := ⟨Or.inl (tw8 14 rfl (by decide +kernel)), (tw1 13 rfl (by decide +kernel)), (tw8 16 rfl (by decide +kernel)), by decide, by decide +kernel⟩
set_option maxRecDepth 100000 in
theorem st_X12_worked : Cond.static yX12_worked ∈ T0 := tw8 15 rfl (by decide +kernel)
set_option maxRecDepth 100000 in
theorem ml_12_257 : Cond.methodLink RX12 257 Lib.Math.max.name ∈ T0 := tw8 17 rfl (by decide +kernel)
set_option maxRecDepth 100000 in
theorem cv_L_65 : CV RL 65 yX12_set 2 cX12_set 6 (some .int) := ⟨Or.inl (tw8 18 rfl (by decide +kernel)), (tw1 13 rfl (by decide +kernel)), (tw8 21 rfl (by decide +kernel)), by decide, by decide +kernel⟩
set_option maxRecDepth 100000 in
theorem im_X12_set : Cond.instanceMethod yX12_set ∈ T0 := tw8 19 rfl (by decide +kernel)
set_option maxRecDepth 100000 in
theorem sl_X12_set : Cond.selects yX12_set.cls yX12_set yX12_set ∈ T0 := tw8 20 rfl (by decide +kernel)
set_option maxRecDepth 100000 in
theorem cv_L_69 : CV RL 69 yX12_dayOf 2 cX12_dayOf 4 (some .int) := ⟨Or.inl (tw8 23 rfl (by decide +kernel)), (tw1 13 rfl (by decide +kernel)), (tw8 26 rfl (by decide +kernel)), by decide, by decide +kernel⟩
set_option maxRecDepth 100000 in
theorem im_X12_dayOf : Cond.instanceMethod yX12_dayOf ∈ T0 := tw8 24 rfl (by decide +kernel)
set_option maxRecDepth 100000 in
theorem sl_X12_dayOf : Cond.selects yX12_dayOf.cls yX12_dayOf yX12_dayOf ∈ T0 := tw8 25 rfl (by decide +kernel)
set_option maxRecDepth 100000 in
theorem cv_L_73 : CV RL 73 yX12_sheet 4 cX12_sheet 9 (some .int) := ⟨Or.inl (tw8 27 rfl (by decide +kernel)), (tw1 13 rfl (by decide +kernel)), (tw8 30 rfl (by decide +kernel)), by decide, by decide +kernel⟩
set_option maxRecDepth 100000 in
theorem im_X12_sheet : Cond.instanceMethod yX12_sheet ∈ T0 := tw8 28 rfl (by decide +kernel)
set_option maxRecDepth 100000 in
theorem sl_X12_sheet : Cond.selects yX12_sheet.cls yX12_sheet yX12_sheet ∈ T0 := tw8 29 rfl (by decide +kernel)
set_option maxRecDepth 100000 in
theorem cv_L_101 : CV RL 101 yX12_undo 0 cX12_undo 2 (some .int) := ⟨Or.inl (tw8 31 rfl (by decide +kernel)), (tw1 13 rfl (by decide +kernel)), (tw8 34 rfl (by decide +kernel)), by decide, by decide +kernel⟩
set_option maxRecDepth 100000 in
theorem im_X12_undo : Cond.instanceMethod yX12_undo ∈ T0 := tw8 32 rfl (by decide +kernel)
set_option maxRecDepth 100000 in
theorem sl_X12_undo : Cond.selects yX12_undo.cls yX12_undo yX12_undo ∈ T0 := tw8 33 rfl (by decide +kernel)
set_option maxRecDepth 100000 in
theorem cv_L_77 : CV RL 77 yX12_drive 1 cX12_drive 2 (some .int) := ⟨Or.inl (tw8 35 rfl (by decide +kernel)), (tw1 13 rfl (by decide +kernel)), (tw8 38 rfl (by decide +kernel)), by decide, by decide +kernel⟩
set_option maxRecDepth 100000 in
theorem im_X12_drive : Cond.instanceMethod yX12_drive ∈ T0 := tw8 36 rfl (by decide +kernel)
set_option maxRecDepth 100000 in
theorem sl_X12_drive : Cond.selects yX12_drive.cls yX12_drive yX12_drive ∈ T0 := tw8 37 rfl (by decide +kernel)
set_option maxRecDepth 100000 in
theorem cv_12_365 : CV RX12 365 yX12_putsBy 0 cX12_putsBy 2 none := ⟨Or.inl (tw8 39 rfl (by decide +kernel)), (tw1 13 rfl (by decide +kernel)), (tw8 42 rfl (by decide +kernel)), by decide, by decide +kernel⟩
set_option maxRecDepth 100000 in
theorem im_X12_putsBy : Cond.instanceMethod yX12_putsBy ∈ T0 := tw8 41 rfl (by decide +kernel)
theorem sl_X12_putsBy : Cond.selects yX12_putsBy.cls yX12_putsBy yX12_putsBy ∈ T0 := T0_ofN (by decide +kernel) (by decide +kernel)
set_option maxRecDepth 100000 in
theorem cv_12_359 : CV RX12 359 yX12_drives 2 cX12_drives 4 (some .int) := ⟨Or.inl (tw8 43 rfl (by decide +kernel)), (tw1 13 rfl (by decide +kernel)), (tw8 46 rfl (by decide +kernel)), by decide, by decide +kernel⟩
set_option maxRecDepth 100000 in
theorem im_X12_drives : Cond.instanceMethod yX12_drives ∈ T0 := tw8 45 rfl (by decide +kernel)
theorem sl_X12_drives : Cond.selects yX12_drives.cls yX12_drives yX12_drives ∈ T0 := T0_ofN (by decide +kernel) (by decide +kernel)
set_option maxRecDepth 100000 in
theorem ml_12_343 : Cond.methodLink RX12 343 Lib.Math.abs.name ∈ T0 := tw8 47 rfl (by decide +kernel)
set_option maxRecDepth 100000 in
theorem cv_12_340 : CV RX12 340 yX12_adds 1 cX12_adds 3 (some .int) := ⟨Or.inl (tw8 48 rfl (by decide +kernel)), (tw1 13 rfl (by decide +kernel)), (tw8 51 rfl (by decide +kernel)), by decide, by decide +kernel⟩
set_option maxRecDepth 100000 in
theorem im_X12_adds : Cond.instanceMethod yX12_adds ∈ T0 := tw8 50 rfl (by decide +kernel)
theorem sl_X12_adds : Cond.selects yX12_adds.cls yX12_adds yX12_adds ∈ T0 := T0_ofN (by decide +kernel) (by decide +kernel)
set_option maxRecDepth 100000 in
theorem cv_L_81 : CV RL 81 yX12_empty 2 cX12_empty 4 (some .int) := ⟨Or.inl (tw8 52 rfl (by decide +kernel)), (tw1 13 rfl (by decide +kernel)), (tw8 55 rfl (by decide +kernel)), by decide, by decide +kernel⟩
set_option maxRecDepth 100000 in
theorem im_X12_empty : Cond.instanceMethod yX12_empty ∈ T0 := tw8 53 rfl (by decide +kernel)
set_option maxRecDepth 100000 in
theorem sl_X12_empty : Cond.selects yX12_empty.cls yX12_empty yX12_empty ∈ T0 := tw8 54 rfl (by decide +kernel)
set_option maxRecDepth 100000 in
theorem cv_12_368 : CV RX12 368 yX12_empties 2 cX12_empties 5 (some .int) := ⟨Or.inl (tw8 56 rfl (by decide +kernel)), (tw1 13 rfl (by decide +kernel)), (tw8 59 rfl (by decide +kernel)), by decide, by decide +kernel⟩
set_option maxRecDepth 100000 in
theorem im_X12_empties : Cond.instanceMethod yX12_empties ∈ T0 := tw8 58 rfl (by decide +kernel)
theorem sl_X12_empties : Cond.selects yX12_empties.cls yX12_empties yX12_empties ∈ T0 := T0_ofN (by decide +kernel) (by decide +kernel)
set_option maxRecDepth 100000 in
theorem cv_12_352 : CV RX12 352 yX12_whyNot 2 cX12_whyNot 3 (some .int) := ⟨Or.inl (tw8 60 rfl (by decide +kernel)), (tw1 13 rfl (by decide +kernel)), (tw8 63 rfl (by decide +kernel)), by decide, by decide +kernel⟩
set_option maxRecDepth 100000 in
theorem im_X12_whyNot : Cond.instanceMethod yX12_whyNot ∈ T0 := tw8 62 rfl (by decide +kernel)
theorem sl_X12_whyNot : Cond.selects yX12_whyNot.cls yX12_whyNot yX12_whyNot ∈ T0 := T0_ofN (by decide +kernel) (by decide +kernel)
set_option maxRecDepth 100000 in
theorem cv_12_348 : CV RX12 348 yX12_isBarred 2 cX12_isBarred 3 (some .boolean) := ⟨Or.inl (tw8 65 rfl (by decide +kernel)), (tw1 13 rfl (by decide +kernel)), (tw8 68 rfl (by decide +kernel)), by decide, by decide +kernel⟩
set_option maxRecDepth 100000 in
theorem im_X12_isBarred : Cond.instanceMethod yX12_isBarred ∈ T0 := tw8 67 rfl (by decide +kernel)
theorem sl_X12_isBarred : Cond.selects yX12_isBarred.cls yX12_isBarred yX12_isBarred ∈ T0 := T0_ofN (by decide +kernel) (by decide +kernel)
set_option maxRecDepth 100000 in
theorem cv_12_307 : CV RX12 307 yX12_streetGoes 4 cX12_streetGoes 7 (some .int) := ⟨Or.inl (tw8 69 rfl (by decide +kernel)), (tw1 13 rfl (by decide +kernel)), (tw8 72 rfl (by decide +kernel)), by decide, by decide +kernel⟩
set_option maxRecDepth 100000 in
theorem im_X12_streetGoes : Cond.instanceMethod yX12_streetGoes ∈ T0 := tw8 71 rfl (by decide +kernel)
theorem sl_X12_streetGoes : Cond.selects yX12_streetGoes.cls yX12_streetGoes yX12_streetGoes ∈ T0 := T0_ofN (by decide +kernel) (by decide +kernel)
set_option maxRecDepth 100000 in
theorem cv_12_295 : CV RX12 295 yX12_binGoes 6 cX12_binGoes 9 none := ⟨Or.inl (tw8 73 rfl (by decide +kernel)), (tw1 13 rfl (by decide +kernel)), (tw8 76 rfl (by decide +kernel)), by decide, by decide +kernel⟩
set_option maxRecDepth 100000 in
theorem im_X12_binGoes : Cond.instanceMethod yX12_binGoes ∈ T0 := tw8 75 rfl (by decide +kernel)
theorem sl_X12_binGoes : Cond.selects yX12_binGoes.cls yX12_binGoes yX12_binGoes ∈ T0 := T0_ofN (by decide +kernel) (by decide +kernel)
set_option maxRecDepth 100000 in
theorem cv_12_371 : CV RX12 371 yX12_enters 1 cX12_enters 3 none := ⟨Or.inl (tw8 77 rfl (by decide +kernel)), (tw1 13 rfl (by decide +kernel)), (tw8 80 rfl (by decide +kernel)), by decide, by decide +kernel⟩
set_option maxRecDepth 100000 in
theorem im_X12_enters : Cond.instanceMethod yX12_enters ∈ T0 := tw8 79 rfl (by decide +kernel)
theorem sl_X12_enters : Cond.selects yX12_enters.cls yX12_enters yX12_enters ∈ T0 := T0_ofN (by decide +kernel) (by decide +kernel)
set_option maxRecDepth 100000 in
theorem cv_12_375 : CV RX12 375 yX12_counts 1 cX12_counts 2 (some .int) := ⟨Or.inl (tw8 81 rfl (by decide +kernel)), (tw1 13 rfl (by decide +kernel)), (tw8 84 rfl (by decide +kernel)), by decide, by decide +kernel⟩
set_option maxRecDepth 100000 in
theorem im_X12_counts : Cond.instanceMethod yX12_counts ∈ T0 := tw8 83 rfl (by decide +kernel)
theorem sl_X12_counts : Cond.selects yX12_counts.cls yX12_counts yX12_counts ∈ T0 := T0_ofN (by decide +kernel) (by decide +kernel)
set_option maxRecDepth 100000 in
theorem cv_L_85 : CV RL 85 yX12_tip 0 cX12_tip 2 (some .int) := ⟨Or.inl (tw8 85 rfl (by decide +kernel)), (tw1 13 rfl (by decide +kernel)), (tw8 88 rfl (by decide +kernel)), by decide, by decide +kernel⟩
set_option maxRecDepth 100000 in
theorem im_X12_tip : Cond.instanceMethod yX12_tip ∈ T0 := tw8 86 rfl (by decide +kernel)
set_option maxRecDepth 100000 in
theorem sl_X12_tip : Cond.selects yX12_tip.cls yX12_tip yX12_tip ∈ T0 := tw8 87 rfl (by decide +kernel)
set_option maxRecDepth 100000 in
theorem cv_12_378 : CV RX12 378 yX12_tips 1 cX12_tips 3 (some .int) := ⟨Or.inl (tw8 89 rfl (by decide +kernel)), (tw1 13 rfl (by decide +kernel)), (tw8 92 rfl (by decide +kernel)), by decide, by decide +kernel⟩
set_option maxRecDepth 100000 in
theorem im_X12_tips : Cond.instanceMethod yX12_tips ∈ T0 := tw8 91 rfl (by decide +kernel)
theorem sl_X12_tips : Cond.selects yX12_tips.cls yX12_tips yX12_tips ∈ T0 := T0_ofN (by decide +kernel) (by decide +kernel)
set_option maxRecDepth 100000 in
theorem cv_12_355 : CV RX12 355 yX12_isShut 1 cX12_isShut 2 (some .boolean) := ⟨Or.inl (tw8 93 rfl (by decide +kernel)), (tw1 13 rfl (by decide +kernel)), (tw8 96 rfl (by decide +kernel)), by decide, by decide +kernel⟩
set_option maxRecDepth 100000 in
theorem im_X12_isShut : Cond.instanceMethod yX12_isShut ∈ T0 := tw8 95 rfl (by decide +kernel)
theorem sl_X12_isShut : Cond.selects yX12_isShut.cls yX12_isShut yX12_isShut ∈ T0 := T0_ofN (by decide +kernel) (by decide +kernel)
set_option maxRecDepth 100000 in
theorem cv_L_89 : CV RL 89 yX12_pause 1 cX12_pause 2 (some .int) := ⟨Or.inl (tw8 97 rfl (by decide +kernel)), (tw1 13 rfl (by decide +kernel)), (tw8 100 rfl (by decide +kernel)), by decide, by decide +kernel⟩
set_option maxRecDepth 100000 in
theorem im_X12_pause : Cond.instanceMethod yX12_pause ∈ T0 := tw8 98 rfl (by decide +kernel)
set_option maxRecDepth 100000 in
theorem sl_X12_pause : Cond.selects yX12_pause.cls yX12_pause yX12_pause ∈ T0 := tw8 99 rfl (by decide +kernel)
set_option maxRecDepth 100000 in
theorem cv_L_93 : CV RL 93 yX12_week 0 cX12_week 2 (some .int) := ⟨Or.inl (tw8 102 rfl (by decide +kernel)), (tw1 13 rfl (by decide +kernel)), (tw8 105 rfl (by decide +kernel)), by decide, by decide +kernel⟩
set_option maxRecDepth 100000 in
theorem im_X12_week : Cond.instanceMethod yX12_week ∈ T0 := tw8 103 rfl (by decide +kernel)
set_option maxRecDepth 100000 in
theorem sl_X12_week : Cond.selects yX12_week.cls yX12_week yX12_week ∈ T0 := tw8 104 rfl (by decide +kernel)
set_option maxRecDepth 100000 in
theorem cv_12_384 : CV RX12 384 yX12_allBy 1 cX12_allBy 4 (some .int) := ⟨Or.inl (tw8 106 rfl (by decide +kernel)), (tw1 13 rfl (by decide +kernel)), (tw8 109 rfl (by decide +kernel)), by decide, by decide +kernel⟩
set_option maxRecDepth 100000 in
theorem im_X12_allBy : Cond.instanceMethod yX12_allBy ∈ T0 := tw8 108 rfl (by decide +kernel)
theorem sl_X12_allBy : Cond.selects yX12_allBy.cls yX12_allBy yX12_allBy ∈ T0 := T0_ofN (by decide +kernel) (by decide +kernel)
set_option maxRecDepth 100000 in
theorem cv_L_97 : CV RL 97 yX12_round 0 cX12_round 7 (some .int) := ⟨Or.inl (tw8 110 rfl (by decide +kernel)), (tw1 13 rfl (by decide +kernel)), (tw8 113 rfl (by decide +kernel)), by decide, by decide +kernel⟩
set_option maxRecDepth 100000 in
theorem im_X12_round : Cond.instanceMethod yX12_round ∈ T0 := tw8 111 rfl (by decide +kernel)
set_option maxRecDepth 100000 in
theorem sl_X12_round : Cond.selects yX12_round.cls yX12_round yX12_round ∈ T0 := tw8 112 rfl (by decide +kernel)
set_option maxRecDepth 100000 in
theorem cv_12_397 : CV RX12 397 yX12_readsAct 0 cX12_readsAct 2 (some .boolean) := ⟨Or.inl (tw8 114 rfl (by decide +kernel)), (tw1 13 rfl (by decide +kernel)), (tw8 117 rfl (by decide +kernel)), by decide, by decide +kernel⟩
set_option maxRecDepth 100000 in
theorem im_X12_readsAct : Cond.instanceMethod yX12_readsAct ∈ T0 := tw8 116 rfl (by decide +kernel)
theorem sl_X12_readsAct : Cond.selects yX12_readsAct.cls yX12_readsAct yX12_readsAct ∈ T0 := T0_ofN (by decide +kernel) (by decide +kernel)
set_option maxRecDepth 100000 in
theorem cv_12_400 : CV RX12 400 yX12_does 1 cX12_does 4 (some .boolean) := ⟨Or.inl (tw8 120 rfl (by decide +kernel)), (tw1 13 rfl (by decide +kernel)), (tw8 123 rfl (by decide +kernel)), by decide, by decide +kernel⟩
set_option maxRecDepth 100000 in
theorem im_X12_does : Cond.instanceMethod yX12_does ∈ T0 := tw8 122 rfl (by decide +kernel)
theorem sl_X12_does : Cond.selects yX12_does.cls yX12_does yX12_does ∈ T0 := T0_ofN (by decide +kernel) (by decide +kernel)
set_option maxRecDepth 100000 in
theorem cv_L_105 : CV RL 105 yX12_takes 2 cX12_takes 4 (some .int) := ⟨Or.inl (tw8 124 rfl (by decide +kernel)), (tw1 13 rfl (by decide +kernel)), (tw8 127 rfl (by decide +kernel)), by decide, by decide +kernel⟩
set_option maxRecDepth 100000 in
theorem im_X12_takes : Cond.instanceMethod yX12_takes ∈ T0 := tw8 125 rfl (by decide +kernel)
set_option maxRecDepth 100000 in
theorem sl_X12_takes : Cond.selects yX12_takes.cls yX12_takes yX12_takes ∈ T0 := tw8 126 rfl (by decide +kernel)
set_option maxRecDepth 100000 in
theorem cv_12_311 : CV RX12 311 yX12_takesOf_ 3 cX12_takesOf_ 4 (some .int) := ⟨Or.inl (tw8 128 rfl (by decide +kernel)), (tw1 13 rfl (by decide +kernel)), (tw8 131 rfl (by decide +kernel)), by decide, by decide +kernel⟩
set_option maxRecDepth 100000 in
theorem im_X12_takesOf_ : Cond.instanceMethod yX12_takesOf_ ∈ T0 := tw8 130 rfl (by decide +kernel)
theorem sl_X12_takesOf_ : Cond.selects yX12_takesOf_.cls yX12_takesOf_ yX12_takesOf_ ∈ T0 := T0_ofN (by decide +kernel) (by decide +kernel)
set_option maxRecDepth 100000 in
theorem cv_12_302 : CV RX12 302 yX12_puts 2 cX12_puts 3 none := ⟨Or.inl (tw8 132 rfl (by decide +kernel)), (tw1 13 rfl (by decide +kernel)), (tw8 134 rfl (by decide +kernel)), by decide, by decide +kernel⟩
set_option maxRecDepth 100000 in
theorem st_X12_puts : Cond.static yX12_puts ∈ T0 := tw8 133 rfl (by decide +kernel)
set_option maxRecDepth 100000 in
theorem cv_L_109 : CV RL 109 yX12_best 1 cX12_best 3 (some .int) := ⟨Or.inl (tw8 136 rfl (by decide +kernel)), (tw1 13 rfl (by decide +kernel)), (tw8 139 rfl (by decide +kernel)), by decide, by decide +kernel⟩
set_option maxRecDepth 100000 in
theorem im_X12_best : Cond.instanceMethod yX12_best ∈ T0 := tw8 137 rfl (by decide +kernel)
set_option maxRecDepth 100000 in
theorem sl_X12_best : Cond.selects yX12_best.cls yX12_best yX12_best ∈ T0 := tw8 138 rfl (by decide +kernel)
set_option maxRecDepth 100000 in
theorem cv_12_320 : CV RX12 320 yX12_bestOf 2 cX12_bestOf 6 (some .int) := ⟨Or.inl (tw8 140 rfl (by decide +kernel)), (tw1 13 rfl (by decide +kernel)), (tw8 143 rfl (by decide +kernel)), by decide, by decide +kernel⟩
set_option maxRecDepth 100000 in
theorem im_X12_bestOf : Cond.instanceMethod yX12_bestOf ∈ T0 := tw8 142 rfl (by decide +kernel)
theorem sl_X12_bestOf : Cond.selects yX12_bestOf.cls yX12_bestOf yX12_bestOf ∈ T0 := T0_ofN (by decide +kernel) (by decide +kernel)
set_option maxRecDepth 100000 in
theorem cv_L_113 : CV RL 113 yX12_less 1 cX12_less 4 (some .int) := ⟨Or.inl (tw8 144 rfl (by decide +kernel)), (tw1 13 rfl (by decide +kernel)), (tw8 147 rfl (by decide +kernel)), by decide, by decide +kernel⟩
set_option maxRecDepth 100000 in
theorem im_X12_less : Cond.instanceMethod yX12_less ∈ T0 := tw8 145 rfl (by decide +kernel)
set_option maxRecDepth 100000 in
theorem sl_X12_less : Cond.selects yX12_less.cls yX12_less yX12_less ∈ T0 := tw8 146 rfl (by decide +kernel)
set_option maxRecDepth 100000 in
theorem cv_12_403 : CV RX12 403 yX12_bestNow 1 cX12_bestNow 2 (some .int) := ⟨Or.inl (tw8 148 rfl (by decide +kernel)), (tw1 13 rfl (by decide +kernel)), (tw8 151 rfl (by decide +kernel)), by decide, by decide +kernel⟩
set_option maxRecDepth 100000 in
theorem im_X12_bestNow : Cond.instanceMethod yX12_bestNow ∈ T0 := tw8 150 rfl (by decide +kernel)
theorem sl_X12_bestNow : Cond.selects yX12_bestNow.cls yX12_bestNow yX12_bestNow ∈ T0 := T0_ofN (by decide +kernel) (by decide +kernel)
set_option maxRecDepth 100000 in
theorem cv_L_117 : CV RL 117 yX12_line 1 cX12_line 7 (some .int) := ⟨Or.inl (tw8 152 rfl (by decide +kernel)), (tw1 13 rfl (by decide +kernel)), (tw8 155 rfl (by decide +kernel)), by decide, by decide +kernel⟩
set_option maxRecDepth 100000 in
theorem im_X12_line : Cond.instanceMethod yX12_line ∈ T0 := tw8 153 rfl (by decide +kernel)
set_option maxRecDepth 100000 in
theorem sl_X12_line : Cond.selects yX12_line.cls yX12_line yX12_line ∈ T0 := tw8 154 rfl (by decide +kernel)
set_option maxRecDepth 100000 in
theorem cv_12_409 : CV RX12 409 yX12_laysNear 2 cX12_laysNear 4 none := ⟨Or.inl (tw8 156 rfl (by decide +kernel)), (tw1 13 rfl (by decide +kernel)), (tw8 159 rfl (by decide +kernel)), by decide, by decide +kernel⟩
set_option maxRecDepth 100000 in
theorem im_X12_laysNear : Cond.instanceMethod yX12_laysNear ∈ T0 := tw8 158 rfl (by decide +kernel)
theorem sl_X12_laysNear : Cond.selects yX12_laysNear.cls yX12_laysNear yX12_laysNear ∈ T0 := T0_ofN (by decide +kernel) (by decide +kernel)
set_option maxRecDepth 100000 in
theorem cv_L_121 : CV RL 121 yX12_hill 1 cX12_hill 3 (some .int) := ⟨Or.inl (tw8 161 rfl (by decide +kernel)), (tw1 13 rfl (by decide +kernel)), (tw8 164 rfl (by decide +kernel)), by decide, by decide +kernel⟩
set_option maxRecDepth 100000 in
theorem im_X12_hill : Cond.instanceMethod yX12_hill ∈ T0 := tw8 162 rfl (by decide +kernel)
set_option maxRecDepth 100000 in
theorem sl_X12_hill : Cond.selects yX12_hill.cls yX12_hill yX12_hill ∈ T0 := tw8 163 rfl (by decide +kernel)
set_option maxRecDepth 100000 in
theorem cv_L_125 : CV RL 125 yX12_wet 2 cX12_wet 7 (some .int) := ⟨Or.inl (tw8 165 rfl (by decide +kernel)), (tw1 13 rfl (by decide +kernel)), (tw8 168 rfl (by decide +kernel)), by decide, by decide +kernel⟩
set_option maxRecDepth 100000 in
theorem im_X12_wet : Cond.instanceMethod yX12_wet ∈ T0 := tw8 166 rfl (by decide +kernel)
set_option maxRecDepth 100000 in
theorem sl_X12_wet : Cond.selects yX12_wet.cls yX12_wet yX12_wet ∈ T0 := tw8 167 rfl (by decide +kernel)
set_option maxRecDepth 100000 in
theorem cv_L_129 : CV RL 129 yX12_order 0 cX12_order 6 (some .int) := ⟨Or.inl (tw8 170 rfl (by decide +kernel)), (tw1 13 rfl (by decide +kernel)), (tw8 173 rfl (by decide +kernel)), by decide, by decide +kernel⟩
set_option maxRecDepth 100000 in
theorem im_X12_order : Cond.instanceMethod yX12_order ∈ T0 := tw8 171 rfl (by decide +kernel)
set_option maxRecDepth 100000 in
theorem sl_X12_order : Cond.selects yX12_order.cls yX12_order yX12_order ∈ T0 := tw8 172 rfl (by decide +kernel)
set_option maxRecDepth 100000 in
theorem cv_12_425 : CV RX12 425 yX12_has 2 cX12_has 2 (some .boolean) := ⟨Or.inl (tw8 174 rfl (by decide +kernel)), (tw1 13 rfl (by decide +kernel)), (tw8 176 rfl (by decide +kernel)), by decide, by decide +kernel⟩
set_option maxRecDepth 100000 in
theorem st_X12_has : Cond.static yX12_has ∈ T0 := tw8 175 rfl (by decide +kernel)
set_option maxRecDepth 100000 in
theorem cv_12_429 : CV RX12 429 yX12_goesRound 0 cX12_goesRound 4 (some .int) := ⟨Or.inl (tw8 177 rfl (by decide +kernel)), (tw1 13 rfl (by decide +kernel)), (tw8 180 rfl (by decide +kernel)), by decide, by decide +kernel⟩
set_option maxRecDepth 100000 in
theorem im_X12_goesRound : Cond.instanceMethod yX12_goesRound ∈ T0 := tw8 179 rfl (by decide +kernel)
theorem sl_X12_goesRound : Cond.selects yX12_goesRound.cls yX12_goesRound yX12_goesRound ∈ T0 := T0_ofN (by decide +kernel) (by decide +kernel)
set_option maxRecDepth 100000 in
theorem cv_12_422 : CV RX12 422 yX12_wouldLoad 2 cX12_wouldLoad 5 (some .int) := ⟨Or.inl (tw8 181 rfl (by decide +kernel)), (tw1 13 rfl (by decide +kernel)), (tw8 184 rfl (by decide +kernel)), by decide, by decide +kernel⟩
set_option maxRecDepth 100000 in
theorem im_X12_wouldLoad : Cond.instanceMethod yX12_wouldLoad ∈ T0 := tw8 183 rfl (by decide +kernel)
theorem sl_X12_wouldLoad : Cond.selects yX12_wouldLoad.cls yX12_wouldLoad yX12_wouldLoad ∈ T0 := T0_ofN (by decide +kernel) (by decide +kernel)
set_option maxRecDepth 100000 in
theorem cv_L_133 : CV RL 133 yX12_soonest 1 cX12_soonest 4 (some .int) := ⟨Or.inl (tw8 185 rfl (by decide +kernel)), (tw1 13 rfl (by decide +kernel)), (tw8 188 rfl (by decide +kernel)), by decide, by decide +kernel⟩
set_option maxRecDepth 100000 in
theorem im_X12_soonest : Cond.instanceMethod yX12_soonest ∈ T0 := tw8 186 rfl (by decide +kernel)
set_option maxRecDepth 100000 in
theorem sl_X12_soonest : Cond.selects yX12_soonest.cls yX12_soonest yX12_soonest ∈ T0 := tw8 187 rfl (by decide +kernel)
set_option maxRecDepth 100000 in
theorem cv_12_438 : CV RX12 438 yX12_all 0 cX12_all 1 (some .int) := ⟨Or.inl (tw8 189 rfl (by decide +kernel)), (tw1 13 rfl (by decide +kernel)), (tw8 192 rfl (by decide +kernel)), by decide, by decide +kernel⟩
set_option maxRecDepth 100000 in
theorem im_X12_all : Cond.instanceMethod yX12_all ∈ T0 := tw8 191 rfl (by decide +kernel)
theorem sl_X12_all : Cond.selects yX12_all.cls yX12_all yX12_all ∈ T0 := T0_ofN (by decide +kernel) (by decide +kernel)
set_option maxRecDepth 100000 in
theorem cv_12_441 : CV RX12 441 yX12_quickestOf 1 cX12_quickestOf 2 (some .int) := ⟨Or.inl (tw8 193 rfl (by decide +kernel)), (tw1 13 rfl (by decide +kernel)), (tw8 196 rfl (by decide +kernel)), by decide, by decide +kernel⟩
set_option maxRecDepth 100000 in
theorem im_X12_quickestOf : Cond.instanceMethod yX12_quickestOf ∈ T0 := tw8 195 rfl (by decide +kernel)
theorem sl_X12_quickestOf : Cond.selects yX12_quickestOf.cls yX12_quickestOf yX12_quickestOf ∈ T0 := T0_ofN (by decide +kernel) (by decide +kernel)
set_option maxRecDepth 100000 in
theorem cv_12_435 : CV RX12 435 yX12_triesOrders 2 cX12_triesOrders 5 none := ⟨Or.inl (tw8 197 rfl (by decide +kernel)), (tw1 13 rfl (by decide +kernel)), (tw8 200 rfl (by decide +kernel)), by decide, by decide +kernel⟩
set_option maxRecDepth 100000 in
theorem im_X12_triesOrders : Cond.instanceMethod yX12_triesOrders ∈ T0 := tw8 199 rfl (by decide +kernel)
theorem sl_X12_triesOrders : Cond.selects yX12_triesOrders.cls yX12_triesOrders yX12_triesOrders ∈ T0 := T0_ofN (by decide +kernel) (by decide +kernel)
set_option maxRecDepth 100000 in
theorem cv_12_444 : CV RX12 444 yJ6_bitCount_0f7a4 1 cJ6_bitCount_0f7a4 1 (some .int) := ⟨Or.inl (tw8 201 rfl (by decide +kernel)), (tw1 25 rfl (by decide +kernel)), (tw4 142 rfl (by decide +kernel)), by decide, by decide +kernel⟩
set_option maxRecDepth 100000 in
theorem cv_L_137 : CV RL 137 yX12_most 2 cX12_most 6 (some .int) := ⟨Or.inl (tw8 202 rfl (by decide +kernel)), (tw1 13 rfl (by decide +kernel)), (tw8 205 rfl (by decide +kernel)), by decide, by decide +kernel⟩
set_option maxRecDepth 100000 in
theorem im_X12_most : Cond.instanceMethod yX12_most ∈ T0 := tw8 203 rfl (by decide +kernel)
set_option maxRecDepth 100000 in
theorem sl_X12_most : Cond.selects yX12_most.cls yX12_most yX12_most ∈ T0 := tw8 204 rfl (by decide +kernel)
set_option maxRecDepth 100000 in
theorem cv_L_141 : CV RL 141 yX12_tipnow 1 cX12_tipnow 8 (some .int) := ⟨Or.inl (tw8 207 rfl (by decide +kernel)), (tw1 13 rfl (by decide +kernel)), (tw8 210 rfl (by decide +kernel)), by decide, by decide +kernel⟩
set_option maxRecDepth 100000 in
theorem im_X12_tipnow : Cond.instanceMethod yX12_tipnow ∈ T0 := tw8 208 rfl (by decide +kernel)
set_option maxRecDepth 100000 in
theorem sl_X12_tipnow : Cond.selects yX12_tipnow.cls yX12_tipnow yX12_tipnow ∈ T0 := tw8 209 rfl (by decide +kernel)
set_option maxRecDepth 100000 in
theorem cv_L_145 : CV RL 145 yX12_share 1 cX12_share 8 (some .int) := ⟨Or.inl (tw8 211 rfl (by decide +kernel)), (tw1 13 rfl (by decide +kernel)), (tw8 214 rfl (by decide +kernel)), by decide, by decide +kernel⟩
set_option maxRecDepth 100000 in
theorem im_X12_share : Cond.instanceMethod yX12_share ∈ T0 := tw8 212 rfl (by decide +kernel)
set_option maxRecDepth 100000 in
theorem sl_X12_share : Cond.selects yX12_share.cls yX12_share yX12_share ∈ T0 := tw8 213 rfl (by decide +kernel)
set_option maxRecDepth 100000 in
theorem cv_12_451 : CV RX12 451 yX12_sumOf 1 cX12_sumOf 4 (some .int) := ⟨Or.inl (tw8 215 rfl (by decide +kernel)), (tw1 13 rfl (by decide +kernel)), (tw8 218 rfl (by decide +kernel)), by decide, by decide +kernel⟩
set_option maxRecDepth 100000 in
theorem im_X12_sumOf : Cond.instanceMethod yX12_sumOf ∈ T0 := tw8 217 rfl (by decide +kernel)
theorem sl_X12_sumOf : Cond.selects yX12_sumOf.cls yX12_sumOf yX12_sumOf ∈ T0 := T0_ofN (by decide +kernel) (by decide +kernel)
set_option maxRecDepth 100000 in
theorem cv_L_149 : CV RL 149 yX12_holiday 2 cX12_holiday 4 (some .int) := ⟨Or.inl (tw8 219 rfl (by decide +kernel)), (tw1 13 rfl (by decide +kernel)), (tw8 222 rfl (by decide +kernel)), by decide, by decide +kernel⟩
set_option maxRecDepth 100000 in
theorem im_X12_holiday : Cond.instanceMethod yX12_holiday ∈ T0 := tw8 220 rfl (by decide +kernel)
set_option maxRecDepth 100000 in
theorem sl_X12_holiday : Cond.selects yX12_holiday.cls yX12_holiday yX12_holiday ∈ T0 := tw8 221 rfl (by decide +kernel)
set_option maxRecDepth 100000 in
theorem cv_12_467 : CV RX12 467 yX12_laysDays 0 cX12_laysDays 2 none := ⟨Or.inl (tw8 223 rfl (by decide +kernel)), (tw1 13 rfl (by decide +kernel)), (tw8 226 rfl (by decide +kernel)), by decide, by decide +kernel⟩
set_option maxRecDepth 100000 in
theorem im_X12_laysDays : Cond.instanceMethod yX12_laysDays ∈ T0 := tw8 225 rfl (by decide +kernel)
theorem sl_X12_laysDays : Cond.selects yX12_laysDays.cls yX12_laysDays yX12_laysDays ∈ T0 := T0_ofN (by decide +kernel) (by decide +kernel)
set_option maxRecDepth 100000 in
theorem cv_12_463 : CV RX12 463 yX12_movesFrom 5 cX12_movesFrom 7 none := ⟨Or.inl (tw8 227 rfl (by decide +kernel)), (tw1 13 rfl (by decide +kernel)), (tw8 230 rfl (by decide +kernel)), by decide, by decide +kernel⟩
set_option maxRecDepth 100000 in
theorem im_X12_movesFrom : Cond.instanceMethod yX12_movesFrom ∈ T0 := tw8 229 rfl (by decide +kernel)
theorem sl_X12_movesFrom : Cond.selects yX12_movesFrom.cls yX12_movesFrom yX12_movesFrom ∈ T0 := T0_ofN (by decide +kernel) (by decide +kernel)
set_option maxRecDepth 100000 in
theorem cv_L_153 : CV RL 153 yX12_busiest 0 cX12_busiest 4 (some .int) := ⟨Or.inl (tw8 231 rfl (by decide +kernel)), (tw1 13 rfl (by decide +kernel)), (tw8 234 rfl (by decide +kernel)), by decide, by decide +kernel⟩
set_option maxRecDepth 100000 in
theorem im_X12_busiest : Cond.instanceMethod yX12_busiest ∈ T0 := tw8 232 rfl (by decide +kernel)
set_option maxRecDepth 100000 in
theorem sl_X12_busiest : Cond.selects yX12_busiest.cls yX12_busiest yX12_busiest ∈ T0 := tw8 233 rfl (by decide +kernel)
set_option maxRecDepth 100000 in
theorem cv_L_157 : CV RL 157 yX12_weighed 2 cX12_weighed 3 (some .int) := ⟨Or.inl (tw8 235 rfl (by decide +kernel)), (tw1 13 rfl (by decide +kernel)), (tw8 238 rfl (by decide +kernel)), by decide, by decide +kernel⟩
set_option maxRecDepth 100000 in
theorem im_X12_weighed : Cond.instanceMethod yX12_weighed ∈ T0 := tw8 236 rfl (by decide +kernel)
set_option maxRecDepth 100000 in
theorem sl_X12_weighed : Cond.selects yX12_weighed.cls yX12_weighed yX12_weighed ∈ T0 := tw8 237 rfl (by decide +kernel)
set_option maxRecDepth 100000 in
theorem cv_L_161 : CV RL 161 yX12_forget 0 cX12_forget 2 (some .int) := ⟨Or.inl (tw8 239 rfl (by decide +kernel)), (tw1 13 rfl (by decide +kernel)), (tw9 2 rfl (by decide +kernel)), by decide, by decide +kernel⟩
set_option maxRecDepth 100000 in
theorem im_X12_forget : Cond.instanceMethod yX12_forget ∈ T0 := tw9 0 rfl (by decide +kernel)
set_option maxRecDepth 100000 in
theorem sl_X12_forget : Cond.selects yX12_forget.cls yX12_forget yX12_forget ∈ T0 := tw9 1 rfl (by decide +kernel)
set_option maxRecDepth 100000 in
theorem cv_L_165 : CV RL 165 yX12_rubble 0 cX12_rubble 3 (some .int) := ⟨Or.inl (tw9 3 rfl (by decide +kernel)), (tw1 13 rfl (by decide +kernel)), (tw9 6 rfl (by decide +kernel)), by decide, by decide +kernel⟩
set_option maxRecDepth 100000 in
theorem im_X12_rubble : Cond.instanceMethod yX12_rubble ∈ T0 := tw9 4 rfl (by decide +kernel)
set_option maxRecDepth 100000 in
theorem sl_X12_rubble : Cond.selects yX12_rubble.cls yX12_rubble yX12_rubble ∈ T0 := tw9 5 rfl (by decide +kernel)
set_option maxRecDepth 100000 in
theorem cv_12_479 : CV RX12 479 yX12_laysWays 0 cX12_laysWays 3 none := ⟨Or.inl (tw9 7 rfl (by decide +kernel)), (tw1 13 rfl (by decide +kernel)), (tw9 10 rfl (by decide +kernel)), by decide, by decide +kernel⟩
set_option maxRecDepth 100000 in
theorem im_X12_laysWays : Cond.instanceMethod yX12_laysWays ∈ T0 := tw9 9 rfl (by decide +kernel)
theorem sl_X12_laysWays : Cond.selects yX12_laysWays.cls yX12_laysWays yX12_laysWays ∈ T0 := T0_ofN (by decide +kernel) (by decide +kernel)
set_option maxRecDepth 100000 in
theorem cv_12_476 : CV RX12 476 yX12_explains 2 cX12_explains 6 (some .boolean) := ⟨Or.inl (tw9 11 rfl (by decide +kernel)), (tw1 13 rfl (by decide +kernel)), (tw9 14 rfl (by decide +kernel)), by decide, by decide +kernel⟩
set_option maxRecDepth 100000 in
theorem im_X12_explains : Cond.instanceMethod yX12_explains ∈ T0 := tw9 13 rfl (by decide +kernel)
theorem sl_X12_explains : Cond.selects yX12_explains.cls yX12_explains yX12_explains ∈ T0 := T0_ofN (by decide +kernel) (by decide +kernel)
set_option maxRecDepth 100000 in
theorem cv_12_473 : CV RX12 473 yX12_heavyOf 1 cX12_heavyOf 5 (some .int) := ⟨Or.inl (tw9 15 rfl (by decide +kernel)), (tw1 13 rfl (by decide +kernel)), (tw9 18 rfl (by decide +kernel)), by decide, by decide +kernel⟩
set_option maxRecDepth 100000 in
theorem im_X12_heavyOf : Cond.instanceMethod yX12_heavyOf ∈ T0 := tw9 17 rfl (by decide +kernel)
theorem sl_X12_heavyOf : Cond.selects yX12_heavyOf.cls yX12_heavyOf yX12_heavyOf ∈ T0 := T0_ofN (by decide +kernel) (by decide +kernel)
set_option maxRecDepth 100000 in
theorem cv_L_169 : CV RL 169 yX12_whose 0 cX12_whose 3 (some .int) := ⟨Or.inl (tw9 19 rfl (by decide +kernel)), (tw1 13 rfl (by decide +kernel)), (tw9 22 rfl (by decide +kernel)), by decide, by decide +kernel⟩
set_option maxRecDepth 100000 in
theorem im_X12_whose : Cond.instanceMethod yX12_whose ∈ T0 := tw9 20 rfl (by decide +kernel)
set_option maxRecDepth 100000 in
theorem sl_X12_whose : Cond.selects yX12_whose.cls yX12_whose yX12_whose ∈ T0 := tw9 21 rfl (by decide +kernel)
set_option maxRecDepth 100000 in
theorem cv_L_173 : CV RL 173 yX12_next 0 cX12_next 7 (some .int) := ⟨Or.inl (tw9 23 rfl (by decide +kernel)), (tw1 13 rfl (by decide +kernel)), (tw9 26 rfl (by decide +kernel)), by decide, by decide +kernel⟩
set_option maxRecDepth 100000 in
theorem im_X12_next : Cond.instanceMethod yX12_next ∈ T0 := tw9 24 rfl (by decide +kernel)
set_option maxRecDepth 100000 in
theorem sl_X12_next : Cond.selects yX12_next.cls yX12_next yX12_next ∈ T0 := tw9 25 rfl (by decide +kernel)
set_option maxRecDepth 100000 in
theorem cv_L_177 : CV RL 177 yX12_right 2 cX12_right 5 (some .int) := ⟨Or.inl (tw9 27 rfl (by decide +kernel)), (tw1 13 rfl (by decide +kernel)), (tw9 30 rfl (by decide +kernel)), by decide, by decide +kernel⟩
set_option maxRecDepth 100000 in
theorem im_X12_right : Cond.instanceMethod yX12_right ∈ T0 := tw9 28 rfl (by decide +kernel)
set_option maxRecDepth 100000 in
theorem sl_X12_right : Cond.selects yX12_right.cls yX12_right yX12_right ∈ T0 := tw9 29 rfl (by decide +kernel)
set_option maxRecDepth 100000 in
theorem cv_12_491 : CV RX12 491 yX12_bets 2 cX12_bets 4 none := ⟨Or.inl (tw9 32 rfl (by decide +kernel)), (tw1 13 rfl (by decide +kernel)), (tw9 35 rfl (by decide +kernel)), by decide, by decide +kernel⟩
set_option maxRecDepth 100000 in
theorem im_X12_bets : Cond.instanceMethod yX12_bets ∈ T0 := tw9 34 rfl (by decide +kernel)
theorem sl_X12_bets : Cond.selects yX12_bets.cls yX12_bets yX12_bets ∈ T0 := T0_ofN (by decide +kernel) (by decide +kernel)
set_option maxRecDepth 100000 in
theorem cv_12_130 : CV RX12 130 yX12_common 2 cX12_common 4 (some .long) := ⟨Or.inl (tw9 36 rfl (by decide +kernel)), (tw1 13 rfl (by decide +kernel)), (tw9 38 rfl (by decide +kernel)), by decide, by decide +kernel⟩
set_option maxRecDepth 100000 in
theorem st_X12_common : Cond.static yX12_common ∈ T0 := tw9 37 rfl (by decide +kernel)
set_option maxRecDepth 100000 in
theorem cv_L_181 : CV RL 181 yX12_care 2 cX12_care 4 (some .int) := ⟨Or.inl (tw9 39 rfl (by decide +kernel)), (tw1 13 rfl (by decide +kernel)), (tw9 42 rfl (by decide +kernel)), by decide, by decide +kernel⟩
set_option maxRecDepth 100000 in
theorem im_X12_care : Cond.instanceMethod yX12_care ∈ T0 := tw9 40 rfl (by decide +kernel)
set_option maxRecDepth 100000 in
theorem sl_X12_care : Cond.selects yX12_care.cls yX12_care yX12_care ∈ T0 := tw9 41 rfl (by decide +kernel)
set_option maxRecDepth 100000 in
theorem cv_L_186 : CV RL 186 yX12_weeks 3 cX12_weeks 10 (some .int) := ⟨Or.inl (tw9 44 rfl (by decide +kernel)), (tw1 13 rfl (by decide +kernel)), (tw9 47 rfl (by decide +kernel)), by decide, by decide +kernel⟩
set_option maxRecDepth 100000 in
theorem im_X12_weeks : Cond.instanceMethod yX12_weeks ∈ T0 := tw9 45 rfl (by decide +kernel)
set_option maxRecDepth 100000 in
theorem sl_X12_weeks : Cond.selects yX12_weeks.cls yX12_weeks yX12_weeks ∈ T0 := tw9 46 rfl (by decide +kernel)
set_option maxRecDepth 100000 in
theorem cv_L_190 : CV RL 190 yX12_keep 1 cX12_keep 3 (some .boolean) := ⟨Or.inl (tw9 50 rfl (by decide +kernel)), (tw1 13 rfl (by decide +kernel)), (tw9 53 rfl (by decide +kernel)), by decide, by decide +kernel⟩
set_option maxRecDepth 100000 in
theorem im_X12_keep : Cond.instanceMethod yX12_keep ∈ T0 := tw9 51 rfl (by decide +kernel)
set_option maxRecDepth 100000 in
theorem sl_X12_keep : Cond.selects yX12_keep.cls yX12_keep yX12_keep ∈ T0 := tw9 52 rfl (by decide +kernel)
set_option maxRecDepth 100000 in
theorem cv_L_194 : CV RL 194 yX12_again 1 cX12_again 3 (some .boolean) := ⟨Or.inl (tw9 54 rfl (by decide +kernel)), (tw1 13 rfl (by decide +kernel)), (tw9 57 rfl (by decide +kernel)), by decide, by decide +kernel⟩
set_option maxRecDepth 100000 in
theorem im_X12_again : Cond.instanceMethod yX12_again ∈ T0 := tw9 55 rfl (by decide +kernel)
set_option maxRecDepth 100000 in
theorem sl_X12_again : Cond.selects yX12_again.cls yX12_again yX12_again ∈ T0 := tw9 56 rfl (by decide +kernel)
set_option maxRecDepth 100000 in
theorem cv_L_198 : CV RL 198 yX12_count 1 cX12_count 2 (some .int) := ⟨Or.inl (tw9 58 rfl (by decide +kernel)), (tw1 13 rfl (by decide +kernel)), (tw9 61 rfl (by decide +kernel)), by decide, by decide +kernel⟩
set_option maxRecDepth 100000 in
theorem im_X12_count : Cond.instanceMethod yX12_count ∈ T0 := tw9 59 rfl (by decide +kernel)
set_option maxRecDepth 100000 in
theorem sl_X12_count : Cond.selects yX12_count.cls yX12_count yX12_count ∈ T0 := tw9 60 rfl (by decide +kernel)
set_option maxRecDepth 100000 in
theorem cv_L_201 : CV RL 201 yX12_row 1 cX12_row 2 (some .long) := ⟨Or.inl (tw9 62 rfl (by decide +kernel)), (tw1 13 rfl (by decide +kernel)), (tw9 65 rfl (by decide +kernel)), by decide, by decide +kernel⟩
set_option maxRecDepth 100000 in
theorem im_X12_row : Cond.instanceMethod yX12_row ∈ T0 := tw9 63 rfl (by decide +kernel)
set_option maxRecDepth 100000 in
theorem sl_X12_row : Cond.selects yX12_row.cls yX12_row yX12_row ∈ T0 := tw9 64 rfl (by decide +kernel)
set_option maxRecDepth 100000 in
theorem kc_11_317 : Cond.constant RX11 317 (iI (1000000)) ∈ T0 := tw4 217 rfl (by decide +kernel)
set_option maxRecDepth 100000 in
theorem kc_2_123 : Cond.constant RX2 123 (iI (1000000)) ∈ T0 := tw4 227 rfl (by decide +kernel)
set_option maxRecDepth 100000 in
theorem kc_11_342 : Cond.constantLong RX11 342 (iL (-1)) ∈ T0 := tw5 7 rfl (by decide +kernel)
set_option maxRecDepth 100000 in
theorem kc_11_386 : Cond.constant RX11 386 (iI (99999)) ∈ T0 := tw5 99 rfl (by decide +kernel)
set_option maxRecDepth 100000 in
theorem kc_0_67 : Cond.constant RX0 67 (iI (1000000)) ∈ T0 := tw5 139 rfl (by decide +kernel)
set_option maxRecDepth 100000 in
theorem kc_11_443 : Cond.constantLong RX11 443 (iL (100)) ∈ T0 := tw5 223 rfl (by decide +kernel)
set_option maxRecDepth 100000 in
theorem kc_11_461 : Cond.constant RX11 461 (iI (1103515245)) ∈ T0 := tw6 0 rfl (by decide +kernel)
set_option maxRecDepth 100000 in
theorem kc_12_170 : Cond.constantLong RX12 170 (iL (48)) ∈ T0 := tw7 145 rfl (by decide +kernel)
set_option maxRecDepth 100000 in
theorem kc_12_172 : Cond.constantLong RX12 172 (iL (57)) ∈ T0 := tw7 146 rfl (by decide +kernel)
set_option maxRecDepth 100000 in
theorem kc_12_324 : Cond.constantLong RX12 324 (iL (8)) ∈ T0 := tw7 216 rfl (by decide +kernel)
set_option maxRecDepth 100000 in
theorem kc_12_336 : Cond.constantLong RX12 336 (iL (3)) ∈ T0 := tw8 1 rfl (by decide +kernel)
set_option maxRecDepth 100000 in
theorem kc_12_338 : Cond.constantLong RX12 338 (iL (6)) ∈ T0 := tw8 22 rfl (by decide +kernel)
set_option maxRecDepth 100000 in
theorem kc_12_346 : Cond.constantLong RX12 346 (iL (2)) ∈ T0 := tw8 64 rfl (by decide +kernel)
set_option maxRecDepth 100000 in
theorem kc_12_382 : Cond.constantLong RX12 382 (iL (9999)) ∈ T0 := tw8 101 rfl (by decide +kernel)
set_option maxRecDepth 100000 in
theorem kc_12_306 : Cond.constant RX12 306 (iI (1000000)) ∈ T0 := tw8 135 rfl (by decide +kernel)
set_option maxRecDepth 100000 in
theorem kc_12_412 : Cond.constantLong RX12 412 (iL (-1)) ∈ T0 := tw8 160 rfl (by decide +kernel)
set_option maxRecDepth 100000 in
theorem kc_12_414 : Cond.constantLong RX12 414 (iL (9)) ∈ T0 := tw8 169 rfl (by decide +kernel)
set_option maxRecDepth 100000 in
theorem kc_12_449 : Cond.constantLong RX12 449 (iL (99999)) ∈ T0 := tw8 206 rfl (by decide +kernel)
set_option maxRecDepth 100000 in
theorem kc_12_489 : Cond.constantLong RX12 489 (iL (10)) ∈ T0 := tw9 31 rfl (by decide +kernel)
set_option maxRecDepth 100000 in
theorem kc_12_494 : Cond.constantLong RX12 494 (iL (100)) ∈ T0 := tw9 43 rfl (by decide +kernel)
set_option maxRecDepth 100000 in
theorem kc_12_496 : Cond.constantLong RX12 496 (iL (20)) ∈ T0 := tw9 48 rfl (by decide +kernel)
set_option maxRecDepth 100000 in
theorem kc_12_498 : Cond.constant RX12 498 (iI (1103515245)) ∈ T0 := tw9 49 rfl (by decide +kernel)
theorem mw_max : Cond.static Lib.Math.max.name ∈ T0 ∧ Cond.initialized "java/lang/Math" ∈ T0 ∧ Cond.code Lib.Math.max.name Lib.Math.max.code 2 (some .int) ∈ T0 := ⟨T0_ofN (by decide +kernel) (by decide +kernel), T0_ofN (by decide +kernel) (by decide +kernel), T0_ofN (by decide +kernel) (by decide +kernel)⟩
theorem mw_min : Cond.static Lib.Math.min.name ∈ T0 ∧ Cond.initialized "java/lang/Math" ∈ T0 ∧ Cond.code Lib.Math.min.name Lib.Math.min.code 2 (some .int) ∈ T0 := ⟨T0_ofN (by decide +kernel) (by decide +kernel), T0_ofN (by decide +kernel) (by decide +kernel), T0_ofN (by decide +kernel) (by decide +kernel)⟩
theorem mw_abs : Cond.static Lib.Math.abs.name ∈ T0 ∧ Cond.initialized "java/lang/Math" ∈ T0 ∧ Cond.code Lib.Math.abs.name Lib.Math.abs.code 1 (some .int) ∈ T0 := ⟨T0_ofN (by decide +kernel) (by decide +kernel), T0_ofN (by decide +kernel) (by decide +kernel), T0_ofN (by decide +kernel) (by decide +kernel)⟩
theorem mw_copy : Cond.native arraycopyName ∈ T0 ∧ Cond.static arraycopyName ∈ T0 ∧ Cond.initialized "java/lang/System" ∈ T0 := ⟨T0_ofN (by decide +kernel) (by decide +kernel), T0_ofN (by decide +kernel) (by decide +kernel), T0_ofN (by decide +kernel) (by decide +kernel)⟩
