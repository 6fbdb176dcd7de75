/-! the constructor of the class itself: all its cells -/
abbrev mi_11 : Mu := (cX11_init, 1, RX11, none, ⟨3, 168, 1602, 300⟩, "<init>")
theorem dz11 : ∀ j ∈ [14, 15], dfl 11 ((j : Nat) : Int) = 0 := by decide +kernel
theorem ci_11 {E : Nat × (Nat → Int32)} {mem : Mem} : Ct ρ0 E yX11_init mi_11 1 [.ref 0] (upr mem 0 (dfl 11)) (PB 0 169 mem) := by
  refine Ct_of (lv := [.ref 0]) (by decide) rfl rfl (Nat.le_of_ble_eq_true rfl) rfl ?_
  refine G_aload_n dX11_init_0 rfl ?_
  refine G_objInit dX11_init_1 ml_11_3 ⟨by decide, by decide⟩ (by decide) ?_
  refine G_aload_n dX11_init_4 rfl ?_
  refine G_new (ci := 9) rfl rfl dX11_init_5 (tw1 35 rfl (by decide +kernel)) (tw1 36 rfl (by decide +kernel)) (tw1 2 rfl (by decide +kernel)) (by decide) ⟨by decide, by decide⟩ (okL_all (And.intro (show (0 : Nat) < 1 by omega) (And.intro (show (0 : Nat) < 1 by omega) (trivial)))) ?_
  refine G_dup dX11_init_8 rfl ?_
  refine G_callI (as := []) (b := 1) (st := [.ref 1, .ref 0]) (ci_9 ) dX11_init_9 cv_11_11 im_X9_init rfl rfl rfl ⟨by decide, by decide, by decide, by decide⟩ (Nat.le_of_ble_eq_true rfl) ⟨by decide, by decide⟩ (okL_all (And.intro (show (0 : Nat) < 2 by omega) (And.intro (show (1 : Nat) < 2 by omega) (And.intro (show (0 : Nat) < 2 by omega) (trivial))))) rfl (fun r1 nw1 m1 hn1 hp1 => ?_)
  obtain ⟨rfl, rfl, p1, q1⟩ := hp1
  have b1 : BtR 1 3 m1 := q1
  refine G_putFD dX11_init_12 fpf_11_12 rfl pd_3 rfl pk_3 (by decide) rfl rfl (by decide) rfl ?_
  refine G_aload_n dX11_init_15 rfl ?_
  refine G_new (ci := 6) rfl rfl dX11_init_16 (tw1 56 rfl (by decide +kernel)) (tw1 57 rfl (by decide +kernel)) (tw1 3 rfl (by decide +kernel)) (by decide) ⟨by decide, by decide⟩ (okL_all (And.intro (show (0 : Nat) < 3 by omega) (And.intro (show (0 : Nat) < 3 by omega) (trivial)))) ?_
  refine G_dup dX11_init_19 rfl ?_
  refine G_callI (as := []) (b := 3) (st := [.ref 3, .ref 0]) (ci_6 ) dX11_init_20 cv_11_18 im_X6_init rfl rfl rfl ⟨by decide, by decide, by decide, by decide⟩ (Nat.le_of_ble_eq_true rfl) ⟨by decide, by decide⟩ (okL_all (And.intro (show (0 : Nat) < 4 by omega) (And.intro (show (3 : Nat) < 4 by omega) (And.intro (show (0 : Nat) < 4 by omega) (trivial))))) rfl (fun r2 nw2 m2 hn2 hp2 => ?_)
  obtain ⟨rfl, rfl, p2, q2⟩ := hp2
  have b2 : BtR 1 5 m2 := BtR.app (b := 3) (b1.fr (fun k k1 k2 => by rw [p2 k (by omega), up2_k (by omega)])) q2
  refine G_putFD dX11_init_23 fpf_11_19 rfl pd_4 rfl pk_4 (by decide) rfl rfl (by decide) rfl ?_
  refine G_aload_n dX11_init_26 rfl ?_
  refine G_new (ci := 5) rfl rfl dX11_init_27 (tw1 66 rfl (by decide +kernel)) (tw1 67 rfl (by decide +kernel)) (tw1 4 rfl (by decide +kernel)) (by decide) ⟨by decide, by decide⟩ (okL_all (And.intro (show (0 : Nat) < 5 by omega) (And.intro (show (0 : Nat) < 5 by omega) (trivial)))) ?_
  refine G_dup dX11_init_30 rfl ?_
  refine G_callI (as := []) (b := 5) (st := [.ref 5, .ref 0]) (ci_5 ) dX11_init_31 cv_11_25 im_X5_init rfl rfl rfl ⟨by decide, by decide, by decide, by decide⟩ (Nat.le_of_ble_eq_true rfl) ⟨by decide, by decide⟩ (okL_all (And.intro (show (0 : Nat) < 6 by omega) (And.intro (show (5 : Nat) < 6 by omega) (And.intro (show (0 : Nat) < 6 by omega) (trivial))))) rfl (fun r3 nw3 m3 hn3 hp3 => ?_)
  obtain ⟨rfl, rfl, p3, q3⟩ := hp3
  have b3 : BtR 1 9 m3 := BtR.app (b := 5) (b2.fr (fun k k1 k2 => by rw [p3 k (by omega), up2_k (by omega)])) q3
  refine G_putFD dX11_init_34 fpf_11_26 rfl pd_5 rfl pk_5 (by decide) rfl rfl (by decide) rfl ?_
  refine G_aload_n dX11_init_37 rfl ?_
  refine G_new (ci := 10) rfl rfl dX11_init_38 (tw1 91 rfl (by decide +kernel)) (tw1 92 rfl (by decide +kernel)) (tw1 5 rfl (by decide +kernel)) (by decide) ⟨by decide, by decide⟩ (okL_all (And.intro (show (0 : Nat) < 9 by omega) (And.intro (show (0 : Nat) < 9 by omega) (trivial)))) ?_
  refine G_dup dX11_init_41 rfl ?_
  refine G_callI (as := []) (b := 9) (st := [.ref 9, .ref 0]) (ci_10 ) dX11_init_42 cv_11_32 im_X10_init rfl rfl rfl ⟨by decide, by decide, by decide, by decide⟩ (Nat.le_of_ble_eq_true rfl) ⟨by decide, by decide⟩ (okL_all (And.intro (show (0 : Nat) < 10 by omega) (And.intro (show (9 : Nat) < 10 by omega) (And.intro (show (0 : Nat) < 10 by omega) (trivial))))) rfl (fun r4 nw4 m4 hn4 hp4 => ?_)
  obtain ⟨rfl, rfl, p4, q4⟩ := hp4
  have b4 : BtR 1 23 m4 := BtR.app (b := 9) (b3.fr (fun k k1 k2 => by rw [p4 k (by omega), up2_k (by omega)])) q4
  refine G_putFD dX11_init_45 fpf_11_33 rfl pd_6 rfl pk_6 (by decide) rfl rfl (by decide) rfl ?_
  refine G_aload_n dX11_init_48 rfl ?_
  refine G_new (ci := 7) rfl rfl dX11_init_49 (tw1 158 rfl (by decide +kernel)) (tw1 159 rfl (by decide +kernel)) (tw1 7 rfl (by decide +kernel)) (by decide) ⟨by decide, by decide⟩ (okL_all (And.intro (show (0 : Nat) < 23 by omega) (And.intro (show (0 : Nat) < 23 by omega) (trivial)))) ?_
  refine G_dup dX11_init_52 rfl ?_
  refine G_callI (as := []) (b := 23) (st := [.ref 23, .ref 0]) (ci_7 (by decide)) dX11_init_53 cv_11_39 im_X7_init rfl rfl rfl ⟨by decide, by decide, by decide, by decide⟩ (Nat.le_of_ble_eq_true rfl) ⟨by decide, by decide⟩ (okL_all (And.intro (show (0 : Nat) < 24 by omega) (And.intro (show (23 : Nat) < 24 by omega) (And.intro (show (0 : Nat) < 24 by omega) (trivial))))) rfl (fun r5 nw5 m5 hn5 hp5 => ?_)
  obtain ⟨rfl, rfl, p5, q5⟩ := hp5
  have b5 : BtR 1 27 m5 := BtR.app (b := 23) (b4.fr (fun k k1 k2 => by rw [p5 k (by omega), up2_k (by omega)])) q5
  refine G_putFD dX11_init_56 fpf_11_40 rfl pd_7 rfl pk_7 (by decide) rfl rfl (by decide) rfl ?_
  refine G_aload_n dX11_init_59 rfl ?_
  refine G_new (ci := 1) rfl rfl dX11_init_60 (tw1 187 rfl (by decide +kernel)) (tw1 188 rfl (by decide +kernel)) (tw1 8 rfl (by decide +kernel)) (by decide) ⟨by decide, by decide⟩ (okL_all (And.intro (show (0 : Nat) < 27 by omega) (And.intro (show (0 : Nat) < 27 by omega) (trivial)))) ?_
  refine G_dup dX11_init_63 rfl ?_
  refine G_callI (as := []) (b := 27) (st := [.ref 27, .ref 0]) (ci_1 ) dX11_init_64 cv_11_46 im_X1_init rfl rfl rfl ⟨by decide, by decide, by decide, by decide⟩ (Nat.le_of_ble_eq_true rfl) ⟨by decide, by decide⟩ (okL_all (And.intro (show (0 : Nat) < 28 by omega) (And.intro (show (27 : Nat) < 28 by omega) (And.intro (show (0 : Nat) < 28 by omega) (trivial))))) rfl (fun r6 nw6 m6 hn6 hp6 => ?_)
  obtain ⟨rfl, rfl, p6, q6⟩ := hp6
  have b6 : BtR 1 93 m6 := BtR.app (b := 27) (b5.fr (fun k k1 k2 => by rw [p6 k (by omega), up2_k (by omega)])) q6
  refine G_putFD dX11_init_67 fpf_11_47 rfl pd_8 rfl pk_8 (by decide) rfl rfl (by decide) rfl ?_
  refine G_aload_n dX11_init_70 rfl ?_
  refine G_new (ci := 3) rfl rfl dX11_init_71 (tw1 207 rfl (by decide +kernel)) (tw1 208 rfl (by decide +kernel)) (tw1 9 rfl (by decide +kernel)) (by decide) ⟨by decide, by decide⟩ (okL_all (And.intro (show (0 : Nat) < 93 by omega) (And.intro (show (0 : Nat) < 93 by omega) (trivial)))) ?_
  refine G_dup dX11_init_74 rfl ?_
  refine G_aload_n dX11_init_75 rfl ?_
  refine G_getD (t := 9) dX11_init_76 fl_11_33 (by decide) rfl rfl (by rw [upr_k (by decide), up2_j (by decide), p6 0 (by decide), up2_j (by decide), p5 0 (by decide), up2_same]) ?_
  refine G_aload_n dX11_init_79 rfl ?_
  refine G_getD (t := 3) dX11_init_80 fl_11_19 (by decide) rfl rfl (by rw [upr_k (by decide), up2_j (by decide), p6 0 (by decide), up2_j (by decide), p5 0 (by decide), up2_j (by decide), p4 0 (by decide), up2_j (by decide), p3 0 (by decide), up2_same]) ?_
  refine G_callI (as := [.ref 9, .ref 3]) (b := 93) (st := [.ref 93, .ref 0]) (ci_3 ) dX11_init_83 cv_11_53 im_X3_init rfl rfl rfl ⟨by decide, by decide, by decide, by decide⟩ (Nat.le_of_ble_eq_true rfl) ⟨by decide, by decide⟩ (okL_all (And.intro (show (0 : Nat) < 94 by omega) (And.intro (show (93 : Nat) < 94 by omega) (And.intro (show (0 : Nat) < 94 by omega) (trivial))))) rfl (fun r7 nw7 m7 hn7 hp7 => ?_)
  obtain ⟨rfl, rfl, p7, q7⟩ := hp7
  have b7 : BtR 1 100 m7 := BtR.app (b := 93) (b6.fr (fun k k1 k2 => by rw [p7 k (by omega), up2_k (by omega)])) q7
  refine G_putFD dX11_init_86 fpf_11_56 rfl pd_9 rfl pk_9 (by decide) rfl rfl (by decide) rfl ?_
  refine G_aload_n dX11_init_89 rfl ?_
  refine G_new (ci := 2) rfl rfl dX11_init_90 (tw2 6 rfl (by decide +kernel)) (tw2 7 rfl (by decide +kernel)) (tw1 10 rfl (by decide +kernel)) (by decide) ⟨by decide, by decide⟩ (okL_all (And.intro (show (0 : Nat) < 100 by omega) (And.intro (show (0 : Nat) < 100 by omega) (trivial)))) ?_
  refine G_dup dX11_init_93 rfl ?_
  refine G_aload_n dX11_init_94 rfl ?_
  refine G_getD (t := 3) dX11_init_95 fl_11_19 (by decide) rfl rfl (by rw [upr_k (by decide), up2_j (by decide), p7 0 (by decide), up2_j (by decide), p6 0 (by decide), up2_j (by decide), p5 0 (by decide), up2_j (by decide), p4 0 (by decide), up2_j (by decide), p3 0 (by decide), up2_same]) ?_
  refine G_aload_n dX11_init_98 rfl ?_
  refine G_getD (t := 5) dX11_init_99 fl_11_26 (by decide) rfl rfl (by rw [upr_k (by decide), up2_j (by decide), p7 0 (by decide), up2_j (by decide), p6 0 (by decide), up2_j (by decide), p5 0 (by decide), up2_j (by decide), p4 0 (by decide), up2_same]) ?_
  refine G_callI (as := [.ref 3, .ref 5]) (b := 100) (st := [.ref 100, .ref 0]) (ci_2 (by decide)) dX11_init_102 cv_11_62 im_X2_init rfl rfl rfl ⟨by decide, by decide, by decide, by decide⟩ (Nat.le_of_ble_eq_true rfl) ⟨by decide, by decide⟩ (okL_all (And.intro (show (0 : Nat) < 101 by omega) (And.intro (show (100 : Nat) < 101 by omega) (And.intro (show (0 : Nat) < 101 by omega) (trivial))))) rfl (fun r8 nw8 m8 hn8 hp8 => ?_)
  obtain ⟨rfl, rfl, p8, q8⟩ := hp8
  have b8 : BtR 1 106 m8 := BtR.app (b := 100) (b7.fr (fun k k1 k2 => by rw [p8 k (by omega), up2_k (by omega)])) q8
  refine G_putFD dX11_init_105 fpf_11_65 rfl pd_10 rfl pk_10 (by decide) rfl rfl (by decide) rfl ?_
  refine G_aload_n dX11_init_108 rfl ?_
  refine G_new (ci := 4) rfl rfl dX11_init_109 (tw2 84 rfl (by decide +kernel)) (tw2 85 rfl (by decide +kernel)) (tw1 11 rfl (by decide +kernel)) (by decide) ⟨by decide, by decide⟩ (okL_all (And.intro (show (0 : Nat) < 106 by omega) (And.intro (show (0 : Nat) < 106 by omega) (trivial)))) ?_
  refine G_dup dX11_init_112 rfl ?_
  refine G_aload_n dX11_init_113 rfl ?_
  refine G_getD (t := 9) dX11_init_114 fl_11_33 (by decide) rfl rfl (by rw [upr_k (by decide), up2_j (by decide), p8 0 (by decide), up2_j (by decide), p7 0 (by decide), up2_j (by decide), p6 0 (by decide), up2_j (by decide), p5 0 (by decide), up2_same]) ?_
  refine G_aload_n dX11_init_117 rfl ?_
  refine G_getD (t := 3) dX11_init_118 fl_11_19 (by decide) rfl rfl (by rw [upr_k (by decide), up2_j (by decide), p8 0 (by decide), up2_j (by decide), p7 0 (by decide), up2_j (by decide), p6 0 (by decide), up2_j (by decide), p5 0 (by decide), up2_j (by decide), p4 0 (by decide), up2_j (by decide), p3 0 (by decide), up2_same]) ?_
  refine G_aload_n dX11_init_121 rfl ?_
  refine G_getD (t := 5) dX11_init_122 fl_11_26 (by decide) rfl rfl (by rw [upr_k (by decide), up2_j (by decide), p8 0 (by decide), up2_j (by decide), p7 0 (by decide), up2_j (by decide), p6 0 (by decide), up2_j (by decide), p5 0 (by decide), up2_j (by decide), p4 0 (by decide), up2_same]) ?_
  refine G_callI (as := [.ref 9, .ref 3, .ref 5]) (b := 106) (st := [.ref 106, .ref 0]) (ci_4 ) dX11_init_125 cv_11_71 im_X4_init rfl rfl rfl ⟨by decide, by decide, by decide, by decide⟩ (Nat.le_of_ble_eq_true rfl) ⟨by decide, by decide⟩ (okL_all (And.intro (show (0 : Nat) < 107 by omega) (And.intro (show (106 : Nat) < 107 by omega) (And.intro (show (0 : Nat) < 107 by omega) (trivial))))) rfl (fun r9 nw9 m9 hn9 hp9 => ?_)
  obtain ⟨rfl, rfl, p9, q9⟩ := hp9
  have b9 : BtR 1 147 m9 := BtR.app (b := 106) (b8.fr (fun k k1 k2 => by rw [p9 k (by omega), up2_k (by omega)])) q9
  refine G_putFD dX11_init_128 fpf_11_74 rfl pd_11 rfl pk_11 (by decide) rfl rfl (by decide) rfl ?_
  refine G_aload_n dX11_init_131 rfl ?_
  refine G_new (ci := 0) rfl rfl dX11_init_132 (tw2 148 rfl (by decide +kernel)) (tw2 149 rfl (by decide +kernel)) (tw1 12 rfl (by decide +kernel)) (by decide) ⟨by decide, by decide⟩ (okL_all (And.intro (show (0 : Nat) < 147 by omega) (And.intro (show (0 : Nat) < 147 by omega) (trivial)))) ?_
  refine G_dup dX11_init_135 rfl ?_
  refine G_aload_n dX11_init_136 rfl ?_
  refine G_getD (t := 9) dX11_init_137 fl_11_33 (by decide) rfl rfl (by rw [upr_k (by decide), up2_j (by decide), p9 0 (by decide), up2_j (by decide), p8 0 (by decide), up2_j (by decide), p7 0 (by decide), up2_j (by decide), p6 0 (by decide), up2_j (by decide), p5 0 (by decide), up2_same]) ?_
  refine G_callI (as := [.ref 9]) (b := 147) (st := [.ref 147, .ref 0]) (ci_0 ) dX11_init_140 cv_11_80 im_X0_init rfl rfl rfl ⟨by decide, by decide, by decide, by decide⟩ (Nat.le_of_ble_eq_true rfl) ⟨by decide, by decide⟩ (okL_all (And.intro (show (0 : Nat) < 148 by omega) (And.intro (show (147 : Nat) < 148 by omega) (And.intro (show (0 : Nat) < 148 by omega) (trivial))))) rfl (fun r10 nw10 m10 hn10 hp10 => ?_)
  obtain ⟨rfl, rfl, p10, q10⟩ := hp10
  have b10 : BtR 1 153 m10 := BtR.app (b := 147) (b9.fr (fun k k1 k2 => by rw [p10 k (by omega), up2_k (by omega)])) q10
  refine G_putFD dX11_init_143 fpf_11_83 rfl pd_12 rfl pk_12 (by decide) rfl rfl (by decide) rfl ?_
  refine G_aload_n dX11_init_146 rfl ?_
  refine G_iconst (z := 3) dX11_init_147 rfl ?_
  refine G_newQ (n := 3) (t := 4) ⟨by decide, by decide⟩ rfl rfl rfl (by decide) dX11_init_148 (tw1 158 rfl (by decide +kernel)) (tw1 194 rfl (by decide +kernel)) (by decide) ⟨by decide, by decide⟩ (okL_all (And.intro (show (0 : Nat) < 153 by omega) (And.intro (show (0 : Nat) < 153 by omega) (trivial)))) ?_
  refine G_dup dX11_init_151 rfl ?_
  refine G_iconst (z := 0) dX11_init_152 rfl ?_
  refine G_new (ci := 7) rfl rfl dX11_init_153 (tw1 158 rfl (by decide +kernel)) (tw1 159 rfl (by decide +kernel)) (tw1 7 rfl (by decide +kernel)) (by decide) ⟨by decide, by decide⟩ (okL_all (And.intro (show (0 : Nat) < 154 by omega) (And.intro trivial (And.intro (show (153 : Nat) < 154 by omega) (And.intro (show (153 : Nat) < 154 by omega) (And.intro (show (0 : Nat) < 154 by omega) (trivial))))))) ?_
  refine G_dup dX11_init_156 rfl ?_
  refine G_callI (as := []) (b := 154) (st := [.ref 154, vi 0, .ref 153, .ref 153, .ref 0]) (ci_7 (by decide)) dX11_init_157 cv_11_39 im_X7_init rfl rfl rfl ⟨by decide, by decide, by decide, by decide⟩ (Nat.le_of_ble_eq_true rfl) ⟨by decide, by decide⟩ (okL_all (And.intro (show (0 : Nat) < 155 by omega) (And.intro (show (154 : Nat) < 155 by omega) (And.intro trivial (And.intro (show (153 : Nat) < 155 by omega) (And.intro (show (153 : Nat) < 155 by omega) (And.intro (show (0 : Nat) < 155 by omega) (trivial)))))))) rfl (fun r11 nw11 m11 hn11 hp11 => ?_)
  obtain ⟨rfl, rfl, p11, q11⟩ := hp11
  have b11 : BtR 1 153 m11 := b10.fr (fun k k1 k2 => by rw [p11 k (by omega), upr_k (by omega), up2_k (by omega)])
  refine G_aast4 (a := 153) (v := 154) dX11_init_160 (by decide) rfl (by decide) rfl (by decide) (by decide) (by decide) rfl rfl ?_
  refine G_dup dX11_init_161 rfl ?_
  refine G_iconst (z := 1) dX11_init_162 rfl ?_
  refine G_new (ci := 7) rfl rfl dX11_init_163 (tw1 158 rfl (by decide +kernel)) (tw1 159 rfl (by decide +kernel)) (tw1 7 rfl (by decide +kernel)) (by decide) ⟨by decide, by decide⟩ (okL_all (And.intro (show (0 : Nat) < 158 by omega) (And.intro trivial (And.intro (show (153 : Nat) < 158 by omega) (And.intro (show (153 : Nat) < 158 by omega) (And.intro (show (0 : Nat) < 158 by omega) (trivial))))))) ?_
  refine G_dup dX11_init_166 rfl ?_
  refine G_callI (as := []) (b := 158) (st := [.ref 158, vi 1, .ref 153, .ref 153, .ref 0]) (ci_7 (by decide)) dX11_init_167 cv_11_39 im_X7_init rfl rfl rfl ⟨by decide, by decide, by decide, by decide⟩ (Nat.le_of_ble_eq_true rfl) ⟨by decide, by decide⟩ (okL_all (And.intro (show (0 : Nat) < 159 by omega) (And.intro (show (158 : Nat) < 159 by omega) (And.intro trivial (And.intro (show (153 : Nat) < 159 by omega) (And.intro (show (153 : Nat) < 159 by omega) (And.intro (show (0 : Nat) < 159 by omega) (trivial)))))))) rfl (fun r12 nw12 m12 hn12 hp12 => ?_)
  obtain ⟨rfl, rfl, p12, q12⟩ := hp12
  have b12 : BtR 1 153 m12 := b11.fr (fun k k1 k2 => by rw [p12 k (by omega), up2_k (by omega)])
  have g12 : BtR 154 162 m12 := BtR.app (b := 158) (q11.fr (fun k k1 k2 => by rw [p12 k (by omega), up2_k (by omega)])) q12
  refine G_aast4 (a := 153) (v := 158) dX11_init_170 (by decide) rfl (by decide) rfl (by decide) (by decide) (by decide) rfl rfl ?_
  refine G_dup dX11_init_171 rfl ?_
  refine G_iconst (z := 2) dX11_init_172 rfl ?_
  refine G_new (ci := 7) rfl rfl dX11_init_173 (tw1 158 rfl (by decide +kernel)) (tw1 159 rfl (by decide +kernel)) (tw1 7 rfl (by decide +kernel)) (by decide) ⟨by decide, by decide⟩ (okL_all (And.intro (show (0 : Nat) < 162 by omega) (And.intro trivial (And.intro (show (153 : Nat) < 162 by omega) (And.intro (show (153 : Nat) < 162 by omega) (And.intro (show (0 : Nat) < 162 by omega) (trivial))))))) ?_
  refine G_dup dX11_init_176 rfl ?_
  refine G_callI (as := []) (b := 162) (st := [.ref 162, vi 2, .ref 153, .ref 153, .ref 0]) (ci_7 (by decide)) dX11_init_177 cv_11_39 im_X7_init rfl rfl rfl ⟨by decide, by decide, by decide, by decide⟩ (Nat.le_of_ble_eq_true rfl) ⟨by decide, by decide⟩ (okL_all (And.intro (show (0 : Nat) < 163 by omega) (And.intro (show (162 : Nat) < 163 by omega) (And.intro trivial (And.intro (show (153 : Nat) < 163 by omega) (And.intro (show (153 : Nat) < 163 by omega) (And.intro (show (0 : Nat) < 163 by omega) (trivial)))))))) rfl (fun r13 nw13 m13 hn13 hp13 => ?_)
  obtain ⟨rfl, rfl, p13, q13⟩ := hp13
  have b13 : BtR 1 153 m13 := b12.fr (fun k k1 k2 => by rw [p13 k (by omega), up2_k (by omega)])
  have g13 : BtR 154 166 m13 := BtR.app (b := 162) (g12.fr (fun k k1 k2 => by rw [p13 k (by omega), up2_k (by omega)])) q13
  refine G_aast4 (a := 153) (v := 162) dX11_init_180 (by decide) rfl (by decide) rfl (by decide) (by decide) (by decide) rfl rfl ?_
  refine G_putFD dX11_init_181 fpf_11_87 rfl pd_14 rfl pk_14 (by decide) rfl rfl (by decide) rfl ?_
  refine G_aload_n dX11_init_184 rfl ?_
  refine G_iconst (z := 3) dX11_init_185 rfl ?_
  refine G_newI (n := 3) rfl rfl (by decide) dX11_init_186 (by decide) ⟨by decide, by decide⟩ (okL_all (And.intro (show (0 : Nat) < 166 by omega) (And.intro (show (0 : Nat) < 166 by omega) (trivial)))) ?_
  refine G_dup dX11_init_188 rfl ?_
  refine G_iconst (z := 0) dX11_init_189 rfl ?_
  refine G_iconst (z := -1) dX11_init_190 rfl ?_
  refine G_iast dX11_init_191 (by decide) rfl (by decide) (by decide) (by decide) rfl ?_
  refine G_dup dX11_init_192 rfl ?_
  refine G_iconst (z := 1) dX11_init_193 rfl ?_
  refine G_iconst (z := -1) dX11_init_194 rfl ?_
  refine G_iast dX11_init_195 (by decide) rfl (by decide) (by decide) (by decide) rfl ?_
  refine G_dup dX11_init_196 rfl ?_
  refine G_iconst (z := 2) dX11_init_197 rfl ?_
  refine G_iconst (z := -1) dX11_init_198 rfl ?_
  refine G_iast dX11_init_199 (by decide) rfl (by decide) (by decide) (by decide) rfl ?_
  refine G_putFD dX11_init_200 fpf_11_91 rfl pd_0 rfl pk_0 (by decide) rfl rfl (by decide) rfl ?_
  refine G_aload_n dX11_init_203 rfl ?_
  refine G_bipush (z := 30) dX11_init_204 rfl ?_
  refine G_newI (n := 30) rfl rfl (by decide) dX11_init_206 (by decide) ⟨by decide, by decide⟩ (okL_all (And.intro (show (0 : Nat) < 167 by omega) (And.intro (show (0 : Nat) < 167 by omega) (trivial)))) ?_
  refine G_putFD dX11_init_208 fpf_11_95 rfl pd_0 rfl pk_0 (by decide) rfl rfl (by decide) rfl ?_
  refine G_aload_n dX11_init_211 rfl ?_
  refine G_bipush (z := 6) dX11_init_212 rfl ?_
  refine G_newL (n := 6) rfl rfl (by decide) dX11_init_214 (by decide) ⟨by decide, by decide⟩ (okL_all (And.intro (show (0 : Nat) < 168 by omega) (And.intro (show (0 : Nat) < 168 by omega) (trivial)))) ?_
  refine G_putFD dX11_init_216 fpf_11_98 rfl pd_1 rfl pk_1 (by decide) rfl rfl (by decide) rfl ?_
  refine G_vret dX11_init_219 rfl (by decide) (by decide) (by decide) ⟨rfl, rfl, fun k hk => absurd hk (Nat.not_lt_zero k), ?_⟩
  refine BtR.app (b := 1) (fun k h1 h2 j hj => ?_) (BtR.app (b := 153) (b13.fr (fun k k1 k2 => by rw [up2_k (by omega), upr_k (by omega), up2_k (by omega), upr_k (by omega), up2_k (by omega), up2_k (by omega), up2_k (by omega), up2_k (by omega), upr_k (by omega), up2_k (by omega), up2_k (by omega)])) (BtR.app (b := 154) (fun k h1 h2 j hj => ?_) (BtR.app (b := 166) (g13.fr (fun k k1 k2 => by rw [up2_k (by omega), upr_k (by omega), up2_k (by omega), upr_k (by omega), up2_k (by omega), up2_k (by omega), up2_k (by omega), up2_k (by omega), upr_k (by omega), up2_k (by omega), up2_k (by omega)])) (fun k h1 h2 j hj => ?_))))
  · obtain rfl : k = 0 := by omega
    have hj : j < 16 := hj
    match j, hj with
    | 0, _ => first | (rw [up2_j (by decide), upr_k (by decide), up2_j (by decide), upr_k (by decide), up2_j (by decide), up2_k (by decide), up2_k (by decide), up2_k (by decide), upr_k (by decide), up2_j (by decide), up2_k (by decide), p13 0 (by decide), up2_k (by decide), p12 0 (by decide), up2_k (by decide), p11 0 (by decide), upr_k (by decide), up2_j (by decide), p10 0 (by decide), up2_j (by decide), p9 0 (by decide), up2_j (by decide), p8 0 (by decide), up2_j (by decide), p7 0 (by decide), up2_j (by decide), p6 0 (by decide), up2_j (by decide), p5 0 (by decide), up2_j (by decide), p4 0 (by decide), up2_j (by decide), p3 0 (by decide), up2_j (by decide), p2 0 (by decide), up2_same]; done) | (rw [up2_j (by decide), upr_k (by decide), up2_j (by decide), upr_k (by decide), up2_j (by decide), up2_k (by decide), up2_k (by decide), up2_k (by decide), upr_k (by decide), up2_j (by decide), up2_k (by decide), p13 0 (by decide), up2_k (by decide), p12 0 (by decide), up2_k (by decide), p11 0 (by decide), upr_k (by decide), up2_j (by decide), p10 0 (by decide), up2_j (by decide), p9 0 (by decide), up2_j (by decide), p8 0 (by decide), up2_j (by decide), p7 0 (by decide), up2_j (by decide), p6 0 (by decide), up2_j (by decide), p5 0 (by decide), up2_j (by decide), p4 0 (by decide), up2_j (by decide), p3 0 (by decide), up2_j (by decide), p2 0 (by decide), up2_same]; rfl)
    | 1, _ => first | (rw [up2_j (by decide), upr_k (by decide), up2_j (by decide), upr_k (by decide), up2_j (by decide), up2_k (by decide), up2_k (by decide), up2_k (by decide), upr_k (by decide), up2_j (by decide), up2_k (by decide), p13 0 (by decide), up2_k (by decide), p12 0 (by decide), up2_k (by decide), p11 0 (by decide), upr_k (by decide), up2_j (by decide), p10 0 (by decide), up2_j (by decide), p9 0 (by decide), up2_j (by decide), p8 0 (by decide), up2_j (by decide), p7 0 (by decide), up2_j (by decide), p6 0 (by decide), up2_j (by decide), p5 0 (by decide), up2_j (by decide), p4 0 (by decide), up2_j (by decide), p3 0 (by decide), up2_same]; done) | (rw [up2_j (by decide), upr_k (by decide), up2_j (by decide), upr_k (by decide), up2_j (by decide), up2_k (by decide), up2_k (by decide), up2_k (by decide), upr_k (by decide), up2_j (by decide), up2_k (by decide), p13 0 (by decide), up2_k (by decide), p12 0 (by decide), up2_k (by decide), p11 0 (by decide), upr_k (by decide), up2_j (by decide), p10 0 (by decide), up2_j (by decide), p9 0 (by decide), up2_j (by decide), p8 0 (by decide), up2_j (by decide), p7 0 (by decide), up2_j (by decide), p6 0 (by decide), up2_j (by decide), p5 0 (by decide), up2_j (by decide), p4 0 (by decide), up2_j (by decide), p3 0 (by decide), up2_same]; rfl)
    | 2, _ => first | (rw [up2_j (by decide), upr_k (by decide), up2_j (by decide), upr_k (by decide), up2_j (by decide), up2_k (by decide), up2_k (by decide), up2_k (by decide), upr_k (by decide), up2_j (by decide), up2_k (by decide), p13 0 (by decide), up2_k (by decide), p12 0 (by decide), up2_k (by decide), p11 0 (by decide), upr_k (by decide), up2_j (by decide), p10 0 (by decide), up2_j (by decide), p9 0 (by decide), up2_j (by decide), p8 0 (by decide), up2_j (by decide), p7 0 (by decide), up2_j (by decide), p6 0 (by decide), up2_j (by decide), p5 0 (by decide), up2_j (by decide), p4 0 (by decide), up2_same]; done) | (rw [up2_j (by decide), upr_k (by decide), up2_j (by decide), upr_k (by decide), up2_j (by decide), up2_k (by decide), up2_k (by decide), up2_k (by decide), upr_k (by decide), up2_j (by decide), up2_k (by decide), p13 0 (by decide), up2_k (by decide), p12 0 (by decide), up2_k (by decide), p11 0 (by decide), upr_k (by decide), up2_j (by decide), p10 0 (by decide), up2_j (by decide), p9 0 (by decide), up2_j (by decide), p8 0 (by decide), up2_j (by decide), p7 0 (by decide), up2_j (by decide), p6 0 (by decide), up2_j (by decide), p5 0 (by decide), up2_j (by decide), p4 0 (by decide), up2_same]; rfl)
    | 3, _ => first | (rw [up2_j (by decide), upr_k (by decide), up2_j (by decide), upr_k (by decide), up2_j (by decide), up2_k (by decide), up2_k (by decide), up2_k (by decide), upr_k (by decide), up2_j (by decide), up2_k (by decide), p13 0 (by decide), up2_k (by decide), p12 0 (by decide), up2_k (by decide), p11 0 (by decide), upr_k (by decide), up2_j (by decide), p10 0 (by decide), up2_j (by decide), p9 0 (by decide), up2_j (by decide), p8 0 (by decide), up2_j (by decide), p7 0 (by decide), up2_j (by decide), p6 0 (by decide), up2_j (by decide), p5 0 (by decide), up2_same]; done) | (rw [up2_j (by decide), upr_k (by decide), up2_j (by decide), upr_k (by decide), up2_j (by decide), up2_k (by decide), up2_k (by decide), up2_k (by decide), upr_k (by decide), up2_j (by decide), up2_k (by decide), p13 0 (by decide), up2_k (by decide), p12 0 (by decide), up2_k (by decide), p11 0 (by decide), upr_k (by decide), up2_j (by decide), p10 0 (by decide), up2_j (by decide), p9 0 (by decide), up2_j (by decide), p8 0 (by decide), up2_j (by decide), p7 0 (by decide), up2_j (by decide), p6 0 (by decide), up2_j (by decide), p5 0 (by decide), up2_same]; rfl)
    | 4, _ => first | (rw [up2_j (by decide), upr_k (by decide), up2_j (by decide), upr_k (by decide), up2_j (by decide), up2_k (by decide), up2_k (by decide), up2_k (by decide), upr_k (by decide), up2_j (by decide), up2_k (by decide), p13 0 (by decide), up2_k (by decide), p12 0 (by decide), up2_k (by decide), p11 0 (by decide), upr_k (by decide), up2_j (by decide), p10 0 (by decide), up2_j (by decide), p9 0 (by decide), up2_j (by decide), p8 0 (by decide), up2_j (by decide), p7 0 (by decide), up2_j (by decide), p6 0 (by decide), up2_same]; done) | (rw [up2_j (by decide), upr_k (by decide), up2_j (by decide), upr_k (by decide), up2_j (by decide), up2_k (by decide), up2_k (by decide), up2_k (by decide), upr_k (by decide), up2_j (by decide), up2_k (by decide), p13 0 (by decide), up2_k (by decide), p12 0 (by decide), up2_k (by decide), p11 0 (by decide), upr_k (by decide), up2_j (by decide), p10 0 (by decide), up2_j (by decide), p9 0 (by decide), up2_j (by decide), p8 0 (by decide), up2_j (by decide), p7 0 (by decide), up2_j (by decide), p6 0 (by decide), up2_same]; rfl)
    | 5, _ => first | (rw [up2_j (by decide), upr_k (by decide), up2_j (by decide), upr_k (by decide), up2_j (by decide), up2_k (by decide), up2_k (by decide), up2_k (by decide), upr_k (by decide), up2_j (by decide), up2_k (by decide), p13 0 (by decide), up2_k (by decide), p12 0 (by decide), up2_k (by decide), p11 0 (by decide), upr_k (by decide), up2_j (by decide), p10 0 (by decide), up2_j (by decide), p9 0 (by decide), up2_j (by decide), p8 0 (by decide), up2_j (by decide), p7 0 (by decide), up2_same]; done) | (rw [up2_j (by decide), upr_k (by decide), up2_j (by decide), upr_k (by decide), up2_j (by decide), up2_k (by decide), up2_k (by decide), up2_k (by decide), upr_k (by decide), up2_j (by decide), up2_k (by decide), p13 0 (by decide), up2_k (by decide), p12 0 (by decide), up2_k (by decide), p11 0 (by decide), upr_k (by decide), up2_j (by decide), p10 0 (by decide), up2_j (by decide), p9 0 (by decide), up2_j (by decide), p8 0 (by decide), up2_j (by decide), p7 0 (by decide), up2_same]; rfl)
    | 6, _ => first | (rw [up2_j (by decide), upr_k (by decide), up2_j (by decide), upr_k (by decide), up2_j (by decide), up2_k (by decide), up2_k (by decide), up2_k (by decide), upr_k (by decide), up2_j (by decide), up2_k (by decide), p13 0 (by decide), up2_k (by decide), p12 0 (by decide), up2_k (by decide), p11 0 (by decide), upr_k (by decide), up2_j (by decide), p10 0 (by decide), up2_j (by decide), p9 0 (by decide), up2_j (by decide), p8 0 (by decide), up2_same]; done) | (rw [up2_j (by decide), upr_k (by decide), up2_j (by decide), upr_k (by decide), up2_j (by decide), up2_k (by decide), up2_k (by decide), up2_k (by decide), upr_k (by decide), up2_j (by decide), up2_k (by decide), p13 0 (by decide), up2_k (by decide), p12 0 (by decide), up2_k (by decide), p11 0 (by decide), upr_k (by decide), up2_j (by decide), p10 0 (by decide), up2_j (by decide), p9 0 (by decide), up2_j (by decide), p8 0 (by decide), up2_same]; rfl)
    | 7, _ => first | (rw [up2_j (by decide), upr_k (by decide), up2_j (by decide), upr_k (by decide), up2_j (by decide), up2_k (by decide), up2_k (by decide), up2_k (by decide), upr_k (by decide), up2_j (by decide), up2_k (by decide), p13 0 (by decide), up2_k (by decide), p12 0 (by decide), up2_k (by decide), p11 0 (by decide), upr_k (by decide), up2_j (by decide), p10 0 (by decide), up2_j (by decide), p9 0 (by decide), up2_same]; done) | (rw [up2_j (by decide), upr_k (by decide), up2_j (by decide), upr_k (by decide), up2_j (by decide), up2_k (by decide), up2_k (by decide), up2_k (by decide), upr_k (by decide), up2_j (by decide), up2_k (by decide), p13 0 (by decide), up2_k (by decide), p12 0 (by decide), up2_k (by decide), p11 0 (by decide), upr_k (by decide), up2_j (by decide), p10 0 (by decide), up2_j (by decide), p9 0 (by decide), up2_same]; rfl)
    | 8, _ => first | (rw [up2_j (by decide), upr_k (by decide), up2_j (by decide), upr_k (by decide), up2_j (by decide), up2_k (by decide), up2_k (by decide), up2_k (by decide), upr_k (by decide), up2_j (by decide), up2_k (by decide), p13 0 (by decide), up2_k (by decide), p12 0 (by decide), up2_k (by decide), p11 0 (by decide), upr_k (by decide), up2_j (by decide), p10 0 (by decide), up2_same]; done) | (rw [up2_j (by decide), upr_k (by decide), up2_j (by decide), upr_k (by decide), up2_j (by decide), up2_k (by decide), up2_k (by decide), up2_k (by decide), upr_k (by decide), up2_j (by decide), up2_k (by decide), p13 0 (by decide), up2_k (by decide), p12 0 (by decide), up2_k (by decide), p11 0 (by decide), upr_k (by decide), up2_j (by decide), p10 0 (by decide), up2_same]; rfl)
    | 9, _ => first | (rw [up2_j (by decide), upr_k (by decide), up2_j (by decide), upr_k (by decide), up2_j (by decide), up2_k (by decide), up2_k (by decide), up2_k (by decide), upr_k (by decide), up2_j (by decide), up2_k (by decide), p13 0 (by decide), up2_k (by decide), p12 0 (by decide), up2_k (by decide), p11 0 (by decide), upr_k (by decide), up2_same]; done) | (rw [up2_j (by decide), upr_k (by decide), up2_j (by decide), upr_k (by decide), up2_j (by decide), up2_k (by decide), up2_k (by decide), up2_k (by decide), upr_k (by decide), up2_j (by decide), up2_k (by decide), p13 0 (by decide), up2_k (by decide), p12 0 (by decide), up2_k (by decide), p11 0 (by decide), upr_k (by decide), up2_same]; rfl)
    | 10, _ => first | (rw [up2_j (by decide), upr_k (by decide), up2_j (by decide), upr_k (by decide), up2_j (by decide), up2_k (by decide), up2_k (by decide), up2_k (by decide), upr_k (by decide), up2_same]; done) | (rw [up2_j (by decide), upr_k (by decide), up2_j (by decide), upr_k (by decide), up2_j (by decide), up2_k (by decide), up2_k (by decide), up2_k (by decide), upr_k (by decide), up2_same]; rfl)
    | 11, _ => first | (rw [up2_j (by decide), upr_k (by decide), up2_j (by decide), upr_k (by decide), up2_same]; done) | (rw [up2_j (by decide), upr_k (by decide), up2_j (by decide), upr_k (by decide), up2_same]; rfl)
    | 12, _ => first | (rw [up2_j (by decide), upr_k (by decide), up2_same]; done) | (rw [up2_j (by decide), upr_k (by decide), up2_same]; rfl)
    | 13, _ => first | (rw [up2_same]; done) | (rw [up2_same]; rfl)
    | 14, _ => rw [up2_j (by decide), upr_k (by decide), up2_j (by decide), upr_k (by decide), up2_j (by decide), up2_k (by decide), up2_k (by decide), up2_k (by decide), upr_k (by decide), up2_j (by decide), up2_k (by decide), p13 0 (by decide), up2_k (by decide), p12 0 (by decide), up2_k (by decide), p11 0 (by decide), upr_k (by decide), up2_j (by decide), p10 0 (by decide), up2_j (by decide), p9 0 (by decide), up2_j (by decide), p8 0 (by decide), up2_j (by decide), p7 0 (by decide), up2_j (by decide), p6 0 (by decide), up2_j (by decide), p5 0 (by decide), up2_j (by decide), p4 0 (by decide), up2_j (by decide), p3 0 (by decide), up2_j (by decide), p2 0 (by decide), up2_j (by decide), p1 0 (by decide), upr_same]; exact dz11 14 (by decide)
    | 15, _ => rw [up2_j (by decide), upr_k (by decide), up2_j (by decide), upr_k (by decide), up2_j (by decide), up2_k (by decide), up2_k (by decide), up2_k (by decide), upr_k (by decide), up2_j (by decide), up2_k (by decide), p13 0 (by decide), up2_k (by decide), p12 0 (by decide), up2_k (by decide), p11 0 (by decide), upr_k (by decide), up2_j (by decide), p10 0 (by decide), up2_j (by decide), p9 0 (by decide), up2_j (by decide), p8 0 (by decide), up2_j (by decide), p7 0 (by decide), up2_j (by decide), p6 0 (by decide), up2_j (by decide), p5 0 (by decide), up2_j (by decide), p4 0 (by decide), up2_j (by decide), p3 0 (by decide), up2_j (by decide), p2 0 (by decide), up2_j (by decide), p1 0 (by decide), upr_same]; exact dz11 15 (by decide)
    | n + 16, h => omega
  · obtain rfl : k = 153 := by omega
    have hj : j < 3 := hj
    match j, hj with
    | 0, _ => rw [up2_k (by decide), upr_k (by decide), up2_k (by decide), upr_k (by decide), up2_k (by decide), up2_k (by decide), up2_k (by decide), up2_k (by decide), upr_k (by decide), up2_k (by decide), up2_j (by decide), p13 153 (by decide), up2_j (by decide), p12 153 (by decide)]; exact up2_same _ _ _ _
    | 1, _ => rw [up2_k (by decide), upr_k (by decide), up2_k (by decide), upr_k (by decide), up2_k (by decide), up2_k (by decide), up2_k (by decide), up2_k (by decide), upr_k (by decide), up2_k (by decide), up2_j (by decide), p13 153 (by decide)]; exact up2_same _ _ _ _
    | 2, _ => rw [up2_k (by decide), upr_k (by decide), up2_k (by decide), upr_k (by decide), up2_k (by decide), up2_k (by decide), up2_k (by decide), up2_k (by decide), upr_k (by decide), up2_k (by decide)]; exact up2_same _ _ _ _
    | n + 3, h => omega
  · have hk : k = 166 ∨ k = 167 ∨ k = 168 := by omega
    rcases hk with e | e | e <;> rw [e] at hj ⊢
    · have hj : j < 3 := hj
      match j, hj with
      | 0, _ => rfl
      | 1, _ => rfl
      | 2, _ => rfl
      | n + 3, h => omega
    · rfl
    · rfl
