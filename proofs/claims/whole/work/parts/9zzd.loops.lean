/-! the constructors with loops -/
def LI (f0 a es N : Nat) (m0 : Mem) (i : Nat) (m : Mem) : Prop := (∀ k, k < f0 → k ≠ a → m k = m0 k) ∧ (∀ j : Nat, j < N → m a (j : Int) = if j < i then ((f0 + es * j : Nat) : Int) else -1) ∧ BtR f0 (f0 + es * i) m
theorem LI.start {f0 a es N : Nat} {m0 : Mem} (h : ∀ j : Nat, j < N → m0 a (j : Int) = -1) : LI f0 a es N m0 0 m0 := ⟨fun _ _ _ => rfl, fun j hj => (h j hj).trans (if_neg (Nat.not_lt_zero j)).symm, fun k h1 h2 => by omega⟩
theorem LI.step {f0 a es N i hi2 n : Nat} {m0 m m2 m3 : Mem} {r : Option Value} (ha : a < f0) (h : LI f0 a es N m0 i m) (hp : PB (f0 + es * i) hi2 m r n m2) (hh : hi2 = f0 + es * i + es) (e3 : up2 m2 a (i : Int) ((f0 + es * i : Nat) : Int) = m3) : LI f0 a es N m0 (i + 1) m3 := by
  obtain ⟨h1, h2, h3⟩ := h
  obtain ⟨-, -, p1, p2⟩ := hp
  subst e3 hh
  have e9 : f0 + es * (i + 1) = f0 + es * i + es := by rw [Nat.mul_add]; omega
  refine ⟨fun k hk hka => ?_, fun j hj => ?_, ?_⟩
  · rw [up2_k hka, p1 k (by omega), h1 k hk hka]
  · by_cases c : j = i
    · subst c
      rw [up2_same, if_pos (by omega)]
    · rw [up2_j (by omega), p1 a (by omega), h2 j hj]
      by_cases c2 : j < i
      · rw [if_pos c2, if_pos (by omega)]
      · rw [if_neg c2, if_neg (by omega)]
  · rw [e9]
    refine BtR.app (b := f0 + es * i) (h3.fr (fun k k1 k2 => ?_)) (p2.fr (fun k k1 k2 => ?_))
    · rw [up2_k (by omega), p1 k k2]
    · rw [up2_k (by omega)]
theorem LI.fin {f0 a es N o : Nat} {m0 m mem : Mem} (h : LI f0 a es N m0 N m) (oa : o ≤ a) (ha : a < f0) (f1 : ∀ k, k < o → m0 k = mem k) (f2 : BtR o a m0) (f3 : BtR (a + 1) f0 m0) (hl : ∀ j, j < lenS a → j < N ∧ V0 a j = ((f0 + es * j : Nat) : Int)) : (∀ k, k < o → m k = mem k) ∧ BtR o (f0 + es * N) m := by
  obtain ⟨h1, h2, h3⟩ := h
  refine ⟨fun k hk => by rw [h1 k (by omega) (by omega), f1 k hk], BtR.app (b := a) (f2.fr (fun k k1 k2 => h1 k (by omega) (by omega))) (BtR.app (b := a + 1) (fun k k1 k2 j hj => ?_) (BtR.app (b := f0) (f3.fr (fun k k1 k2 => h1 k k2 (by omega))) h3))⟩
  obtain rfl : k = a := by omega
  obtain ⟨g1, g2⟩ := hl j hj
  rw [h2 j g1, if_pos g1, g2]
theorem dz10 : dfl 10 ((1 : Nat) : Int) = 0 := by decide +kernel
theorem dz1 : dfl 1 ((2 : Nat) : Int) = 0 := by decide +kernel
theorem dz4 : ∀ j ∈ [5, 6, 7, 8, 9, 10, 12, 13, 14, 15], dfl 4 ((j : Nat) : Int) = 0 := by decide +kernel
theorem vl10 : ∀ j, j < lenS 10 → j < 6 ∧ V0 10 j = ((11 + 2 * j : Nat) : Int) := by decide +kernel
theorem vl28 : ∀ j, j < lenS 28 → j < 15 ∧ V0 28 j = ((33 + 4 * j : Nat) : Int) := by decide +kernel
theorem vl107 : ∀ j, j < lenS 107 → j < 6 ∧ V0 107 j = ((111 + 6 * j : Nat) : Int) := by decide +kernel
theorem sl_i : ∀ i, i < 6 → 11 + 2 * i ∈ streetL := by decide
theorem tl_i : ∀ i, i < 15 → 33 + 4 * i ∈ stateL := by decide
theorem jl_i : ∀ i, i < 6 → 111 + 6 * i ∈ jobL := by decide
theorem sn_i : ∀ i : Nat, i < 6 → ((i : Nat) : Int) = (((11 + 2 * i - 11) / 2 : Nat) : Int) := by decide
abbrev mi_10 : Mu := (cX10_init, 2, RX10, none, ⟨2, 13, 156, 100⟩, "<init>")
theorem ci_10 {E : Nat × (Nat → Int32)} {mem : Mem} : Ct ρ0 E yX10_init mi_10 10 [.ref 9] (upr mem 9 (dfl 10)) (PB 9 23 mem) := by
  refine Ct_of (lv := [.ref 9, un]) (by decide) rfl rfl (Nat.le_of_ble_eq_true rfl) rfl ?_
  have loop : ∀ (d i : Nat) (m m0 : Mem), i + d = 6 → (∀ k, k < 9 → m0 k = mem k) → BtR 9 10 m0 → BtR 11 11 m0 → LI 11 10 2 6 m0 i m → G ρ0 E mi_10 (QM ρ0 10 (PB 9 23 mem) mi_10.R.cells mi_10.R.slots) 10 15 [.ref 9, vi (i : Int)] [] (11 + 2 * i) (1 + 2 * i) (6 + 25 * i) m := by
    intro d
    induction d with
    | zero =>
      intro i m m0 e f1 f2 f3 h
      obtain rfl : i = 6 := by omega
      refine G_iload_n dX10_init_15 rfl ?_
      refine G_aload_n dX10_init_16 rfl ?_
      refine G_getD (t := 10) dX10_init_17 fl_10_11 (by omega) rfl rfl (by rw [h.1 9 (by decide) (by decide)]; exact f2 9 (by decide) (by decide) 0 (by decide)) ?_
      refine G_alen (z := 6) dX10_init_20 (by omega) rfl (by decide) rfl ?_
      refine G_icmp_ge (tgt := 44) dX10_init_21 (by decide) ⟨by omega, by omega⟩ (by decide) (fun _ => ?_) (fun c => by omega)
      exact G_vret dX10_init_44 rfl (by decide) (by decide) (by decide) ⟨rfl, rfl, h.fin (by decide) (by decide) f1 f2 f3 vl10⟩
    | succ d ih =>
      intro i m m0 e f1 f2 f3 h
      have hb : 11 + 2 * i ∈ streetL := sl_i i (by omega)
      refine G_iload_n dX10_init_15 rfl ?_
      refine G_aload_n dX10_init_16 rfl ?_
      refine G_getD (t := 10) dX10_init_17 fl_10_11 (by omega) rfl rfl (by rw [h.1 9 (by decide) (by decide)]; exact f2 9 (by decide) (by decide) 0 (by decide)) ?_
      refine G_alen (z := 6) dX10_init_20 (by omega) rfl (by decide) rfl ?_
      refine G_icmp_ge (tgt := 44) dX10_init_21 (by decide) ⟨by omega, by omega⟩ (by decide) (fun c => by omega) (fun _ => ?_)
      refine G_aload_n dX10_init_24 rfl ?_
      refine G_getD (t := 10) dX10_init_25 fl_10_11 (by omega) rfl rfl (by rw [h.1 9 (by decide) (by decide)]; exact f2 9 (by decide) (by decide) 0 (by decide)) ?_
      refine G_iload_n dX10_init_28 rfl ?_
      refine G_new (ci := 8) rfl (shStreet0 hb) dX10_init_29 (tw1 97 rfl (by decide +kernel)) (tw1 99 rfl (by decide +kernel)) (tw1 6 rfl (by decide +kernel)) (by omega) ⟨by show _ ≤ 13; omega, by show 6 + 25 * i + 9 ≤ 156; omega⟩ (okL_all (And.intro (show (9 : Nat) < 11 + 2 * i by omega) (And.intro trivial (And.intro trivial (And.intro (show (10 : Nat) < 11 + 2 * i by omega) (trivial)))))) ?_
      refine G_dup dX10_init_32 rfl ?_
      refine G_iload_n dX10_init_33 rfl ?_
      refine G_callI (as := [vi (i : Int)]) (b := 11 + 2 * i) (st := [.ref (11 + 2 * i), vi (i : Int), .ref 10]) (ci_8 (i := (i : Int)) hb (sn_i i (by omega))) dX10_init_34 cv_10_17 im_X8_init rfl rfl rfl ⟨by decide, by decide, by show 1 + 2 * i + 1 + 1 ≤ 13; omega, by show 6 + 25 * i + 9 + 16 ≤ 156; omega⟩ (Nat.le_of_ble_eq_true rfl) ⟨by omega, by omega⟩ (okL_all (And.intro (show (9 : Nat) < 11 + 2 * i + 1 by omega) (And.intro trivial (And.intro (show (11 + 2 * i : Nat) < 11 + 2 * i + 1 by omega) (And.intro trivial (And.intro (show (10 : Nat) < 11 + 2 * i + 1 by omega) (trivial))))))) rfl (fun r nw2 m2 hn2 hp => ?_)
      have hp2 := hp
      obtain ⟨rfl, rfl, -, -⟩ := hp2
      refine G_aast3 (a := 10) (v := 11 + 2 * i) dX10_init_37 (by omega) rfl (by omega) (shStreet0 hb) (by decide) (by omega) (by omega) rfl rfl ?_
      refine G_iinc (z := ((i + 1 : Nat) : Int)) dX10_init_38 rfl (by omega) (by decide) rfl ?_
      refine G_goto (tgt := 15) dX10_init_41 (by decide) ?_
      exact ih (i + 1) _ m0 (by omega) f1 f2 f3 (LI.step (by decide) h hp rfl rfl)
  refine G_aload_n dX10_init_0 rfl ?_
  refine G_objInit dX10_init_1 ml_10_3 ⟨by decide, by decide⟩ (by decide) ?_
  refine G_aload_n dX10_init_4 rfl ?_
  refine G_bipush (z := 6) dX10_init_5 rfl ?_
  refine G_newQ (n := 6) (t := 3) ⟨by decide, by decide⟩ rfl rfl rfl (by decide) dX10_init_7 (tw1 97 rfl (by decide +kernel)) (tw1 98 rfl (by decide +kernel)) (by decide) ⟨by decide, by decide⟩ (okL_all (And.intro (show (9 : Nat) < 10 by omega) (And.intro trivial (And.intro (show (9 : Nat) < 10 by omega) (trivial))))) ?_
  refine G_putFD dX10_init_10 fpf_10_11 rfl pd_13 rfl pk_13 (by omega) rfl rfl (by omega) rfl ?_
  refine G_iconst (z := 0) dX10_init_13 rfl ?_
  refine G_istore_n dX10_init_14 rfl (by decide) rfl ?_
  refine loop 6 0 _ _ rfl (fun k hk => by rw [up2_k (by omega), upr_k (by omega), upr_k (by omega)]) (fun k h1 h2 j hj => ?_) (fun k h1 h2 => by omega) (LI.start (fun j _ => rfl))
  obtain rfl : k = 9 := by omega
  have hj : j < 2 := hj
  match j, hj with
  | 0, _ => rfl
  | 1, _ => exact dz10
  | n + 2, h => omega
abbrev mi_1 : Mu := (cX1_init, 2, RX1, none, ⟨2, 65, 399, 100⟩, "<init>")
theorem ci_1 {E : Nat × (Nat → Int32)} {mem : Mem} : Ct ρ0 E yX1_init mi_1 28 [.ref 27] (upr mem 27 (dfl 1)) (PB 27 93 mem) := by
  refine Ct_of (lv := [.ref 27, un]) (by decide) rfl rfl (Nat.le_of_ble_eq_true rfl) rfl ?_
  have loop : ∀ (d i : Nat) (m m0 : Mem), i + d = 15 → (∀ k, k < 27 → m0 k = mem k) → BtR 27 28 m0 → BtR 29 33 m0 → LI 33 28 4 15 m0 i m → G ρ0 E mi_1 (QM ρ0 28 (PB 27 93 mem) mi_1.R.cells mi_1.R.slots) 28 26 [.ref 27, vi (i : Int)] [] (33 + 4 * i) (5 + 4 * i) (39 + 24 * i) m := by
    intro d
    induction d with
    | zero =>
      intro i m m0 e f1 f2 f3 h
      obtain rfl : i = 15 := by omega
      refine G_iload_n dX1_init_26 rfl ?_
      refine G_aload_n dX1_init_27 rfl ?_
      refine G_getD (t := 28) dX1_init_28 fl_1_11 (by omega) rfl rfl (by rw [h.1 27 (by decide) (by decide)]; exact f2 27 (by decide) (by decide) 0 (by decide)) ?_
      refine G_alen (z := 15) dX1_init_31 (by omega) rfl (by decide) rfl ?_
      refine G_icmp_ge (tgt := 54) dX1_init_32 (by decide) ⟨by omega, by omega⟩ (by decide) (fun _ => ?_) (fun c => by omega)
      exact G_vret dX1_init_54 rfl (by decide) (by decide) (by decide) ⟨rfl, rfl, h.fin (by decide) (by decide) f1 f2 f3 vl28⟩
    | succ d ih =>
      intro i m m0 e f1 f2 f3 h
      have hb : 33 + 4 * i ∈ stateL := tl_i i (by omega)
      refine G_iload_n dX1_init_26 rfl ?_
      refine G_aload_n dX1_init_27 rfl ?_
      refine G_getD (t := 28) dX1_init_28 fl_1_11 (by omega) rfl rfl (by rw [h.1 27 (by decide) (by decide)]; exact f2 27 (by decide) (by decide) 0 (by decide)) ?_
      refine G_alen (z := 15) dX1_init_31 (by omega) rfl (by decide) rfl ?_
      refine G_icmp_ge (tgt := 54) dX1_init_32 (by decide) ⟨by omega, by omega⟩ (by decide) (fun c => by omega) (fun _ => ?_)
      refine G_aload_n dX1_init_35 rfl ?_
      refine G_getD (t := 28) dX1_init_36 fl_1_11 (by omega) rfl rfl (by rw [h.1 27 (by decide) (by decide)]; exact f2 27 (by decide) (by decide) 0 (by decide)) ?_
      refine G_iload_n dX1_init_39 rfl ?_
      refine G_new (ci := 7) rfl (shState0 hb) dX1_init_40 (tw1 193 rfl (by decide +kernel)) (tw1 159 rfl (by decide +kernel)) (tw1 7 rfl (by decide +kernel)) (by omega) ⟨by show _ ≤ 65; omega, by show 39 + 24 * i + 6 ≤ 399; omega⟩ (okL_all (And.intro (show (27 : Nat) < 33 + 4 * i by omega) (And.intro trivial (And.intro trivial (And.intro (show (28 : Nat) < 33 + 4 * i by omega) (trivial)))))) ?_
      refine G_dup dX1_init_43 rfl ?_
      refine G_callI (as := []) (b := 33 + 4 * i) (st := [.ref (33 + 4 * i), vi (i : Int), .ref 28]) (ci_7 hb) dX1_init_44 cv_1_15 im_X7_init rfl rfl rfl ⟨by decide, by decide, by show 5 + 4 * i + 1 + 3 ≤ 65; omega, by show 39 + 24 * i + 6 + 18 ≤ 399; omega⟩ (Nat.le_of_ble_eq_true rfl) ⟨by omega, by omega⟩ (okL_all (And.intro (show (27 : Nat) < 33 + 4 * i + 1 by omega) (And.intro trivial (And.intro (show (33 + 4 * i : Nat) < 33 + 4 * i + 1 by omega) (And.intro trivial (And.intro (show (28 : Nat) < 33 + 4 * i + 1 by omega) (trivial))))))) rfl (fun r nw2 m2 hn2 hp => ?_)
      have hp2 := hp
      obtain ⟨rfl, rfl, -, -⟩ := hp2
      refine G_aast4 (a := 28) (v := 33 + 4 * i) dX1_init_47 (by omega) rfl (by omega) (shState0 hb) (by decide) (by omega) (by omega) rfl rfl ?_
      refine G_iinc (z := ((i + 1 : Nat) : Int)) dX1_init_48 rfl (by omega) (by decide) rfl ?_
      refine G_goto (tgt := 26) dX1_init_51 (by decide) ?_
      exact ih (i + 1) _ m0 (by omega) f1 f2 f3 (LI.step (by decide) h hp rfl rfl)
  refine G_aload_n dX1_init_0 rfl ?_
  refine G_objInit dX1_init_1 ml_1_1 ⟨by decide, by decide⟩ (by decide) ?_
  refine G_aload_n dX1_init_4 rfl ?_
  refine G_bipush (z := 15) dX1_init_5 rfl ?_
  refine G_newQ (n := 15) (t := 4) ⟨by decide, by decide⟩ rfl rfl rfl (by decide) dX1_init_7 (tw1 193 rfl (by decide +kernel)) (tw1 194 rfl (by decide +kernel)) (by decide) ⟨by decide, by decide⟩ (okL_all (And.intro (show (27 : Nat) < 28 by omega) (And.intro trivial (And.intro (show (27 : Nat) < 28 by omega) (trivial))))) ?_
  refine G_putFD dX1_init_10 fpf_1_11 rfl pd_14 rfl pk_14 (by omega) rfl rfl (by omega) rfl ?_
  refine G_aload_n dX1_init_13 rfl ?_
  refine G_new (ci := 7) rfl rfl dX1_init_14 (tw1 193 rfl (by decide +kernel)) (tw1 159 rfl (by decide +kernel)) (tw1 7 rfl (by decide +kernel)) (by decide) ⟨by decide, by decide⟩ (okL_all (And.intro (show (27 : Nat) < 29 by omega) (And.intro trivial (And.intro (show (27 : Nat) < 29 by omega) (trivial))))) ?_
  refine G_dup dX1_init_17 rfl ?_
  refine G_callI (as := []) (b := 29) (st := [.ref 29, .ref 27]) (ci_7 (by decide)) dX1_init_18 cv_1_15 im_X7_init rfl rfl rfl ⟨by decide, by decide, by decide, by decide⟩ (Nat.le_of_ble_eq_true rfl) ⟨by decide, by decide⟩ (okL_all (And.intro (show (27 : Nat) < 30 by omega) (And.intro trivial (And.intro (show (29 : Nat) < 30 by omega) (And.intro (show (27 : Nat) < 30 by omega) (trivial)))))) rfl (fun r nw2 m2 hn2 hp => ?_)
  obtain ⟨rfl, rfl, p1, p2⟩ := hp
  refine G_putFD dX1_init_21 fpf_1_16 rfl pd_7 rfl pk_7 (by omega) rfl rfl (by omega) rfl ?_
  refine G_iconst (z := 0) dX1_init_24 rfl ?_
  refine G_istore_n dX1_init_25 rfl (by decide) rfl ?_
  refine loop 15 0 _ _ rfl (fun k hk => by rw [up2_k (by omega), p1 k (by omega), up2_k (by omega), upr_k (by omega), upr_k (by omega)]) (fun k h1 h2 j hj => ?_) (p2.fr (fun k h1 h2 => up2_k (by omega))) (LI.start (fun j _ => by rw [up2_k (by decide), p1 28 (by decide)]; rfl))
  obtain rfl : k = 27 := by omega
  have hj : j < 3 := hj
  match j, hj with
  | 0, _ => rw [up2_j (by decide), p1 27 (by decide)]; rfl
  | 1, _ => rfl
  | 2, _ => rw [up2_j (by decide), p1 27 (by decide)]; exact dz1
  | n + 3, h => omega
abbrev mi_4 : Mu := (cX4_init, 5, RX4, none, ⟨2, 40, 492, 100⟩, "<init>")
theorem ci_4 {E : Nat × (Nat → Int32)} {mem : Mem} : Ct ρ0 E yX4_init mi_4 107 [.ref 106, .ref 9, .ref 3, .ref 5] (upr mem 106 (dfl 4)) (PB 106 147 mem) := by
  refine Ct_of (lv := [.ref 106, .ref 9, .ref 3, .ref 5, un]) (by decide) rfl rfl (Nat.le_of_ble_eq_true rfl) rfl ?_
  have loop : ∀ (d i : Nat) (m m0 : Mem), i + d = 6 → (∀ k, k < 106 → m0 k = mem k) → BtR 106 107 m0 → BtR 108 111 m0 → LI 111 107 6 6 m0 i m → G ρ0 E mi_4 (QM ρ0 107 (PB 106 147 mem) mi_4.R.cells mi_4.R.slots) 107 50 [.ref 106, .ref 9, .ref 3, .ref 5, vi (i : Int)] [] (111 + 6 * i) (4 + 6 * i) (24 + 78 * i) m := by
    intro d
    induction d with
    | zero =>
      intro i m m0 e f1 f2 f3 h
      obtain rfl : i = 6 := by omega
      refine G_iload dX4_init_50 rfl ?_
      refine G_aload_n dX4_init_52 rfl ?_
      refine G_getD (t := 107) dX4_init_53 fl_4_11 (by omega) rfl rfl (by rw [h.1 106 (by decide) (by decide)]; exact f2 106 (by decide) (by decide) 2 (by decide)) ?_
      refine G_alen (z := 6) dX4_init_56 (by omega) rfl (by decide) rfl ?_
      refine G_icmp_ge (tgt := 82) dX4_init_57 (by decide) ⟨by omega, by omega⟩ (by decide) (fun _ => ?_) (fun c => by omega)
      exact G_vret dX4_init_82 rfl (by decide) (by decide) (by decide) ⟨rfl, rfl, h.fin (by decide) (by decide) f1 f2 f3 vl107⟩
    | succ d ih =>
      intro i m m0 e f1 f2 f3 h
      have hb : 111 + 6 * i ∈ jobL := jl_i i (by omega)
      refine G_iload dX4_init_50 rfl ?_
      refine G_aload_n dX4_init_52 rfl ?_
      refine G_getD (t := 107) dX4_init_53 fl_4_11 (by omega) rfl rfl (by rw [h.1 106 (by decide) (by decide)]; exact f2 106 (by decide) (by decide) 2 (by decide)) ?_
      refine G_alen (z := 6) dX4_init_56 (by omega) rfl (by decide) rfl ?_
      refine G_icmp_ge (tgt := 82) dX4_init_57 (by decide) ⟨by omega, by omega⟩ (by decide) (fun c => by omega) (fun _ => ?_)
      refine G_aload_n dX4_init_60 rfl ?_
      refine G_getD (t := 107) dX4_init_61 fl_4_11 (by omega) rfl rfl (by rw [h.1 106 (by decide) (by decide)]; exact f2 106 (by decide) (by decide) 2 (by decide)) ?_
      refine G_iload dX4_init_64 rfl ?_
      refine G_new (ci := 2) rfl (shJob0 hb) dX4_init_66 (tw2 90 rfl (by decide +kernel)) (tw2 7 rfl (by decide +kernel)) (tw1 10 rfl (by decide +kernel)) (by omega) ⟨by show _ ≤ 40; omega, by show 24 + 78 * i + 19 ≤ 492; omega⟩ (okL_all (And.intro (show (106 : Nat) < 111 + 6 * i by omega) (And.intro (show (9 : Nat) < 111 + 6 * i by omega) (And.intro (show (3 : Nat) < 111 + 6 * i by omega) (And.intro (show (5 : Nat) < 111 + 6 * i by omega) (And.intro trivial (And.intro trivial (And.intro (show (107 : Nat) < 111 + 6 * i by omega) (trivial))))))))) ?_
      refine G_dup dX4_init_69 rfl ?_
      refine G_aload_n dX4_init_70 rfl ?_
      refine G_aload_n dX4_init_71 rfl ?_
      refine G_callI (as := [.ref 3, .ref 5]) (b := 111 + 6 * i) (st := [.ref (111 + 6 * i), vi (i : Int), .ref 107]) (ci_2 hb) dX4_init_72 cv_4_35 im_X2_init rfl rfl rfl ⟨by decide, by decide, by show 4 + 6 * i + 1 + 5 ≤ 40; omega, by show 24 + 78 * i + 19 + 59 ≤ 492; omega⟩ (Nat.le_of_ble_eq_true rfl) ⟨by omega, by omega⟩ (okL_all (And.intro (show (106 : Nat) < 111 + 6 * i + 1 by omega) (And.intro (show (9 : Nat) < 111 + 6 * i + 1 by omega) (And.intro (show (3 : Nat) < 111 + 6 * i + 1 by omega) (And.intro (show (5 : Nat) < 111 + 6 * i + 1 by omega) (And.intro trivial (And.intro (show (111 + 6 * i : Nat) < 111 + 6 * i + 1 by omega) (And.intro trivial (And.intro (show (107 : Nat) < 111 + 6 * i + 1 by omega) (trivial)))))))))) rfl (fun r nw2 m2 hn2 hp => ?_)
      have hp2 := hp
      obtain ⟨rfl, rfl, -, -⟩ := hp2
      refine G_aast5 (a := 107) (v := 111 + 6 * i) dX4_init_75 (by omega) rfl (by omega) (shJob0 hb) (by decide) (by omega) (by omega) rfl rfl ?_
      refine G_iinc (z := ((i + 1 : Nat) : Int)) dX4_init_76 rfl (by omega) (by decide) rfl ?_
      refine G_goto (tgt := 50) dX4_init_79 (by decide) ?_
      exact ih (i + 1) _ m0 (by omega) f1 f2 f3 (LI.step (by decide) h hp rfl rfl)
  refine G_aload_n dX4_init_0 rfl ?_
  refine G_objInit dX4_init_1 ml_4_3 ⟨by decide, by decide⟩ (by decide) ?_
  refine G_aload_n dX4_init_4 rfl ?_
  refine G_bipush (z := 6) dX4_init_5 rfl ?_
  refine G_newQ (n := 6) (t := 5) ⟨by decide, by decide⟩ rfl rfl rfl (by decide) dX4_init_7 (tw2 90 rfl (by decide +kernel)) (tw2 91 rfl (by decide +kernel)) (by decide) ⟨by decide, by decide⟩ (okL_all (And.intro (show (106 : Nat) < 107 by omega) (And.intro (show (9 : Nat) < 107 by omega) (And.intro (show (3 : Nat) < 107 by omega) (And.intro (show (5 : Nat) < 107 by omega) (And.intro trivial (And.intro (show (106 : Nat) < 107 by omega) (trivial)))))))) ?_
  refine G_putFD dX4_init_10 fpf_4_11 rfl pd_15 rfl pk_15 (by omega) rfl rfl (by omega) rfl ?_
  refine G_aload_n dX4_init_13 rfl ?_
  refine G_bipush (z := 6) dX4_init_14 rfl ?_
  refine G_newI (n := 6) rfl rfl (by decide) dX4_init_16 (by omega) ⟨by decide, by decide⟩ (okL_all (And.intro (show (106 : Nat) < 108 by omega) (And.intro (show (9 : Nat) < 108 by omega) (And.intro (show (3 : Nat) < 108 by omega) (And.intro (show (5 : Nat) < 108 by omega) (And.intro trivial (And.intro (show (106 : Nat) < 108 by omega) (trivial)))))))) ?_
  refine G_putFD dX4_init_18 fpf_4_17 rfl pd_0 rfl pk_0 (by omega) rfl rfl (by omega) rfl ?_
  refine G_aload_n dX4_init_21 rfl ?_
  refine G_bipush (z := 6) dX4_init_22 rfl ?_
  refine G_newI (n := 6) rfl rfl (by decide) dX4_init_24 (by omega) ⟨by decide, by decide⟩ (okL_all (And.intro (show (106 : Nat) < 109 by omega) (And.intro (show (9 : Nat) < 109 by omega) (And.intro (show (3 : Nat) < 109 by omega) (And.intro (show (5 : Nat) < 109 by omega) (And.intro trivial (And.intro (show (106 : Nat) < 109 by omega) (trivial)))))))) ?_
  refine G_putFD dX4_init_26 fpf_4_21 rfl pd_0 rfl pk_0 (by omega) rfl rfl (by omega) rfl ?_
  refine G_aload_n dX4_init_29 rfl ?_
  refine G_bipush (z := 6) dX4_init_30 rfl ?_
  refine G_newI (n := 6) rfl rfl (by decide) dX4_init_32 (by omega) ⟨by decide, by decide⟩ (okL_all (And.intro (show (106 : Nat) < 110 by omega) (And.intro (show (9 : Nat) < 110 by omega) (And.intro (show (3 : Nat) < 110 by omega) (And.intro (show (5 : Nat) < 110 by omega) (And.intro trivial (And.intro (show (106 : Nat) < 110 by omega) (trivial)))))))) ?_
  refine G_putFD dX4_init_34 fpf_4_24 rfl pd_0 rfl pk_0 (by omega) rfl rfl (by omega) rfl ?_
  refine G_aload_n dX4_init_37 rfl ?_
  refine G_aload_n dX4_init_38 rfl ?_
  refine G_putFD dX4_init_39 fpf_4_27 rfl pd_6 rfl pk_6 (by omega) rfl rfl (by omega) rfl ?_
  refine G_aload_n dX4_init_42 rfl ?_
  refine G_aload_n dX4_init_43 rfl ?_
  refine G_putFD dX4_init_44 fpf_4_31 rfl pd_4 rfl pk_4 (by omega) rfl rfl (by omega) rfl ?_
  refine G_iconst (z := 0) dX4_init_47 rfl ?_
  refine G_istore dX4_init_48 (by decide) rfl ?_
  refine loop 6 0 _ _ rfl (fun k hk => by rw [up2_k (by omega), up2_k (by omega), up2_k (by omega), upr_k (by omega), up2_k (by omega), upr_k (by omega), up2_k (by omega), upr_k (by omega), up2_k (by omega), upr_k (by omega), upr_k (by omega)]) (fun k h1 h2 j hj => ?_) (fun k h1 h2 j hj => ?_) (LI.start (fun j _ => rfl))
  · obtain rfl : k = 106 := by omega
    have hj : j < 16 := hj
    match j, hj with
    | 0, _ => rfl
    | 1, _ => rfl
    | 2, _ => rfl
    | 3, _ => rfl
    | 4, _ => rfl
    | 5, _ => exact dz4 5 (by decide)
    | 6, _ => exact dz4 6 (by decide)
    | 7, _ => exact dz4 7 (by decide)
    | 8, _ => exact dz4 8 (by decide)
    | 9, _ => exact dz4 9 (by decide)
    | 10, _ => exact dz4 10 (by decide)
    | 11, _ => rfl
    | 12, _ => exact dz4 12 (by decide)
    | 13, _ => exact dz4 13 (by decide)
    | 14, _ => exact dz4 14 (by decide)
    | 15, _ => exact dz4 15 (by decide)
    | n + 16, h => omega
  · have hk : k = 108 ∨ k = 109 ∨ k = 110 := by omega
    rcases hk with e | e | e <;> rw [e]
    · rfl
    · rfl
    · rfl
