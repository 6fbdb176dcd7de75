/-! the law's start: what the Statement gives of it -/
def NL : List Cond := flatC (Jvm.Cond.and given_1 narrow_1)
def strO : List (String × Nat) := [("BinsBothSides$Rule", 77), ("BinsBothSides", 139), ("BinsBothSides", 183), ("BinsBothSides", 185), ("BinsBothSides", 468), ("BinsBothSidesModel", 205), ("BinsBothSidesModel", 245), ("BinsBothSidesModel", 247), ("BinsBothSidesModel", 249), ("BinsBothSidesModel", 390), ("BinsBothSidesModel", 392)]
def strTm (i : Nat) : Term := Term.string (strO.getD i ("", 0)).1 (strO.getD i ("", 0)).2
abbrev fV (t : Term) : Term := Term.field t "java/lang/String" "value" "[B"
abbrev tLeast : Term := Term.static "BinsBothSides$Settings" "LEAST" "[I"
abbrev tGreat : Term := Term.static "BinsBothSides$Settings" "GREATEST" "[I"
theorem nl_str : ∀ i, i < 11 → Cond.exactly (strTm i) "java/lang/String" ∈ NL ∧ Cond.eq (.field (strTm i) "java/lang/String" "coder" "B") (.int (iI 0)) ∈ NL ∧ Cond.arrayOf (fV (strTm i)) .byte ∈ NL ∧ Cond.eq (.length (fV (strTm i))) (.int (Int32.ofNat (strs.getD i []).length)) ∈ NL ∧ ∀ j, j < (strs.getD i []).length → Cond.eq (.elem (fV (strTm i)) (.int (Int32.ofNat j))) (.int (iI ((strs.getD i []).getD j 0))) ∈ NL := by decide +kernel
theorem nl_len : ∀ i, i < 11 → (strs.getD i []).length < 2 ^ 31 := by decide
theorem nl_240 : Cond.eq (strTm 0) (.string "BinsBothSidesModel" 240) ∈ NL := by decide +kernel
theorem nl_least : Cond.arrayOf tLeast .int ∈ NL ∧ Cond.eq (.length tLeast) (.int (Int32.ofNat 7)) ∈ NL ∧ ∀ j, j < 7 → Cond.eq (.elem tLeast (.int (Int32.ofNat j))) (.int (iI (leastT.getD j 0))) ∈ NL := by decide +kernel
theorem nl_great : Cond.arrayOf tGreat .int ∈ NL ∧ Cond.eq (.length tGreat) (.int (Int32.ofNat 7)) ∈ NL ∧ ∀ j, j < 7 → Cond.eq (.elem tGreat (.int (Int32.ofNat j))) (.int (iI (greatT.getD j 0))) ∈ NL := by decide +kernel
theorem nl_rest : Cond.eq (.static "java/lang/String" "COMPACT_STRINGS" "Z") (.int (iI 1)) ∈ NL ∧ Cond.isRef (.static "jdk/internal/util/Preconditions" "SIOOBE_FORMATTER" "Ljava/util/function/BiFunction;") ∈ NL ∧ Cond.isRef (.static Bundle.tN "UNASSIGNED_STACK" Bundle.steD) ∈ NL ∧ Cond.isRef (.static Bundle.tN "SUPPRESSED_SENTINEL" Bundle.listD) ∈ NL := by decide +kernel
theorem tb_words : ∀ w ∈ [Cond.laysStatic "BinsBothSides$Settings" "LEAST" "[I", Cond.laysStatic "BinsBothSides$Settings" "GREATEST" "[I", Cond.initialized "BinsBothSides$Settings", Cond.laysStatic "java/lang/String" "COMPACT_STRINGS" "Z", Cond.initialized "java/lang/String", Cond.laysStatic "jdk/internal/util/Preconditions" "SIOOBE_FORMATTER" "Ljava/util/function/BiFunction;", Cond.initialized "jdk/internal/util/Preconditions", Cond.laysStatic Bundle.tN "UNASSIGNED_STACK" Bundle.steD, Cond.laysStatic Bundle.tN "SUPPRESSED_SENTINEL" Bundle.listD, Cond.initialized Bundle.tN, Cond.arrayClass .int, Cond.arrayClass .boolean, Cond.arrayClass .long, Cond.arrayOver (.object "BinsBothSides$Street"), Cond.arrayOver (.object "BinsBothSides$State"), Cond.arrayOver (.object "BinsBothSides$Job")], w ∈ lw_tbl := by decide +kernel
theorem str_words : ∀ q ∈ strTab, Cond.stringRef q.1 q.2.1 q.2.2.1 ∈ lw_tbl := by decide +kernel
theorem str_idx : ∀ q ∈ strTab, (q = ("BinsBothSidesModel", 240, "wbsumrct", 0)) ∨ (q.2.2.2 < 11 ∧ strO.getD q.2.2.2 ("", 0) = (q.1, q.2.1)) := by decide
theorem inst_words : ∀ (ci : Nat) (r : vw_C), vwCl[ci]? = some r → Cond.instantiable r.1 r.2.2 ∈ lw_tbl := by
  intro ci r h
  match ci, h with
  | 0, h => cases h; decide +kernel
  | 1, h => cases h; decide +kernel
  | 2, h => cases h; decide +kernel
  | 3, h => cases h; decide +kernel
  | 4, h => cases h; decide +kernel
  | 5, h => cases h; decide +kernel
  | 6, h => cases h; decide +kernel
  | 7, h => cases h; decide +kernel
  | 8, h => cases h; decide +kernel
  | 9, h => cases h; decide +kernel
  | 10, h => cases h; decide +kernel
  | 11, h => cases h; decide +kernel
  | 12, h => cases h; decide +kernel
  | n + 13, h => simp [vwCl] at h
theorem nse_tbl : ∀ w ∈ nseB, w ∈ lw_tbl := by decide +kernel
theorem va_OFof {args : Array Value} {s : State} {tm : Term} {o n d : String} {v : Value} {t : Nat} {A : Nat → Prop} (ht : tm.eval args s none [] s = some (.ref t)) (hv : (Term.field tm o n d).eval args s none [] s = some v) (hA : ∀ a : Nat, a < s.heap.size → ¬ A a) : va_OF o n d v t A s s.heap := by
  cases hfo : s.fieldFound? o n d with
  | none =>
    rw [va_fe ht] at hv
    simp [State.fieldOf?, State.fieldNamed?, hfo] at hv
  | some x =>
    obtain ⟨cf, k, fi, f⟩ := x
    obtain ⟨g1, cell, g2, g3, -, -, g6⟩ := Term.field_spec hfo ht hv
    exact ⟨cf, k, fi, f, cell, hfo, g1, g2, g3, g6, hA _ (Array.getElem?_eq_some_iff.mp g2).1⟩
theorem str_of {args : Array Value} {s : State} {A : Nat → Prop} (hs : ∀ c ∈ NL, c.before args s = true) (hA : ∀ a : Nat, a < s.heap.size → ¬ A a) (i : Nat) (hi : i < 11) : ∃ a t : Nat, (strTm i).eval args s none [] s = some (.ref a) ∧ va_O "java/lang/String" a A s s.heap ∧ va_OF "java/lang/String" "coder" "B" (vi 0) a A s s.heap ∧ va_OF "java/lang/String" "value" "[B" (.ref t) a A s s.heap ∧ va_T .byte t (strs.getD i []).length (fun j => vi ((strs.getD i []).getD j 0)) A s s.heap := by
  obtain ⟨h1, h2, h3, h4, h5⟩ := nl_str i hi
  obtain ⟨a, c, cA, kA, q1, -⟩ := Cond.exactly_spec (args := args) (first := s) (o := none) (s := s) (idx := []) (t := strTm i) (cls := "java/lang/String") (hs _ h1)
  obtain ⟨t, e1, e2⟩ := va_Tof (f := fun j => vi ((strs.getD i []).getD j 0)) (nl_len i hi) (hs _ h3) (va_eqt (hs _ h4)) (fun j hj => va_eqt (hs _ (h5 j hj))) hA
  exact ⟨a, t, q1, va_Oof (hs _ h1) q1 hA, va_OFof q1 (va_eqt (hs _ h2)) hA, va_OFof q1 e1 hA, e2⟩
theorem cls_of {args : Array Value} {s : State} (hts : ∀ w ∈ lw_tbl, w.before args s = true) : ∃ D : va_G, ∀ (c : Nat) (q : vw_C), vwCl[c]? = some q → u_Kn s q.1 q.2.1 q.2.2 (D.1 c) (D.2 c) := by
  have key : ∀ c : Nat, ∃ x : ClassId × (Nat → Nat), ∀ q : vw_C, vwCl[c]? = some q → u_Kn s q.1 q.2.1 q.2.2 x.1 x.2 := fun c => by
    rcases h : vwCl[c]? with _ | q
    · exact ⟨(0, fun _ => 0), fun q hq => by cases hq⟩
    · obtain ⟨cC, iS, g⟩ := u_known (fun w hw => hts w (List.mem_filter.mp hw).1) (CKall h).1 (hts _ (inst_words c q h))
      exact ⟨(cC, iS), fun q2 hq => by cases hq; exact g⟩
  exact ⟨(fun c => (Classical.choose (key c)).1, fun c => (Classical.choose (key c)).2), fun c q hq => Classical.choose_spec (key c) q hq⟩
theorem arr_of {args : Array Value} {s : State} {ty : FieldType} (h : (Cond.arrayClass ty).before args s = true) (hn : ∀ C, ty ≠ .object C) : ∃ cA : ClassId, ArrOfT s cA ty ∧ va_RA s cA ty := by
  obtain ⟨c, k, comp, h1, h2, h3⟩ := Cond.arrayClass_spec h
  refine ⟨c, fun n z => ⟨fun k h => (by cases h), k, h2, comp, h3⟩, ?_⟩
  cases ty with
  | object C => exact absurd rfl (hn C)
  | _ => exact h1
theorem arrQ_of {args : Array Value} {s : State} {C : String} (h : (Cond.arrayOver (.object C)).before args s = true) : ∃ cA : ClassId, ArrOfT s cA (.object C) ∧ va_RA s cA (.object C) := by
  obtain ⟨comp, c, k, h1, h2, h3, h4, h5⟩ := Cond.arrayOver_spec h
  exact ⟨c, fun n z => ⟨fun k h => (by cases h), k, h3, comp, h4⟩, k, comp, h3, h4, h1, h5⟩
theorem cA_of {args : Array Value} {s : State} (hts : ∀ w ∈ lw_tbl, w.before args s = true) : ∃ cA : Nat → ClassId, ∀ (k : Nat) (q : ClassId × FieldType), (tyc cA)[k]? = some q → ArrOfT s q.1 q.2 ∧ va_RA s q.1 q.2 := by
  have w : ∀ x ∈ _, _ := fun x hx => hts x (tb_words x hx)
  obtain ⟨c0, g0⟩ := arr_of (ty := .int) (w _ (by simp)) (fun C h => by cases h)
  obtain ⟨c1, g1⟩ := arr_of (ty := .boolean) (w _ (by simp)) (fun C h => by cases h)
  obtain ⟨c2, g2⟩ := arr_of (ty := .long) (w _ (by simp)) (fun C h => by cases h)
  obtain ⟨c3, g3⟩ := arrQ_of (C := "BinsBothSides$Street") (w _ (by simp))
  obtain ⟨c4, g4⟩ := arrQ_of (C := "BinsBothSides$State") (w _ (by simp))
  obtain ⟨c5, g5⟩ := arrQ_of (C := "BinsBothSides$Job") (w _ (by simp))
  refine ⟨fun k => [c0, c1, c2, c3, c4, c5].getD k 0, fun k q hq => ?_⟩
  match k, hq with
  | 0, hq => cases hq; exact g0
  | 1, hq => cases hq; exact g1
  | 2, hq => cases hq; exact g2
  | 3, hq => cases hq; exact g3
  | 4, hq => cases hq; exact g4
  | 5, hq => cases hq; exact g5
  | n + 6, hq => simp [tyc] at hq
theorem ev_of {s : State} {b L : Nat} {xs : Nat → Int32} (hL : L ≤ 2560) (hts : ∀ w ∈ lw_tbl, w.before #[Value.ref b] s = true) (hs : ∀ c ∈ NL, c.before #[Value.ref b] s = true) (hX : va_X b L xs s s.heap) (hbl : b < s.heap.size) : ∃ A0 : Nat → Nat, A0 1000 = b ∧ Ev (L, xs) A0 (fun q => s.heap.size ≤ q) s s.heap := by
  have hA : ∀ a : Nat, a < s.heap.size → ¬ (fun q => s.heap.size ≤ q) a := fun a ha h => Nat.lt_irrefl _ (Nat.lt_of_lt_of_le ha h)
  have w : ∀ x ∈ _, _ := fun x hx => hts x (tb_words x hx)
  obtain ⟨scr, x1, x2, x3, x4, x5⟩ := hX
  have t0 : va_T .int b L (fun j => .int (xs j)) (fun q => s.heap.size ≤ q) s s.heap := ⟨scr, x1, x2, x3, by omega, by rw [x4], x5, hA b hbl⟩
  obtain ⟨a1, e1, t1⟩ := va_Tof (A := fun q => s.heap.size ≤ q) (f := fun j => vi (leastT.getD j 0)) (by decide) (hs _ nl_least.1) (va_eqt (hs _ nl_least.2.1)) (fun j hj => va_eqt (hs _ (nl_least.2.2 j hj))) hA
  obtain ⟨a2, e2, t2⟩ := va_Tof (A := fun q => s.heap.size ≤ q) (f := fun j => vi (greatT.getD j 0)) (by decide) (hs _ nl_great.1) (va_eqt (hs _ nl_great.2.1)) (fun j hj => va_eqt (hs _ (nl_great.2.2 j hj))) hA
  have z1 := va_Zof (w _ (by simp)) (w _ (by simp)) e1 hA
  have z2 := va_Zof (w _ (by simp)) (w _ (by simp)) e2 hA
  have z3 := va_Zof (w (Cond.laysStatic "java/lang/String" "COMPACT_STRINGS" "Z") (by simp)) (w (Cond.initialized "java/lang/String") (by simp)) (va_eqt (hs _ nl_rest.1)) hA
  have key : ∀ i : Nat, ∃ p : Nat × Nat, i < 11 → (strTm i).eval #[Value.ref b] s none [] s = some (.ref p.1) ∧ va_O "java/lang/String" p.1 (fun q => s.heap.size ≤ q) s s.heap ∧ va_OF "java/lang/String" "coder" "B" (vi 0) p.1 (fun q => s.heap.size ≤ q) s s.heap ∧ va_OF "java/lang/String" "value" "[B" (.ref p.2) p.1 (fun q => s.heap.size ≤ q) s s.heap ∧ va_T .byte p.2 (strs.getD i []).length (fun j => vi ((strs.getD i []).getD j 0)) (fun q => s.heap.size ≤ q) s s.heap := fun i => by
    by_cases hi : i < 11
    · obtain ⟨a, t, g⟩ := str_of hs hA i hi
      exact ⟨(a, t), fun _ => g⟩
    · exact ⟨(0, 0), fun h => absurd h hi⟩
  obtain ⟨v, f1, f2⟩ := Cond.isRef_spec (hs _ nl_rest.2.1)
  have z4 := va_Zof (w (Cond.laysStatic "jdk/internal/util/Preconditions" "SIOOBE_FORMATTER" "Ljava/util/function/BiFunction;") (by simp)) (w (Cond.initialized "jdk/internal/util/Preconditions") (by simp)) f1 hA
  obtain ⟨a3, z5⟩ : ∃ a3 : Nat, va_Z "jdk/internal/util/Preconditions" "SIOOBE_FORMATTER" "Ljava/util/function/BiFunction;" .null (fun q => s.heap.size ≤ q) s s.heap ∨ va_Z "jdk/internal/util/Preconditions" "SIOOBE_FORMATTER" "Ljava/util/function/BiFunction;" (.ref a3) (fun q => s.heap.size ≤ q) s s.heap := by
    cases v <;> first | (cases f2; done) | exact ⟨0, Or.inl z4⟩ | exact ⟨_, Or.inr z4⟩
  let A0 : Nat → Nat := fun k => if k = 1000 then b else if k = 1001 then a1 else if k = 1002 then a2 else if k = 1003 then a3 else if k < 1200 then (Classical.choose (key (k - 1100))).1 else (Classical.choose (key (k - 1200))).2
  have s1 : ∀ i, i < 11 → A0 (1100 + i) = (Classical.choose (key i)).1 := fun i hi => by
    show (if 1100 + i = 1000 then b else if 1100 + i = 1001 then a1 else if 1100 + i = 1002 then a2 else if 1100 + i = 1003 then a3 else if 1100 + i < 1200 then (Classical.choose (key (1100 + i - 1100))).1 else _) = _
    rw [if_neg (by omega), if_neg (by omega), if_neg (by omega), if_neg (by omega), if_pos (by omega), Nat.add_sub_cancel_left]
  have s2 : ∀ i, i < 11 → A0 (1200 + i) = (Classical.choose (key i)).2 := fun i hi => by
    show (if 1200 + i = 1000 then b else if 1200 + i = 1001 then a1 else if 1200 + i = 1002 then a2 else if 1200 + i = 1003 then a3 else if 1200 + i < 1200 then _ else (Classical.choose (key (1200 + i - 1200))).2) = _
    rw [if_neg (by omega), if_neg (by omega), if_neg (by omega), if_neg (by omega), if_neg (by omega), Nat.add_sub_cancel_left]
  have s3 : ∀ i, i < 11 → (strTm i).eval #[Value.ref b] s none [] s = some (.ref (A0 (1100 + i))) := fun i hi => by rw [s1 i hi]; exact (Classical.choose_spec (key i) hi).1
  refine ⟨A0, rfl, t0, t1, t2, z1, z2, z3, z5, fun i hi => ?_, fun q hq => ?_, ?_, ?_⟩
  · rw [s1 i hi, s2 i hi]
    exact (Classical.choose_spec (key i) hi).2
  · refine vk_R.of (hts _ (str_words q hq)) ?_
    rcases str_idx q hq with e | ⟨h1, h2⟩
    · subst e
      exact va_eqR (hs _ nl_240) (s3 0 (by decide))
    · have h3 := s3 q.2.2.2 h1
      unfold strTm at h3
      rw [h2] at h3
      exact h3
  · exact vx_Zqof (w (Cond.laysStatic Bundle.tN "UNASSIGNED_STACK" Bundle.steD) (by simp)) (w (Cond.initialized Bundle.tN) (by simp)) (hs _ nl_rest.2.2.1) hA
  · exact vx_Zqof (w (Cond.laysStatic Bundle.tN "SUPPRESSED_SENTINEL" Bundle.listD) (by simp)) (w (Cond.initialized Bundle.tN) (by simp)) (hs _ nl_rest.2.2.2) hA
