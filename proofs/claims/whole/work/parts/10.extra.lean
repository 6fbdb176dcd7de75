/-! the Java library's own, texts, tables, what is made -/
def upr (mem : Mem) (k : Nat) (f : Int → Int) : Mem := fun a b => if a = k then f b else mem a b
theorem upr_same (mem : Mem) (k : Nat) (f : Int → Int) (j : Int) : upr mem k f k j = f j := by simp [upr]
theorem upr_row (mem : Mem) (k : Nat) (f : Int → Int) : upr mem k f k = f := by funext j; simp [upr]
theorem upr_k {mem : Mem} {k a : Nat} {f : Int → Int} (h : a ≠ k) : upr mem k f a = mem a := by
  funext b; simp [upr, h]
theorem WFm.row {ρ : Rho} {nw k : Nat} {mem : Mem} {f : Int → Int} (h : WFm ρ nw mem) (hz : ∀ j, rsl k j = true → f j < nw) : WFm ρ nw (upr mem k f) := by
  intro a b ha hr hb
  unfold upr
  split
  · rename_i e
    subst e
    exact hz b hb
  · exact h a b ha hr hb
section GX
variable {ρ : Rho} {E : Nat × (Nat → Int32)} {μ : Mu} {QQ : QF} {nw0 pc : Nat} {lv st : List Value} {nw k u : Nat} {mem : Mem}
theorem G_max {idx : Nat} {a b z : Int} (hd : decode μ.cc pc = .ok (.invokestatic idx, 3)) (hw : Cond.methodLink μ.own idx Lib.Math.max.name ∈ T0) (hw2 : Cond.static Lib.Math.max.name ∈ T0 ∧ Cond.initialized "java/lang/Math" ∈ T0 ∧ Cond.code Lib.Math.max.name Lib.Math.max.code 2 (some .int) ∈ T0) (ha : -2147483648 ≤ a ∧ a < 2147483648) (hb : -2147483648 ≤ b ∧ b < 2147483648) (hR : 1 ≤ μ.R.frames ∧ 21 ≤ μ.R.locals ∧ k ≤ μ.R.cells ∧ u ≤ μ.R.slots) (hst : (st.map fun v => v.category).sum ≤ 8) (hz : max a b = z) (kk : G ρ E μ QQ nw0 (pc + 3) lv (vi z :: st) nw k u mem) : G ρ E μ QQ nw0 pc lv (vi b :: vi a :: st) nw k u mem := by
  subst hz
  intro p l e s m args below meth c D cA A0 A H locs ls C hA hP hD hS hl
  have hts := C.2.2.2.2.1
  refine va_mmax C.1 C.2.1 (C.2.2.1.trans hl.1.symm) C.2.2.2.1 (hts _ hw) (hts _ hw2.1) (hts _ hw2.2.1) (hts _ hw2.2.2) hR.1 (by rw [cv_cats]; omega) hR.2.2.1 hR.2.2.2 hd ?_
  have h := kk p l e s m args below meth c D cA A0 A H locs ls C hA hP hD hS hl
  rw [List.map_cons] at h
  have e1 : (if iI a < iI b then iI b else iI a) = iI (max a b) := by
    by_cases q : a < b
    · rw [if_pos ((iI_lt ha hb).mpr q), Int.max_eq_right (by omega)]
    · rw [if_neg (fun z => q ((iI_lt ha hb).mp z)), Int.max_eq_left (by omega)]
  rw [e1]
  exact h
theorem G_min {idx : Nat} {a b z : Int} (hd : decode μ.cc pc = .ok (.invokestatic idx, 3)) (hw : Cond.methodLink μ.own idx Lib.Math.min.name ∈ T0) (hw2 : Cond.static Lib.Math.min.name ∈ T0 ∧ Cond.initialized "java/lang/Math" ∈ T0 ∧ Cond.code Lib.Math.min.name Lib.Math.min.code 2 (some .int) ∈ T0) (ha : -2147483648 ≤ a ∧ a < 2147483648) (hb : -2147483648 ≤ b ∧ b < 2147483648) (hR : 1 ≤ μ.R.frames ∧ 21 ≤ μ.R.locals ∧ k ≤ μ.R.cells ∧ u ≤ μ.R.slots) (hst : (st.map fun v => v.category).sum ≤ 8) (hz : min a b = z) (kk : G ρ E μ QQ nw0 (pc + 3) lv (vi z :: st) nw k u mem) : G ρ E μ QQ nw0 pc lv (vi b :: vi a :: st) nw k u mem := by
  subst hz
  intro p l e s m args below meth c D cA A0 A H locs ls C hA hP hD hS hl
  have hts := C.2.2.2.2.1
  refine va_mmin C.1 C.2.1 (C.2.2.1.trans hl.1.symm) C.2.2.2.1 (hts _ hw) (hts _ hw2.1) (hts _ hw2.2.1) (hts _ hw2.2.2) hR.1 (by rw [cv_cats]; omega) hR.2.2.1 hR.2.2.2 hd ?_
  have h := kk p l e s m args below meth c D cA A0 A H locs ls C hA hP hD hS hl
  rw [List.map_cons] at h
  have e1 : (if iI b < iI a then iI b else iI a) = iI (min a b) := by
    by_cases q : b < a
    · rw [if_pos ((iI_lt hb ha).mpr q), Int.min_eq_right (by omega)]
    · rw [if_neg (fun z => q ((iI_lt hb ha).mp z)), Int.min_eq_left (by omega)]
  rw [e1]
  exact h
theorem G_abs {idx : Nat} {a z : Int} (hd : decode μ.cc pc = .ok (.invokestatic idx, 3)) (hw : Cond.methodLink μ.own idx Lib.Math.abs.name ∈ T0) (hw2 : Cond.static Lib.Math.abs.name ∈ T0 ∧ Cond.initialized "java/lang/Math" ∈ T0 ∧ Cond.code Lib.Math.abs.name Lib.Math.abs.code 1 (some .int) ∈ T0) (ha : -2147483648 ≤ a ∧ a < 2147483648) (hR : 1 ≤ μ.R.frames ∧ 21 ≤ μ.R.locals ∧ k ≤ μ.R.cells ∧ u ≤ μ.R.slots) (hst : (st.map fun v => v.category).sum ≤ 8) (hz : (if 0 ≤ a then a else -a) = z) (kk : G ρ E μ QQ nw0 (pc + 3) lv (vi z :: st) nw k u mem) : G ρ E μ QQ nw0 pc lv (vi a :: st) nw k u mem := by
  subst hz
  intro p l e s m args below meth c D cA A0 A H locs ls C hA hP hD hS hl
  have hts := C.2.2.2.2.1
  refine va_mabs C.1 C.2.1 (C.2.2.1.trans hl.1.symm) C.2.2.2.1 (hts _ hw) (hts _ hw2.1) (hts _ hw2.2.1) (hts _ hw2.2.2) hR.1 (by rw [cv_cats]; omega) hR.2.2.1 hR.2.2.2 hd ?_
  have h := kk p l e s m args below meth c D cA A0 A H locs ls C hA hP hD hS hl
  rw [List.map_cons] at h
  have e1 : (if 0 ≤ iI a then iI a else 0 - iI a) = iI (if 0 ≤ a then a else -a) := by
    by_cases q : 0 ≤ a
    · have q1 : (0 : Int32) ≤ iI a := (iI_le iz ha).mpr q
      rw [if_pos q1, if_pos q]
    · have q1 : ¬ (0 : Int32) ≤ iI a := fun z => q ((iI_le iz ha).mp z)
      rw [if_neg q1, if_neg q, iI_neg]
      exact Int32.zero_sub _
  rw [e1]
  exact h
theorem cpy_up {mem : Mem} {a0 a : Nat} {sp dp n : Int} (h1 : 0 ≤ sp) (h2 : 0 ≤ dp) (h3 : 0 ≤ n) : va_cpy (fun j : Nat => iI (mem a0 (j : Int))) (fun j : Nat => iI (mem a (j : Int))) sp.toNat dp.toNat n.toNat = fun j : Nat => iI (upr mem a (fun j => if dp ≤ j ∧ j < dp + n then mem a0 (sp + (j - dp)) else mem a j) a (j : Int)) := by
  funext j
  rw [upr_same]
  unfold va_cpy
  by_cases h : dp.toNat ≤ j ∧ j < dp.toNat + n.toNat
  · have h' : dp ≤ (j : Int) ∧ (j : Int) < dp + n := by omega
    rw [if_pos h, if_pos h']
    have e : ((sp.toNat + (j - dp.toNat) : Nat) : Int) = sp + ((j : Int) - dp) := by omega
    show iI (mem a0 ((sp.toNat + (j - dp.toNat) : Nat) : Int)) = _
    rw [e]
  · have h' : ¬ (dp ≤ (j : Int) ∧ (j : Int) < dp + n) := by omega
    rw [if_neg h, if_neg h']
theorem G_copy {idx a0 a n0 n1 : Nat} {sp dp n : Int} {mem2 : Mem} (hd : decode μ.cc pc = .ok (.invokestatic idx, 3)) (hw : Cond.methodLink μ.own idx arraycopyName ∈ T0) (hw2 : Cond.native arraycopyName ∈ T0 ∧ Cond.static arraycopyName ∈ T0 ∧ Cond.initialized "java/lang/System" ∈ T0) (ha0 : a0 < nw) (hs0 : SH[a0]? = some (.inr (0, n0))) (ha : a < nw) (hs : SH[a]? = some (.inr (0, n1))) (hb : n0 < 2147483648 ∧ n1 < 2147483648) (h1 : 0 ≤ sp) (h2 : 0 ≤ dp) (h3 : 0 ≤ n) (h4 : sp + n ≤ n0) (h5 : dp + n ≤ n1) (hR : 1 ≤ μ.R.frames ∧ 80 ≤ μ.R.locals) (hst : (st.map fun v => v.category).sum ≤ 8) (hm : upr mem a (fun j => if dp ≤ j ∧ j < dp + n then mem a0 (sp + (j - dp)) else mem a j) = mem2) (kk : G ρ E μ QQ nw0 (pc + 3) lv st nw k u mem2) : G ρ E μ QQ nw0 pc lv (vi n :: vi dp :: .ref a :: vi sp :: .ref a0 :: st) nw k u mem := by
  subst hm
  intro p l e s m args below meth c D cA A0 A H locs ls C hA hP hD hS hl
  have hts := C.2.2.2.2.1
  have q1 : ∀ z : Int, 0 ≤ z → z < 2147483648 → ¬ iI z < 0 := fun z h0 h1 h => by
    have := (iI_lt ⟨by omega, h1⟩ iz).mp h
    omega
  refine va_copyi (ty := .int) C.1 C.2.1 (C.2.2.1.trans hl.1.symm) C.2.2.2.1 (hts _ hw) (hts _ hw2.1) (hts _ hw2.2.1) (hts _ hw2.2.2) C.2.2.2.2.2.1 hP.1 hD hS a0 a 0 0 (Ws_get ha0 hs0) (Ws_get ha hs) rfl rfl rfl (q1 sp h1 (by omega)) (q1 dp h2 (by omega)) (q1 n h3 (by omega)) (by rw [iI_clamp h1 (by omega), iI_clamp h3 (by omega)]; omega) (by rw [iI_clamp h2 (by omega), iI_clamp h3 (by omega)]; omega) (fun i _ => rfl) hR.1 (by
    rw [cv_cats]
    have : nativeFrameWords "java/lang/System" "arraycopy" 5 + 11 ≤ 72 := by decide +kernel
    omega) hd (fun H1 locs1 hP1 hD1 hS1 => ?_)
  rw [iI_clamp h1 (by omega), iI_clamp h2 (by omega), iI_clamp h3 (by omega), cpy_up h1 h2 h3, Ws_set (x := Sum.inl (cA 0, n1, .inl fun j : Nat => iI (upr mem a (fun j => if dp ≤ j ∧ j < dp + n then mem a0 (sp + (j - dp)) else mem a j) a (j : Int)))) (mem' := upr mem a (fun j => if dp ≤ j ∧ j < dp + n then mem a0 (sp + (j - dp)) else mem a j)) hs (fun b hb => upr_k hb) rfl] at hP1 hD1
  exact kk p l e s m args below meth c D cA A0 A H1 locs1 ls C hA ⟨hP1, hP.2.row (fun j hj => by rw [rsl_arr hs (by omega)] at hj; cases hj)⟩ hD1 hS1 hl
/-! the script -/
theorem Agr.ro {A A0 : Nat → Nat} {j : Nat} (h : Agr nw0 nw A A0) (hn : nw ≤ 1000) (hj : 1000 ≤ j) : A j = A0 j := h j (Or.inr (by omega))
theorem G_sld {i : Int} {z : Int} (hd : decode μ.cc pc = .ok (.iaload, 1)) (hn : nw ≤ 1000) (hE : E.1 < 2147483648) (h0 : 0 ≤ i) (h1 : i < E.1) (hz : (E.2 i.toNat).toInt = z) (kk : G ρ E μ QQ nw0 (pc + 1) lv (vi z :: st) nw k u mem) : G ρ E μ QQ nw0 pc lv (vi i :: .ref 1000 :: st) nw k u mem := by
  subst hz
  intro p l e s m args below meth c D cA A0 A H locs ls C hA hP hD hS hl
  have hE1 := C.2.2.2.2.2.2.2.2.2.1
  rw [← hA.ro hn (Nat.le_refl _)] at hE1
  refine va_ti C.1 C.2.1 hE1 hS (iI_in h0 h1 hE) rfl hd ?_
  have h := kk p l e s m args below meth c D cA A0 A H locs ls C hA hP hD hS hl
  rw [iI_clamp h0 (by omega)]
  rw [List.map_cons, show cv A (vi (E.2 i.toNat).toInt) = .int (iI (E.2 i.toNat).toInt) from rfl, iI_of] at h
  exact h
theorem G_slen {z : Int} (hd : decode μ.cc pc = .ok (.arraylength, 1)) (hn : nw ≤ 1000) (hz : (E.1 : Int) = z) (kk : G ρ E μ QQ nw0 (pc + 1) lv (vi z :: st) nw k u mem) : G ρ E μ QQ nw0 pc lv (.ref 1000 :: st) nw k u mem := by
  subst hz
  intro p l e s m args below meth c D cA A0 A H locs ls C hA hP hD hS hl
  have hE1 := C.2.2.2.2.2.2.2.2.2.1
  rw [← hA.ro hn (Nat.le_refl _)] at hE1
  exact va_tlen C.1 C.2.1 hE1 hS (show Int32.ofNat E.1 = iI (E.1 : Int) from rfl) hd (kk p l e s m args below meth c D cA A0 A H locs ls C hA hP hD hS hl)
/-! the two tables -/
theorem G_gLeast {idx : Nat} {ref : String} (hd : decode μ.cc pc = .ok (.getstatic idx, 3)) (hw : Cond.fieldLink μ.own idx "BinsBothSides$Settings" "LEAST" "[I" ∈ T0) (hn : nw ≤ 1000) (kk : G ρ E μ QQ nw0 (pc + 3) lv (.ref 1001 :: st) nw k u mem) : G ρ E μ QQ nw0 pc lv st nw k u mem := by
  intro p l e s m args below meth c D cA A0 A H locs ls C hA hP hD hS hl
  have hE1 := C.2.2.2.2.2.2.2.2.2.2.2.2.1
  rw [← hA.ro hn (by omega)] at hE1
  exact va_gets C.1 C.2.1 hE1 hS C.2.2.2.1 (C.2.2.2.2.1 _ hw) (fun x h => h) hd (kk p l e s m args below meth c D cA A0 A H locs ls C hA hP hD hS hl)
theorem G_gGreat {idx : Nat} {ref : String} (hd : decode μ.cc pc = .ok (.getstatic idx, 3)) (hw : Cond.fieldLink μ.own idx "BinsBothSides$Settings" "GREATEST" "[I" ∈ T0) (hn : nw ≤ 1000) (kk : G ρ E μ QQ nw0 (pc + 3) lv (.ref 1002 :: st) nw k u mem) : G ρ E μ QQ nw0 pc lv st nw k u mem := by
  intro p l e s m args below meth c D cA A0 A H locs ls C hA hP hD hS hl
  have hE1 := C.2.2.2.2.2.2.2.2.2.2.2.2.2.1
  rw [← hA.ro hn (by omega)] at hE1
  exact va_gets C.1 C.2.1 hE1 hS C.2.2.2.1 (C.2.2.2.2.1 _ hw) (fun x h => h) hd (kk p l e s m args below meth c D cA A0 A H locs ls C hA hP hD hS hl)
theorem G_tLeast {i z : Int} (hd : decode μ.cc pc = .ok (.iaload, 1)) (hn : nw ≤ 1000) (h0 : 0 ≤ i) (h1 : i < 7) (hz : leastT.getD i.toNat 0 = z) (kk : G ρ E μ QQ nw0 (pc + 1) lv (vi z :: st) nw k u mem) : G ρ E μ QQ nw0 pc lv (vi i :: .ref 1001 :: st) nw k u mem := by
  subst hz
  intro p l e s m args below meth c D cA A0 A H locs ls C hA hP hD hS hl
  have hE1 := C.2.2.2.2.2.2.2.2.2.2.1
  rw [← hA.ro hn (by omega)] at hE1
  refine va_ti C.1 C.2.1 hE1 hS (iI_in h0 h1 (by decide)) rfl hd ?_
  rw [iI_clamp h0 (by omega)]
  exact kk p l e s m args below meth c D cA A0 A H locs ls C hA hP hD hS hl
theorem G_tGreat {i z : Int} (hd : decode μ.cc pc = .ok (.iaload, 1)) (hn : nw ≤ 1000) (h0 : 0 ≤ i) (h1 : i < 7) (hz : greatT.getD i.toNat 0 = z) (kk : G ρ E μ QQ nw0 (pc + 1) lv (vi z :: st) nw k u mem) : G ρ E μ QQ nw0 pc lv (vi i :: .ref 1002 :: st) nw k u mem := by
  subst hz
  intro p l e s m args below meth c D cA A0 A H locs ls C hA hP hD hS hl
  have hE1 := C.2.2.2.2.2.2.2.2.2.2.2.1
  rw [← hA.ro hn (by omega)] at hE1
  refine va_ti C.1 C.2.1 hE1 hS (iI_in h0 h1 (by decide)) rfl hd ?_
  rw [iI_clamp h0 (by omega)]
  exact kk p l e s m args below meth c D cA A0 A H locs ls C hA hP hD hS hl
/-! texts -/
theorem G_ldcS {idx i : Nat} {tx : String} (hd : decode μ.cc pc = .ok (.ldc idx, 2)) (hq : (μ.own, idx, tx, i) ∈ strTab) (hn : nw ≤ 1000) (kk : G ρ E μ QQ nw0 (pc + 2) lv (.ref (1100 + i) :: st) nw k u mem) : G ρ E μ QQ nw0 pc lv st nw k u mem := by
  intro p l e s m args below meth c D cA A0 A H locs ls C hA hP hD hS hl
  have hE1 := C.2.2.2.2.2.2.2.2.2.2.2.2.2.2.2.2.2.1 _ hq
  rw [← hA.ro hn (by omega)] at hE1
  exact va_ldcS C.1 C.2.1 C.2.2.2.1 hE1 hd (kk p l e s m args below meth c D cA A0 A H locs ls C hA hP hD hS hl)
theorem ldcwString {p : Program} {l : Launch} {e : Env} {R : Room} {s : State} {m : MethodId} {args : Array Value} {below : List Frame} {meth : Method} {c : Code} {T : State} {locs : List Loc} {cells slots : Nat}
    (X : Stand p l e R s m args below meth c T locs cells slots) (hexec : p.tables.exec = Jvm.exec) {own text : String} {index : Nat} {a : Addr} (hown : s.vm.findClass own = some m.cls)
    (hconst : (Cond.stringRef own index text).before args s = true) (hev : (Term.string own index).eval args s none [] s = some (.ref a)) {g : JFrame} (hg : g.method = m) (hdg : decode c.code g.pc = .ok (.ldc_w index, 3)) :
    ∀ target, Steps p.tables e below (T.setTop { g with pc := g.pc + 3, stack := .ref a :: g.stack }) target → Steps p.tables e below (T.setTop g) target := by
  obtain ⟨k, cf, i, a', hk, hcf, hcp, -, hr, hev'⟩ := Cond.stringRef_spec hown hconst
  cases hev.symm.trans hev'
  obtain ⟨k', hk', he⟩ := X.warmed.alike.2.2 _ _ hk
  have hr' : k'.resolved[index]? = some (some (.string a)) := by
    rcases X.warmed.entry hk hk' index with h | ⟨h, -⟩
    · rw [h]; exact hr
    · rw [hr] at h; cases h
  intro target hrest
  subst hg
  jvm_step X.here [hexec, hdg, ldc_w.wp_string (e := e) (s := T) (f := g) X.here.top hk' (by rw [he]; exact hcf) hcp hr']
  exact hrest
theorem G_ldcwS {idx i : Nat} {tx : String} (hd : decode μ.cc pc = .ok (.ldc_w idx, 3)) (hq : (μ.own, idx, tx, i) ∈ strTab) (hn : nw ≤ 1000) (kk : G ρ E μ QQ nw0 (pc + 3) lv (.ref (1100 + i) :: st) nw k u mem) : G ρ E μ QQ nw0 pc lv st nw k u mem := by
  intro p l e s m args below meth c D cA A0 A H locs ls C hA hP hD hS hl
  have hE1 := C.2.2.2.2.2.2.2.2.2.2.2.2.2.2.2.2.2.1 _ hq
  rw [← hA.ro hn (by omega)] at hE1
  intro T hT X
  obtain ⟨t, a1, b1⟩ := kk p l e s m args below meth c D cA A0 A H locs ls C hA hP hD hS hl T hT X
  exact ⟨t, ldcwString X C.1 C.2.2.2.1 (text := tx) hE1.1 hE1.2 (g := F0 m pc ls (st.map (cv A))) rfl (by rw [C.2.1]; exact hd) t a1, b1⟩
end GX
