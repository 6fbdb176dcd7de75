theorem iI_toL {a : Int} (ha : -2147483648 ≤ a ∧ a < 2147483648) : (iI a).toInt64 = iL a := by
  apply Int64.toInt_inj.mp
  rw [Int32.toInt_toInt64, iI_toInt ha.1 ha.2, iL_toInt (by omega) (by omega)]
/-! THE JUDGEMENT G: from pc on, with these locals, this stack, this memory, the method comes to its end as QF says (in every heap that holds the memory) -/
def goodN : Cond → Bool
  | .fieldLinkNest .. => true
  | .methodLinkNest .. => true
  | .arrayOver (.object _) => true
  | w => goodWord w
def T0 : List Cond := lw_tbl.filter goodN
theorem goodN_of {w : Cond} (h : goodWord w = true) : goodN w = true := by
  unfold goodN
  split <;> first | rfl | exact h
theorem T0_of {w : Cond} (h : w ∈ lw_tbl) (hg : goodWord w = true) : w ∈ T0 := List.mem_filter.mpr ⟨h, goodN_of hg⟩
theorem T0_ofN {w : Cond} (h : w ∈ lw_tbl) (hg : goodN w = true) : w ∈ T0 := List.mem_filter.mpr ⟨h, hg⟩
theorem T0_pay {args : Array Value} {s : State} {w : Cond} (hg : goodN w = true) (h : w.before args s = true) (a' : Array Value) (U : State) (hW : s.WarmedH U.vm) : w.before a' U = true := by
  unfold goodN at hg
  split at hg
  · exact va_Nw.use rfl (va_Nw.warmF hW (va_Nw.of rfl h))
  · exact va_Nw.use rfl (va_Nw.warmM hW (va_Nw.of rfl h))
  · exact va_AO.use (va_AO.moved hW.alike (va_AO.of h))
  · exact word_at hW (good_of_word hg) h
/-- a method's own: its bytes, how many locals, its class, what it returns, its room, its name -/
abbrev Mu : Type := ByteArray × Nat × String × Option FieldType × Room × String
abbrev Mu.cc (μ : Mu) : ByteArray := μ.1
abbrev Mu.nL (μ : Mu) : Nat := μ.2.1
abbrev Mu.own (μ : Mu) : String := μ.2.2.1
abbrev Mu.rt (μ : Mu) : Option FieldType := μ.2.2.2.1
abbrev Mu.R (μ : Mu) : Room := μ.2.2.2.2.1
abbrev Mu.mn (μ : Mu) : String := μ.2.2.2.2.2
def frE (A0 : Nat → Nat) (nw0 sz : Nat) : Nat → Prop := fun q => (∃ k, k < nw0 ∧ q = A0 k) ∨ sz ≤ q
def strs : List (List Int) := [[119, 98, 115, 117, 109, 114, 99, 116], [110, 111, 32, 115, 117, 99, 104, 32, 115, 116, 114, 101, 101, 116], [110, 111, 32, 115, 117, 99, 104, 32, 119, 104, 97, 116], [110, 111, 32, 115, 117, 99, 104, 32, 104, 111, 117, 115, 101], [110, 111, 32, 115, 117, 99, 104, 32, 110, 117, 109, 98, 101, 114, 32, 111, 102, 32, 116, 104, 101, 32, 114, 111, 119], [100, 117], [60, 62, 61], [43, 45], [42, 47], [103, 101, 116, 112], [48, 49, 50]]
def strTab : List (String × Nat × String × Nat) := [("BinsBothSides$Rule", 77, "wbsumrct", 0), ("BinsBothSides", 139, "no such street", 1), ("BinsBothSides", 183, "no such what", 2), ("BinsBothSides", 185, "no such house", 3), ("BinsBothSides", 468, "no such number of the row", 4), ("BinsBothSidesModel", 205, "du", 5), ("BinsBothSidesModel", 240, "wbsumrct", 0), ("BinsBothSidesModel", 245, "<>=", 6), ("BinsBothSidesModel", 247, "+-", 7), ("BinsBothSidesModel", 249, "*/", 8), ("BinsBothSidesModel", 390, "getp", 9), ("BinsBothSidesModel", 392, "012", 10)]
def leastT : List Int := [1, 1, 0, 1, 1, 0, 0]
def greatT : List Int := [999, 4, 9, 2, 99, 99, 999]
/-- what is only read: the script (1000), the two tables (1001, 1002), the texts (1100 + i, their bytes 1200 + i), some statics -/
def Ev (E : Nat × (Nat → Int32)) (A : Nat → Nat) (Fr : Nat → Prop) (U : State) (H : Heap) : Prop :=
  va_T .int (A 1000) E.1 (fun j => .int (E.2 j)) Fr U H ∧ va_T .int (A 1001) 7 (fun j => vi (leastT.getD j 0)) Fr U H ∧ va_T .int (A 1002) 7 (fun j => vi (greatT.getD j 0)) Fr U H ∧
  va_Z "BinsBothSides$Settings" "LEAST" "[I" (.ref (A 1001)) Fr U H ∧ va_Z "BinsBothSides$Settings" "GREATEST" "[I" (.ref (A 1002)) Fr U H ∧ va_Z "java/lang/String" "COMPACT_STRINGS" "Z" (vi 1) Fr U H ∧
  (va_Z "jdk/internal/util/Preconditions" "SIOOBE_FORMATTER" "Ljava/util/function/BiFunction;" .null Fr U H ∨ va_Z "jdk/internal/util/Preconditions" "SIOOBE_FORMATTER" "Ljava/util/function/BiFunction;" (.ref (A 1003)) Fr U H) ∧
  (∀ i, i < 11 → va_O "java/lang/String" (A (1100 + i)) Fr U H ∧ va_OF "java/lang/String" "coder" "B" (vi 0) (A (1100 + i)) Fr U H ∧ va_OF "java/lang/String" "value" "[B" (.ref (A (1200 + i))) (A (1100 + i)) Fr U H ∧ va_T .byte (A (1200 + i)) (strs.getD i []).length (fun j => vi ((strs.getD i []).getD j 0)) Fr U H) ∧
  (∀ q ∈ strTab, vk_R q.1 q.2.1 q.2.2.1 (A (1100 + q.2.2.2)) U) ∧
  vx_Zq Bundle.tN "UNASSIGNED_STACK" Bundle.steD Fr U H ∧ vx_Zq Bundle.tN "SUPPRESSED_SENTINEL" Bundle.listD Fr U H
/-- what isn't made in between keeps its place -/
abbrev Agr (nw0 nw : Nat) (A A0 : Nat → Nat) : Prop := ∀ k, (k < nw0 ∨ nw ≤ k) → A k = A0 k
def GC (E : Nat × (Nat → Int32)) (μ : Mu) (nw0 : Nat) (p : Program) (s : State) (m : MethodId) (args : Array Value) (meth : Method) (c : Code) (D : va_G) (cA : Nat → ClassId) (A0 : Nat → Nat) : Prop :=
  p.tables.exec = Jvm.exec ∧ c.code = μ.cc ∧ c.maxLocals = μ.nL ∧ s.vm.findClass μ.own = some m.cls ∧ (∀ w ∈ T0, w.before args s = true) ∧ va_K D vwCl (tyc cA) s ∧ meth.sig.returnType = μ.rt ∧ meth.locks = false ∧ meth.name = μ.mn ∧ Ev E A0 (frE A0 nw0 s.heap.size) s s.heap
abbrev QF : Type := Launch → (Nat → Nat) → va_G → (Nat → ClassId) → List Frame → Array Value → State → State → Prop
def G (ρ : Rho) (E : Nat × (Nat → Int32)) (μ : Mu) (QQ : QF) (nw0 : Nat) (pc : Nat) (lv st : List Value) (nw k u : Nat) (mem : Mem) : Prop :=
  ∀ (p : Program) (l : Launch) (e : Env) (s : State) (m : MethodId) (args : Array Value) (below : List Frame) (meth : Method) (c : Code) (D : va_G) (cA : Nat → ClassId) (A0 A : Nat → Nat) (H : Heap) (locs : List Loc) (ls : Array Slot),
    GC E μ nw0 p s m args meth c D cA A0 → Agr nw0 nw A A0 → Wp ρ D cA A nw mem H → va_D (frE A0 nw0 s.heap.size) (Ws ρ A cA mem nw) → va_S (frE A0 nw0 s.heap.size) s.heap H locs → lv_has ls μ.nL (lvs A lv) →
    W p l e μ.R s m args below meth c H locs k u (QQ l A0 D cA below args s) (F0 m pc ls (st.map (cv A)))
section GR
variable {ρ : Rho} {E : Nat × (Nat → Int32)} {μ : Mu} {QQ : QF} {nw0 pc : Nat} {lv st : List Value} {nw k u : Nat} {mem : Mem}
theorem G_iconst {n : Int} {z : Int} (hd : decode μ.cc pc = .ok (.iconst n, 1)) (hz : n = z) (kk : G ρ E μ QQ nw0 (pc + 1) lv (vi z :: st) nw k u mem) : G ρ E μ QQ nw0 pc lv st nw k u mem := by
  intro p l e s m args below meth c D cA A0 A H locs ls C hA hP hD hS hl
  subst hz
  exact lv_iconst C.1 C.2.1 hd rfl (kk p l e s m args below meth c D cA A0 A H locs ls C hA hP hD hS hl)
theorem G_bipush {n : Int} {z : Int} (hd : decode μ.cc pc = .ok (.bipush n, 2)) (hz : (Int8.ofInt n).toInt32 = iI z) (kk : G ρ E μ QQ nw0 (pc + 2) lv (vi z :: st) nw k u mem) : G ρ E μ QQ nw0 pc lv st nw k u mem := by
  intro p l e s m args below meth c D cA A0 A H locs ls C hA hP hD hS hl
  exact lv_bipush C.1 C.2.1 hd hz (kk p l e s m args below meth c D cA A0 A H locs ls C hA hP hD hS hl)
theorem G_sipush {n : Int} {z : Int} (hd : decode μ.cc pc = .ok (.sipush n, 3)) (hz : (Int16.ofInt n).toInt32 = iI z) (kk : G ρ E μ QQ nw0 (pc + 3) lv (vi z :: st) nw k u mem) : G ρ E μ QQ nw0 pc lv st nw k u mem := by
  intro p l e s m args below meth c D cA A0 A H locs ls C hA hP hD hS hl
  exact lv_sipush C.1 C.2.1 hd hz (kk p l e s m args below meth c D cA A0 A H locs ls C hA hP hD hS hl)
theorem G_lconst {n : Fin 2} {z : Int} (hd : decode μ.cc pc = .ok (.lconst n, 1)) (hz : Int64.ofNat (n : Nat) = iL z) (kk : G ρ E μ QQ nw0 (pc + 1) lv (vl z :: st) nw k u mem) : G ρ E μ QQ nw0 pc lv st nw k u mem := by
  intro p l e s m args below meth c D cA A0 A H locs ls C hA hP hD hS hl
  exact lv_lconst C.1 C.2.1 hd hz (kk p l e s m args below meth c D cA A0 A H locs ls C hA hP hD hS hl)
theorem G_lcmp {a b z : Int} (hd : decode μ.cc pc = .ok (.lcmp, 1)) (hz : lg_cmp (iL a) (iL b) = iI z) (kk : G ρ E μ QQ nw0 (pc + 1) lv (vi z :: st) nw k u mem) : G ρ E μ QQ nw0 pc lv (vl b :: vl a :: st) nw k u mem := by
  intro p l e s m args below meth c D cA A0 A H locs ls C hA hP hD hS hl
  refine W.lcmp C.1 C.2.1 hd ?_
  have h := kk p l e s m args below meth c D cA A0 A H locs ls C hA hP hD hS hl
  rwa [List.map_cons, show cv A (vi z) = .int (iI z) from rfl, ← hz] at h
theorem G_dup2L {v : Value} (hd : decode μ.cc pc = .ok (.dup2, 1)) (hv : v.category = 2) (kk : G ρ E μ QQ nw0 (pc + 1) lv (v :: v :: st) nw k u mem) : G ρ E μ QQ nw0 pc lv (v :: st) nw k u mem := by
  intro p l e s m args below meth c D cA A0 A H locs ls C hA hP hD hS hl
  exact lv_dup2_2 C.1 C.2.1 hd ((cv_cat A v).trans hv) (kk p l e s m args below meth c D cA A0 A H locs ls C hA hP hD hS hl)
theorem G_aconst_null (hd : decode μ.cc pc = .ok (.aconst_null, 1)) (kk : G ρ E μ QQ nw0 (pc + 1) lv (.null :: st) nw k u mem) : G ρ E μ QQ nw0 pc lv st nw k u mem := by
  intro p l e s m args below meth c D cA A0 A H locs ls C hA hP hD hS hl
  exact lv_null C.1 C.2.1 hd (kk p l e s m args below meth c D cA A0 A H locs ls C hA hP hD hS hl)
theorem G_ldc {index : Nat} {z : Int} (hd : decode μ.cc pc = .ok (.ldc index, 2)) (hw : Cond.constant μ.own index (iI z) ∈ T0) (kk : G ρ E μ QQ nw0 (pc + 2) lv (vi z :: st) nw k u mem) : G ρ E μ QQ nw0 pc lv st nw k u mem := by
  intro p l e s m args below meth c D cA A0 A H locs ls C hA hP hD hS hl
  exact lv_ldc C.1 C.2.1 C.2.2.2.1 (C.2.2.2.2.1 _ hw) hd (kk p l e s m args below meth c D cA A0 A H locs ls C hA hP hD hS hl)
theorem G_ldcw {index : Nat} {z : Int} (hd : decode μ.cc pc = .ok (.ldc_w index, 3)) (hw : Cond.constant μ.own index (iI z) ∈ T0) (kk : G ρ E μ QQ nw0 (pc + 3) lv (vi z :: st) nw k u mem) : G ρ E μ QQ nw0 pc lv st nw k u mem := by
  intro p l e s m args below meth c D cA A0 A H locs ls C hA hP hD hS hl
  exact lv_ldcw C.1 C.2.1 C.2.2.2.1 (C.2.2.2.2.1 _ hw) hd (kk p l e s m args below meth c D cA A0 A H locs ls C hA hP hD hS hl)
theorem G_aloadNull_n {f : Fin 4} (hd : decode μ.cc pc = .ok (.aload_n f, 1)) (hl0 : lv[(f : Nat)]? = some .null) (kk : G ρ E μ QQ nw0 (pc + 1) lv (.null :: st) nw k u mem) : G ρ E μ QQ nw0 pc lv st nw k u mem := by
  intro p l e s m args below meth c D cA A0 A H locs ls C hA hP hD hS hl
  exact lv_aload_nN C.1 C.2.1 hd rfl (lvs_get hl hl0 rfl) (kk p l e s m args below meth c D cA A0 A H locs ls C hA hP hD hS hl)
theorem G_aloadNull {i : Nat} (hd : decode μ.cc pc = .ok (.aload i, 2)) (hl0 : lv[i]? = some .null) (kk : G ρ E μ QQ nw0 (pc + 2) lv (.null :: st) nw k u mem) : G ρ E μ QQ nw0 pc lv st nw k u mem := by
  intro p l e s m args below meth c D cA A0 A H locs ls C hA hP hD hS hl
  exact lv_aloadN C.1 C.2.1 hd (lvs_get hl hl0 rfl) (kk p l e s m args below meth c D cA A0 A H locs ls C hA hP hD hS hl)
theorem G_astoreNull_n {f : Fin 4} {i : Nat} {lv2 : List Value} (hd : decode μ.cc pc = .ok (.astore_n f, 1)) (hi : (f : Nat) = i) (hn : i < μ.nL) (h2 : lset lv i .null = lv2) (kk : G ρ E μ QQ nw0 (pc + 1) lv2 st nw k u mem) : G ρ E μ QQ nw0 pc lv (.null :: st) nw k u mem := by
  intro p l e s m args below meth c D cA A0 A H locs ls C hA hP hD hS hl
  subst h2
  exact lv_astore_nN C.1 C.2.1 hd hi hl hn rfl (fun ls2 hl2 => kk p l e s m args below meth c D cA A0 A H locs ls2 C hA hP hD hS (hl2.mono (lset_1 rfl)))
theorem G_astoreNull {i : Nat} {lv2 : List Value} (hd : decode μ.cc pc = .ok (.astore i, 2)) (hn : i < μ.nL) (h2 : lset lv i .null = lv2) (kk : G ρ E μ QQ nw0 (pc + 2) lv2 st nw k u mem) : G ρ E μ QQ nw0 pc lv (.null :: st) nw k u mem := by
  intro p l e s m args below meth c D cA A0 A H locs ls C hA hP hD hS hl
  subst h2
  exact lv_astoreN C.1 C.2.1 hd hl hn rfl (fun ls2 hl2 => kk p l e s m args below meth c D cA A0 A H locs ls2 C hA hP hD hS (hl2.mono (lset_1 rfl)))
theorem G_ldc2 {index : Nat} {z : Int} (hd : decode μ.cc pc = .ok (.ldc2_w index, 3)) (hw : Cond.constantLong μ.own index (iL z) ∈ T0) (kk : G ρ E μ QQ nw0 (pc + 3) lv (vl z :: st) nw k u mem) : G ρ E μ QQ nw0 pc lv st nw k u mem := by
  intro p l e s m args below meth c D cA A0 A H locs ls C hA hP hD hS hl
  exact lv_ldc2 C.1 C.2.1 C.2.2.2.1 (C.2.2.2.2.1 _ hw) hd (kk p l e s m args below meth c D cA A0 A H locs ls C hA hP hD hS hl)
theorem G_iload_n {f : Fin 4} {z : Int} (hd : decode μ.cc pc = .ok (.iload_n f, 1)) (hl0 : lv[(f : Nat)]? = some (vi z)) (kk : G ρ E μ QQ nw0 (pc + 1) lv (vi z :: st) nw k u mem) : G ρ E μ QQ nw0 pc lv st nw k u mem := by
  intro p l e s m args below meth c D cA A0 A H locs ls C hA hP hD hS hl
  exact lv_iload_n C.1 C.2.1 hd rfl (lvs_get hl hl0 rfl) (kk p l e s m args below meth c D cA A0 A H locs ls C hA hP hD hS hl)
theorem G_iload {i : Nat} {z : Int} (hd : decode μ.cc pc = .ok (.iload i, 2)) (hl0 : lv[i]? = some (vi z)) (kk : G ρ E μ QQ nw0 (pc + 2) lv (vi z :: st) nw k u mem) : G ρ E μ QQ nw0 pc lv st nw k u mem := by
  intro p l e s m args below meth c D cA A0 A H locs ls C hA hP hD hS hl
  exact lv_iload C.1 C.2.1 hd (lvs_get hl hl0 rfl) (kk p l e s m args below meth c D cA A0 A H locs ls C hA hP hD hS hl)
theorem G_istore_n {f : Fin 4} {i : Nat} {z : Int} {lv2 : List Value} (hd : decode μ.cc pc = .ok (.istore_n f, 1)) (hi : (f : Nat) = i) (hn : i < μ.nL) (h2 : lset lv i (vi z) = lv2) (kk : G ρ E μ QQ nw0 (pc + 1) lv2 st nw k u mem) : G ρ E μ QQ nw0 pc lv (vi z :: st) nw k u mem := by
  intro p l e s m args below meth c D cA A0 A H locs ls C hA hP hD hS hl
  subst h2
  exact lv_istore_n C.1 C.2.1 hd hi hl hn rfl (fun ls2 hl2 => kk p l e s m args below meth c D cA A0 A H locs ls2 C hA hP hD hS (hl2.mono (lset_1 rfl)))
theorem G_istore {i : Nat} {z : Int} {lv2 : List Value} (hd : decode μ.cc pc = .ok (.istore i, 2)) (hn : i < μ.nL) (h2 : lset lv i (vi z) = lv2) (kk : G ρ E μ QQ nw0 (pc + 2) lv2 st nw k u mem) : G ρ E μ QQ nw0 pc lv (vi z :: st) nw k u mem := by
  intro p l e s m args below meth c D cA A0 A H locs ls C hA hP hD hS hl
  subst h2
  exact lv_istore C.1 C.2.1 hd hl hn rfl (fun ls2 hl2 => kk p l e s m args below meth c D cA A0 A H locs ls2 C hA hP hD hS (hl2.mono (lset_1 rfl)))
theorem G_lload_n {f : Fin 4} {z : Int} (hd : decode μ.cc pc = .ok (.lload_n f, 1)) (hl0 : lv[(f : Nat)]? = some (vl z)) (kk : G ρ E μ QQ nw0 (pc + 1) lv (vl z :: st) nw k u mem) : G ρ E μ QQ nw0 pc lv st nw k u mem := by
  intro p l e s m args below meth c D cA A0 A H locs ls C hA hP hD hS hl
  exact lv_lload_n C.1 C.2.1 hd rfl (lvs_get hl hl0 rfl) (kk p l e s m args below meth c D cA A0 A H locs ls C hA hP hD hS hl)
theorem G_lload {i : Nat} {z : Int} (hd : decode μ.cc pc = .ok (.lload i, 2)) (hl0 : lv[i]? = some (vl z)) (kk : G ρ E μ QQ nw0 (pc + 2) lv (vl z :: st) nw k u mem) : G ρ E μ QQ nw0 pc lv st nw k u mem := by
  intro p l e s m args below meth c D cA A0 A H locs ls C hA hP hD hS hl
  exact lv_lload C.1 C.2.1 hd (lvs_get hl hl0 rfl) (kk p l e s m args below meth c D cA A0 A H locs ls C hA hP hD hS hl)
theorem G_lstore_n {f : Fin 4} {i : Nat} {z : Int} {lv2 : List Value} (hd : decode μ.cc pc = .ok (.lstore_n f, 1)) (hi : (f : Nat) = i) (hn : i + 1 < μ.nL) (h2 : lset lv i (vl z) = lv2) (kk : G ρ E μ QQ nw0 (pc + 1) lv2 st nw k u mem) : G ρ E μ QQ nw0 pc lv (vl z :: st) nw k u mem := by
  intro p l e s m args below meth c D cA A0 A H locs ls C hA hP hD hS hl
  subst h2
  exact lv_lstore_n C.1 C.2.1 hd hi hl hn rfl (fun ls2 hl2 => kk p l e s m args below meth c D cA A0 A H locs ls2 C hA hP hD hS (hl2.mono (lset_2 rfl)))
theorem G_lstore {i : Nat} {z : Int} {lv2 : List Value} (hd : decode μ.cc pc = .ok (.lstore i, 2)) (hn : i + 1 < μ.nL) (h2 : lset lv i (vl z) = lv2) (kk : G ρ E μ QQ nw0 (pc + 2) lv2 st nw k u mem) : G ρ E μ QQ nw0 pc lv (vl z :: st) nw k u mem := by
  intro p l e s m args below meth c D cA A0 A H locs ls C hA hP hD hS hl
  subst h2
  exact lv_lstore C.1 C.2.1 hd hl hn rfl (fun ls2 hl2 => kk p l e s m args below meth c D cA A0 A H locs ls2 C hA hP hD hS (hl2.mono (lset_2 rfl)))
theorem G_aload_n {f : Fin 4} {z : Nat} (hd : decode μ.cc pc = .ok (.aload_n f, 1)) (hl0 : lv[(f : Nat)]? = some (.ref z)) (kk : G ρ E μ QQ nw0 (pc + 1) lv (.ref z :: st) nw k u mem) : G ρ E μ QQ nw0 pc lv st nw k u mem := by
  intro p l e s m args below meth c D cA A0 A H locs ls C hA hP hD hS hl
  exact lv_aload_n C.1 C.2.1 hd rfl (lvs_get hl hl0 rfl) (kk p l e s m args below meth c D cA A0 A H locs ls C hA hP hD hS hl)
theorem G_aload {i : Nat} {z : Nat} (hd : decode μ.cc pc = .ok (.aload i, 2)) (hl0 : lv[i]? = some (.ref z)) (kk : G ρ E μ QQ nw0 (pc + 2) lv (.ref z :: st) nw k u mem) : G ρ E μ QQ nw0 pc lv st nw k u mem := by
  intro p l e s m args below meth c D cA A0 A H locs ls C hA hP hD hS hl
  exact lv_aload C.1 C.2.1 hd (lvs_get hl hl0 rfl) (kk p l e s m args below meth c D cA A0 A H locs ls C hA hP hD hS hl)
theorem G_astore_n {f : Fin 4} {i : Nat} {z : Nat} {lv2 : List Value} (hd : decode μ.cc pc = .ok (.astore_n f, 1)) (hi : (f : Nat) = i) (hn : i < μ.nL) (h2 : lset lv i (.ref z) = lv2) (kk : G ρ E μ QQ nw0 (pc + 1) lv2 st nw k u mem) : G ρ E μ QQ nw0 pc lv (.ref z :: st) nw k u mem := by
  intro p l e s m args below meth c D cA A0 A H locs ls C hA hP hD hS hl
  subst h2
  exact lv_astore_n C.1 C.2.1 hd hi hl hn rfl (fun ls2 hl2 => kk p l e s m args below meth c D cA A0 A H locs ls2 C hA hP hD hS (hl2.mono (lset_1 rfl)))
theorem G_astore {i : Nat} {z : Nat} {lv2 : List Value} (hd : decode μ.cc pc = .ok (.astore i, 2)) (hn : i < μ.nL) (h2 : lset lv i (.ref z) = lv2) (kk : G ρ E μ QQ nw0 (pc + 2) lv2 st nw k u mem) : G ρ E μ QQ nw0 pc lv (.ref z :: st) nw k u mem := by
  intro p l e s m args below meth c D cA A0 A H locs ls C hA hP hD hS hl
  subst h2
  exact lv_astore C.1 C.2.1 hd hl hn rfl (fun ls2 hl2 => kk p l e s m args below meth c D cA A0 A H locs ls2 C hA hP hD hS (hl2.mono (lset_1 rfl)))
theorem G_iadd {a b : Int} (hd : decode μ.cc pc = .ok (.iadd, 1)) (kk : G ρ E μ QQ nw0 (pc + 1) lv (vi (a + b) :: st) nw k u mem) : G ρ E μ QQ nw0 pc lv (vi b :: vi a :: st) nw k u mem := by
  intro p l e s m args below meth c D cA A0 A H locs ls C hA hP hD hS hl
  refine lv_iadd C.1 C.2.1 hd ?_
  have h := kk p l e s m args below meth c D cA A0 A H locs ls C hA hP hD hS hl
  rwa [List.map_cons, show cv A (vi (a + b)) = .int (iI (a + b)) from rfl, iI_add] at h
theorem G_isub {a b : Int} (hd : decode μ.cc pc = .ok (.isub, 1)) (kk : G ρ E μ QQ nw0 (pc + 1) lv (vi (a - b) :: st) nw k u mem) : G ρ E μ QQ nw0 pc lv (vi b :: vi a :: st) nw k u mem := by
  intro p l e s m args below meth c D cA A0 A H locs ls C hA hP hD hS hl
  refine lv_isub C.1 C.2.1 hd ?_
  have h := kk p l e s m args below meth c D cA A0 A H locs ls C hA hP hD hS hl
  rwa [List.map_cons, show cv A (vi (a - b)) = .int (iI (a - b)) from rfl, iI_sub] at h
theorem G_imul {a b : Int} (hd : decode μ.cc pc = .ok (.imul, 1)) (kk : G ρ E μ QQ nw0 (pc + 1) lv (vi (a * b) :: st) nw k u mem) : G ρ E μ QQ nw0 pc lv (vi b :: vi a :: st) nw k u mem := by
  intro p l e s m args below meth c D cA A0 A H locs ls C hA hP hD hS hl
  refine lv_imul C.1 C.2.1 hd ?_
  have h := kk p l e s m args below meth c D cA A0 A H locs ls C hA hP hD hS hl
  rwa [List.map_cons, show cv A (vi (a * b)) = .int (iI (a * b)) from rfl, iI_mul] at h
theorem G_ladd {a b : Int} (hd : decode μ.cc pc = .ok (.ladd, 1)) (kk : G ρ E μ QQ nw0 (pc + 1) lv (vl (a + b) :: st) nw k u mem) : G ρ E μ QQ nw0 pc lv (vl b :: vl a :: st) nw k u mem := by
  intro p l e s m args below meth c D cA A0 A H locs ls C hA hP hD hS hl
  refine lv_ladd C.1 C.2.1 hd ?_
  have h := kk p l e s m args below meth c D cA A0 A H locs ls C hA hP hD hS hl
  rwa [List.map_cons, show cv A (vl (a + b)) = .long (iL (a + b)) from rfl, iL_add] at h
theorem G_lsub {a b : Int} (hd : decode μ.cc pc = .ok (.lsub, 1)) (kk : G ρ E μ QQ nw0 (pc + 1) lv (vl (a - b) :: st) nw k u mem) : G ρ E μ QQ nw0 pc lv (vl b :: vl a :: st) nw k u mem := by
  intro p l e s m args below meth c D cA A0 A H locs ls C hA hP hD hS hl
  refine lv_lsub C.1 C.2.1 hd ?_
  have h := kk p l e s m args below meth c D cA A0 A H locs ls C hA hP hD hS hl
  rwa [List.map_cons, show cv A (vl (a - b)) = .long (iL (a - b)) from rfl, iL_sub] at h
theorem G_lmul {a b : Int} (hd : decode μ.cc pc = .ok (.lmul, 1)) (kk : G ρ E μ QQ nw0 (pc + 1) lv (vl (a * b) :: st) nw k u mem) : G ρ E μ QQ nw0 pc lv (vl b :: vl a :: st) nw k u mem := by
  intro p l e s m args below meth c D cA A0 A H locs ls C hA hP hD hS hl
  refine lv_lmul C.1 C.2.1 hd ?_
  have h := kk p l e s m args below meth c D cA A0 A H locs ls C hA hP hD hS hl
  rwa [List.map_cons, show cv A (vl (a * b)) = .long (iL (a * b)) from rfl, iL_mul] at h
theorem G_ineg {a : Int} (hd : decode μ.cc pc = .ok (.ineg, 1)) (kk : G ρ E μ QQ nw0 (pc + 1) lv (vi (-a) :: st) nw k u mem) : G ρ E μ QQ nw0 pc lv (vi a :: st) nw k u mem := by
  intro p l e s m args below meth c D cA A0 A H locs ls C hA hP hD hS hl
  refine lv_ineg C.1 C.2.1 hd ?_
  have h := kk p l e s m args below meth c D cA A0 A H locs ls C hA hP hD hS hl
  rwa [List.map_cons, show cv A (vi (-a)) = .int (iI (-a)) from rfl, iI_neg] at h
theorem G_iand {a b z : Int} (hd : decode μ.cc pc = .ok (.iand, 1)) (hz : iI a &&& iI b = iI z) (kk : G ρ E μ QQ nw0 (pc + 1) lv (vi z :: st) nw k u mem) : G ρ E μ QQ nw0 pc lv (vi b :: vi a :: st) nw k u mem := by
  intro p l e s m args below meth c D cA A0 A H locs ls C hA hP hD hS hl
  refine lv_iand C.1 C.2.1 hd ?_
  have h := kk p l e s m args below meth c D cA A0 A H locs ls C hA hP hD hS hl
  rwa [List.map_cons, show cv A (vi z) = .int (iI z) from rfl, ← hz] at h
theorem G_ior {a b z : Int} (hd : decode μ.cc pc = .ok (.ior, 1)) (hz : iI a ||| iI b = iI z) (kk : G ρ E μ QQ nw0 (pc + 1) lv (vi z :: st) nw k u mem) : G ρ E μ QQ nw0 pc lv (vi b :: vi a :: st) nw k u mem := by
  intro p l e s m args below meth c D cA A0 A H locs ls C hA hP hD hS hl
  refine lv_ior C.1 C.2.1 hd ?_
  have h := kk p l e s m args below meth c D cA A0 A H locs ls C hA hP hD hS hl
  rwa [List.map_cons, show cv A (vi z) = .int (iI z) from rfl, ← hz] at h
theorem G_ixor {a b z : Int} (hd : decode μ.cc pc = .ok (.ixor, 1)) (hz : iI a ^^^ iI b = iI z) (kk : G ρ E μ QQ nw0 (pc + 1) lv (vi z :: st) nw k u mem) : G ρ E μ QQ nw0 pc lv (vi b :: vi a :: st) nw k u mem := by
  intro p l e s m args below meth c D cA A0 A H locs ls C hA hP hD hS hl
  refine lv_ixor C.1 C.2.1 hd ?_
  have h := kk p l e s m args below meth c D cA A0 A H locs ls C hA hP hD hS hl
  rwa [List.map_cons, show cv A (vi z) = .int (iI z) from rfl, ← hz] at h
theorem G_ishl {a b z : Int} (hd : decode μ.cc pc = .ok (.ishl, 1)) (hz : iI a <<< (iI b &&& 31) = iI z) (kk : G ρ E μ QQ nw0 (pc + 1) lv (vi z :: st) nw k u mem) : G ρ E μ QQ nw0 pc lv (vi b :: vi a :: st) nw k u mem := by
  intro p l e s m args below meth c D cA A0 A H locs ls C hA hP hD hS hl
  refine lv_ishl C.1 C.2.1 hd ?_
  have h := kk p l e s m args below meth c D cA A0 A H locs ls C hA hP hD hS hl
  rwa [List.map_cons, show cv A (vi z) = .int (iI z) from rfl, ← hz] at h
theorem G_ishr {a b z : Int} (hd : decode μ.cc pc = .ok (.ishr, 1)) (hz : iI a >>> (iI b &&& 31) = iI z) (kk : G ρ E μ QQ nw0 (pc + 1) lv (vi z :: st) nw k u mem) : G ρ E μ QQ nw0 pc lv (vi b :: vi a :: st) nw k u mem := by
  intro p l e s m args below meth c D cA A0 A H locs ls C hA hP hD hS hl
  refine lv_ishr C.1 C.2.1 hd ?_
  have h := kk p l e s m args below meth c D cA A0 A H locs ls C hA hP hD hS hl
  rwa [List.map_cons, show cv A (vi z) = .int (iI z) from rfl, ← hz] at h
theorem G_iushr {a b z : Int} (hd : decode μ.cc pc = .ok (.iushr, 1)) (hz : ((iI a).toUInt32 >>> ((iI b).toUInt32 &&& Int32.toUInt32 31)).toInt32 = iI z) (kk : G ρ E μ QQ nw0 (pc + 1) lv (vi z :: st) nw k u mem) : G ρ E μ QQ nw0 pc lv (vi b :: vi a :: st) nw k u mem := by
  intro p l e s m args below meth c D cA A0 A H locs ls C hA hP hD hS hl
  exact lv_iushr C.1 C.2.1 hd hz (kk p l e s m args below meth c D cA A0 A H locs ls C hA hP hD hS hl)
theorem G_idiv {a b z : Int} (hd : decode μ.cc pc = .ok (.idiv, 1)) (hne : ¬ iI b = 0) (hz : iI a / iI b = iI z) (kk : G ρ E μ QQ nw0 (pc + 1) lv (vi z :: st) nw k u mem) : G ρ E μ QQ nw0 pc lv (vi b :: vi a :: st) nw k u mem := by
  intro p l e s m args below meth c D cA A0 A H locs ls C hA hP hD hS hl
  refine lv_idiv C.1 C.2.1 hd hne ?_
  have h := kk p l e s m args below meth c D cA A0 A H locs ls C hA hP hD hS hl
  rwa [List.map_cons, show cv A (vi z) = .int (iI z) from rfl, ← hz] at h
theorem G_irem {a b z : Int} (hd : decode μ.cc pc = .ok (.irem, 1)) (hne : ¬ iI b = 0) (hz : iI a - iI a / iI b * iI b = iI z) (kk : G ρ E μ QQ nw0 (pc + 1) lv (vi z :: st) nw k u mem) : G ρ E μ QQ nw0 pc lv (vi b :: vi a :: st) nw k u mem := by
  intro p l e s m args below meth c D cA A0 A H locs ls C hA hP hD hS hl
  refine lv_irem C.1 C.2.1 hd hne ?_
  have h := kk p l e s m args below meth c D cA A0 A H locs ls C hA hP hD hS hl
  rwa [List.map_cons, show cv A (vi z) = .int (iI z) from rfl, ← hz] at h
theorem G_ldiv {a b z : Int} (hd : decode μ.cc pc = .ok (.ldiv, 1)) (hne : ¬ iL b = 0) (hz : iL a / iL b = iL z) (kk : G ρ E μ QQ nw0 (pc + 1) lv (vl z :: st) nw k u mem) : G ρ E μ QQ nw0 pc lv (vl b :: vl a :: st) nw k u mem := by
  intro p l e s m args below meth c D cA A0 A H locs ls C hA hP hD hS hl
  refine lv_ldiv C.1 C.2.1 hd hne ?_
  have h := kk p l e s m args below meth c D cA A0 A H locs ls C hA hP hD hS hl
  rwa [List.map_cons, show cv A (vl z) = .long (iL z) from rfl, ← hz] at h
theorem G_lrem {a b z : Int} (hd : decode μ.cc pc = .ok (.lrem, 1)) (hne : ¬ iL b = 0) (hz : iL a - iL a / iL b * iL b = iL z) (kk : G ρ E μ QQ nw0 (pc + 1) lv (vl z :: st) nw k u mem) : G ρ E μ QQ nw0 pc lv (vl b :: vl a :: st) nw k u mem := by
  intro p l e s m args below meth c D cA A0 A H locs ls C hA hP hD hS hl
  refine lv_lrem C.1 C.2.1 hd hne ?_
  have h := kk p l e s m args below meth c D cA A0 A H locs ls C hA hP hD hS hl
  rwa [List.map_cons, show cv A (vl z) = .long (iL z) from rfl, ← hz] at h
theorem G_i2l {a : Int} (hd : decode μ.cc pc = .ok (.i2l, 1)) (ha : -2147483648 ≤ a ∧ a < 2147483648) (kk : G ρ E μ QQ nw0 (pc + 1) lv (vl a :: st) nw k u mem) : G ρ E μ QQ nw0 pc lv (vi a :: st) nw k u mem := by
  intro p l e s m args below meth c D cA A0 A H locs ls C hA hP hD hS hl
  exact lv_i2l C.1 C.2.1 hd (iI_toL ha) (kk p l e s m args below meth c D cA A0 A H locs ls C hA hP hD hS hl)
theorem G_i2b {a z : Int} (hd : decode μ.cc pc = .ok (.i2b, 1)) (hz : (iI a).toInt8.toInt32 = iI z) (kk : G ρ E μ QQ nw0 (pc + 1) lv (vi z :: st) nw k u mem) : G ρ E μ QQ nw0 pc lv (vi a :: st) nw k u mem := by
  intro p l e s m args below meth c D cA A0 A H locs ls C hA hP hD hS hl
  exact lv_i2b C.1 C.2.1 hd hz (kk p l e s m args below meth c D cA A0 A H locs ls C hA hP hD hS hl)
theorem G_i2s {a z : Int} (hd : decode μ.cc pc = .ok (.i2s, 1)) (hz : (iI a).toInt16.toInt32 = iI z) (kk : G ρ E μ QQ nw0 (pc + 1) lv (vi z :: st) nw k u mem) : G ρ E μ QQ nw0 pc lv (vi a :: st) nw k u mem := by
  intro p l e s m args below meth c D cA A0 A H locs ls C hA hP hD hS hl
  exact lv_i2s C.1 C.2.1 hd hz (kk p l e s m args below meth c D cA A0 A H locs ls C hA hP hD hS hl)
theorem G_i2c {a z : Int} (hd : decode μ.cc pc = .ok (.i2c, 1)) (hz : ((iI a).toUInt32 % 65536).toInt32 = iI z) (kk : G ρ E μ QQ nw0 (pc + 1) lv (vi z :: st) nw k u mem) : G ρ E μ QQ nw0 pc lv (vi a :: st) nw k u mem := by
  intro p l e s m args below meth c D cA A0 A H locs ls C hA hP hD hS hl
  exact lv_i2c C.1 C.2.1 hd hz (kk p l e s m args below meth c D cA A0 A H locs ls C hA hP hD hS hl)
theorem G_dup {v : Value} (hd : decode μ.cc pc = .ok (.dup, 1)) (hv : v.category = 1) (kk : G ρ E μ QQ nw0 (pc + 1) lv (v :: v :: st) nw k u mem) : G ρ E μ QQ nw0 pc lv (v :: st) nw k u mem := by
  intro p l e s m args below meth c D cA A0 A H locs ls C hA hP hD hS hl
  exact lv_dup C.1 C.2.1 hd ((cv_cat A v).trans hv) (kk p l e s m args below meth c D cA A0 A H locs ls C hA hP hD hS hl)
theorem G_pop {v : Value} (hd : decode μ.cc pc = .ok (.pop, 1)) (hv : v.category = 1) (kk : G ρ E μ QQ nw0 (pc + 1) lv st nw k u mem) : G ρ E μ QQ nw0 pc lv (v :: st) nw k u mem := by
  intro p l e s m args below meth c D cA A0 A H locs ls C hA hP hD hS hl
  exact lv_pop C.1 C.2.1 hd ((cv_cat A v).trans hv) (kk p l e s m args below meth c D cA A0 A H locs ls C hA hP hD hS hl)
theorem G_dup2 {v w : Value} (hd : decode μ.cc pc = .ok (.dup2, 1)) (hv : v.category = 1) (hw : w.category = 1) (kk : G ρ E μ QQ nw0 (pc + 1) lv (v :: w :: v :: w :: st) nw k u mem) : G ρ E μ QQ nw0 pc lv (v :: w :: st) nw k u mem := by
  intro p l e s m args below meth c D cA A0 A H locs ls C hA hP hD hS hl
  exact lv_dup2_11 C.1 C.2.1 hd ((cv_cat A v).trans hv) ((cv_cat A w).trans hw) (kk p l e s m args below meth c D cA A0 A H locs ls C hA hP hD hS hl)
theorem G_dup_x1 {v w : Value} (hd : decode μ.cc pc = .ok (.dup_x1, 1)) (hv : v.category = 1) (hw : w.category = 1) (kk : G ρ E μ QQ nw0 (pc + 1) lv (v :: w :: v :: st) nw k u mem) : G ρ E μ QQ nw0 pc lv (v :: w :: st) nw k u mem := by
  intro p l e s m args below meth c D cA A0 A H locs ls C hA hP hD hS hl
  exact lv_dup_x1 C.1 C.2.1 hd ((cv_cat A v).trans hv) ((cv_cat A w).trans hw) (kk p l e s m args below meth c D cA A0 A H locs ls C hA hP hD hS hl)
theorem G_iinc {i : Nat} {n a z : Int} {lv2 : List Value} (hd : decode μ.cc pc = .ok (.iinc i n, 3)) (h0 : lv[i]? = some (vi a)) (hz : a + n = z) (hn : i < μ.nL) (h2 : lset lv i (vi z) = lv2) (kk : G ρ E μ QQ nw0 (pc + 3) lv2 st nw k u mem) : G ρ E μ QQ nw0 pc lv st nw k u mem := by
  intro p l e s m args below meth c D cA A0 A H locs ls C hA hP hD hS hl
  subst h2 hz
  obtain ⟨k0, hk0⟩ := List.getElem?_of_mem (mem_lvs.mpr ⟨_, h0, rfl, rfl⟩ : (i, cv A (vi a)) ∈ lvs A lv)
  exact lv_iinc C.1 C.2.1 hd hl hk0 (iI_add a n).symm hn rfl (fun ls2 hl2 => kk p l e s m args below meth c D cA A0 A H locs ls2 C hA hP hD hS (hl2.mono (lset_1 rfl)))
theorem G_icmp_eq {a b : Int} {off : Int} {tgt : Nat} (hd : decode μ.cc pc = .ok (.if_icmp .eq off, 3)) (ht : (pc : Int) + off = (tgt : Int)) (ha : -2147483648 ≤ a ∧ a < 2147483648) (hb : -2147483648 ≤ b ∧ b < 2147483648) (kt : a = b → G ρ E μ QQ nw0 tgt lv st nw k u mem) (kf : ¬ a = b → G ρ E μ QQ nw0 (pc + 3) lv st nw k u mem) : G ρ E μ QQ nw0 pc lv (vi b :: vi a :: st) nw k u mem := by
  intro p l e s m args below meth c D cA A0 A H locs ls C hA hP hD hS hl
  exact lv_icmp_eq C.1 C.2.1 hd ht (fun h => kt ((iI_eq ha hb).mp h) p l e s m args below meth c D cA A0 A H locs ls C hA hP hD hS hl) (fun h => kf (fun h2 => h ((iI_eq ha hb).mpr h2)) p l e s m args below meth c D cA A0 A H locs ls C hA hP hD hS hl)
theorem G_icmp_ne {a b : Int} {off : Int} {tgt : Nat} (hd : decode μ.cc pc = .ok (.if_icmp .ne off, 3)) (ht : (pc : Int) + off = (tgt : Int)) (ha : -2147483648 ≤ a ∧ a < 2147483648) (hb : -2147483648 ≤ b ∧ b < 2147483648) (kt : a ≠ b → G ρ E μ QQ nw0 tgt lv st nw k u mem) (kf : a = b → G ρ E μ QQ nw0 (pc + 3) lv st nw k u mem) : G ρ E μ QQ nw0 pc lv (vi b :: vi a :: st) nw k u mem := by
  intro p l e s m args below meth c D cA A0 A H locs ls C hA hP hD hS hl
  exact lv_icmp_ne C.1 C.2.1 hd ht (fun h => kt (fun h2 => h ((iI_eq ha hb).mpr h2)) p l e s m args below meth c D cA A0 A H locs ls C hA hP hD hS hl) (fun h => kf ((iI_eq ha hb).mp h) p l e s m args below meth c D cA A0 A H locs ls C hA hP hD hS hl)
theorem G_icmp_lt {a b : Int} {off : Int} {tgt : Nat} (hd : decode μ.cc pc = .ok (.if_icmp .lt off, 3)) (ht : (pc : Int) + off = (tgt : Int)) (ha : -2147483648 ≤ a ∧ a < 2147483648) (hb : -2147483648 ≤ b ∧ b < 2147483648) (kt : a < b → G ρ E μ QQ nw0 tgt lv st nw k u mem) (kf : ¬ a < b → G ρ E μ QQ nw0 (pc + 3) lv st nw k u mem) : G ρ E μ QQ nw0 pc lv (vi b :: vi a :: st) nw k u mem := by
  intro p l e s m args below meth c D cA A0 A H locs ls C hA hP hD hS hl
  exact lv_icmp_lt C.1 C.2.1 hd ht (fun h => kt ((iI_lt ha hb).mp h) p l e s m args below meth c D cA A0 A H locs ls C hA hP hD hS hl) (fun h => kf (fun h2 => h ((iI_lt ha hb).mpr h2)) p l e s m args below meth c D cA A0 A H locs ls C hA hP hD hS hl)
theorem G_icmp_ge {a b : Int} {off : Int} {tgt : Nat} (hd : decode μ.cc pc = .ok (.if_icmp .ge off, 3)) (ht : (pc : Int) + off = (tgt : Int)) (ha : -2147483648 ≤ a ∧ a < 2147483648) (hb : -2147483648 ≤ b ∧ b < 2147483648) (kt : b ≤ a → G ρ E μ QQ nw0 tgt lv st nw k u mem) (kf : ¬ b ≤ a → G ρ E μ QQ nw0 (pc + 3) lv st nw k u mem) : G ρ E μ QQ nw0 pc lv (vi b :: vi a :: st) nw k u mem := by
  intro p l e s m args below meth c D cA A0 A H locs ls C hA hP hD hS hl
  exact lv_icmp_ge C.1 C.2.1 hd ht (fun h => kt ((iI_le hb ha).mp h) p l e s m args below meth c D cA A0 A H locs ls C hA hP hD hS hl) (fun h => kf (fun h2 => h ((iI_le hb ha).mpr h2)) p l e s m args below meth c D cA A0 A H locs ls C hA hP hD hS hl)
theorem G_icmp_gt {a b : Int} {off : Int} {tgt : Nat} (hd : decode μ.cc pc = .ok (.if_icmp .gt off, 3)) (ht : (pc : Int) + off = (tgt : Int)) (ha : -2147483648 ≤ a ∧ a < 2147483648) (hb : -2147483648 ≤ b ∧ b < 2147483648) (kt : b < a → G ρ E μ QQ nw0 tgt lv st nw k u mem) (kf : ¬ b < a → G ρ E μ QQ nw0 (pc + 3) lv st nw k u mem) : G ρ E μ QQ nw0 pc lv (vi b :: vi a :: st) nw k u mem := by
  intro p l e s m args below meth c D cA A0 A H locs ls C hA hP hD hS hl
  exact lv_icmp_gt C.1 C.2.1 hd ht (fun h => kt ((iI_lt hb ha).mp h) p l e s m args below meth c D cA A0 A H locs ls C hA hP hD hS hl) (fun h => kf (fun h2 => h ((iI_lt hb ha).mpr h2)) p l e s m args below meth c D cA A0 A H locs ls C hA hP hD hS hl)
theorem G_icmp_le {a b : Int} {off : Int} {tgt : Nat} (hd : decode μ.cc pc = .ok (.if_icmp .le off, 3)) (ht : (pc : Int) + off = (tgt : Int)) (ha : -2147483648 ≤ a ∧ a < 2147483648) (hb : -2147483648 ≤ b ∧ b < 2147483648) (kt : a ≤ b → G ρ E μ QQ nw0 tgt lv st nw k u mem) (kf : ¬ a ≤ b → G ρ E μ QQ nw0 (pc + 3) lv st nw k u mem) : G ρ E μ QQ nw0 pc lv (vi b :: vi a :: st) nw k u mem := by
  intro p l e s m args below meth c D cA A0 A H locs ls C hA hP hD hS hl
  exact lv_icmp_le C.1 C.2.1 hd ht (fun h => kt ((iI_le ha hb).mp h) p l e s m args below meth c D cA A0 A H locs ls C hA hP hD hS hl) (fun h => kf (fun h2 => h ((iI_le ha hb).mpr h2)) p l e s m args below meth c D cA A0 A H locs ls C hA hP hD hS hl)
theorem iz : (-2147483648 : Int) ≤ 0 ∧ (0 : Int) < 2147483648 := by decide
theorem G_if_eq {a : Int} {off : Int} {tgt : Nat} (hd : decode μ.cc pc = .ok (.ifCond .eq off, 3)) (ht : (pc : Int) + off = (tgt : Int)) (ha : -2147483648 ≤ a ∧ a < 2147483648) (kt : a = 0 → G ρ E μ QQ nw0 tgt lv st nw k u mem) (kf : ¬ a = 0 → G ρ E μ QQ nw0 (pc + 3) lv st nw k u mem) : G ρ E μ QQ nw0 pc lv (vi a :: st) nw k u mem := by
  intro p l e s m args below meth c D cA A0 A H locs ls C hA hP hD hS hl
  exact lv_if_eq C.1 C.2.1 hd ht (fun h => kt ((iI_eq ha iz).mp h) p l e s m args below meth c D cA A0 A H locs ls C hA hP hD hS hl) (fun h => kf (fun h2 => h ((iI_eq ha iz).mpr h2)) p l e s m args below meth c D cA A0 A H locs ls C hA hP hD hS hl)
theorem G_if_ne {a : Int} {off : Int} {tgt : Nat} (hd : decode μ.cc pc = .ok (.ifCond .ne off, 3)) (ht : (pc : Int) + off = (tgt : Int)) (ha : -2147483648 ≤ a ∧ a < 2147483648) (kt : a ≠ 0 → G ρ E μ QQ nw0 tgt lv st nw k u mem) (kf : a = 0 → G ρ E μ QQ nw0 (pc + 3) lv st nw k u mem) : G ρ E μ QQ nw0 pc lv (vi a :: st) nw k u mem := by
  intro p l e s m args below meth c D cA A0 A H locs ls C hA hP hD hS hl
  exact lv_if_ne C.1 C.2.1 hd ht (fun h => kt (fun h2 => h ((iI_eq ha iz).mpr h2)) p l e s m args below meth c D cA A0 A H locs ls C hA hP hD hS hl) (fun h => kf ((iI_eq ha iz).mp h) p l e s m args below meth c D cA A0 A H locs ls C hA hP hD hS hl)
theorem G_if_lt {a : Int} {off : Int} {tgt : Nat} (hd : decode μ.cc pc = .ok (.ifCond .lt off, 3)) (ht : (pc : Int) + off = (tgt : Int)) (ha : -2147483648 ≤ a ∧ a < 2147483648) (kt : a < 0 → G ρ E μ QQ nw0 tgt lv st nw k u mem) (kf : ¬ a < 0 → G ρ E μ QQ nw0 (pc + 3) lv st nw k u mem) : G ρ E μ QQ nw0 pc lv (vi a :: st) nw k u mem := by
  intro p l e s m args below meth c D cA A0 A H locs ls C hA hP hD hS hl
  exact lv_if_lt C.1 C.2.1 hd ht (fun h => kt ((iI_lt ha iz).mp h) p l e s m args below meth c D cA A0 A H locs ls C hA hP hD hS hl) (fun h => kf (fun h2 => h ((iI_lt ha iz).mpr h2)) p l e s m args below meth c D cA A0 A H locs ls C hA hP hD hS hl)
theorem G_if_ge {a : Int} {off : Int} {tgt : Nat} (hd : decode μ.cc pc = .ok (.ifCond .ge off, 3)) (ht : (pc : Int) + off = (tgt : Int)) (ha : -2147483648 ≤ a ∧ a < 2147483648) (kt : 0 ≤ a → G ρ E μ QQ nw0 tgt lv st nw k u mem) (kf : ¬ 0 ≤ a → G ρ E μ QQ nw0 (pc + 3) lv st nw k u mem) : G ρ E μ QQ nw0 pc lv (vi a :: st) nw k u mem := by
  intro p l e s m args below meth c D cA A0 A H locs ls C hA hP hD hS hl
  exact lv_if_ge C.1 C.2.1 hd ht (fun h => kt ((iI_le iz ha).mp h) p l e s m args below meth c D cA A0 A H locs ls C hA hP hD hS hl) (fun h => kf (fun h2 => h ((iI_le iz ha).mpr h2)) p l e s m args below meth c D cA A0 A H locs ls C hA hP hD hS hl)
theorem G_if_gt {a : Int} {off : Int} {tgt : Nat} (hd : decode μ.cc pc = .ok (.ifCond .gt off, 3)) (ht : (pc : Int) + off = (tgt : Int)) (ha : -2147483648 ≤ a ∧ a < 2147483648) (kt : 0 < a → G ρ E μ QQ nw0 tgt lv st nw k u mem) (kf : ¬ 0 < a → G ρ E μ QQ nw0 (pc + 3) lv st nw k u mem) : G ρ E μ QQ nw0 pc lv (vi a :: st) nw k u mem := by
  intro p l e s m args below meth c D cA A0 A H locs ls C hA hP hD hS hl
  exact lv_if_gt C.1 C.2.1 hd ht (fun h => kt ((iI_lt iz ha).mp h) p l e s m args below meth c D cA A0 A H locs ls C hA hP hD hS hl) (fun h => kf (fun h2 => h ((iI_lt iz ha).mpr h2)) p l e s m args below meth c D cA A0 A H locs ls C hA hP hD hS hl)
theorem G_if_le {a : Int} {off : Int} {tgt : Nat} (hd : decode μ.cc pc = .ok (.ifCond .le off, 3)) (ht : (pc : Int) + off = (tgt : Int)) (ha : -2147483648 ≤ a ∧ a < 2147483648) (kt : a ≤ 0 → G ρ E μ QQ nw0 tgt lv st nw k u mem) (kf : ¬ a ≤ 0 → G ρ E μ QQ nw0 (pc + 3) lv st nw k u mem) : G ρ E μ QQ nw0 pc lv (vi a :: st) nw k u mem := by
  intro p l e s m args below meth c D cA A0 A H locs ls C hA hP hD hS hl
  exact lv_if_le C.1 C.2.1 hd ht (fun h => kt ((iI_le ha iz).mp h) p l e s m args below meth c D cA A0 A H locs ls C hA hP hD hS hl) (fun h => kf (fun h2 => h ((iI_le ha iz).mpr h2)) p l e s m args below meth c D cA A0 A H locs ls C hA hP hD hS hl)
theorem G_goto {off : Int} {tgt : Nat} (hd : decode μ.cc pc = .ok (.goto off, 3)) (ht : (pc : Int) + off = (tgt : Int)) (kk : G ρ E μ QQ nw0 tgt lv st nw k u mem) : G ρ E μ QQ nw0 pc lv st nw k u mem := by
  intro p l e s m args below meth c D cA A0 A H locs ls C hA hP hD hS hl
  exact lv_goto C.1 C.2.1 hd ht (kk p l e s m args below meth c D cA A0 A H locs ls C hA hP hD hS hl)
theorem G_tableIn {dflt lo hi : Int} {offs : Array Int} {len : Nat} {a off : Int} {tgt : Nat} (hd : decode μ.cc pc = .ok (.tableswitch dflt lo hi offs, len)) (ha : -2147483648 ≤ a ∧ a < 2147483648) (h1 : lo ≤ a) (h2 : a ≤ hi) (ho : offs[(a - lo).toNat]? = some off) (ht : (pc : Int) + off = (tgt : Int)) (kk : G ρ E μ QQ nw0 tgt lv st nw k u mem) : G ρ E μ QQ nw0 pc lv (vi a :: st) nw k u mem := by
  intro p l e s m args below meth c D cA A0 A H locs ls C hA hP hD hS hl
  exact lv_tableIn C.1 C.2.1 hd (by rw [iI_toInt ha.1 ha.2]; omega) (by rw [iI_toInt ha.1 ha.2]; omega) (by rw [iI_toInt ha.1 ha.2]; exact ho) ht (kk p l e s m args below meth c D cA A0 A H locs ls C hA hP hD hS hl)
theorem G_tableOut {dflt lo hi : Int} {offs : Array Int} {len : Nat} {a : Int} {tgt : Nat} (hd : decode μ.cc pc = .ok (.tableswitch dflt lo hi offs, len)) (ha : -2147483648 ≤ a ∧ a < 2147483648) (h1 : a < lo ∨ hi < a) (ht : (pc : Int) + dflt = (tgt : Int)) (kk : G ρ E μ QQ nw0 tgt lv st nw k u mem) : G ρ E μ QQ nw0 pc lv (vi a :: st) nw k u mem := by
  intro p l e s m args below meth c D cA A0 A H locs ls C hA hP hD hS hl
  exact lv_tableOut C.1 C.2.1 hd (by rw [iI_toInt ha.1 ha.2]; exact h1) ht (kk p l e s m args below meth c D cA A0 A H locs ls C hA hP hD hS hl)
theorem G_lookup {dflt : Int} {ps : Array (Int × Int)} {len : Nat} {a off : Int} {tgt : Nat} (hd : decode μ.cc pc = .ok (.lookupswitch dflt ps, len)) (ha : -2147483648 ≤ a ∧ a < 2147483648) (hp : (ps.toList.zip (ps.toList.drop 1)).all (fun (a, next) => a.1 < next.1) = true) (ho : Op.lookupswitch.offset ps.toList dflt a = off) (ht : (pc : Int) + off = (tgt : Int)) (kk : G ρ E μ QQ nw0 tgt lv st nw k u mem) : G ρ E μ QQ nw0 pc lv (vi a :: st) nw k u mem := by
  intro p l e s m args below meth c D cA A0 A H locs ls C hA hP hD hS hl
  exact lv_lookup C.1 C.2.1 hd hp (by rw [iI_toInt ha.1 ha.2]; exact ho) ht (kk p l e s m args below meth c D cA A0 A H locs ls C hA hP hD hS hl)
theorem G_ifnull {off : Int} {z : Nat} (hd : decode μ.cc pc = .ok (.ifnull off, 3)) (kk : G ρ E μ QQ nw0 (pc + 3) lv st nw k u mem) : G ρ E μ QQ nw0 pc lv (.ref z :: st) nw k u mem := by
  intro p l e s m args below meth c D cA A0 A H locs ls C hA hP hD hS hl
  exact lv_ifnull C.1 C.2.1 hd (kk p l e s m args below meth c D cA A0 A H locs ls C hA hP hD hS hl)
theorem G_ifnonnull {off : Int} {z tgt : Nat} (hd : decode μ.cc pc = .ok (.ifnonnull off, 3)) (ht : (pc : Int) + off = (tgt : Int)) (kk : G ρ E μ QQ nw0 tgt lv st nw k u mem) : G ρ E μ QQ nw0 pc lv (.ref z :: st) nw k u mem := by
  intro p l e s m args below meth c D cA A0 A H locs ls C hA hP hD hS hl
  exact lv_ifnonnull C.1 C.2.1 hd ht (kk p l e s m args below meth c D cA A0 A H locs ls C hA hP hD hS hl)
theorem G_ifnullZ {off : Int} {tgt : Nat} (hd : decode μ.cc pc = .ok (.ifnull off, 3)) (ht : (pc : Int) + off = (tgt : Int)) (kk : G ρ E μ QQ nw0 tgt lv st nw k u mem) : G ρ E μ QQ nw0 pc lv (.null :: st) nw k u mem := by
  intro p l e s m args below meth c D cA A0 A H locs ls C hA hP hD hS hl
  exact lv_ifnullN C.1 C.2.1 hd ht (kk p l e s m args below meth c D cA A0 A H locs ls C hA hP hD hS hl)
theorem G_ifnonnullZ {off : Int} (hd : decode μ.cc pc = .ok (.ifnonnull off, 3)) (kk : G ρ E μ QQ nw0 (pc + 3) lv st nw k u mem) : G ρ E μ QQ nw0 pc lv (.null :: st) nw k u mem := by
  intro p l e s m args below meth c D cA A0 A H locs ls C hA hP hD hS hl
  exact lv_ifnonnullN C.1 C.2.1 hd (kk p l e s m args below meth c D cA A0 A H locs ls C hA hP hD hS hl)
end GR
