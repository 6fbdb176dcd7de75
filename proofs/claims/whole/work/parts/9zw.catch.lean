/-! a throw and its catching, in the judgement: the launch keeps no traces, the table of the body is known -/
def TbOK (tb : List ExceptionTableEntry) (s : State) : Prop := ∀ (m : MethodId) (args : Array Value) (below : List Frame) (meth : Method) (c : Code), s.frames = .invoking m args :: below → s.vm.method? m = some meth → meth.code = some c → c.exceptionTable.toList = tb
def Fx (tb : List ExceptionTableEntry) (l : Launch) (s : State) : Prop := l.stackTraces = false ∧ NW s ∧ TbOK tb s
def cQ (tb : List ExceptionTableEntry) (QQ : QF) : QF := fun l A0 D cA below args s t => Fx tb l s → QQ l A0 D cA below args s t
section VCQ
variable {p : Program} {l : Launch} {e : Env} {R : Room} {s : State} {m : MethodId} {args : Array Value} {below : List Frame} {meth : Method} {c : Code} {H : Heap} {locs : List Loc} {k u : Nat} {Q : State → Prop} {g : JFrame} {tb : List ExceptionTableEntry}
theorem W_c (h : Fx tb l s → c.exceptionTable.toList = tb → W p l e R s m args below meth c H locs k u Q g) : W p l e R s m args below meth c H locs k u (fun t => Fx tb l s → Q t) g := by
  intro T hT X
  by_cases f : Fx tb l s
  · obtain ⟨t, a, b⟩ := h f (f.2.2 _ _ _ _ _ X.frames X.method X.code) T hT X
    exact ⟨t, a, fun _ => b⟩
  · exact ⟨_, Steps.refl _, fun z => absurd z f⟩
theorem W_u (f : Fx tb l s) (h : W p l e R s m args below meth c H locs k u (fun t => Fx tb l s → Q t) g) : W p l e R s m args below meth c H locs k u Q g := by
  intro T hT X
  obtain ⟨t, a, b⟩ := h T hT X
  exact ⟨t, a, b f⟩
end VCQ
section VCG
variable {ρ : Rho} {E : Nat × (Nat → Int32)} {μ : Mu} {QQ : QF} {nw0 pc : Nat} {lv st : List Value} {nw k u : Nat} {mem : Mem} {tb : List ExceptionTableEntry}
theorem G_c (h : G ρ E μ QQ nw0 pc lv st nw k u mem) : G ρ E μ (cQ tb QQ) nw0 pc lv st nw k u mem := fun p l e s m args below meth c D cA A0 A H locs ls C hA hP hD hS hl => W_c (fun _ _ => h p l e s m args below meth c D cA A0 A H locs ls C hA hP hD hS hl)
def gX (mem : Mem) (D : va_G) (cA : Nat → ClassId) (A0 : Nat → Nat) : String → State → State → Prop := fun E st t => E = NSE ∧ Wp ρM D cA A0 209 mem t.heap ∧ va_F (frE A0 209 st.heap.size) st t
def xQ (mem : Mem) : QF := fun _ A0 D cA below args s => vx_MQ below (fun _ _ _ _ => False) (gX mem D cA A0) args s 1 6 (frE A0 209 s.heap.size)
theorem Wp_kept {D : va_G} {cA : Nat → ClassId} {A : Nat → Nat} {H H1 : Heap} (hP : Wp ρ D cA A nw mem H) (h : ∀ q : Nat, q < H.size → H1[q]? = H[q]?) : Wp ρ D cA A nw mem H1 := ⟨hP.1.kept (fun k x hx => h x.1 ((hP.1 k x hx).lt)), hP.2⟩
/-- the throw itself, out of the method -/
theorem G_throw {is i : Nat} {tx : String} (ho : μ.own = RX11) (hs : (RX11, is, tx, i) ∈ strTab) (d0 : decode μ.cc pc = .ok (.new 137, 3)) (d3 : decode μ.cc (pc + 3) = .ok (.dup, 1)) (d4 : decode μ.cc (pc + 4) = .ok (.ldc is, 2)) (d6 : decode μ.cc (pc + 6) = .ok (.invokespecial 141, 3)) (d9 : decode μ.cc (pc + 9) = .ok (.athrow, 1)) (hR : 5 < μ.R.frames ∧ 82 ≤ μ.R.locals ∧ 1 ≤ μ.R.cells ∧ 6 ≤ μ.R.slots) : G ρM E μ (cQ [] (xQ mem)) 209 pc lv [] 209 0 0 mem := by
  intro p l e s m args below meth c D cA A0 A H locs ls C hA hP hD hS hl
  refine W_c (fun f ht => ?_)
  obtain rfl := Agr_eq hA
  have hEv := C.2.2.2.2.2.2.2.2.2
  obtain ⟨-, -, -, -, -, -, -, -, h9, h10, h11⟩ := hEv
  have hn := nse_at C.2.2.2.2.1 f.2.1
  have hown := C.2.2.2.1
  rw [ho] at hown
  refine vz_throw C.1 C.2.1 f.1 rxN0 rxN1 rxN2 rxN5 hown nse_fit nse_fits (hn _ List.mem_cons_self) (hn _ (List.mem_cons_of_mem _ List.mem_cons_self)) (h9 _ hs) (fun w hw => hn w (List.mem_cons_of_mem _ (List.mem_cons_of_mem _ hw))) nse_ot h10 h11 hS (hl.1.trans C.2.2.1.symm) d0 d3 d4 d6 d9 hR.1 hR.2.1 hR.2.2.1 hR.2.2.2 (fun q ce H1 h1 h2 h3 h4 h5 h6 => ?_)
  refine vx_out (E := NSE) (fun x hx => by rw [ht] at hx; cases hx) C.2.2.2.2.2.2.2.1 h1 h2 h3 (fun t e1 _ => ⟨rfl, ?_, ?_⟩) h6.2.2 (Nat.le_refl _) (Nat.le_refl _)
  · rw [e1]; exact Wp_kept hP h5
  · exact h6.F e1
theorem G_throwW {is i : Nat} {tx : String} (ho : μ.own = RX11) (hs : (RX11, is, tx, i) ∈ strTab) (d0 : decode μ.cc pc = .ok (.new 137, 3)) (d3 : decode μ.cc (pc + 3) = .ok (.dup, 1)) (d4 : decode μ.cc (pc + 4) = .ok (.ldc_w is, 3)) (d6 : decode μ.cc (pc + 7) = .ok (.invokespecial 141, 3)) (d9 : decode μ.cc (pc + 10) = .ok (.athrow, 1)) (hR : 5 < μ.R.frames ∧ 82 ≤ μ.R.locals ∧ 1 ≤ μ.R.cells ∧ 6 ≤ μ.R.slots) : G ρM E μ (cQ [] (xQ mem)) 209 pc lv [] 209 0 0 mem := by
  intro p l e s m args below meth c D cA A0 A H locs ls C hA hP hD hS hl
  refine W_c (fun f ht => ?_)
  obtain rfl := Agr_eq hA
  have hEv := C.2.2.2.2.2.2.2.2.2
  obtain ⟨-, -, -, -, -, -, -, -, h9, h10, h11⟩ := hEv
  have hn := nse_at C.2.2.2.2.1 f.2.1
  have hown := C.2.2.2.1
  rw [ho] at hown
  refine vz_throwW C.1 C.2.1 f.1 rxN0 rxN1 rxN2 rxN5 hown nse_fit nse_fits (hn _ List.mem_cons_self) (hn _ (List.mem_cons_of_mem _ List.mem_cons_self)) (h9 _ hs) (fun w hw => hn w (List.mem_cons_of_mem _ (List.mem_cons_of_mem _ hw))) nse_ot h10 h11 hS (hl.1.trans C.2.2.1.symm) d0 d3 d4 d6 d9 hR.1 hR.2.1 hR.2.2.1 hR.2.2.2 (fun q ce H1 h1 h2 h3 h4 h5 h6 => ?_)
  refine vx_out (E := NSE) (fun x hx => by rw [ht] at hx; cases hx) C.2.2.2.2.2.2.2.1 h1 h2 h3 (fun t e1 _ => ⟨rfl, ?_, ?_⟩) h6.2.2 (Nat.le_refl _) (Nat.le_refl _)
  · rw [e1]; exact Wp_kept hP h5
  · exact h6.F e1
end VCG
/-- a method that throws: its contract -/
def CX (E : Nat × (Nat → Int32)) (y : MethodName) (μ : Mu) (as : List Value) (mem : Mem) : Prop := ∀ (l : Launch), l.stackTraces = false → ∀ (D : va_G) (cA : Nat → ClassId) (A0 : Nat → Nat) (sz : Nat), vx_Met l y (Cond.code y μ.cc μ.nL μ.rt :: T0) μ.R (fun a U => pC ρM E 209 as mem D cA A0 sz a U ∧ NW U) (fun _ _ _ _ => False) (gX mem D cA A0) 1 6 (frE A0 209 sz)
def CH (E : Nat × (Nat → Int32)) (y : MethodName) (μ : Mu) (hh : List (Nat × Nat × Nat × Nat)) (as : List Value) (mem : Mem) (P : Option Value → Mem → Prop) : Prop := ∀ (l : Launch), l.stackTraces = false → ∀ (D : va_G) (cA : Nat → ClassId) (A0 : Nat → Nat) (sz : Nat), vx_Met l y (Cond.codeWith y μ.cc μ.nL μ.rt hh :: T0) μ.R (fun a U => pC ρM E 209 as mem D cA A0 sz a U ∧ NW U) (gQ ρM 209 (PMain P) D cA A0) (fun _ _ _ => False) 1 6 (frE A0 209 sz)
theorem TbOK.of {tb : List ExceptionTableEntry} {s : State} {m : MethodId} {args : Array Value} {below : List Frame} {meth : Method} {c : Code} (h1 : s.frames = .invoking m args :: below) (h2 : s.vm.method? m = some meth) (h3 : meth.code = some c) (h4 : c.exceptionTable.toList = tb) : TbOK tb s := by
  intro m' args' below' meth' c' g1 g2 g3
  rw [h1] at g1
  injection g1 with g1 _
  injection g1 with g1 _
  subst g1
  cases Option.some.inj (h2.symm.trans g2)
  cases Option.some.inj (h3.symm.trans g3)
  exact h4
/-- what a body begins with -/
theorem GC_of {E : Nat × (Nat → Int32)} {y : MethodName} {μ : Mu} {as lv : List Value} {mem : Mem} {D : va_G} {cA : Nat → ClassId} {A0 : Nat → Nat} {sz : Nat} {w0 : Cond} {S : Spec} {p : Program} {l : Launch} {e : Env} {s : State} {m : MethodId} {args : Array Value} {below : List Frame} {meth : Method} {c : Code} {s₁ : State} {Q : State → Prop} {QQ : QF} (hown : μ.own = y.cls) (hmn : μ.mn = y.name) (hlen : (lvE as).length ≤ μ.nL) (hlv : lvE as ++ List.replicate (μ.nL - (lvE as).length) un = lv) (hS : S = headSpec (w0 :: T0) μ.R) (B : BodyLoose p l y S μ.cc μ.nL μ.rt e s m args below meth c s₁) (hml : c.maxLocals = μ.nL) (hv : pC ρM E 209 as mem D cA A0 sz args s) (hQ : ∀ A1 args1, sz = s.heap.size → A1 = A0 → args1 = args → QQ l A1 D cA below args1 s = Q) (body : G ρM E μ QQ 209 0 lv [] 209 0 0 mem) : W p l e μ.R s m args below meth c s.heap [] 0 0 Q (entryFrame m args μ.nL) := by
  obtain ⟨rfl, hsz, hP, hD0, hK, hE⟩ := hv
  subst hS
  have hts := atoms_spec (ws := w0 :: T0) B.pre
  have hown2 : s.vm.findClass μ.own = some m.cls := by rw [hown]; exact findClass_of_methodNamed B.named
  have hin : meth.name = μ.mn := by rw [hmn]; exact (name_of_methodNamed B.named B.method).1
  subst hsz
  have hD : va_D (frE A0 209 s.heap.size) (Ws ρM A0 cA mem 209) := ⟨hD0.1, fun k q hq => by
    unfold Ws at hq
    rw [List.getElem?_map] at hq
    rcases h : (List.range 209)[k]? with _ | b
    · rw [h] at hq; cases hq
    · rw [h] at hq
      simp only [Option.map_some, Option.some.injEq] at hq
      subst hq
      have hb : b < 209 := List.mem_range.mp (List.mem_of_getElem? h)
      exact Or.inl ⟨b, hb, rfl⟩⟩
  have hC : GC E μ 209 p s m (as.map (cv A0)).toArray meth c D cA A0 := ⟨B.exec, B.bytes, hml, hown2, fun w hw => hts w (List.mem_cons_of_mem _ hw), hK, B.returns, B.notSynchronized, hin, hE⟩
  have hl := lv_entry (as.map (cv A0)) (n := μ.nL) (by rw [lvE_len]; exact hlen)
  rw [← hQ A0 _ rfl rfl rfl, lg_entry_eq]
  generalize (lg_sl (as.map (cv A0)) ++ List.replicate (μ.nL - (lg_sl (as.map (cv A0))).length) Slot.unset).toArray = ls at hl ⊢
  have hl2 : lv_has ls μ.nL (lvs A0 lv) := hl.mono (fun q hq => by
    obtain ⟨i, w⟩ := q
    obtain ⟨v, h1, h2, rfl⟩ := mem_lvs.mp hq
    rw [← hlv, List.getElem?_append] at h1
    split at h1
    · have := lvE_in A0 as 0 i v h1 h2
      rwa [Nat.zero_add] at this
    · have := List.mem_of_getElem? h1
      rw [List.eq_of_mem_replicate this] at h2
      cases h2)
  exact body p l e s m _ below meth c D cA A0 A0 s.heap [] ls hC (fun k _ => rfl) hP hD va_S.rf hl2
theorem CX_of {E : Nat × (Nat → Int32)} {y : MethodName} {μ : Mu} {as lv : List Value} {mem : Mem} (hy : plainName y.cls = true) (hown : μ.own = y.cls) (hmn : μ.mn = y.name) (hlen : (lvE as).length ≤ μ.nL) (hlv : lvE as ++ List.replicate (μ.nL - (lvE as).length) un = lv) (body : G ρM E μ (cQ [] (xQ mem)) 209 0 lv [] 209 0 0 mem) : CX E y μ as mem := by
  intro l hfl D cA A0 sz
  refine vx_ofW (cc := μ.cc) (maxL := μ.nL) (ret := μ.rt) hy rfl ?_
  intro p e s m args below meth c s₁ B hml htab hv
  have X := Stand.of_body B
  have ht : c.exceptionTable.toList = [] := List.eq_nil_iff_forall_not_mem.mpr (fun x hx => htab x hx)
  have hsz : s.heap.size = sz := hv.1.2.1
  refine W_u (tb := []) (l := l) (s := s) ⟨hfl, hv.2, TbOK.of X.frames X.method X.code ht⟩ ?_
  exact GC_of (w0 := Cond.code y μ.cc μ.nL μ.rt) hown hmn hlen hlv rfl B hml hv.1 (fun A1 args1 h1 h2 h3 => by subst h1 h2 h3; rfl) body
theorem CH_of {E : Nat × (Nat → Int32)} {y : MethodName} {μ : Mu} {hh : List (Nat × Nat × Nat × Nat)} {as lv : List Value} {mem : Mem} {P : Option Value → Mem → Prop} (hy : plainName y.cls = true) (hown : μ.own = y.cls) (hmn : μ.mn = y.name) (hlen : (lvE as).length ≤ μ.nL) (hlv : lvE as ++ List.replicate (μ.nL - (lvE as).length) un = lv) (body : G ρM E μ (cQ (tableOf hh) (QM ρM 209 (PMain P) 1 6)) 209 0 lv [] 209 0 0 mem) : CH E y μ hh as mem P := by
  intro l hfl D cA A0 sz
  refine vx_ofWH (cc := μ.cc) (maxL := μ.nL) (ret := μ.rt) (hh := hh) hy rfl ?_
  intro p e s m args below meth c s₁ B hml hv
  have X := Stand.of_body B
  have ht : c.exceptionTable.toList = tableOf hh := vx_table (x := y) B (atoms_spec (ws := Cond.codeWith y μ.cc μ.nL μ.rt hh :: T0) B.pre _ List.mem_cons_self)
  refine vx_ret (W_u (tb := tableOf hh) (l := l) (s := s) ⟨hfl, hv.2, TbOK.of X.frames X.method X.code ht⟩ ?_)
  exact GC_of (w0 := Cond.codeWith y μ.cc μ.nL μ.rt hh) hown hmn hlen hlv rfl B hml hv.1 (fun A1 args1 h1 h2 h3 => by subst h1 h2 h3; rfl) body
