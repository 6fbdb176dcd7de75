/-! what is only read, from state to state -/
theorem Ev.kept {E : Nat × (Nat → Int32)} {A : Nat → Nat} {Fr : Nat → Prop} {U : State} {H H1 : Heap} (h : Ev E A Fr U H) (hq : ∀ a : Nat, a < H.size → ¬ Fr a → H1[a]? = H[a]?) : Ev E A Fr U H1 := by
  obtain ⟨h1, h2, h3, h4, h5, h6, h7, h8, h9, h10, h11⟩ := h
  exact ⟨h1.kept hq, h2.kept hq, h3.kept hq, h4.kept hq, h5.kept hq, h6.kept hq, h7.imp (fun h => h.kept hq) (fun h => h.kept hq), fun i hi => ⟨(h8 i hi).1.kept hq, (h8 i hi).2.1.kept hq, (h8 i hi).2.2.1.kept hq, (h8 i hi).2.2.2.kept hq⟩, h9, h10.kept hq, h11.kept hq⟩
theorem Ev.narrow {E : Nat × (Nat → Int32)} {A : Nat → Nat} {Fr Fr2 : Nat → Prop} {U : State} {H : Heap} (h : Ev E A Fr U H) (hq : ∀ q, Fr2 q → Fr q) : Ev E A Fr2 U H := by
  obtain ⟨h1, h2, h3, h4, h5, h6, h7, h8, h9, h10, h11⟩ := h
  exact ⟨h1.narrow hq, h2.narrow hq, h3.narrow hq, h4.narrow hq, h5.narrow hq, h6.narrow hq, h7.imp (fun h => h.narrow hq) (fun h => h.narrow hq), fun i hi => ⟨(h8 i hi).1.narrow hq, (h8 i hi).2.1.narrow hq, (h8 i hi).2.2.1.narrow hq, (h8 i hi).2.2.2.narrow hq⟩, h9, h10.narrow hq, h11.narrow hq⟩
theorem Ev.moved {E : Nat × (Nat → Int32)} {A : Nat → Nat} {Fr : Nat → Prop} {u U : State} {H : Heap} (hvm : u.vm.Alike U.vm) (hk : ∀ (own tx : String) (k a : Nat), vk_R own k tx a u → vk_R own k tx a U) (h : Ev E A Fr u H) : Ev E A Fr U H := by
  obtain ⟨h1, h2, h3, h4, h5, h6, h7, h8, h9, h10, h11⟩ := h
  exact ⟨h1.moved hvm, h2.moved hvm, h3.moved hvm, h4.moved hvm, h5.moved hvm, h6.moved hvm, h7.imp (fun h => h.moved hvm) (fun h => h.moved hvm), fun i hi => ⟨(h8 i hi).1.moved hvm, (h8 i hi).2.1.moved hvm, (h8 i hi).2.2.1.moved hvm, (h8 i hi).2.2.2.moved hvm⟩, fun q hq => hk _ _ _ _ (h9 q hq), h10.moved hvm, h11.moved hvm⟩
theorem strTab_lt : ∀ q ∈ strTab, q.2.2.2 < 11 := by decide
theorem Ev.agr {E : Nat × (Nat → Int32)} {A A2 : Nat → Nat} {Fr : Nat → Prop} {U : State} {H : Heap} (h : Ev E A Fr U H) (ha : ∀ k, 1000 ≤ k → A2 k = A k) : Ev E A2 Fr U H := by
  obtain ⟨h1, h2, h3, h4, h5, h6, h7, h8, h9, h10, h11⟩ := h
  unfold Ev
  rw [ha 1000 (by omega), ha 1001 (by omega), ha 1002 (by omega), ha 1003 (by omega)]
  refine ⟨h1, h2, h3, h4, h5, h6, h7, fun i hi => ?_, fun q hq => ?_, h10, h11⟩
  · rw [ha (1100 + i) (by omega), ha (1200 + i) (by omega)]
    exact h8 i hi
  · rw [ha _ (by omega)]
    exact h9 q hq
/-! ends -/
def gQ (ρ : Rho) (nw0 : Nat) (Post : Option Value → Nat → Mem → Prop) (D : va_G) (cA : Nat → ClassId) (A0 : Nat → Nat) : Array Value → State → Outcome → State → Prop := fun _ st o t =>
  (∃ (r : Option Value) (A : Nat → Nat) (nw : Nat) (mem : Mem), o = .returned (r.map (cv A)) ∧ Agr nw0 nw A A0 ∧ nw0 ≤ nw ∧ Wp ρ D cA A nw mem t.heap ∧ va_D (frE A0 nw0 st.heap.size) (Ws ρ A cA mem nw) ∧ Post r nw mem) ∧ va_F (frE A0 nw0 st.heap.size) st t
def QM (ρ : Rho) (nw0 : Nat) (Post : Option Value → Nat → Mem → Prop) (mc ms : Nat) : QF := fun _ A0 D cA below args s => MQ below (gQ ρ nw0 Post D cA A0) args s mc ms (frE A0 nw0 s.heap.size)
section GE
variable {ρ : Rho} {E : Nat × (Nat → Int32)} {μ : Mu} {nw0 pc : Nat} {lv st : List Value} {nw k u mc ms : Nat} {mem : Mem} {Post : Option Value → Nat → Mem → Prop}
theorem G_iret {z : Int} (hd : decode μ.cc pc = .ok (.ireturn, 1)) (hrt : μ.rt = some .int) (hk : k ≤ mc) (hu : u ≤ ms) (hnw : nw0 ≤ nw) (hp : Post (some (vi z)) nw mem) : G ρ E μ (QM ρ nw0 Post mc ms) nw0 pc lv [vi z] nw k u mem := by
  intro p l e s m args below meth c D cA A0 A H locs ls C hA hP hD hS hl
  refine W.widen hk hu ?_
  exact W.iret C.1 C.2.1 (C.2.2.2.2.2.2.1.trans hrt) (fun t ht _ => ⟨⟨some (vi z), A, nw, mem, rfl, hA, hnw, by rw [ht]; exact hP, hD, hp⟩, hS.F ht⟩) (fun q hq => hS.2.2 q hq) hd C.2.2.2.2.2.2.2.1
theorem G_zret {z : Int} {ty : FieldType} (hd : decode μ.cc pc = .ok (.ireturn, 1)) (hrt : μ.rt = some ty) (hn : narrow ty (vi z) = vi z) (hk : k ≤ mc) (hu : u ≤ ms) (hnw : nw0 ≤ nw) (hp : Post (some (vi z)) nw mem) : G ρ E μ (QM ρ nw0 Post mc ms) nw0 pc lv [vi z] nw k u mem := by
  intro p l e s m args below meth c D cA A0 A H locs ls C hA hP hD hS hl
  refine W.widen hk hu ?_
  exact W.zret C.1 C.2.1 (C.2.2.2.2.2.2.1.trans hrt) hn (fun t ht _ => ⟨⟨some (vi z), A, nw, mem, rfl, hA, hnw, by rw [ht]; exact hP, hD, hp⟩, hS.F ht⟩) (fun q hq => hS.2.2 q hq) hd C.2.2.2.2.2.2.2.1
theorem nar_zb {z : Int} (hz : z = 0 ∨ z = 1) : narrow .boolean (vi z) = vi z := by rcases hz with rfl | rfl <;> rfl
theorem G_lret {z : Int} (hd : decode μ.cc pc = .ok (.lreturn, 1)) (hrt : μ.rt = some .long) (hk : k ≤ mc) (hu : u ≤ ms) (hnw : nw0 ≤ nw) (hp : Post (some (vl z)) nw mem) : G ρ E μ (QM ρ nw0 Post mc ms) nw0 pc lv [vl z] nw k u mem := by
  intro p l e s m args below meth c D cA A0 A H locs ls C hA hP hD hS hl
  refine W.widen hk hu ?_
  exact W.lret C.1 C.2.1 (C.2.2.2.2.2.2.1.trans hrt) (fun t ht _ => ⟨⟨some (vl z), A, nw, mem, rfl, hA, hnw, by rw [ht]; exact hP, hD, hp⟩, hS.F ht⟩) (fun q hq => hS.2.2 q hq) hd C.2.2.2.2.2.2.2.1
theorem G_vret (hd : decode μ.cc pc = .ok (.return_, 1)) (hrt : μ.rt = none) (hk : k ≤ mc) (hu : u ≤ ms) (hnw : nw0 ≤ nw) (hp : Post none nw mem) : G ρ E μ (QM ρ nw0 Post mc ms) nw0 pc lv [] nw k u mem := by
  intro p l e s m args below meth c D cA A0 A H locs ls C hA hP hD hS hl
  refine W.widen hk hu ?_
  exact W.vret C.1 C.2.1 (C.2.2.2.2.2.2.1.trans hrt) (fun t ht _ => ⟨⟨none, A, nw, mem, rfl, hA, hnw, by rw [ht]; exact hP, hD, hp⟩, hS.F ht⟩) (fun q hq => hS.2.2 q hq) hd C.2.2.2.2.2.2.2.1
theorem G_aretV {v : Value} {ty : FieldType} (hd : decode μ.cc pc = .ok (.areturn, 1)) (hrt : μ.rt = some ty) (hty : refTy ty = true) (hv : v = .null ∨ ∃ a, v = .ref a) (hk : k ≤ mc) (hu : u ≤ ms) (hnw : nw0 ≤ nw) (hp : Post (some v) nw mem) : G ρ E μ (QM ρ nw0 Post mc ms) nw0 pc lv [v] nw k u mem := by
  intro p l e s m args below meth c D cA A0 A H locs ls C hA hP hD hS hl
  refine W.widen hk hu ?_
  refine W.aret (v := cv A v) (rt := ty) C.1 C.2.1 (C.2.2.2.2.2.2.1.trans hrt) ?_ ?_ (fun t ht _ => ⟨⟨some v, A, nw, mem, rfl, hA, hnw, by rw [ht]; exact hP, hD, hp⟩, hS.F ht⟩) (fun q hq => hS.2.2 q hq) hd C.2.2.2.2.2.2.2.1
  · cases ty <;> first | (cases hty; done) | exact Or.inl ⟨_, rfl⟩ | exact Or.inr ⟨_, rfl⟩
  · rcases hv with rfl | ⟨a, rfl⟩
    · exact Or.inl rfl
    · exact Or.inr ⟨_, rfl⟩
theorem G_aret {t : Nat} {ty : FieldType} (hd : decode μ.cc pc = .ok (.areturn, 1)) (hrt : μ.rt = some ty) (hty : refTy ty = true) (hk : k ≤ mc) (hu : u ≤ ms) (hnw : nw0 ≤ nw) (hp : Post (some (.ref t)) nw mem) : G ρ E μ (QM ρ nw0 Post mc ms) nw0 pc lv [.ref t] nw k u mem := G_aretV hd hrt hty (Or.inr ⟨t, rfl⟩) hk hu hnw hp
theorem G_aretN {ty : FieldType} (hd : decode μ.cc pc = .ok (.areturn, 1)) (hrt : μ.rt = some ty) (hty : refTy ty = true) (hk : k ≤ mc) (hu : u ≤ ms) (hnw : nw0 ≤ nw) (hp : Post (some .null) nw mem) : G ρ E μ (QM ρ nw0 Post mc ms) nw0 pc lv [.null] nw k u mem := G_aretV hd hrt hty (Or.inl rfl) hk hu hnw hp
end GE
/-! contracts -/
def pC (ρ : Rho) (E : Nat × (Nat → Int32)) (nw0 : Nat) (as : List Value) (mem : Mem) (D : va_G) (cA : Nat → ClassId) (A0 : Nat → Nat) (sz : Nat) : Array Value → State → Prop :=
  va_Pc (as.map (cv A0)) (fun U => U.heap.size = sz ∧ Wp ρ D cA A0 nw0 mem U.heap ∧ va_D (fun _ => True) (Ws ρ A0 cA mem nw0) ∧ va_K D vwCl (tyc cA) U ∧ Ev E A0 (frE A0 nw0 sz) U U.heap)
theorem pC_blind {ρ : Rho} {E : Nat × (Nat → Int32)} {nw0 : Nat} {as : List Value} {mem : Mem} {D : va_G} {cA : Nat → ClassId} {A0 : Nat → Nat} {sz : Nat} : FrameBlind (pC ρ E nw0 as mem D cA A0 sz) := by
  rintro a U g mk ⟨h1, h2, h3, h4, h5, h6⟩
  exact ⟨h1, h2, h3, h4, va_K.moved (u := U) (U := U.calling g mk a) (Vm.Alike.refl U.vm) h5, Ev.moved (u := U) (U := U.calling g mk a) (Vm.Alike.refl U.vm) (fun own tx k a h => vk_R.same rfl h) h6⟩
def Ct (ρ : Rho) (E : Nat × (Nat → Int32)) (y : MethodName) (μ : Mu) (nw0 : Nat) (as : List Value) (mem : Mem) (Post : Option Value → Nat → Mem → Prop) : Prop :=
  ∀ (l : Launch) (D : va_G) (cA : Nat → ClassId) (A0 : Nat → Nat) (sz : Nat), Met l y (Cond.code y μ.cc μ.nL μ.rt :: T0) μ.R (pC ρ E nw0 as mem D cA A0 sz) (gQ ρ nw0 Post D cA A0) μ.R.cells μ.R.slots (frE A0 nw0 sz)
def lvE : List Value → List Value
  | [] => []
  | v :: vs => if v.category = 2 then v :: un :: lvE vs else v :: lvE vs
theorem lvE_len (A : Nat → Nat) : ∀ vs : List Value, (lg_sl (vs.map (cv A))).length = (lvE vs).length
  | [] => rfl
  | v :: vs => by
    have ih := lvE_len A vs
    unfold lg_sl at ih ⊢
    rw [List.map_cons, List.flatMap_cons, List.length_append, ih, cv_cat, show lvE (v :: vs) = if v.category = 2 then v :: un :: lvE vs else v :: lvE vs from rfl]
    by_cases h : v.category = 2
    · simp only [if_pos h, List.length_cons, List.length_nil]; omega
    · simp only [if_neg h, List.length_cons, List.length_nil]; omega
theorem lvE_in (A : Nat → Nat) : ∀ (vs : List Value) (off i : Nat) (v : Value), (lvE vs)[i]? = some v → kn v = true → (off + i, cv A v) ∈ lv_args off (vs.map (cv A))
  | [], off, i, v, h, _ => by simp [lvE] at h
  | w :: vs, off, i, v, h, hk => by
    rw [List.map_cons]
    unfold lv_args
    rw [cv_cat]
    unfold lvE at h
    by_cases hc : w.category = 2
    · rw [if_pos hc] at h
      rw [if_pos hc]
      match i, h with
      | 0, h => simp at h; subst h; exact List.mem_cons_self
      | 1, h => simp at h; subst h; cases hk
      | i + 2, h =>
        simp at h
        have := lvE_in A vs (off + 2) i v h hk
        rw [show off + (i + 2) = off + 2 + i by omega]
        exact List.mem_cons_of_mem _ this
    · rw [if_neg hc] at h
      rw [if_neg hc]
      match i, h with
      | 0, h => simp at h; subst h; exact List.mem_cons_self
      | i + 1, h =>
        simp at h
        have := lvE_in A vs (off + 1) i v h hk
        rw [show off + (i + 1) = off + 1 + i by omega]
        exact List.mem_cons_of_mem _ this
theorem Ct_of {ρ : Rho} {E : Nat × (Nat → Int32)} {y : MethodName} {μ : Mu} {nw0 : Nat} {as lv : List Value} {mem : Mem} {Post : Option Value → Nat → Mem → Prop} (hy : plainName y.cls = true) (hown : μ.own = y.cls) (hmn : μ.mn = y.name) (hlen : (lvE as).length ≤ μ.nL) (hlv : lvE as ++ List.replicate (μ.nL - (lvE as).length) un = lv) (body : G ρ E μ (QM ρ nw0 Post μ.R.cells μ.R.slots) nw0 0 lv [] nw0 0 0 mem) : Ct ρ E y μ nw0 as mem Post := by
  intro l D cA A0 sz
  refine Met.ofW (cc := μ.cc) (maxL := μ.nL) (ret := μ.rt) hy rfl ?_
  intro p e s m args below meth c s₁ B hml hv
  obtain ⟨rfl, hsz, hP, hD0, hK, hE⟩ := hv
  have hts := atoms_spec (ws := Cond.code y μ.cc μ.nL μ.rt :: T0) B.pre
  have hown2 : s.vm.findClass μ.own = some m.cls := by rw [hown]; exact findClass_of_methodNamed B.named
  have hin : meth.name = μ.mn := by rw [hmn]; exact (name_of_methodNamed B.named B.method).1
  subst hsz
  have hD : va_D (frE A0 nw0 s.heap.size) (Ws ρ A0 cA mem nw0) := ⟨hD0.1, fun k q hq => by
    unfold Ws at hq
    rw [List.getElem?_map] at hq
    rcases h : (List.range nw0)[k]? with _ | b
    · rw [h] at hq; cases hq
    · rw [h] at hq
      simp only [Option.map_some, Option.some.injEq] at hq
      subst hq
      have hb : b < nw0 := List.mem_range.mp (List.mem_of_getElem? h)
      exact Or.inl ⟨b, hb, rfl⟩⟩
  have hC : GC E μ nw0 p s m (as.map (cv A0)).toArray meth c D cA A0 := ⟨B.exec, B.bytes, hml, hown2, fun w hw => hts w (List.mem_cons_of_mem _ hw), hK, B.returns, B.notSynchronized, hin, hE⟩
  have hl := lv_entry (as.map (cv A0)) (n := μ.nL) (by rw [lvE_len]; exact hlen)
  rw [lg_entry_eq]
  generalize (lg_sl (as.map (cv A0)) ++ List.replicate (μ.nL - (lg_sl (as.map (cv A0))).length) Slot.unset).toArray = ls at hl ⊢
  have hl2 : lv_has ls μ.nL (lvs A0 lv) := hl.mono (fun q hq => by
    obtain ⟨i, w⟩ := q
    obtain ⟨v, h1, h2, rfl⟩ := mem_lvs.mp hq
    rw [← hlv, List.getElem?_append] at h1
    split at h1
    · have := lvE_in A0 as 0 i v h1 h2
      rwa [Nat.zero_add] at this
    · have := List.mem_of_getElem? h1
      rw [List.eq_of_mem_replicate this] at h2
      cases h2)
  exact body p l e s m _ below meth c D cA A0 A0 s.heap [] ls hC (fun k _ => rfl) hP hD va_S.rf hl2
/-! calls -/
def CV (own : String) (idx : Nat) (y : MethodName) (n : Nat) (cc : ByteArray) (nL : Nat) (rt : Option FieldType) : Prop := (Cond.methodLink own idx y ∈ T0 ∨ ∃ host, Cond.methodLinkNest own idx y host ∈ T0) ∧ Cond.initialized y.cls ∈ T0 ∧ Cond.code y cc nL rt ∈ T0 ∧ (y.cls ≠ "java/lang/invoke/MethodHandle" ∧ y.cls ≠ "java/lang/invoke/VarHandle") ∧ (parseMethodDescriptor y.desc).map (fun d => d.parameters.length) = some n
def roomIn (μ2 μ : Mu) (k u : Nat) : Prop := μ2.R.frames + 1 ≤ μ.R.frames ∧ 8 + (μ2.nL + 11) + μ2.R.locals ≤ μ.R.locals ∧ k + μ2.R.cells ≤ μ.R.cells ∧ u + μ2.R.slots ≤ μ.R.slots
section GCall
variable {ρ : Rho} {E : Nat × (Nat → Int32)} {μ : Mu} {QQ : QF} {nw0 pc : Nat} {lv st : List Value} {nw k u : Nat} {mem : Mem}
theorem frE_in {A0 A : Nat → Nat} {cA : Nat → ClassId} {sz : Nat} {H0 H : Heap} {locs : List Loc} (hD : va_D (frE A0 nw0 H0.size) (Ws ρ A cA mem nw)) (hS : va_S (frE A0 nw0 H0.size) H0 H locs) (hsz : sz = H.size) : ∀ q, frE A nw sz q → frE A0 nw0 H0.size q := by
  rintro q (⟨j, hj, rfl⟩ | h)
  · have h1 : (Ws ρ A cA mem nw)[j]? = some (A j, cel ρ A cA mem j (SH.getD j (.inl 0))) := by
      unfold Ws
      rw [List.getElem?_map, List.getElem?_range hj]
      rfl
    exact hD.2 j _ h1
  · exact Or.inr (by have := hS.1; omega)
/-- what a call leaves behind it -/
theorem va_callG {p : Program} {l : Launch} {e : Env} {R : Room} {s : State} {m : MethodId} {args : Array Value} {below : List Frame} {meth : Method} {c : Code} {H : Heap} {locs : List Loc} {cells slots mc ms : Nat} {Q : State → Prop} {ls : Array Slot} {rest st0 : List Value} {a : Array Value} {Fr : Nat → Prop} {H0 : Heap} {free : Addr → Prop} {D : va_G} {cA : Nat → ClassId} {A : Nat → Nat} {Post : Option Value → Nat → Mem → Prop}
    (hr : va_Run p l e R s m args below meth c H locs cells slots mc ms (F0 m pc ls st0) rest (gQ ρ nw Post D cA A a) free) (hS : va_S Fr H0 H locs) (hfr : free = frE A nw H.size) (hf : ∀ q, frE A nw H.size q → Fr q)
    (kk : ∀ (r : Option Value) (A2 : Nat → Nat) (nw2 : Nat) (mem2 : Mem) (H1 : Heap) (locs1 : List Loc), Agr nw nw2 A2 A → nw ≤ nw2 → Wp ρ D cA A2 nw2 mem2 H1 → va_D Fr (Ws ρ A2 cA mem2 nw2) → Post r nw2 mem2 → va_S Fr H0 H1 locs1 → W p l e R s m args below meth c H1 locs1 (cells + mc) (slots + ms) Q (F0 m (pc + 3) ls ((r.map (cv A2)).toList ++ rest))) : W p l e R s m args below meth c H locs cells slots Q (F0 m pc ls st0) := by
  intro T hT X
  obtain ⟨v, st₀, t, T', L, h0, X', hL, e1, e2, ⟨⟨r, A2, nw2, mem2, hv, hA2, hnw, hP, hD, hp⟩, hz, hk⟩, stp⟩ := hr T hT X
  cases hv
  rw [h0] at hz hk hD
  have hS2 : va_S Fr H0 T'.heap (locs ++ L) := ⟨Nat.le_trans hS.1 (by rw [e1]; exact hz), fun q h1 h2 => by
      rw [e1, hk q (Nat.lt_of_lt_of_le h1 hS.1) (fun z => h2 (hf q z))]; exact hS.2.1 q h1 h2, fun q hq => by
      rcases List.mem_append.mp hq with h | h
      · exact hS.2.2 q h
      · exact hf _ (by have := hL q h; rw [hfr] at this; exact this)⟩
  obtain ⟨t2, a1, b1⟩ := kk r A2 nw2 mem2 T'.heap (locs ++ L) hA2 hnw (by rw [e1]; exact hP) (hD.weaken (fun j q hq h => hf _ h)) hp hS2 T' rfl X'
  exact ⟨t2, stp t2 a1, b1⟩
/-- references that a caller holds are of what was there -/
def okv (nw : Nat) : Value → Prop
  | .ref a => a < nw
  | _ => True
theorem cv_ok {A A2 : Nat → Nat} {nw nw2 : Nat} {v : Value} (h : Agr nw nw2 A2 A) (hv : okv nw v) : cv A2 v = cv A v := by
  cases v <;> first | rfl | exact congrArg Value.ref (h _ (Or.inl hv))
theorem map_ok {A A2 : Nat → Nat} {nw nw2 : Nat} (h : Agr nw nw2 A2 A) : ∀ {st : List Value}, (∀ v ∈ st, okv nw v) → st.map (cv A2) = st.map (cv A)
  | [], _ => rfl
  | v :: st, hv => by rw [List.map_cons, List.map_cons, cv_ok h (hv v List.mem_cons_self), map_ok h (fun w hw => hv w (List.mem_cons_of_mem _ hw))]
theorem lvs_ok {A A2 : Nat → Nat} {nw nw2 : Nat} (h : Agr nw nw2 A2 A) {lv : List Value} (hv : ∀ v ∈ lv, okv nw v) : ∀ q ∈ lvs A2 lv, q ∈ lvs A lv := by
  rintro ⟨i, w⟩ hq
  obtain ⟨v, h1, h2, rfl⟩ := mem_lvs.mp hq
  exact mem_lvs.mpr ⟨v, h1, h2, cv_ok h (hv v (List.mem_of_getElem? h1))⟩
theorem Agr_eq {A A2 : Nat → Nat} (h : Agr nw nw A2 A) : A2 = A := by
  funext k
  rcases Nat.lt_or_ge k nw with q | q
  · exact h k (Or.inl q)
  · exact h k (Or.inr q)
/-- all that a call needs of the caller's stand -/
theorem GC.payB {p : Program} {s : State} {m : MethodId} {args : Array Value} {meth : Method} {c : Code} {D : va_G} {cA : Nat → ClassId} {A0 : Nat → Nat} {y : MethodName} {μ2 : Mu} (C : GC E μ nw0 p s m args meth c D cA A0) (hc : Cond.code y μ2.cc μ2.nL μ2.rt ∈ T0) : ∀ w ∈ Cond.code y μ2.cc μ2.nL μ2.rt :: T0, ∀ (a' : Array Value) (U : State), s.WarmedH U.vm → w.before a' U = true := by
  intro w hw a' U hW
  have hw2 : w ∈ T0 := by
    rcases List.mem_cons.mp hw with rfl | h
    · exact hc
    · exact h
  exact T0_pay (List.mem_filter.mp hw2).2 (C.2.2.2.2.1 w hw2) a' U hW
theorem pC_at {p : Program} {s : State} {m : MethodId} {args : Array Value} {meth : Method} {c : Code} {D : va_G} {cA : Nat → ClassId} {A0 A : Nat → Nat} {H : Heap} {locs : List Loc} {as : List Value} (C : GC E μ nw0 p s m args meth c D cA A0) (hA : Agr nw0 nw A A0) (hn : nw ≤ 1000) (hP : Wp ρ D cA A nw mem H) (hD : va_D (frE A0 nw0 s.heap.size) (Ws ρ A cA mem nw)) (hS : va_S (frE A0 nw0 s.heap.size) s.heap H locs) : ∀ U : State, U.heap = H → s.WarmedH U.vm → pC ρ E nw as mem D cA A H.size (as.map (cv A)).toArray U := by
  intro U hU hW
  refine ⟨rfl, by rw [hU], by rw [hU]; exact hP, hD.weaken (fun _ _ _ _ => trivial), va_K.moved hW.alike C.2.2.2.2.2.1, ?_⟩
  have h1 := C.2.2.2.2.2.2.2.2.2
  have h2 := h1.kept (H1 := H) (fun a ha hna => hS.2.1 a ha hna)
  have h3 := (h2.narrow (frE_in hD hS rfl)).agr (A2 := A) (fun j hj => hA j (Or.inr (by omega)))
  rw [hU]
  exact h3.moved hW.alike (fun own tx k a h => vk_R.warm hW h)
theorem G_callV {idx n : Nat} {y : MethodName} {μ2 : Mu} {as stk : List Value} {b ci : Nat} {Post2 : Option Value → Nat → Mem → Prop} (hct : Ct ρ E y μ2 nw (.ref b :: as) mem Post2) (hd : decode μ.cc pc = .ok (.invokevirtual idx, 3)) (hc : CV μ.own idx y n μ2.cc μ2.nL μ2.rt) (hi : Cond.instanceMethod y ∈ T0) (hsel : Cond.selects y.cls y y ∈ T0) (hb : b < nw) (hs : SH[b]? = some (.inl ci)) (hcl : (vwCl[ci]?).map (fun r => r.1) = some y.cls) (hlen : as.length = n) (hr : roomIn μ2 μ k u) (hst : (st.map fun v => v.category).sum ≤ 8) (hn : nw0 ≤ nw ∧ nw ≤ 1000) (ho : ∀ v ∈ lv ++ st, okv nw v) (hk : stk = as.reverse ++ .ref b :: st) (kk : ∀ (r : Option Value) (nw2 : Nat) (mem2 : Mem), nw ≤ nw2 → Post2 r nw2 mem2 → G ρ E μ QQ nw0 (pc + 3) lv (r.toList ++ st) nw2 (k + μ2.R.cells) (u + μ2.R.slots) mem2) : G ρ E μ QQ nw0 pc lv stk nw k u mem := by
  subst hk
  intro p l e s m args below meth c D cA A0 A H locs ls C hA hP hD hS hl
  obtain ⟨hlk, hini, hcode, hnm2, hsig⟩ := hc
  have hts := C.2.2.2.2.1
  have hsg : ∀ sig, parseMethodDescriptor y.desc = some sig → n = sig.parameters.length := fun sig h => by rw [h] at hsig; simp at hsig; exact hsig.symm
  have hfix : CallFix p m c μ.cc μ.nL s args T0 μ.own := ⟨C.1, C.2.1, C.2.2.1, C.2.2.2.1, hts⟩
  have hpc := pC_at (as := (.ref b :: as)) C hA hn.2 hP hD hS
  have hrec : ∃ cell : Cell, H[A b]? = some cell ∧ cell.vm.isStatics = false ∧ s.vm.findClass y.cls = some cell.cls := by
    rcases hv : vwCl[ci]? with _ | r
    · rw [hv] at hcl; cases hcl
    · rw [hv] at hcl
      simp only [Option.map_some, Option.some.injEq] at hcl
      rw [← hcl]
      exact va_recv C.2.2.2.2.2.1 hP.1 hv (Ws_get hb hs)
  have hrun : va_Run p l e μ.R s m args below meth c H locs k u μ2.R.cells μ2.R.slots (F0 m pc ls (((as.reverse ++ .ref b :: st)).map (cv A))) (st.map (cv A)) (gQ ρ nw Post2 D cA A (.ref (A b) :: as.map (cv A)).toArray) (frE A nw H.size) := by
    rcases hlk with hlk | ⟨host, hlk⟩
    · exact va_runV (rest := st.map (cv A)) (As := as.map (cv A)) hfix (hct l D cA A H.size) ⟨⟨rfl, rfl, hr.1, hr.2.1, C.payB hcode, List.mem_cons_self, hts _ hcode, hts _ hini, hnm2, hsg, hts _ hlk⟩, hts _ hi, hts _ hsel⟩ ⟨pC_blind, hrec, fun U hU hW => by have := hpc U hU hW; rwa [List.map_cons] at this⟩ rfl (by rw [List.length_map]; exact hlen) hl.1 (by simp [F0, List.map_append, List.map_reverse, cv]) (lv_room (by rw [cv_cats]; exact hst)) hd ⟨hr.2.2.1, hr.2.2.2⟩
    · exact va_runVN (rest := st.map (cv A)) (As := as.map (cv A)) hfix (hct l D cA A H.size) ⟨⟨⟨rfl, rfl, hr.1, hr.2.1, C.payB hcode, List.mem_cons_self⟩, hts _ hcode, hts _ hini, hnm2, hsg, hts _ hlk⟩, hts _ hi, hts _ hsel⟩ ⟨pC_blind, hrec, fun U hU hW => by have := hpc U hU hW; rwa [List.map_cons] at this⟩ rfl (by rw [List.length_map]; exact hlen) hl.1 (by simp [F0, List.map_append, List.map_reverse, cv]) (lv_room (by rw [cv_cats]; exact hst)) hd ⟨hr.2.2.1, hr.2.2.2⟩
  refine va_callG hrun hS rfl (frE_in hD hS rfl) (fun r A2 nw2 mem2 H1 locs1 hA2 hnw2 hP1 hD1 hp1 hS1 => ?_)
  have hA3 : Agr nw0 nw2 A2 A0 := fun j hj => by
    rcases hj with hj | hj
    · rw [hA2 j (Or.inl (by omega)), hA j (Or.inl hj)]
    · rw [hA2 j (Or.inr hj), hA j (Or.inr (by omega))]
  have h := kk r nw2 mem2 hnw2 hp1 p l e s m args below meth c D cA A0 A2 H1 locs1 ls C hA3 hP1 hD1 hS1 (hl.mono (lvs_ok hA2 (fun v hv => ho v (List.mem_append_left _ hv))))
  rw [List.map_append, map_ok hA2 (fun v hv => ho v (List.mem_append_right _ hv))] at h
  cases r <;> exact h
theorem G_callVM {idx n : Nat} {y : MethodName} {μ2 : Mu} {as stk : List Value} {b ci : Nat} {Post2 : Option Value → Mem → Prop} (hct : Ct ρ E y μ2 nw (.ref b :: as) mem (fun r n m => n = nw ∧ Post2 r m)) (hd : decode μ.cc pc = .ok (.invokevirtual idx, 3)) (hc : CV μ.own idx y n μ2.cc μ2.nL μ2.rt) (hi : Cond.instanceMethod y ∈ T0) (hsel : Cond.selects y.cls y y ∈ T0) (hb : b < nw) (hs : SH[b]? = some (.inl ci)) (hcl : (vwCl[ci]?).map (fun r => r.1) = some y.cls) (hlen : as.length = n) (hr : μ2.R.frames + 1 ≤ μ.R.frames ∧ 8 + (μ2.nL + 11) + μ2.R.locals ≤ μ.R.locals) (hrc : μ2.R.cells = 0) (hrs : μ2.R.slots = 0) (hku : k ≤ μ.R.cells ∧ u ≤ μ.R.slots) (hst : (st.map fun v => v.category).sum ≤ 8) (hn : nw0 ≤ nw ∧ nw ≤ 1000) (hk : stk = as.reverse ++ .ref b :: st) (kk : ∀ (r : Option Value) (mem2 : Mem), Post2 r mem2 → G ρ E μ QQ nw0 (pc + 3) lv (r.toList ++ st) nw k u mem2) : G ρ E μ QQ nw0 pc lv stk nw k u mem := by
  subst hk
  intro p l e s m args below meth c D cA A0 A H locs ls C hA hP hD hS hl
  obtain ⟨hlk, hini, hcode, hnm2, hsig⟩ := hc
  have hts := C.2.2.2.2.1
  have hsg : ∀ sig, parseMethodDescriptor y.desc = some sig → n = sig.parameters.length := fun sig h => by rw [h] at hsig; simp at hsig; exact hsig.symm
  have hr : roomIn μ2 μ k u := ⟨hr.1, hr.2, by rw [hrc]; exact hku.1, by rw [hrs]; exact hku.2⟩
  have hfix : CallFix p m c μ.cc μ.nL s args T0 μ.own := ⟨C.1, C.2.1, C.2.2.1, C.2.2.2.1, hts⟩
  have hpc := pC_at (as := (.ref b :: as)) C hA hn.2 hP hD hS
  have hrec : ∃ cell : Cell, H[A b]? = some cell ∧ cell.vm.isStatics = false ∧ s.vm.findClass y.cls = some cell.cls := by
    rcases hv : vwCl[ci]? with _ | r
    · rw [hv] at hcl; cases hcl
    · rw [hv] at hcl
      simp only [Option.map_some, Option.some.injEq] at hcl
      rw [← hcl]
      exact va_recv C.2.2.2.2.2.1 hP.1 hv (Ws_get hb hs)
  have hrun : va_Run p l e μ.R s m args below meth c H locs k u μ2.R.cells μ2.R.slots (F0 m pc ls (((as.reverse ++ .ref b :: st)).map (cv A))) (st.map (cv A)) (gQ ρ nw (fun r n m => n = nw ∧ Post2 r m) D cA A (.ref (A b) :: as.map (cv A)).toArray) (frE A nw H.size) := by
    rcases hlk with hlk | ⟨host, hlk⟩
    · exact va_runV (rest := st.map (cv A)) (As := as.map (cv A)) hfix (hct l D cA A H.size) ⟨⟨rfl, rfl, hr.1, hr.2.1, C.payB hcode, List.mem_cons_self, hts _ hcode, hts _ hini, hnm2, hsg, hts _ hlk⟩, hts _ hi, hts _ hsel⟩ ⟨pC_blind, hrec, fun U hU hW => by have := hpc U hU hW; rwa [List.map_cons] at this⟩ rfl (by rw [List.length_map]; exact hlen) hl.1 (by simp [F0, List.map_append, List.map_reverse, cv]) (lv_room (by rw [cv_cats]; exact hst)) hd ⟨hr.2.2.1, hr.2.2.2⟩
    · exact va_runVN (rest := st.map (cv A)) (As := as.map (cv A)) hfix (hct l D cA A H.size) ⟨⟨⟨rfl, rfl, hr.1, hr.2.1, C.payB hcode, List.mem_cons_self⟩, hts _ hcode, hts _ hini, hnm2, hsg, hts _ hlk⟩, hts _ hi, hts _ hsel⟩ ⟨pC_blind, hrec, fun U hU hW => by have := hpc U hU hW; rwa [List.map_cons] at this⟩ rfl (by rw [List.length_map]; exact hlen) hl.1 (by simp [F0, List.map_append, List.map_reverse, cv]) (lv_room (by rw [cv_cats]; exact hst)) hd ⟨hr.2.2.1, hr.2.2.2⟩
  refine va_callG hrun hS rfl (frE_in hD hS rfl) (fun r A2 nw2 mem2 H1 locs1 hA2 hnw2 hP1 hD1 hp1 hS1 => ?_)
  obtain ⟨rfl, hp1⟩ := hp1
  obtain rfl := Agr_eq hA2
  rw [hrc, hrs]
  have h := kk r mem2 hp1 p l e s m args below meth c D cA A0 A2 H1 locs1 ls C hA hP1 hD1 hS1 hl
  rw [List.map_append] at h
  cases r <;> exact h
theorem G_callT {idx n : Nat} {y : MethodName} {μ2 : Mu} {as stk : List Value} {b : Nat} {Post2 : Option Value → Nat → Mem → Prop} (hct : Ct ρ E y μ2 nw (.ref (1100 + b) :: as) mem Post2) (hd : decode μ.cc pc = .ok (.invokevirtual idx, 3)) (hc : CV μ.own idx y n μ2.cc μ2.nL μ2.rt) (hi : Cond.instanceMethod y ∈ T0) (hsel : Cond.selects y.cls y y ∈ T0) (hb : b < 11) (hcl : y.cls = "java/lang/String") (hlen : as.length = n) (hr : roomIn μ2 μ k u) (hst : (st.map fun v => v.category).sum ≤ 8) (hn : nw0 ≤ nw ∧ nw ≤ 1000) (ho : ∀ v ∈ lv ++ st, okv nw v) (hk : stk = as.reverse ++ .ref (1100 + b) :: st) (kk : ∀ (r : Option Value) (nw2 : Nat) (mem2 : Mem), nw ≤ nw2 → Post2 r nw2 mem2 → G ρ E μ QQ nw0 (pc + 3) lv (r.toList ++ st) nw2 (k + μ2.R.cells) (u + μ2.R.slots) mem2) : G ρ E μ QQ nw0 pc lv stk nw k u mem := by
  subst hk
  intro p l e s m args below meth c D cA A0 A H locs ls C hA hP hD hS hl
  obtain ⟨hlk, hini, hcode, hnm2, hsig⟩ := hc
  have hts := C.2.2.2.2.1
  have hsg : ∀ sig, parseMethodDescriptor y.desc = some sig → n = sig.parameters.length := fun sig h => by rw [h] at hsig; simp at hsig; exact hsig.symm
  have hfix : CallFix p m c μ.cc μ.nL s args T0 μ.own := ⟨C.1, C.2.1, C.2.2.1, C.2.2.2.1, hts⟩
  have hpc := pC_at (as := (.ref (1100 + b) :: as)) C hA hn.2 hP hD hS
  have hrec : ∃ cell : Cell, H[A (1100 + b)]? = some cell ∧ cell.vm.isStatics = false ∧ s.vm.findClass y.cls = some cell.cls := by
    obtain ⟨cell, h1, h2, h3, h4⟩ := (C.2.2.2.2.2.2.2.2.2.2.2.2.2.2.2.2.1 b hb).1
    rw [hA (1100 + b) (Or.inr (by omega)), hcl]
    exact ⟨cell, (hS.2.1 _ (Array.getElem?_eq_some_iff.mp h1).1 h4).trans h1, h2, h3⟩
  have hrun : va_Run p l e μ.R s m args below meth c H locs k u μ2.R.cells μ2.R.slots (F0 m pc ls (((as.reverse ++ .ref (1100 + b) :: st)).map (cv A))) (st.map (cv A)) (gQ ρ nw Post2 D cA A (.ref (A (1100 + b)) :: as.map (cv A)).toArray) (frE A nw H.size) := by
    rcases hlk with hlk | ⟨host, hlk⟩
    · exact va_runV (rest := st.map (cv A)) (As := as.map (cv A)) hfix (hct l D cA A H.size) ⟨⟨rfl, rfl, hr.1, hr.2.1, C.payB hcode, List.mem_cons_self, hts _ hcode, hts _ hini, hnm2, hsg, hts _ hlk⟩, hts _ hi, hts _ hsel⟩ ⟨pC_blind, hrec, fun U hU hW => by have := hpc U hU hW; rwa [List.map_cons] at this⟩ rfl (by rw [List.length_map]; exact hlen) hl.1 (by simp [F0, List.map_append, List.map_reverse, cv]) (lv_room (by rw [cv_cats]; exact hst)) hd ⟨hr.2.2.1, hr.2.2.2⟩
    · exact va_runVN (rest := st.map (cv A)) (As := as.map (cv A)) hfix (hct l D cA A H.size) ⟨⟨⟨rfl, rfl, hr.1, hr.2.1, C.payB hcode, List.mem_cons_self⟩, hts _ hcode, hts _ hini, hnm2, hsg, hts _ hlk⟩, hts _ hi, hts _ hsel⟩ ⟨pC_blind, hrec, fun U hU hW => by have := hpc U hU hW; rwa [List.map_cons] at this⟩ rfl (by rw [List.length_map]; exact hlen) hl.1 (by simp [F0, List.map_append, List.map_reverse, cv]) (lv_room (by rw [cv_cats]; exact hst)) hd ⟨hr.2.2.1, hr.2.2.2⟩
  refine va_callG hrun hS rfl (frE_in hD hS rfl) (fun r A2 nw2 mem2 H1 locs1 hA2 hnw2 hP1 hD1 hp1 hS1 => ?_)
  have hA3 : Agr nw0 nw2 A2 A0 := fun j hj => by
    rcases hj with hj | hj
    · rw [hA2 j (Or.inl (by omega)), hA j (Or.inl hj)]
    · rw [hA2 j (Or.inr hj), hA j (Or.inr (by omega))]
  have h := kk r nw2 mem2 hnw2 hp1 p l e s m args below meth c D cA A0 A2 H1 locs1 ls C hA3 hP1 hD1 hS1 (hl.mono (lvs_ok hA2 (fun v hv => ho v (List.mem_append_left _ hv))))
  rw [List.map_append, map_ok hA2 (fun v hv => ho v (List.mem_append_right _ hv))] at h
  cases r <;> exact h
theorem G_callTM {idx n : Nat} {y : MethodName} {μ2 : Mu} {as stk : List Value} {b : Nat} {Post2 : Option Value → Mem → Prop} (hct : Ct ρ E y μ2 nw (.ref (1100 + b) :: as) mem (fun r n m => n = nw ∧ Post2 r m)) (hd : decode μ.cc pc = .ok (.invokevirtual idx, 3)) (hc : CV μ.own idx y n μ2.cc μ2.nL μ2.rt) (hi : Cond.instanceMethod y ∈ T0) (hsel : Cond.selects y.cls y y ∈ T0) (hb : b < 11) (hcl : y.cls = "java/lang/String") (hlen : as.length = n) (hr : μ2.R.frames + 1 ≤ μ.R.frames ∧ 8 + (μ2.nL + 11) + μ2.R.locals ≤ μ.R.locals) (hrc : μ2.R.cells = 0) (hrs : μ2.R.slots = 0) (hku : k ≤ μ.R.cells ∧ u ≤ μ.R.slots) (hst : (st.map fun v => v.category).sum ≤ 8) (hn : nw0 ≤ nw ∧ nw ≤ 1000) (hk : stk = as.reverse ++ .ref (1100 + b) :: st) (kk : ∀ (r : Option Value) (mem2 : Mem), Post2 r mem2 → G ρ E μ QQ nw0 (pc + 3) lv (r.toList ++ st) nw k u mem2) : G ρ E μ QQ nw0 pc lv stk nw k u mem := by
  subst hk
  intro p l e s m args below meth c D cA A0 A H locs ls C hA hP hD hS hl
  obtain ⟨hlk, hini, hcode, hnm2, hsig⟩ := hc
  have hts := C.2.2.2.2.1
  have hsg : ∀ sig, parseMethodDescriptor y.desc = some sig → n = sig.parameters.length := fun sig h => by rw [h] at hsig; simp at hsig; exact hsig.symm
  have hr : roomIn μ2 μ k u := ⟨hr.1, hr.2, by rw [hrc]; exact hku.1, by rw [hrs]; exact hku.2⟩
  have hfix : CallFix p m c μ.cc μ.nL s args T0 μ.own := ⟨C.1, C.2.1, C.2.2.1, C.2.2.2.1, hts⟩
  have hpc := pC_at (as := (.ref (1100 + b) :: as)) C hA hn.2 hP hD hS
  have hrec : ∃ cell : Cell, H[A (1100 + b)]? = some cell ∧ cell.vm.isStatics = false ∧ s.vm.findClass y.cls = some cell.cls := by
    obtain ⟨cell, h1, h2, h3, h4⟩ := (C.2.2.2.2.2.2.2.2.2.2.2.2.2.2.2.2.1 b hb).1
    rw [hA (1100 + b) (Or.inr (by omega)), hcl]
    exact ⟨cell, (hS.2.1 _ (Array.getElem?_eq_some_iff.mp h1).1 h4).trans h1, h2, h3⟩
  have hrun : va_Run p l e μ.R s m args below meth c H locs k u μ2.R.cells μ2.R.slots (F0 m pc ls (((as.reverse ++ .ref (1100 + b) :: st)).map (cv A))) (st.map (cv A)) (gQ ρ nw (fun r n m => n = nw ∧ Post2 r m) D cA A (.ref (A (1100 + b)) :: as.map (cv A)).toArray) (frE A nw H.size) := by
    rcases hlk with hlk | ⟨host, hlk⟩
    · exact va_runV (rest := st.map (cv A)) (As := as.map (cv A)) hfix (hct l D cA A H.size) ⟨⟨rfl, rfl, hr.1, hr.2.1, C.payB hcode, List.mem_cons_self, hts _ hcode, hts _ hini, hnm2, hsg, hts _ hlk⟩, hts _ hi, hts _ hsel⟩ ⟨pC_blind, hrec, fun U hU hW => by have := hpc U hU hW; rwa [List.map_cons] at this⟩ rfl (by rw [List.length_map]; exact hlen) hl.1 (by simp [F0, List.map_append, List.map_reverse, cv]) (lv_room (by rw [cv_cats]; exact hst)) hd ⟨hr.2.2.1, hr.2.2.2⟩
    · exact va_runVN (rest := st.map (cv A)) (As := as.map (cv A)) hfix (hct l D cA A H.size) ⟨⟨⟨rfl, rfl, hr.1, hr.2.1, C.payB hcode, List.mem_cons_self⟩, hts _ hcode, hts _ hini, hnm2, hsg, hts _ hlk⟩, hts _ hi, hts _ hsel⟩ ⟨pC_blind, hrec, fun U hU hW => by have := hpc U hU hW; rwa [List.map_cons] at this⟩ rfl (by rw [List.length_map]; exact hlen) hl.1 (by simp [F0, List.map_append, List.map_reverse, cv]) (lv_room (by rw [cv_cats]; exact hst)) hd ⟨hr.2.2.1, hr.2.2.2⟩
  refine va_callG hrun hS rfl (frE_in hD hS rfl) (fun r A2 nw2 mem2 H1 locs1 hA2 hnw2 hP1 hD1 hp1 hS1 => ?_)
  obtain ⟨rfl, hp1⟩ := hp1
  obtain rfl := Agr_eq hA2
  rw [hrc, hrs]
  have h := kk r mem2 hp1 p l e s m args below meth c D cA A0 A2 H1 locs1 ls C hA hP1 hD1 hS1 hl
  rw [List.map_append] at h
  cases r <;> exact h
theorem G_callS {idx n : Nat} {y : MethodName} {μ2 : Mu} {as stk : List Value} {Post2 : Option Value → Nat → Mem → Prop} (hct : Ct ρ E y μ2 nw as mem Post2) (hd : decode μ.cc pc = .ok (.invokestatic idx, 3)) (hc : CV μ.own idx y n μ2.cc μ2.nL μ2.rt) (hi : Cond.static y ∈ T0) (hlen : as.length = n) (hr : roomIn μ2 μ k u) (hst : (st.map fun v => v.category).sum ≤ 8) (hn : nw0 ≤ nw ∧ nw ≤ 1000) (ho : ∀ v ∈ lv ++ st, okv nw v) (hk : stk = as.reverse ++ st) (kk : ∀ (r : Option Value) (nw2 : Nat) (mem2 : Mem), nw ≤ nw2 → Post2 r nw2 mem2 → G ρ E μ QQ nw0 (pc + 3) lv (r.toList ++ st) nw2 (k + μ2.R.cells) (u + μ2.R.slots) mem2) : G ρ E μ QQ nw0 pc lv stk nw k u mem := by
  subst hk
  intro p l e s m args below meth c D cA A0 A H locs ls C hA hP hD hS hl
  obtain ⟨hlk, hini, hcode, hnm2, hsig⟩ := hc
  have hts := C.2.2.2.2.1
  have hsg : ∀ sig, parseMethodDescriptor y.desc = some sig → n = sig.parameters.length := fun sig h => by rw [h] at hsig; simp at hsig; exact hsig.symm
  have hfix : CallFix p m c μ.cc μ.nL s args T0 μ.own := ⟨C.1, C.2.1, C.2.2.1, C.2.2.2.1, hts⟩
  have hpc := pC_at (as := as) C hA hn.2 hP hD hS
  have hrun : va_Run p l e μ.R s m args below meth c H locs k u μ2.R.cells μ2.R.slots (F0 m pc ls (((as.reverse ++ st)).map (cv A))) (st.map (cv A)) (gQ ρ nw Post2 D cA A (as.map (cv A)).toArray) (frE A nw H.size) := by
    rcases hlk with hlk | ⟨host, hlk⟩
    · exact va_runS (rest := st.map (cv A)) (As := as.map (cv A)) hfix (hct l D cA A H.size) ⟨⟨rfl, rfl, hr.1, hr.2.1, C.payB hcode, List.mem_cons_self, hts _ hcode, hts _ hini, hnm2, hsg, hts _ hlk⟩, hts _ hi⟩ ⟨pC_blind, fun U hU hW => hpc U hU hW⟩ rfl (by rw [List.length_map]; exact hlen) hl.1 (by simp [F0, List.map_append, List.map_reverse, cv]) (lv_room (by rw [cv_cats]; exact hst)) hd ⟨hr.2.2.1, hr.2.2.2⟩
    · exact va_runSN (rest := st.map (cv A)) (As := as.map (cv A)) hfix (hct l D cA A H.size) ⟨⟨⟨rfl, rfl, hr.1, hr.2.1, C.payB hcode, List.mem_cons_self⟩, hts _ hcode, hts _ hini, hnm2, hsg, hts _ hlk⟩, hts _ hi, trivial⟩ ⟨pC_blind, fun U hU hW => hpc U hU hW⟩ rfl (by rw [List.length_map]; exact hlen) hl.1 (by simp [F0, List.map_append, List.map_reverse, cv]) (lv_room (by rw [cv_cats]; exact hst)) hd ⟨hr.2.2.1, hr.2.2.2⟩
  refine va_callG hrun hS rfl (frE_in hD hS rfl) (fun r A2 nw2 mem2 H1 locs1 hA2 hnw2 hP1 hD1 hp1 hS1 => ?_)
  have hA3 : Agr nw0 nw2 A2 A0 := fun j hj => by
    rcases hj with hj | hj
    · rw [hA2 j (Or.inl (by omega)), hA j (Or.inl hj)]
    · rw [hA2 j (Or.inr hj), hA j (Or.inr (by omega))]
  have h := kk r nw2 mem2 hnw2 hp1 p l e s m args below meth c D cA A0 A2 H1 locs1 ls C hA3 hP1 hD1 hS1 (hl.mono (lvs_ok hA2 (fun v hv => ho v (List.mem_append_left _ hv))))
  rw [List.map_append, map_ok hA2 (fun v hv => ho v (List.mem_append_right _ hv))] at h
  cases r <;> exact h
theorem G_callSM {idx n : Nat} {y : MethodName} {μ2 : Mu} {as stk : List Value} {Post2 : Option Value → Mem → Prop} (hct : Ct ρ E y μ2 nw as mem (fun r n m => n = nw ∧ Post2 r m)) (hd : decode μ.cc pc = .ok (.invokestatic idx, 3)) (hc : CV μ.own idx y n μ2.cc μ2.nL μ2.rt) (hi : Cond.static y ∈ T0) (hlen : as.length = n) (hr : μ2.R.frames + 1 ≤ μ.R.frames ∧ 8 + (μ2.nL + 11) + μ2.R.locals ≤ μ.R.locals) (hrc : μ2.R.cells = 0) (hrs : μ2.R.slots = 0) (hku : k ≤ μ.R.cells ∧ u ≤ μ.R.slots) (hst : (st.map fun v => v.category).sum ≤ 8) (hn : nw0 ≤ nw ∧ nw ≤ 1000) (hk : stk = as.reverse ++ st) (kk : ∀ (r : Option Value) (mem2 : Mem), Post2 r mem2 → G ρ E μ QQ nw0 (pc + 3) lv (r.toList ++ st) nw k u mem2) : G ρ E μ QQ nw0 pc lv stk nw k u mem := by
  subst hk
  intro p l e s m args below meth c D cA A0 A H locs ls C hA hP hD hS hl
  obtain ⟨hlk, hini, hcode, hnm2, hsig⟩ := hc
  have hts := C.2.2.2.2.1
  have hsg : ∀ sig, parseMethodDescriptor y.desc = some sig → n = sig.parameters.length := fun sig h => by rw [h] at hsig; simp at hsig; exact hsig.symm
  have hr : roomIn μ2 μ k u := ⟨hr.1, hr.2, by rw [hrc]; exact hku.1, by rw [hrs]; exact hku.2⟩
  have hfix : CallFix p m c μ.cc μ.nL s args T0 μ.own := ⟨C.1, C.2.1, C.2.2.1, C.2.2.2.1, hts⟩
  have hpc := pC_at (as := as) C hA hn.2 hP hD hS
  have hrun : va_Run p l e μ.R s m args below meth c H locs k u μ2.R.cells μ2.R.slots (F0 m pc ls (((as.reverse ++ st)).map (cv A))) (st.map (cv A)) (gQ ρ nw (fun r n m => n = nw ∧ Post2 r m) D cA A (as.map (cv A)).toArray) (frE A nw H.size) := by
    rcases hlk with hlk | ⟨host, hlk⟩
    · exact va_runS (rest := st.map (cv A)) (As := as.map (cv A)) hfix (hct l D cA A H.size) ⟨⟨rfl, rfl, hr.1, hr.2.1, C.payB hcode, List.mem_cons_self, hts _ hcode, hts _ hini, hnm2, hsg, hts _ hlk⟩, hts _ hi⟩ ⟨pC_blind, fun U hU hW => hpc U hU hW⟩ rfl (by rw [List.length_map]; exact hlen) hl.1 (by simp [F0, List.map_append, List.map_reverse, cv]) (lv_room (by rw [cv_cats]; exact hst)) hd ⟨hr.2.2.1, hr.2.2.2⟩
    · exact va_runSN (rest := st.map (cv A)) (As := as.map (cv A)) hfix (hct l D cA A H.size) ⟨⟨⟨rfl, rfl, hr.1, hr.2.1, C.payB hcode, List.mem_cons_self⟩, hts _ hcode, hts _ hini, hnm2, hsg, hts _ hlk⟩, hts _ hi, trivial⟩ ⟨pC_blind, fun U hU hW => hpc U hU hW⟩ rfl (by rw [List.length_map]; exact hlen) hl.1 (by simp [F0, List.map_append, List.map_reverse, cv]) (lv_room (by rw [cv_cats]; exact hst)) hd ⟨hr.2.2.1, hr.2.2.2⟩
  refine va_callG hrun hS rfl (frE_in hD hS rfl) (fun r A2 nw2 mem2 H1 locs1 hA2 hnw2 hP1 hD1 hp1 hS1 => ?_)
  obtain ⟨rfl, hp1⟩ := hp1
  obtain rfl := Agr_eq hA2
  rw [hrc, hrs]
  have h := kk r mem2 hp1 p l e s m args below meth c D cA A0 A2 H1 locs1 ls C hA hP1 hD1 hS1 hl
  rw [List.map_append] at h
  cases r <;> exact h
theorem G_callI {idx n : Nat} {y : MethodName} {μ2 : Mu} {as stk : List Value} {b : Nat} {Post2 : Option Value → Nat → Mem → Prop} (hct : Ct ρ E y μ2 nw (.ref b :: as) mem Post2) (hd : decode μ.cc pc = .ok (.invokespecial idx, 3)) (hc : CV μ.own idx y n μ2.cc μ2.nL μ2.rt) (hi : Cond.instanceMethod y ∈ T0) (hnm : y.name = "<init>") (hrt : μ2.rt = none) (hlen : as.length = n) (hr : roomIn μ2 μ k u) (hst : (st.map fun v => v.category).sum ≤ 8) (hn : nw0 ≤ nw ∧ nw ≤ 1000) (ho : ∀ v ∈ lv ++ st, okv nw v) (hk : stk = as.reverse ++ .ref b :: st) (kk : ∀ (r : Option Value) (nw2 : Nat) (mem2 : Mem), nw ≤ nw2 → Post2 r nw2 mem2 → G ρ E μ QQ nw0 (pc + 3) lv (r.toList ++ st) nw2 (k + μ2.R.cells) (u + μ2.R.slots) mem2) : G ρ E μ QQ nw0 pc lv stk nw k u mem := by
  subst hk
  intro p l e s m args below meth c D cA A0 A H locs ls C hA hP hD hS hl
  obtain ⟨hlk, hini, hcode, hnm2, hsig⟩ := hc
  have hts := C.2.2.2.2.1
  have hsg : ∀ sig, parseMethodDescriptor y.desc = some sig → n = sig.parameters.length := fun sig h => by rw [h] at hsig; simp at hsig; exact hsig.symm
  have hfix : CallFix p m c μ.cc μ.nL s args T0 μ.own := ⟨C.1, C.2.1, C.2.2.1, C.2.2.2.1, hts⟩
  have hpc := pC_at (as := (.ref b :: as)) C hA hn.2 hP hD hS
  have hrun : va_Run p l e μ.R s m args below meth c H locs k u μ2.R.cells μ2.R.slots (F0 m pc ls (((as.reverse ++ .ref b :: st)).map (cv A))) (st.map (cv A)) (gQ ρ nw Post2 D cA A (.ref (A b) :: as.map (cv A)).toArray) (frE A nw H.size) := by
    rcases hlk with hlk | ⟨host, hlk⟩
    · have hM := hct l D cA A H.size
      have hcode2 := hcode
      have hpay := C.payB (μ2 := μ2) hcode
      rw [hrt] at hM hcode2 hpay
      exact va_runI (rest := st.map (cv A)) (As := as.map (cv A)) (b := A b) hfix hM ⟨⟨rfl, rfl, hr.1, hr.2.1, hpay, List.mem_cons_self, hts _ hcode2, hts _ hini, hnm2, hsg, hts _ hlk⟩, hnm, hts _ hi⟩ ⟨pC_blind, fun U hU hW => by have := hpc U hU hW; rwa [List.map_cons] at this⟩ rfl (by rw [List.length_map]; exact hlen) hl.1 (by simp [F0, List.map_append, List.map_reverse, cv]) (lv_room (by rw [cv_cats]; exact hst)) hd ⟨hr.2.2.1, hr.2.2.2⟩
    · have hM := hct l D cA A H.size
      have hcode2 := hcode
      have hpay := C.payB (μ2 := μ2) hcode
      rw [hrt] at hM hcode2 hpay
      exact va_runIN (rest := st.map (cv A)) (As := as.map (cv A)) (b := A b) hfix hM ⟨⟨⟨rfl, rfl, hr.1, hr.2.1, hpay, List.mem_cons_self⟩, hts _ hcode2, hts _ hini, hnm2, hsg, hts _ hlk⟩, hnm, hts _ hi⟩ ⟨pC_blind, fun U hU hW => by have := hpc U hU hW; rwa [List.map_cons] at this⟩ rfl (by rw [List.length_map]; exact hlen) hl.1 (by simp [F0, List.map_append, List.map_reverse, cv]) (lv_room (by rw [cv_cats]; exact hst)) hd ⟨hr.2.2.1, hr.2.2.2⟩
  refine va_callG hrun hS rfl (frE_in hD hS rfl) (fun r A2 nw2 mem2 H1 locs1 hA2 hnw2 hP1 hD1 hp1 hS1 => ?_)
  have hA3 : Agr nw0 nw2 A2 A0 := fun j hj => by
    rcases hj with hj | hj
    · rw [hA2 j (Or.inl (by omega)), hA j (Or.inl hj)]
    · rw [hA2 j (Or.inr hj), hA j (Or.inr (by omega))]
  have h := kk r nw2 mem2 hnw2 hp1 p l e s m args below meth c D cA A0 A2 H1 locs1 ls C hA3 hP1 hD1 hS1 (hl.mono (lvs_ok hA2 (fun v hv => ho v (List.mem_append_left _ hv))))
  rw [List.map_append, map_ok hA2 (fun v hv => ho v (List.mem_append_right _ hv))] at h
  cases r <;> exact h
theorem G_callIM {idx n : Nat} {y : MethodName} {μ2 : Mu} {as stk : List Value} {b : Nat} {Post2 : Option Value → Mem → Prop} (hct : Ct ρ E y μ2 nw (.ref b :: as) mem (fun r n m => n = nw ∧ Post2 r m)) (hd : decode μ.cc pc = .ok (.invokespecial idx, 3)) (hc : CV μ.own idx y n μ2.cc μ2.nL μ2.rt) (hi : Cond.instanceMethod y ∈ T0) (hnm : y.name = "<init>") (hrt : μ2.rt = none) (hlen : as.length = n) (hr : μ2.R.frames + 1 ≤ μ.R.frames ∧ 8 + (μ2.nL + 11) + μ2.R.locals ≤ μ.R.locals) (hrc : μ2.R.cells = 0) (hrs : μ2.R.slots = 0) (hku : k ≤ μ.R.cells ∧ u ≤ μ.R.slots) (hst : (st.map fun v => v.category).sum ≤ 8) (hn : nw0 ≤ nw ∧ nw ≤ 1000) (hk : stk = as.reverse ++ .ref b :: st) (kk : ∀ (r : Option Value) (mem2 : Mem), Post2 r mem2 → G ρ E μ QQ nw0 (pc + 3) lv (r.toList ++ st) nw k u mem2) : G ρ E μ QQ nw0 pc lv stk nw k u mem := by
  subst hk
  intro p l e s m args below meth c D cA A0 A H locs ls C hA hP hD hS hl
  obtain ⟨hlk, hini, hcode, hnm2, hsig⟩ := hc
  have hts := C.2.2.2.2.1
  have hsg : ∀ sig, parseMethodDescriptor y.desc = some sig → n = sig.parameters.length := fun sig h => by rw [h] at hsig; simp at hsig; exact hsig.symm
  have hr : roomIn μ2 μ k u := ⟨hr.1, hr.2, by rw [hrc]; exact hku.1, by rw [hrs]; exact hku.2⟩
  have hfix : CallFix p m c μ.cc μ.nL s args T0 μ.own := ⟨C.1, C.2.1, C.2.2.1, C.2.2.2.1, hts⟩
  have hpc := pC_at (as := (.ref b :: as)) C hA hn.2 hP hD hS
  have hrun : va_Run p l e μ.R s m args below meth c H locs k u μ2.R.cells μ2.R.slots (F0 m pc ls (((as.reverse ++ .ref b :: st)).map (cv A))) (st.map (cv A)) (gQ ρ nw (fun r n m => n = nw ∧ Post2 r m) D cA A (.ref (A b) :: as.map (cv A)).toArray) (frE A nw H.size) := by
    rcases hlk with hlk | ⟨host, hlk⟩
    · have hM := hct l D cA A H.size
      have hcode2 := hcode
      have hpay := C.payB (μ2 := μ2) hcode
      rw [hrt] at hM hcode2 hpay
      exact va_runI (rest := st.map (cv A)) (As := as.map (cv A)) (b := A b) hfix hM ⟨⟨rfl, rfl, hr.1, hr.2.1, hpay, List.mem_cons_self, hts _ hcode2, hts _ hini, hnm2, hsg, hts _ hlk⟩, hnm, hts _ hi⟩ ⟨pC_blind, fun U hU hW => by have := hpc U hU hW; rwa [List.map_cons] at this⟩ rfl (by rw [List.length_map]; exact hlen) hl.1 (by simp [F0, List.map_append, List.map_reverse, cv]) (lv_room (by rw [cv_cats]; exact hst)) hd ⟨hr.2.2.1, hr.2.2.2⟩
    · have hM := hct l D cA A H.size
      have hcode2 := hcode
      have hpay := C.payB (μ2 := μ2) hcode
      rw [hrt] at hM hcode2 hpay
      exact va_runIN (rest := st.map (cv A)) (As := as.map (cv A)) (b := A b) hfix hM ⟨⟨⟨rfl, rfl, hr.1, hr.2.1, hpay, List.mem_cons_self⟩, hts _ hcode2, hts _ hini, hnm2, hsg, hts _ hlk⟩, hnm, hts _ hi⟩ ⟨pC_blind, fun U hU hW => by have := hpc U hU hW; rwa [List.map_cons] at this⟩ rfl (by rw [List.length_map]; exact hlen) hl.1 (by simp [F0, List.map_append, List.map_reverse, cv]) (lv_room (by rw [cv_cats]; exact hst)) hd ⟨hr.2.2.1, hr.2.2.2⟩
  refine va_callG hrun hS rfl (frE_in hD hS rfl) (fun r A2 nw2 mem2 H1 locs1 hA2 hnw2 hP1 hD1 hp1 hS1 => ?_)
  obtain ⟨rfl, hp1⟩ := hp1
  obtain rfl := Agr_eq hA2
  rw [hrc, hrs]
  have h := kk r mem2 hp1 p l e s m args below meth c D cA A0 A2 H1 locs1 ls C hA hP1 hD1 hS1 hl
  rw [List.map_append] at h
  cases r <;> exact h
def Wk : List Value → List Value → Prop
  | [], [] => True
  | a :: as, b :: bs => (a = un ∨ a = b) ∧ Wk as bs
  | _, _ => False
theorem Wk_get : ∀ {as bs : List Value}, Wk as bs → ∀ (i : Nat) (v : Value), as[i]? = some v → kn v = true → bs[i]? = some v
  | [], [], _, i, v, h, _ => by simp at h
  | a :: as, b :: bs, hw, i, v, h, hk => by
    match i, h with
    | 0, h =>
      simp at h
      subst h
      rcases hw.1 with e | e
      · subst e; cases hk
      · subst e; rfl
    | i + 1, h =>
      simp at h
      have := Wk_get hw.2 i v h hk
      simpa using this
  | [], _ :: _, hw, _, _, _, _ => hw.elim
  | _ :: _, [], hw, _, _, _, _ => hw.elim
theorem G_weak {lv2 : List Value} (h : Wk lv2 lv) (kk : G ρ E μ QQ nw0 pc lv2 st nw k u mem) : G ρ E μ QQ nw0 pc lv st nw k u mem := by
  intro p l e s m args below meth c D cA A0 A H locs ls C hA hP hD hS hl
  refine kk p l e s m args below meth c D cA A0 A H locs ls C hA hP hD hS (hl.mono (fun q hq => ?_))
  obtain ⟨i, w⟩ := q
  obtain ⟨v, h1, h2, rfl⟩ := mem_lvs.mp hq
  exact mem_lvs.mpr ⟨v, Wk_get h i v h1 h2, h2, rfl⟩
end GCall
