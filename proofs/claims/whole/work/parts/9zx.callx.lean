/-! a call that throws, caught; a call of a method with a table -/
theorem lset_un {A : Nat → Nat} {lv : List Value} {i : Nat} {w : Value} (hw : w.category = 1) : ∀ q ∈ lvs A (lset lv i un), q ∈ (i, w) :: (lvs A lv).filter (fun q => !(q.1 == i) && !(q.1 + 1 == i && q.2.category == 2)) := by
  intro q hq
  rcases List.mem_cons.mp (lset_1 (A := A) (lv := lv) (i := i) (v := un) rfl q hq) with h | h
  · subst h
    obtain ⟨v, h1, h2, h3⟩ := mem_lvs.mp hq
    cases v <;> first | (cases h2; done) | (cases h3; done)
  · exact List.mem_cons_of_mem _ h
theorem CX_blind {E : Nat × (Nat → Int32)} {as : List Value} {mem : Mem} {D : va_G} {cA : Nat → ClassId} {A0 : Nat → Nat} {sz : Nat} : FrameBlind (fun a U => pC ρM E 209 as mem D cA A0 sz a U ∧ NW U) := by
  rintro a U g mk ⟨h1, h2⟩
  exact ⟨pC_blind a U g mk h1, NW.same (s := U) (U := U.calling g mk a) (Eq.refl U.vm) h2⟩
section VCX
variable {ρ : Rho} {E : Nat × (Nat → Int32)} {μ : Mu} {QQ : QF} {nw0 pc : Nat} {lv st : List Value} {nw k u : Nat} {mem : Mem} {tb : List ExceptionTableEntry}
theorem G_callX {idx n hpc i: Nat} {y : MethodName} {μ2 : Mu} {as stk lv2 : List Value} {b ci : Nat} {x : ExceptionTableEntry} (hct : CX E y μ2 (.ref b :: as) mem) (hd : decode μ.cc pc = .ok (.invokevirtual idx, 3)) (hlk : Cond.methodLink μ.own idx y ∈ T0) (hc : CV μ.own idx y n μ2.cc μ2.nL μ2.rt) (hi : Cond.instanceMethod y ∈ T0) (hsel : Cond.selects y.cls y y ∈ T0) (hb : b < 209) (hs : SH[b]? = some (.inl ci)) (hcl : (vwCl[ci]?).map (fun r => r.1) = some y.cls) (hlen : as.length = n) (hr : μ2.R.frames + 1 ≤ μ.R.frames ∧ 8 + (μ2.nL + 11) + μ2.R.locals ≤ μ.R.locals) (hrc : μ2.R.cells = 1) (hrs : μ2.R.slots = 6) (hku : k + 1 ≤ μ.R.cells ∧ u + 6 ≤ μ.R.slots) (hst : (st.map fun v => v.category).sum ≤ 8) (hk : stk = as.reverse ++ .ref b :: st)
    (htb : tb = [x]) (hx : covers x pc = true) (hx0 : x.catchType = 13) (hxh : x.handlerPc = hpc) (hlink : Cond.classLink μ.own 13 NSE ∈ T0) (da : decode μ.cc hpc = .ok (.astore i, 2)) (hi9 : i < μ.nL) (h2 : lset lv i un = lv2)
    (kk : G ρM E μ (cQ tb QQ) 209 (hpc + 2) lv2 [] 209 (k + 1) (u + 6) mem) : G ρM E μ (cQ tb QQ) 209 pc lv stk 209 k u mem := by
  subst hk
  intro p l e s m args below meth c D cA A0 A H locs ls C hA hP hD hS hl
  refine W_c (fun f9 ht => ?_)
  obtain ⟨-, hini, hcode, hnm2, hsig⟩ := hc
  have hts := C.2.2.2.2.1
  have hsg : ∀ sig, parseMethodDescriptor y.desc = some sig → n = sig.parameters.length := fun sig h => by rw [h] at hsig; simp at hsig; exact hsig.symm
  have hfix : CallFix p m c μ.cc μ.nL s args T0 μ.own := ⟨C.1, C.2.1, C.2.2.1, C.2.2.2.1, hts⟩
  have hpc := pC_at (as := (.ref b :: as)) C hA (by decide) hP hD hS
  have hrec : ∃ cell : Cell, H[A b]? = some cell ∧ cell.vm.isStatics = false ∧ s.vm.findClass y.cls = some cell.cls := by
    rcases hv : vwCl[ci]? with _ | r
    · rw [hv] at hcl; cases hcl
    · rw [hv] at hcl
      simp only [Option.map_some, Option.some.injEq] at hcl
      rw [← hcl]
      exact va_recv C.2.2.2.2.2.1 hP.1 hv (Ws_get hb hs)
  have hrun : vx_Run p l e μ.R s m args below meth c H locs k u 1 6 (F0 m pc ls (((as.reverse ++ .ref b :: st)).map (cv A))) (st.map (cv A)) (fun _ _ _ => False) (gX mem D cA A) (frE A 209 H.size) :=
    vx_runV (rest := st.map (cv A)) (As := as.map (cv A)) hfix (hct l f9.1 D cA A H.size) ⟨⟨hrc, hrs, hr.1, hr.2, C.payB hcode, List.mem_cons_self, hts _ hcode, hts _ hini, hnm2, hsg, hts _ hlk⟩, hts _ hi, hts _ hsel⟩ ⟨CX_blind, hrec, fun U hU hW => ⟨by have := hpc U hU hW; rwa [List.map_cons] at this, f9.2.1.warm hW⟩⟩ rfl (by rw [List.length_map]; exact hlen) hl.1 (by simp [F0, List.map_append, List.map_reverse, cv]) (lv_room (by rw [cv_cats]; exact hst)) hd hku
  intro T hT X
  rcases hrun T hT X with ⟨v, st₀, t, T', L, h0, X', hL, e1, e2, hq, stp⟩ | ⟨q, st₀, t, T', L, E9, ce, h0, X', hL, e1, e2, ⟨rfl, hP1, hF⟩, hce, hcv, hcl9, stp⟩
  · exact hq.elim
  · have hfE := frE_in hD hS (rfl : H.size = H.size)
    have hF2 : va_F (frE A 209 H.size) st₀ t := by rw [h0] at hF; exact hF
    obtain ⟨k1, k2, k3⟩ := vx_keep (A0 := frE A0 209 s.heap.size) (A1 := frE A 209 H.size) (free := frE A 209 H.size) h0 e1 hS (fun q _ h => hfE q h) (fun q h => hfE q h) hL hF2
    have W9 : vx_W p l e μ.R s m args below meth c T'.heap (locs ++ L) (k + 1) (u + 6) (QQ l A0 D cA below args s) (F0 m pc ls (st.map (cv A))) q := by
      refine vx_catch (own := μ.own) (name := NSE) (E := NSE) C.2.2.2.1 [] x [] (by rw [ht, htb]; rfl) (fun z hz => nomatch hz) hx (by rw [hx0]; decide) (by rw [hx0]; exact hts _ hlink) (va_Nw.use rfl (f9.2.1 _ List.mem_cons_self)) (by rw [e1]; exact hce) hcv hcl9 ?_
      rw [hxh]
      refine lv_astore C.1 C.2.1 da hl hi9 rfl (fun ls2 hl2 => ?_)
      refine W_u f9 ?_
      subst h2
      exact kk p l e s m args below meth c D cA A0 A T'.heap (locs ++ L) ls2 C hA (by rw [e1]; exact hP1) hD k3 (hl2.mono (lset_un (by rfl)))
    obtain ⟨t9, a9, b9⟩ := W9 T' rfl X'
    exact ⟨t9, stp.trans a9, b9⟩
theorem G_callXn {idx n hpc i : Nat} {f : Fin 4} {y : MethodName} {μ2 : Mu} {as stk lv2 : List Value} {b ci : Nat} {x : ExceptionTableEntry} (hct : CX E y μ2 (.ref b :: as) mem) (hd : decode μ.cc pc = .ok (.invokevirtual idx, 3)) (hlk : Cond.methodLink μ.own idx y ∈ T0) (hc : CV μ.own idx y n μ2.cc μ2.nL μ2.rt) (hi : Cond.instanceMethod y ∈ T0) (hsel : Cond.selects y.cls y y ∈ T0) (hb : b < 209) (hs : SH[b]? = some (.inl ci)) (hcl : (vwCl[ci]?).map (fun r => r.1) = some y.cls) (hlen : as.length = n) (hr : μ2.R.frames + 1 ≤ μ.R.frames ∧ 8 + (μ2.nL + 11) + μ2.R.locals ≤ μ.R.locals) (hrc : μ2.R.cells = 1) (hrs : μ2.R.slots = 6) (hku : k + 1 ≤ μ.R.cells ∧ u + 6 ≤ μ.R.slots) (hst : (st.map fun v => v.category).sum ≤ 8) (hk : stk = as.reverse ++ .ref b :: st)
    (htb : tb = [x]) (hx : covers x pc = true) (hx0 : x.catchType = 13) (hxh : x.handlerPc = hpc) (hlink : Cond.classLink μ.own 13 NSE ∈ T0) (da : decode μ.cc hpc = .ok (.astore_n f, 1)) (hf : (f : Nat) = i) (hi9 : i < μ.nL) (h2 : lset lv i un = lv2)
    (kk : G ρM E μ (cQ tb QQ) 209 (hpc + 1) lv2 [] 209 (k + 1) (u + 6) mem) : G ρM E μ (cQ tb QQ) 209 pc lv stk 209 k u mem := by
  subst hk
  intro p l e s m args below meth c D cA A0 A H locs ls C hA hP hD hS hl
  refine W_c (fun f9 ht => ?_)
  obtain ⟨-, hini, hcode, hnm2, hsig⟩ := hc
  have hts := C.2.2.2.2.1
  have hsg : ∀ sig, parseMethodDescriptor y.desc = some sig → n = sig.parameters.length := fun sig h => by rw [h] at hsig; simp at hsig; exact hsig.symm
  have hfix : CallFix p m c μ.cc μ.nL s args T0 μ.own := ⟨C.1, C.2.1, C.2.2.1, C.2.2.2.1, hts⟩
  have hpc := pC_at (as := (.ref b :: as)) C hA (by decide) hP hD hS
  have hrec : ∃ cell : Cell, H[A b]? = some cell ∧ cell.vm.isStatics = false ∧ s.vm.findClass y.cls = some cell.cls := by
    rcases hv : vwCl[ci]? with _ | r
    · rw [hv] at hcl; cases hcl
    · rw [hv] at hcl
      simp only [Option.map_some, Option.some.injEq] at hcl
      rw [← hcl]
      exact va_recv C.2.2.2.2.2.1 hP.1 hv (Ws_get hb hs)
  have hrun : vx_Run p l e μ.R s m args below meth c H locs k u 1 6 (F0 m pc ls (((as.reverse ++ .ref b :: st)).map (cv A))) (st.map (cv A)) (fun _ _ _ => False) (gX mem D cA A) (frE A 209 H.size) :=
    vx_runV (rest := st.map (cv A)) (As := as.map (cv A)) hfix (hct l f9.1 D cA A H.size) ⟨⟨hrc, hrs, hr.1, hr.2, C.payB hcode, List.mem_cons_self, hts _ hcode, hts _ hini, hnm2, hsg, hts _ hlk⟩, hts _ hi, hts _ hsel⟩ ⟨CX_blind, hrec, fun U hU hW => ⟨by have := hpc U hU hW; rwa [List.map_cons] at this, f9.2.1.warm hW⟩⟩ rfl (by rw [List.length_map]; exact hlen) hl.1 (by simp [F0, List.map_append, List.map_reverse, cv]) (lv_room (by rw [cv_cats]; exact hst)) hd hku
  intro T hT X
  rcases hrun T hT X with ⟨v, st₀, t, T', L, h0, X', hL, e1, e2, hq, stp⟩ | ⟨q, st₀, t, T', L, E9, ce, h0, X', hL, e1, e2, ⟨rfl, hP1, hF⟩, hce, hcv, hcl9, stp⟩
  · exact hq.elim
  · have hfE := frE_in hD hS (rfl : H.size = H.size)
    have hF2 : va_F (frE A 209 H.size) st₀ t := by rw [h0] at hF; exact hF
    obtain ⟨k1, k2, k3⟩ := vx_keep (A0 := frE A0 209 s.heap.size) (A1 := frE A 209 H.size) (free := frE A 209 H.size) h0 e1 hS (fun q _ h => hfE q h) (fun q h => hfE q h) hL hF2
    have W9 : vx_W p l e μ.R s m args below meth c T'.heap (locs ++ L) (k + 1) (u + 6) (QQ l A0 D cA below args s) (F0 m pc ls (st.map (cv A))) q := by
      refine vx_catch (own := μ.own) (name := NSE) (E := NSE) C.2.2.2.1 [] x [] (by rw [ht, htb]; rfl) (fun z hz => nomatch hz) hx (by rw [hx0]; decide) (by rw [hx0]; exact hts _ hlink) (va_Nw.use rfl (f9.2.1 _ List.mem_cons_self)) (by rw [e1]; exact hce) hcv hcl9 ?_
      rw [hxh]
      refine lv_astore_n C.1 C.2.1 da hf hl hi9 rfl (fun ls2 hl2 => ?_)
      refine W_u f9 ?_
      subst h2
      exact kk p l e s m args below meth c D cA A0 A T'.heap (locs ++ L) ls2 C hA (by rw [e1]; exact hP1) hD k3 (hl2.mono (lset_un (by rfl)))
    obtain ⟨t9, a9, b9⟩ := W9 T' rfl X'
    exact ⟨t9, stp.trans a9, b9⟩
theorem G_callH {idx n : Nat} {y : MethodName} {μ2 : Mu} {hh : List (Nat × Nat × Nat × Nat)} {as stk : List Value} {P : Option Value → Mem → Prop} (hct : CH E y μ2 hh as mem P) (hd : decode μ.cc pc = .ok (.invokestatic idx, 3)) (hlk : Cond.methodLink μ.own idx y ∈ T0) (hini : Cond.initialized y.cls ∈ T0) (hcode : Cond.codeWith y μ2.cc μ2.nL μ2.rt hh ∈ T0) (hnm2 : y.cls ≠ "java/lang/invoke/MethodHandle" ∧ y.cls ≠ "java/lang/invoke/VarHandle") (hsig : (parseMethodDescriptor y.desc).map (fun d => d.parameters.length) = some n) (hi : Cond.static y ∈ T0) (hlen : as.length = n) (hr : μ2.R.frames + 1 ≤ μ.R.frames ∧ 8 + (μ2.nL + 11) + μ2.R.locals ≤ μ.R.locals) (hrc : μ2.R.cells = 1) (hrs : μ2.R.slots = 6) (hku : k + 1 ≤ μ.R.cells ∧ u + 6 ≤ μ.R.slots) (hst : (st.map fun v => v.category).sum ≤ 8) (hn : nw0 ≤ 209) (hk : stk = as.reverse ++ st)
    (kk : ∀ (r : Option Value) (mem2 : Mem), P r mem2 → G ρM E μ (cQ tb QQ) nw0 (pc + 3) lv (r.toList ++ st) 209 (k + 1) (u + 6) mem2) : G ρM E μ (cQ tb QQ) nw0 pc lv stk 209 k u mem := by
  subst hk
  intro p l e s m args below meth c D cA A0 A H locs ls C hA hP hD hS hl
  refine W_c (fun f9 ht => ?_)
  have hts := C.2.2.2.2.1
  have hsg : ∀ sig, parseMethodDescriptor y.desc = some sig → n = sig.parameters.length := fun sig h => by rw [h] at hsig; simp at hsig; exact hsig.symm
  have hfix : CallFix p m c μ.cc μ.nL s args T0 μ.own := ⟨C.1, C.2.1, C.2.2.1, C.2.2.2.1, hts⟩
  have hpc := pC_at (as := as) C hA (by decide) hP hD hS
  have hpay : ∀ w ∈ Cond.codeWith y μ2.cc μ2.nL μ2.rt hh :: T0, ∀ (a' : Array Value) (U : State), s.WarmedH U.vm → w.before a' U = true := by
    intro w hw a' U hW
    have hw2 : w ∈ T0 := by
      rcases List.mem_cons.mp hw with rfl | h
      · exact hcode
      · exact h
    exact T0_pay (List.mem_filter.mp hw2).2 (hts w hw2) a' U hW
  have hrun := vx_runSX (e := e) (below := below) (meth := meth) (cells := k) (slots := u) (H := H) (locs := locs) (g := F0 m pc ls ((as.reverse ++ st).map (cv A))) (rest := st.map (cv A)) (As := as.map (cv A)) hfix (hct l f9.1 D cA A H.size) ⟨⟨hrc, hrs, hr.1, hr.2, hpay, List.mem_cons_self⟩, hts _ hcode, hts _ hini, hnm2, hsg, hts _ hlk, hts _ hi⟩ ⟨CX_blind, fun U hU hW => ⟨hpc U hU hW, f9.2.1.warm hW⟩⟩ rfl (by rw [List.length_map]; exact hlen) hl.1 (by simp [F0, List.map_append, List.map_reverse, cv]) (lv_room (by rw [cv_cats]; exact hst)) hd hku
  have hrun2 : va_Run p l e μ.R s m args below meth c H locs k u 1 6 (F0 m pc ls (((as.reverse ++ st)).map (cv A))) (st.map (cv A)) (gQ ρM 209 (PMain P) D cA A (as.map (cv A)).toArray) (frE A 209 H.size) := by
    intro T hT X
    rcases hrun T hT X with h | ⟨q, st₀, t, T', L, E9, ce, h0, X', hL, e1, e2, hq, h9⟩
    · exact h
    · exact hq.elim
  refine va_callG hrun2 hS rfl (frE_in hD hS rfl) (fun r A2 nw2 mem2 H1 locs1 hA2 hnw2 hP1 hD1 hp1 hS1 => ?_)
  obtain ⟨rfl, hp1⟩ := hp1
  obtain rfl := Agr_eq hA2
  have h := W_u f9 (kk r mem2 hp1 p l e s m args below meth c D cA A0 A2 H1 locs1 ls C hA hP1 hD1 hS1 hl)
  rw [List.map_append] at h
  cases r <;> exact h
end VCX
