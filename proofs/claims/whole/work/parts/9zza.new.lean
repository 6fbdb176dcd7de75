/-! what is made: objects and arrays, one cell more at each; references told by the memory alone -/
def ρ0 : Rho := fun _ _ => none
def ext (A : Nat → Nat) (nw q : Nat) : Nat → Nat := fun k => if k = nw then q else A k
theorem ext_lt {A : Nat → Nat} {nw q k : Nat} (h : k < nw) : ext A nw q k = A k := if_neg (by omega)
theorem ext_at {A : Nat → Nat} {nw q : Nat} : ext A nw q nw = q := if_pos rfl
theorem ext_agr {A : Nat → Nat} {nw q : Nat} : Agr nw (nw + 1) (ext A nw q) A := fun k hk => if_neg (by omega)
theorem agr_ext {A A0 : Nat → Nat} {nw0 nw q : Nat} (h : Agr nw0 nw A A0) (hn : nw0 ≤ nw) : Agr nw0 (nw + 1) (ext A nw q) A0 := fun k hk => by
  rw [show ext A nw q k = A k from if_neg (by omega)]
  exact h k (by omega)
def dfl (ci : Nat) : Int → Int := fun j => if kd ci j.toNat = 2 then -1 else 0
theorem kdOf_le (d : String) : kdOf d ≤ 2 := by
  unfold kdOf
  split
  · decide
  · split <;> decide
theorem kd_le (ci j : Nat) : kd ci j ≤ 2 := by
  unfold kd
  split
  · exact kdOf_le _
  · exact Nat.le_refl _
theorem rfv_ext {A : Nat → Nat} {nw q k : Nat} {mem : Mem} {f : Int → Int} {j : Int} (hk : k < nw) (hr : rsl k j = true) (hW : WFm ρ0 nw mem) : rfv ρ0 (ext A nw q) (upr mem nw f) k j = rfv ρ0 A mem k j := by
  have h := hW k j hk rfl hr
  show (if upr mem nw f k j < 0 then none else some (ext A nw q (upr mem nw f k j).toNat)) = (if mem k j < 0 then none else some (A (mem k j).toNat))
  rw [upr_k (by omega)]
  by_cases c : mem k j < 0
  · rw [if_pos c, if_pos c]
  · rw [if_neg c, if_neg c, ext_lt (by omega)]
theorem cel_ext {A : Nat → Nat} {cA : Nat → ClassId} {nw q k : Nat} {mem : Mem} {f : Int → Int} {e : Shp} (hk : k < nw) (hs : SH[k]? = some e) (hW : WFm ρ0 nw mem) : cel ρ0 (ext A nw q) cA (upr mem nw f) k e = cel ρ0 A cA mem k e := by
  have hu : upr mem nw f k = mem k := upr_k (by omega)
  cases e with
  | inl ci =>
    simp only [cel]
    congr 2
    refine List.map_congr_left fun j _ => ?_
    have h2 := kd_le ci j
    have hr : kd ci j = 2 → rsl k (j : Int) = true := fun h => by
      unfold rsl
      rw [hs]
      simp only [Int.toNat_natCast, h]
      rfl
    match hq : kd ci j, h2 with
    | 0, _ => show Value.int (iI (upr mem nw f k j)) = Value.int (iI (mem k j)); rw [hu]
    | 1, _ => show Value.long (iL (upr mem nw f k j)) = Value.long (iL (mem k j)); rw [hu]
    | 2, _ => show va_rf (rfv ρ0 (ext A nw q) (upr mem nw f) k j) = va_rf (rfv ρ0 A mem k j); rw [rfv_ext hk (hr hq) hW]
    | n + 3, h => omega
  | inr tn =>
    obtain ⟨t, n⟩ := tn
    simp only [cel]
    congr 3
    match t, hs with
    | 0, _ => show Sum.inl (fun j : Nat => iI (upr mem nw f k j)) = Sum.inl (fun j : Nat => iI (mem k j)); rw [hu]
    | 1, _ => show Sum.inl (fun j : Nat => iI (upr mem nw f k j)) = Sum.inl (fun j : Nat => iI (mem k j)); rw [hu]
    | 2, _ => show Sum.inr (Sum.inl (fun j : Nat => iL (upr mem nw f k j))) = Sum.inr (Sum.inl (fun j : Nat => iL (mem k j))); rw [hu]
    | t + 3, hs =>
      show Sum.inr (Sum.inr (Sum.inr (Sum.inr (fun j : Nat => rfv ρ0 (ext A nw q) (upr mem nw f) k j)))) = Sum.inr (Sum.inr (Sum.inr (Sum.inr (fun j : Nat => rfv ρ0 A mem k j))))
      congr 4
      funext j
      refine rfv_ext hk ?_ hW
      unfold rsl
      rw [hs]
      simp
theorem Ws_push {A : Nat → Nat} {cA : Nat → ClassId} {nw q : Nat} {mem : Mem} {f : Int → Int} {e : Shp} (hs : SH[nw]? = some e) (hW : WFm ρ0 nw mem) : Ws ρ0 (ext A nw q) cA (upr mem nw f) (nw + 1) = Ws ρ0 A cA mem nw ++ [(q, cel ρ0 (ext A nw q) cA (upr mem nw f) nw e)] := by
  have hl : nw < SH.length := (List.getElem?_eq_some_iff.mp hs).1
  unfold Ws
  rw [List.range_succ, List.map_append, List.map_cons, List.map_nil, ext_at, List.getD_eq_getElem?_getD, hs, Option.getD_some]
  congr 1
  refine List.map_congr_left fun k hk => ?_
  have hk := List.mem_range.mp hk
  have h9 : SH[k]? = some (SH.getD k (.inl 0)) := by
    rw [List.getD_eq_getElem?_getD, List.getElem?_eq_getElem (Nat.lt_trans hk hl), Option.getD_some]
  rw [ext_lt hk, cel_ext hk h9 hW]
theorem WFm.push {nw : Nat} {mem : Mem} {f : Int → Int} (hW : WFm ρ0 nw mem) (hf : ∀ j, rsl nw j = true → f j < nw + 1) : WFm ρ0 (nw + 1) (upr mem nw f) := by
  intro k j hk hr hb
  by_cases c : k = nw
  · subst c
    rw [upr_same]
    have := hf j hb
    omega
  · rw [upr_k c]
    have := hW k j (by omega) hr hb
    omega
/-- a class's fields are of the kinds that are told -/
def dOK (d : String) : Bool := match parseFieldDescriptor d with
  | some .int => kdOf d == 0
  | some .boolean => kdOf d == 0
  | some .long => kdOf d == 1
  | some (.object _) => kdOf d == 2
  | some (.array _) => kdOf d == 2
  | _ => false
def dV (q : Nat) : Value := match q with
  | 0 => vi 0
  | 1 => vl 0
  | _ => .null
theorem iI_0 : iI 0 = 0 := by decide
theorem iL_0 : iL 0 = 0 := by decide
theorem dV_of {d : String} {ty : FieldType} (h : dOK d = true) (ht : parseFieldDescriptor d = some ty) : defaultValue ty = dV (kdOf d) := by
  unfold dOK at h
  rw [ht] at h
  cases ty <;> first | (cases h; done) | (simp only [beq_iff_eq] at h; rw [h]; first | rfl | (show Value.int 0 = Value.int (iI 0); rw [iI_0]) | (show Value.long 0 = Value.long (iL 0); rw [iL_0]))
theorem dOK_0 : ∀ j, j < 11 → dOK (TX0 j).2.2.1 = true := by decide +kernel
theorem dOK_1 : ∀ j, j < 3 → dOK (TX1 j).2.2.1 = true := by decide +kernel
theorem dOK_2 : ∀ j, j < 19 → dOK (TX2 j).2.2.1 = true := by decide +kernel
theorem dOK_3 : ∀ j, j < 10 → dOK (TX3 j).2.2.1 = true := by decide +kernel
theorem dOK_4 : ∀ j, j < 16 → dOK (TX4 j).2.2.1 = true := by decide +kernel
theorem dOK_5 : ∀ j, j < 6 → dOK (TX5 j).2.2.1 = true := by decide +kernel
theorem dOK_6 : ∀ j, j < 1 → dOK (TX6 j).2.2.1 = true := by decide +kernel
theorem dOK_7 : ∀ j, j < 6 → dOK (TX7 j).2.2.1 = true := by decide +kernel
theorem dOK_8 : ∀ j, j < 9 → dOK (TX8 j).2.2.1 = true := by decide +kernel
theorem dOK_9 : ∀ j, j < 4 → dOK (TX9 j).2.2.1 = true := by decide +kernel
theorem dOK_10 : ∀ j, j < 2 → dOK (TX10 j).2.2.1 = true := by decide +kernel
theorem dOK_11 : ∀ j, j < 16 → dOK (TX11 j).2.2.1 = true := by decide +kernel
theorem dOK_12 : ∀ j, j < 72 → dOK (TX12 j).2.2.1 = true := by decide +kernel
theorem dOKall {ci : Nat} {r : vw_C} (h : vwCl[ci]? = some r) : ∀ j, j < r.2.2 → dOK (r.2.1 j).2.2.1 = true := by
  match ci, h with
  | 0, h => cases h; exact dOK_0
  | 1, h => cases h; exact dOK_1
  | 2, h => cases h; exact dOK_2
  | 3, h => cases h; exact dOK_3
  | 4, h => cases h; exact dOK_4
  | 5, h => cases h; exact dOK_5
  | 6, h => cases h; exact dOK_6
  | 7, h => cases h; exact dOK_7
  | 8, h => cases h; exact dOK_8
  | 9, h => cases h; exact dOK_9
  | 10, h => cases h; exact dOK_10
  | 11, h => cases h; exact dOK_11
  | 12, h => cases h; exact dOK_12
  | n + 13, h => simp [vwCl] at h
theorem cel_new {A : Nat → Nat} {cA : Nat → ClassId} {nw ci : Nat} {mem : Mem} : cel ρ0 A cA (upr mem nw (dfl ci)) nw (.inl ci) = .inr (ci, (List.range (NFc ci)).map (fun j => dV (kd ci j))) := by
  simp only [cel]
  congr 2
  refine List.map_congr_left fun j _ => ?_
  have h2 := kd_le ci j
  match hq : kd ci j, h2 with
  | 0, _ => show Value.int (iI (upr mem nw (dfl ci) nw j)) = _; rw [upr_same]; unfold dfl; rw [Int.toNat_natCast, hq]; rfl
  | 1, _ => show Value.long (iL (upr mem nw (dfl ci) nw j)) = _; rw [upr_same]; unfold dfl; rw [Int.toNat_natCast, hq]; rfl
  | 2, _ =>
    show va_rf (if upr mem nw (dfl ci) nw j < 0 then none else some (A (upr mem nw (dfl ci) nw j).toNat)) = _
    rw [upr_same]; unfold dfl; rw [Int.toNat_natCast, hq]; rfl
  | n + 3, h => omega
section GN
variable {E : Nat × (Nat → Int32)} {μ : Mu} {QQ : QF} {nw0 pc : Nat} {lv st : List Value} {nw k u : Nat} {mem : Mem}
theorem G_objInit {ρ : Rho} {idx a : Nat} (hd : decode μ.cc pc = .ok (.invokespecial idx, 3)) (hlk : Cond.methodLink μ.own idx Lib.objectInit ∈ T0) (hR : 1 ≤ μ.R.frames ∧ 20 ≤ μ.R.locals) (hst : (st.map fun v => v.category).sum ≤ 8) (kk : G ρ E μ QQ nw0 (pc + 3) lv st nw k u mem) : G ρ E μ QQ nw0 pc lv (.ref a :: st) nw k u mem := by
  intro p l e s m args below meth c D cA A0 A H locs ls C hA hP hD hS hl
  have hts := C.2.2.2.2.1
  have hr : 2 * (F0 m pc ls ((Value.ref a :: st).map (cv A))).monitorRoom + ((st.map (cv A)).map fun v => v.category).sum ≤ 8 := lv_room (by rw [cv_cats]; exact hst)
  exact W.objInit C.1 C.2.1 C.2.2.2.1 (hts _ hlk) (hts _ (tw1 33 rfl (by decide +kernel))) (hts _ (tw1 34 rfl (by decide +kernel))) rfl (hl.1.trans C.2.2.1.symm) rfl hd hR.1 (by omega) (kk p l e s m args below meth c D cA A0 A H locs ls C hA hP hD hS hl)
theorem G_new {idx ci : Nat} {r : vw_C} (hci : vwCl[ci]? = some r) (hs : SH[nw]? = some (.inl ci)) (hd : decode μ.cc pc = .ok (.new idx, 3)) (hcl : Cond.classLink μ.own idx r.1 ∈ T0) (hinst : Cond.instantiable r.1 r.2.2 ∈ T0) (hini : Cond.initialized r.1 ∈ T0) (hn : nw0 ≤ nw) (hku : k + 1 ≤ μ.R.cells ∧ u + r.2.2 ≤ μ.R.slots) (ho : ∀ v ∈ lv ++ st, okv nw v) (kk : G ρ0 E μ QQ nw0 (pc + 3) lv (.ref nw :: st) (nw + 1) (k + 1) (u + r.2.2) (upr mem nw (dfl ci))) : G ρ0 E μ QQ nw0 pc lv st nw k u mem := by
  intro p l e s m args below meth c D cA A0 A H locs ls C hA hP hD hS hl
  obtain ⟨CN, T, N⟩ := r
  have hts := C.2.2.2.2.1
  obtain ⟨hck, ⟨ty0, hty⟩, hnm⟩ := CKall hci
  have hNF := NFc_of hci
  have hfs : ∀ j, j < N → defaultValue (ty0 j) = vp_V ((List.range (NFc ci)).map (fun j => dV (kd ci j))) j := fun j hj => by
    unfold vp_V
    rw [List.getD_eq_getElem?_getD, List.getElem?_map, hNF, List.getElem?_range hj, Option.map_some, Option.getD_some, kd_of hci]
    exact dV_of (dOKall hci j hj) (hty j hj)
  refine va_new (fs := (List.range (NFc ci)).map (fun j => dV (kd ci j))) C.1 C.2.1 hts hck ty0 hty C.2.2.2.1 (hts _ hcl) (hts _ hinst) (hts _ hini) C.2.2.2.2.2.1 hP.1 hD hS (fun q hq => Or.inr hq) hci hfs hku.1 hku.2 hd (fun q H1 hP1 hD1 hS1 => ?_)
  have hpush := Ws_push (A := A) (cA := cA) (q := q) (f := dfl ci) hs hP.2
  rw [cel_new] at hpush
  rw [← hpush] at hP1 hD1
  have hW : WFm ρ0 (nw + 1) (upr mem nw (dfl ci)) := hP.2.push (fun j _ => by unfold dfl; split <;> omega)
  have h := kk p l e s m args below meth c D cA A0 (ext A nw q) H1 locs ls C (agr_ext hA hn) ⟨hP1, hW⟩ hD1 hS1 (hl.mono (lvs_ok ext_agr (fun v hv => ho v (List.mem_append_left _ hv))))
  rw [List.map_cons, map_ok ext_agr (fun v hv => ho v (List.mem_append_right _ hv)), show cv (ext A nw q) (.ref nw) = .ref q from congrArg Value.ref ext_at] at h
  exact h
theorem cid_eq {D : va_G} {cA : Nat → ClassId} {s : State} {t : Nat} {c : ClassId} {ty : FieldType} (ht : t < 6) (hty : aty[t]? = some ty) (h : va_K D vwCl (tyc cA ++ [(c, ty)]) s) : c = cA t := by
  have h1 := (h.2 6 (c, ty) rfl).2
  have key : ∀ x : ClassId × FieldType, (tyc cA)[t]? = some x → x = (cA t, ty) → c = cA t := fun x hx e => by
    subst e
    have h2 := (h.2 t (cA t, ty) (by rw [List.getElem?_append_left (show t < 6 from ht)]; exact hx)).2
    cases ty with
    | object C9 =>
      obtain ⟨kA, comp, -, -, -, g1⟩ := h1
      obtain ⟨kA2, comp2, -, -, -, g2⟩ := h2
      exact Option.some.inj (g1.symm.trans g2)
    | _ => exact Option.some.inj (h1.symm.trans h2)
  match t, ht with
  | 0, _ => cases hty; exact key _ rfl rfl
  | 1, _ => cases hty; exact key _ rfl rfl
  | 2, _ => cases hty; exact key _ rfl rfl
  | 3, _ => cases hty; exact key _ rfl rfl
  | 4, _ => cases hty; exact key _ rfl rfl
  | 5, _ => cases hty; exact key _ rfl rfl
  | n + 6, h => omega
theorem iI_nn {n : Nat} (hn : n ≤ 2000) : ¬ iI (n : Int) < 0 := by
  rw [← iI_0, iI_lt ⟨by omega, by omega⟩ ⟨by decide, by decide⟩]
  omega
theorem G_newI {n : Nat} {z : Int} (hs : SH[nw]? = some (.inr (0, n))) (hz : (n : Int) = z) (hn2 : n ≤ 2000) (hd : decode μ.cc pc = .ok (.newarray .int, 2)) (hn : nw0 ≤ nw) (hku : k + 1 ≤ μ.R.cells ∧ u + n ≤ μ.R.slots) (ho : ∀ v ∈ lv ++ st, okv nw v) (kk : G ρ0 E μ QQ nw0 (pc + 2) lv (.ref nw :: st) (nw + 1) (k + 1) (u + n) (upr mem nw (fun _ => 0))) : G ρ0 E μ QQ nw0 pc lv (vi z :: st) nw k u mem := by
  intro p l e s m args below meth c D cA A0 A H locs ls C hA hP hD hS hl
  subst hz
  have hts := C.2.2.2.2.1
  refine va_newa (ty := .int) (N' := n) (a0 := (n, Sum.inl (fun _ : Nat => iI 0))) C.1 C.2.1 (hts _ (tw1 55 rfl (by decide +kernel))) rfl C.2.2.2.2.2.1 hP.1 hD hS (fun q hq => Or.inr hq) (fun cA9 => ?_) (iI_nn hn2) (by rw [iI_clamp (by omega) (by omega)]; rfl) (by show n * 4 ≤ _; omega) hku.1 hku.2 hd (fun q cA9 H1 hK1 hP1 hD1 hS1 => ?_)
  · show arrV cA9 n (fun j => Value.int (iI 0)) = arrV cA9 n (fun _ => Value.int 0)
    rw [iI_0]
  · have e9 := cid_eq (t := 0) (by decide) rfl hK1
    subst e9
    have hpush := Ws_push (A := A) (cA := cA) (q := q) (f := fun _ => 0) hs hP.2
    have hc : cel ρ0 (ext A nw q) cA (upr mem nw (fun _ => 0)) nw (.inr (0, n)) = .inl (cA 0, n, Sum.inl (fun _ : Nat => iI 0)) := by
      simp only [cel, ar, upr_row]
    rw [hc] at hpush
    rw [← hpush] at hP1 hD1
    have hW : WFm ρ0 (nw + 1) (upr mem nw (fun _ => 0)) := hP.2.push (fun j _ => by omega)
    have h := kk p l e s m args below meth c D cA A0 (ext A nw q) H1 locs ls C (agr_ext hA hn) ⟨hP1, hW⟩ hD1 hS1 (hl.mono (lvs_ok ext_agr (fun v hv => ho v (List.mem_append_left _ hv))))
    rw [List.map_cons, map_ok ext_agr (fun v hv => ho v (List.mem_append_right _ hv)), show cv (ext A nw q) (.ref nw) = .ref q from congrArg Value.ref ext_at] at h
    exact h
theorem G_newZ {n : Nat} {z : Int} (hs : SH[nw]? = some (.inr (1, n))) (hz : (n : Int) = z) (hn2 : n ≤ 2000) (hd : decode μ.cc pc = .ok (.newarray .boolean, 2)) (hn : nw0 ≤ nw) (hku : k + 1 ≤ μ.R.cells ∧ u + n ≤ μ.R.slots) (ho : ∀ v ∈ lv ++ st, okv nw v) (kk : G ρ0 E μ QQ nw0 (pc + 2) lv (.ref nw :: st) (nw + 1) (k + 1) (u + n) (upr mem nw (fun _ => 0))) : G ρ0 E μ QQ nw0 pc lv (vi z :: st) nw k u mem := by
  intro p l e s m args below meth c D cA A0 A H locs ls C hA hP hD hS hl
  subst hz
  have hts := C.2.2.2.2.1
  refine va_newa (ty := .boolean) (N' := n) (a0 := (n, Sum.inl (fun _ : Nat => iI 0))) C.1 C.2.1 (hts _ (tw7 101 rfl (by decide +kernel))) rfl C.2.2.2.2.2.1 hP.1 hD hS (fun q hq => Or.inr hq) (fun cA9 => ?_) (iI_nn hn2) (by rw [iI_clamp (by omega) (by omega)]; rfl) (by show n * 1 ≤ _; omega) hku.1 hku.2 hd (fun q cA9 H1 hK1 hP1 hD1 hS1 => ?_)
  · show arrV cA9 n (fun j => Value.int (iI 0)) = arrV cA9 n (fun _ => Value.int 0)
    rw [iI_0]
  · have e9 := cid_eq (t := 1) (by decide) rfl hK1
    subst e9
    have hpush := Ws_push (A := A) (cA := cA) (q := q) (f := fun _ => 0) hs hP.2
    have hc : cel ρ0 (ext A nw q) cA (upr mem nw (fun _ => 0)) nw (.inr (1, n)) = .inl (cA 1, n, Sum.inl (fun _ : Nat => iI 0)) := by
      simp only [cel, ar, upr_row]
    rw [hc] at hpush
    rw [← hpush] at hP1 hD1
    have hW : WFm ρ0 (nw + 1) (upr mem nw (fun _ => 0)) := hP.2.push (fun j _ => by omega)
    have h := kk p l e s m args below meth c D cA A0 (ext A nw q) H1 locs ls C (agr_ext hA hn) ⟨hP1, hW⟩ hD1 hS1 (hl.mono (lvs_ok ext_agr (fun v hv => ho v (List.mem_append_left _ hv))))
    rw [List.map_cons, map_ok ext_agr (fun v hv => ho v (List.mem_append_right _ hv)), show cv (ext A nw q) (.ref nw) = .ref q from congrArg Value.ref ext_at] at h
    exact h
theorem G_newL {n : Nat} {z : Int} (hs : SH[nw]? = some (.inr (2, n))) (hz : (n : Int) = z) (hn2 : n ≤ 2000) (hd : decode μ.cc pc = .ok (.newarray .long, 2)) (hn : nw0 ≤ nw) (hku : k + 1 ≤ μ.R.cells ∧ u + n ≤ μ.R.slots) (ho : ∀ v ∈ lv ++ st, okv nw v) (kk : G ρ0 E μ QQ nw0 (pc + 2) lv (.ref nw :: st) (nw + 1) (k + 1) (u + n) (upr mem nw (fun _ => 0))) : G ρ0 E μ QQ nw0 pc lv (vi z :: st) nw k u mem := by
  intro p l e s m args below meth c D cA A0 A H locs ls C hA hP hD hS hl
  subst hz
  have hts := C.2.2.2.2.1
  refine va_newa (ty := .long) (N' := n) (a0 := (n, Sum.inr (Sum.inl (fun _ : Nat => iL 0)))) C.1 C.2.1 (hts _ (tw2 237 rfl (by decide +kernel))) rfl C.2.2.2.2.2.1 hP.1 hD hS (fun q hq => Or.inr hq) (fun cA9 => ?_) (iI_nn hn2) (by rw [iI_clamp (by omega) (by omega)]; rfl) (by show n * 8 ≤ _; omega) hku.1 hku.2 hd (fun q cA9 H1 hK1 hP1 hD1 hS1 => ?_)
  · show arrV cA9 n (fun j => Value.long (iL 0)) = arrV cA9 n (fun _ => Value.long 0)
    rw [iL_0]
  · have e9 := cid_eq (t := 2) (by decide) rfl hK1
    subst e9
    have hpush := Ws_push (A := A) (cA := cA) (q := q) (f := fun _ => 0) hs hP.2
    have hc : cel ρ0 (ext A nw q) cA (upr mem nw (fun _ => 0)) nw (.inr (2, n)) = .inl (cA 2, n, Sum.inr (Sum.inl (fun _ : Nat => iL 0))) := by
      simp only [cel, ar, upr_row]
    rw [hc] at hpush
    rw [← hpush] at hP1 hD1
    have hW : WFm ρ0 (nw + 1) (upr mem nw (fun _ => 0)) := hP.2.push (fun j _ => by omega)
    have h := kk p l e s m args below meth c D cA A0 (ext A nw q) H1 locs ls C (agr_ext hA hn) ⟨hP1, hW⟩ hD1 hS1 (hl.mono (lvs_ok ext_agr (fun v hv => ho v (List.mem_append_left _ hv))))
    rw [List.map_cons, map_ok ext_agr (fun v hv => ho v (List.mem_append_right _ hv)), show cv (ext A nw q) (.ref nw) = .ref q from congrArg Value.ref ext_at] at h
    exact h
theorem G_newQ {idx n t : Nat} {z : Int} {CN : String} (ht : 3 ≤ t ∧ t < 6) (hty : aty[t]? = some (.object CN)) (hs : SH[nw]? = some (.inr (t, n))) (hz : (n : Int) = z) (hn2 : n ≤ 2000) (hd : decode μ.cc pc = .ok (.anewarray idx, 3)) (hcl : Cond.classLink μ.own idx CN ∈ T0) (hao : Cond.arrayOver (.object CN) ∈ T0) (hn : nw0 ≤ nw) (hku : k + 1 ≤ μ.R.cells ∧ u + n ≤ μ.R.slots) (ho : ∀ v ∈ lv ++ st, okv nw v) (kk : G ρ0 E μ QQ nw0 (pc + 3) lv (.ref nw :: st) (nw + 1) (k + 1) (u + n) (upr mem nw (fun _ => -1))) : G ρ0 E μ QQ nw0 pc lv (vi z :: st) nw k u mem := by
  intro p l e s m args below meth c D cA A0 A H locs ls C hA hP hD hS hl
  subst hz
  have hts := C.2.2.2.2.1
  refine va_newq (N' := n) C.1 C.2.1 C.2.2.2.1 (hts _ hcl) (va_AO.of (hts _ hao)) C.2.2.2.2.2.1 hP.1 hD hS (fun q hq => Or.inr hq) (iI_nn hn2) (by rw [iI_clamp (by omega) (by omega)]; rfl) (by omega) hku.1 hku.2 hd (fun q cA9 H1 hK1 hP1 hD1 hS1 => ?_)
  have e9 := cid_eq ht.2 hty hK1
  subst e9
  have hpush := Ws_push (A := A) (cA := cA) (q := q) (f := fun _ => -1) hs hP.2
  have hc : cel ρ0 (ext A nw q) cA (upr mem nw (fun _ => -1)) nw (.inr (t, n)) = .inl (cA t, n, .inr (.inr (.inr (.inr (fun _ => none))))) := by
    obtain ⟨h3, h6⟩ := ht
    obtain ⟨t', rfl⟩ : ∃ t', t = t' + 3 := ⟨t - 3, by omega⟩
    show (Sum.inl (cA (t' + 3), n, Sum.inr (Sum.inr (Sum.inr (Sum.inr (fun j : Nat => rfv ρ0 (ext A nw q) (upr mem nw (fun _ => -1)) nw j))))) : va_E) = _
    congr 7
    funext j
    show (if upr mem nw (fun _ => -1) nw j < 0 then none else some _) = none
    rw [upr_same]
    rfl
  rw [hc] at hpush
  rw [← hpush] at hP1 hD1
  have hW : WFm ρ0 (nw + 1) (upr mem nw (fun _ => -1)) := hP.2.push (fun j _ => by omega)
  have h := kk p l e s m args below meth c D cA A0 (ext A nw q) H1 locs ls C (agr_ext hA hn) ⟨hP1, hW⟩ hD1 hS1 (hl.mono (lvs_ok ext_agr (fun v hv => ho v (List.mem_append_left _ hv))))
  rw [List.map_cons, map_ok ext_agr (fun v hv => ho v (List.mem_append_right _ hv)), show cv (ext A nw q) (.ref nw) = .ref q from congrArg Value.ref ext_at] at h
  exact h
end GN
