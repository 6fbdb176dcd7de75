/-! the law's loop, its entry, its end -/
theorem lw_ret9 {p : Program} {l : Launch} {e : Env} {s : State} {m : MethodId} {args : Array Value} {below : List Frame} {meth : Method} {c : Code} (hx : p.tables.exec = Jvm.exec) (hb : c.code = code) (hr : meth.sig.returnType = ret) (hlocks : meth.locks = false) {pc : Nat} {H : Heap} {ls : Array Slot} (hdg : decode code pc = .ok (.ireturn, 1)) : W p l e room_1 s m args below meth c H [] 601024 7293034 (lw_Z below args s) (F0 m pc ls [.int 1]) := by
  intro T hT X
  obtain ⟨fs, hret, hrun, hended, hW, hframe⟩ := X.leave (v := some (.int 1)) (hlocks := hlocks) (fun h => by rw [hr] at h; cases h)
  have hmeth' : T.vm.method? m = some meth := X.method'
  refine ⟨T.setFrames fs, ?_, .returned (some (.int 1)), hrun, hended, rfl, ⟨_, rfl⟩, hW, hframe⟩
  jvm_step X.here [X.here.top, hx, hb, hdg, hmeth', hr, ret, narrow_b1]
  (try refine ⟨rfl, ?_⟩); (try refine ⟨rfl, ?_⟩)
  first | (intro acts; rw [hret _ acts rfl rfl rfl]) | rw [hret _ _ rfl rfl rfl]
  exact Steps.refl _
theorem iI_1 : iI 1 = 1 := by decide
theorem G_lawret {E : Nat × (Nat → Int32)} {tb : List ExceptionTableEntry} {nm : String} {lv : List Value} {k u : Nat} {mem : Mem} (hk : k ≤ 601024) (hu : u ≤ 7293034) : LG E tb nm 1455 lv [vi 1] k u mem := by
  intro p l e s m args below meth c D cA A0 A H locs ls C hA hP hD hS hl
  refine W_c (fun f ht => ?_)
  refine va_forget (fun q hq => ?_) ?_
  · rcases hS.2.2 q hq with ⟨j, hj, -⟩ | h
    · exact absurd hj (Nat.not_lt_zero j)
    · exact h
  · refine W.widen hk hu ?_
    have h := lw_ret9 (s := s) (m := m) (l := l) (e := e) (args := args) (below := below) (H := H) (ls := ls) (pc := 1455) C.1 C.2.1 C.2.2.2.2.2.2.1 C.2.2.2.2.2.2.2.1 dL_law_1455
    rw [← iI_1] at h
    exact h
theorem and63 (x : Int) : 0 ≤ bandI x 63 ∧ bandI x 63 ≤ 63 := by
  have h : (iI x &&& iI 63).toBitVec.toNat ≤ 63 := by
    rw [Int32.toBitVec_and, BitVec.toNat_and]
    exact Nat.and_le_right
  have e : bandI x 63 = ((iI x &&& iI 63).toBitVec.toNat : Int) := BitVec.toInt_eq_toNat_of_lt (by omega)
  rw [e]
  omega
set_option maxRecDepth 100000 in
theorem wl_8 : Cond.classLink RL 8 RX11 ∈ T0 := tw1 27 rfl (by decide +kernel)
set_option maxRecDepth 100000 in
theorem wi_11 : Cond.instantiable RX11 16 ∈ T0 := tw1 28 rfl (by decide +kernel)
set_option maxRecDepth 100000 in
theorem wj_11 : Cond.initialized RX11 ∈ T0 := tw1 1 rfl (by decide +kernel)
set_option maxRecDepth 100000 in
theorem wl_28 : Cond.classLink RL 28 RX12 ∈ T0 := tw6 118 rfl (by decide +kernel)
set_option maxRecDepth 100000 in
theorem wi_12 : Cond.instantiable RX12 72 ∈ T0 := tw6 119 rfl (by decide +kernel)
set_option maxRecDepth 100000 in
theorem wj_12 : Cond.initialized RX12 ∈ T0 := tw1 13 rfl (by decide +kernel)
theorem law_disp {E : Nat × (Nat → Int32)} {tb : List ExceptionTableEntry} {nm : String} {v : (Int → Int) → Int} {B i : Int} {m : Mem} {k u : Nat} (hR : Rel v B m) (hB : B ≤ 800000000) (h0 : 0 ≤ i) (h5 : i + 5 ≤ (E.1 : Int)) (hE : (E.1 : Int) ≤ 2560) (hk : k + 1 ≤ 601024) (hu : u + 6 ≤ 7293034) (kk : LK E tb nm B i k u) : LG E tb nm 32 (lvi i) [] k u m := by
  refine G_aload_n dL_law_32 rfl ?_
  refine G_iload dL_law_33 rfl ?_
  refine G_sld dL_law_35 (by decide) (by omega) (by omega) (by omega) rfl ?_
  refine G_bipush (z := 63) dL_law_36 rfl ?_
  refine G_iand (z := bandI (E.2 i.toNat).toInt 63) dL_law_38 (iI_of _).symm ?_
  generalize hw : bandI (E.2 i.toNat).toInt 63 = w
  have g := and63 (E.2 i.toNat).toInt
  rw [hw] at g
  have gr : -2147483648 ≤ w ∧ w < 2147483648 := ⟨by omega, by omega⟩
  by_cases c0 : w = 0
  · exact G_tableIn (off := 177) (tgt := 216) dL_law_39 gr (by omega) (by omega) (by rw [c0]; rfl) (by decide) (lc_sign hR hB h0 h5 hE hk hu kk)
  by_cases c1 : w = 1
  · exact G_tableIn (off := 202) (tgt := 241) dL_law_39 gr (by omega) (by omega) (by rw [c1]; rfl) (by decide) (lc_end hR hB h0 h5 hE hk hu kk)
  by_cases c2 : w = 2
  · exact G_tableIn (off := 227) (tgt := 266) dL_law_39 gr (by omega) (by omega) (by rw [c2]; rfl) (by decide) (lc_streets hR hB h0 h5 hE hk hu kk)
  by_cases c3 : w = 3
  · exact G_tableIn (off := 240) (tgt := 279) dL_law_39 gr (by omega) (by omega) (by rw [c3]; rfl) (by decide) (lc_rule hR hB h0 h5 hE hk hu kk)
  by_cases c4 : w = 4
  · exact G_tableIn (off := 253) (tgt := 292) dL_law_39 gr (by omega) (by omega) (by rw [c4]; rfl) (by decide) (lc_street hR hB h0 h5 hE hk hu kk)
  by_cases c5 : w = 5
  · exact G_tableIn (off := 321) (tgt := 360) dL_law_39 gr (by omega) (by omega) (by rw [c5]; rfl) (by decide) (lc_bin hR hB h0 h5 hE hk hu kk)
  by_cases c6 : w = 6
  · exact G_tableIn (off := 413) (tgt := 452) dL_law_39 gr (by omega) (by omega) (by rw [c6]; rfl) (by decide) (lc_set hR hB h0 h5 hE hk hu kk)
  by_cases c7 : w = 7
  · exact G_tableIn (off := 450) (tgt := 489) dL_law_39 gr (by omega) (by omega) (by rw [c7]; rfl) (by decide) (lc_dayOf hR hB h0 h5 hE hk hu kk)
  by_cases c8 : w = 8
  · exact G_tableIn (off := 487) (tgt := 526) dL_law_39 gr (by omega) (by omega) (by rw [c8]; rfl) (by decide) (lc_sheet hR hB h0 h5 hE hk hu kk)
  by_cases c9 : w = 9
  · exact G_tableIn (off := 548) (tgt := 587) dL_law_39 gr (by omega) (by omega) (by rw [c9]; rfl) (by decide) (lc_drive hR hB h0 h5 hE hk hu kk)
  by_cases c10 : w = 10
  · exact G_tableIn (off := 573) (tgt := 612) dL_law_39 gr (by omega) (by omega) (by rw [c10]; rfl) (by decide) (lc_empty hR hB h0 h5 hE hk hu kk)
  by_cases c11 : w = 11
  · exact G_tableIn (off := 610) (tgt := 649) dL_law_39 gr (by omega) (by omega) (by rw [c11]; rfl) (by decide) (lc_tip hR hB h0 h5 hE hk hu kk)
  by_cases c12 : w = 12
  · exact G_tableIn (off := 623) (tgt := 662) dL_law_39 gr (by omega) (by omega) (by rw [c12]; rfl) (by decide) (lc_pause hR hB h0 h5 hE hk hu kk)
  by_cases c13 : w = 13
  · exact G_tableIn (off := 648) (tgt := 687) dL_law_39 gr (by omega) (by omega) (by rw [c13]; rfl) (by decide) (lc_week hR hB h0 h5 hE hk hu kk)
  by_cases c14 : w = 14
  · exact G_tableIn (off := 661) (tgt := 700) dL_law_39 gr (by omega) (by omega) (by rw [c14]; rfl) (by decide) (lc_round hR hB h0 h5 hE hk hu kk)
  by_cases c15 : w = 15
  · exact G_tableIn (off := 674) (tgt := 713) dL_law_39 gr (by omega) (by omega) (by rw [c15]; rfl) (by decide) (lc_undo hR hB h0 h5 hE hk hu kk)
  by_cases c16 : w = 16
  · exact G_tableIn (off := 687) (tgt := 726) dL_law_39 gr (by omega) (by omega) (by rw [c16]; rfl) (by decide) (lc_takes hR hB h0 h5 hE hk hu kk)
  by_cases c17 : w = 17
  · exact G_tableIn (off := 724) (tgt := 763) dL_law_39 gr (by omega) (by omega) (by rw [c17]; rfl) (by decide) (lc_best hR hB h0 h5 hE hk hu kk)
  by_cases c18 : w = 18
  · exact G_tableIn (off := 749) (tgt := 788) dL_law_39 gr (by omega) (by omega) (by rw [c18]; rfl) (by decide) (lc_less hR hB h0 h5 hE hk hu kk)
  by_cases c19 : w = 19
  · exact G_tableIn (off := 774) (tgt := 813) dL_law_39 gr (by omega) (by omega) (by rw [c19]; rfl) (by decide) (lc_line hR hB h0 h5 hE hk hu kk)
  by_cases c20 : w = 20
  · exact G_tableIn (off := 799) (tgt := 838) dL_law_39 gr (by omega) (by omega) (by rw [c20]; rfl) (by decide) (lc_hill hR hB h0 h5 hE hk hu kk)
  by_cases c21 : w = 21
  · exact G_tableIn (off := 855) (tgt := 894) dL_law_39 gr (by omega) (by omega) (by rw [c21]; rfl) (by decide) (lc_wet hR hB h0 h5 hE hk hu kk)
  by_cases c22 : w = 22
  · exact G_tableIn (off := 892) (tgt := 931) dL_law_39 gr (by omega) (by omega) (by rw [c22]; rfl) (by decide) (lc_order hR hB h0 h5 hE hk hu kk)
  by_cases c23 : w = 23
  · exact G_tableIn (off := 905) (tgt := 944) dL_law_39 gr (by omega) (by omega) (by rw [c23]; rfl) (by decide) (lc_soonest hR hB h0 h5 hE hk hu kk)
  by_cases c24 : w = 24
  · exact G_tableIn (off := 930) (tgt := 969) dL_law_39 gr (by omega) (by omega) (by rw [c24]; rfl) (by decide) (lc_most hR hB h0 h5 hE hk hu kk)
  by_cases c25 : w = 25
  · exact G_tableIn (off := 967) (tgt := 1006) dL_law_39 gr (by omega) (by omega) (by rw [c25]; rfl) (by decide) (lc_tipnow hR hB h0 h5 hE hk hu kk)
  by_cases c26 : w = 26
  · exact G_tableIn (off := 992) (tgt := 1031) dL_law_39 gr (by omega) (by omega) (by rw [c26]; rfl) (by decide) (lc_share hR hB h0 h5 hE hk hu kk)
  by_cases c27 : w = 27
  · exact G_tableIn (off := 1017) (tgt := 1056) dL_law_39 gr (by omega) (by omega) (by rw [c27]; rfl) (by decide) (lc_holiday hR hB h0 h5 hE hk hu kk)
  by_cases c28 : w = 28
  · exact G_tableIn (off := 1054) (tgt := 1093) dL_law_39 gr (by omega) (by omega) (by rw [c28]; rfl) (by decide) (lc_busiest hR hB h0 h5 hE hk hu kk)
  by_cases c29 : w = 29
  · exact G_tableIn (off := 1067) (tgt := 1106) dL_law_39 gr (by omega) (by omega) (by rw [c29]; rfl) (by decide) (lc_weighed hR hB h0 h5 hE hk hu kk)
  by_cases c30 : w = 30
  · exact G_tableIn (off := 1104) (tgt := 1143) dL_law_39 gr (by omega) (by omega) (by rw [c30]; rfl) (by decide) (lc_forget hR hB h0 h5 hE hk hu kk)
  by_cases c31 : w = 31
  · exact G_tableIn (off := 1117) (tgt := 1156) dL_law_39 gr (by omega) (by omega) (by rw [c31]; rfl) (by decide) (lc_rubble hR hB h0 h5 hE hk hu kk)
  by_cases c32 : w = 32
  · exact G_tableIn (off := 1130) (tgt := 1169) dL_law_39 gr (by omega) (by omega) (by rw [c32]; rfl) (by decide) (lc_whose hR hB h0 h5 hE hk hu kk)
  by_cases c33 : w = 33
  · exact G_tableIn (off := 1143) (tgt := 1182) dL_law_39 gr (by omega) (by omega) (by rw [c33]; rfl) (by decide) (lc_next hR hB h0 h5 hE hk hu kk)
  by_cases c34 : w = 34
  · exact G_tableIn (off := 1156) (tgt := 1195) dL_law_39 gr (by omega) (by omega) (by rw [c34]; rfl) (by decide) (lc_right hR hB h0 h5 hE hk hu kk)
  by_cases c35 : w = 35
  · exact G_tableIn (off := 1193) (tgt := 1232) dL_law_39 gr (by omega) (by omega) (by rw [c35]; rfl) (by decide) (lc_care hR hB h0 h5 hE hk hu kk)
  by_cases c36 : w = 36
  · exact G_tableIn (off := 1230) (tgt := 1269) dL_law_39 gr (by omega) (by omega) (by rw [c36]; rfl) (by decide) (lc_weeks hR hB h0 h5 hE hk hu kk)
  by_cases c37 : w = 37
  · exact G_tableIn (off := 1279) (tgt := 1318) dL_law_39 gr (by omega) (by omega) (by rw [c37]; rfl) (by decide) (lc_keep hR hB h0 h5 hE hk hu kk)
  by_cases c38 : w = 38
  · exact G_tableIn (off := 1304) (tgt := 1343) dL_law_39 gr (by omega) (by omega) (by rw [c38]; rfl) (by decide) (lc_again hR hB h0 h5 hE hk hu kk)
  by_cases c39 : w = 39
  · exact G_tableIn (off := 1329) (tgt := 1368) dL_law_39 gr (by omega) (by omega) (by rw [c39]; rfl) (by decide) (lc_count hR hB h0 h5 hE hk hu kk)
  by_cases c40 : w = 40
  · exact G_tableIn (off := 1354) (tgt := 1393) dL_law_39 gr (by omega) (by omega) (by rw [c40]; rfl) (by decide) (lc_row hR hB h0 h5 hE hk hu kk)
  exact G_tableOut (tgt := 1448) dL_law_39 gr (by omega) (by decide) (kk v m k u (hR.mono (by omega)) (Nat.le_succ _) (by omega))
theorem law_loop {E : Nat × (Nat → Int32)} {tb : List ExceptionTableEntry} {nm : String} (hE : (E.1 : Int) ≤ 2560) : ∀ (d n : Nat) (v : (Int → Int) → Int) (B : Int) (m : Mem) (k u : Nat), n + d = 513 → Rel v B m → B ≤ 600000 * (n : Int) → k ≤ 209 + n → u ≤ 4769 + 6 * n → LG E tb nm 23 (lvi (5 * (n : Int))) [] k u m := by
  intro d
  induction d with
  | zero =>
    intro n v B m k u e hR hB hk hu
    refine G_iload dL_law_23 rfl ?_
    refine G_aload_n dL_law_25 rfl ?_
    refine G_slen dL_law_26 (by decide) rfl ?_
    refine G_iconst (z := 5) dL_law_27 rfl ?_
    refine G_isub dL_law_28 ?_
    refine G_icmp_gt (tgt := 1454) dL_law_29 (by decide) ⟨by omega, by omega⟩ ⟨by omega, by omega⟩ (fun _ => ?_) (fun c => by omega)
    refine G_iconst (z := 1) dL_law_1454 rfl ?_
    exact G_lawret (by omega) (by omega)
  | succ d ih =>
    intro n v B m k u e hR hB hk hu
    refine G_iload dL_law_23 rfl ?_
    refine G_aload_n dL_law_25 rfl ?_
    refine G_slen dL_law_26 (by decide) rfl ?_
    refine G_iconst (z := 5) dL_law_27 rfl ?_
    refine G_isub dL_law_28 ?_
    refine G_icmp_gt (tgt := 1454) dL_law_29 (by decide) ⟨by omega, by omega⟩ ⟨by omega, by omega⟩ (fun _ => ?_) (fun c => ?_)
    · refine G_iconst (z := 1) dL_law_1454 rfl ?_
      exact G_lawret (by omega) (by omega)
    · refine law_disp hR (by omega) (by omega) (by omega) hE (by omega) (by omega) (fun v2 m2 k2 u2 hR2 hk2 hu2 => ?_)
      refine G_iinc (z := 5 * ((n + 1 : Nat) : Int)) dL_law_1448 rfl (by omega) (Nat.le_of_ble_eq_true rfl) rfl ?_
      refine G_goto (tgt := 23) dL_law_1451 (by decide) ?_
      exact ih (n + 1) v2 (B + 600000) m2 k2 u2 (by omega) hR2 (by omega) (by omega) (by omega)
def okw (nw : Nat) : Value → Prop
  | .ref a => a < nw ∨ 1000 ≤ a
  | _ => True
theorem cv_okw {A A2 : Nat → Nat} {nw nw2 : Nat} {v : Value} (h : Agr nw nw2 A2 A) (h2 : nw2 ≤ 1000) (hv : okw nw v) : cv A2 v = cv A v := by
  cases v <;> first | rfl | exact congrArg Value.ref (h _ (hv.imp id (fun q => Nat.le_trans h2 q)))
theorem map_okw {A A2 : Nat → Nat} {nw nw2 : Nat} (h : Agr nw nw2 A2 A) (h2 : nw2 ≤ 1000) : ∀ {st : List Value}, (∀ v ∈ st, okw nw v) → st.map (cv A2) = st.map (cv A)
  | [], _ => rfl
  | v :: st, hv => by rw [List.map_cons, List.map_cons, cv_okw h h2 (hv v List.mem_cons_self), map_okw h h2 (fun w hw => hv w (List.mem_cons_of_mem _ hw))]
theorem lvs_okw {A A2 : Nat → Nat} {nw nw2 : Nat} (h : Agr nw nw2 A2 A) (h2 : nw2 ≤ 1000) {lv : List Value} (hv : ∀ v ∈ lv, okw nw v) : ∀ q ∈ lvs A2 lv, q ∈ lvs A lv := by
  rintro ⟨i, w⟩ hq
  obtain ⟨v, h1, h9, rfl⟩ := mem_lvs.mp hq
  exact mem_lvs.mpr ⟨v, h1, h9, cv_okw h h2 (hv v (List.mem_of_getElem? h1))⟩
def okLw (nw : Nat) : List Value → Prop
  | [] => True
  | v :: vs => okw nw v ∧ okLw nw vs
theorem okLw_all {nw : Nat} : ∀ {l : List Value}, okLw nw l → ∀ v ∈ l, okw nw v
  | v :: vs, h, w, hw => by
    rcases List.mem_cons.mp hw with rfl | hw
    · exact h.1
    · exact okLw_all h.2 w hw
section GNW
variable {E : Nat × (Nat → Int32)} {μ : Mu} {QQ : QF} {nw0 pc : Nat} {lv st : List Value} {nw k u : Nat} {mem : Mem}
theorem G_newW {idx ci : Nat} {r : vw_C} (hci : vwCl[ci]? = some r) (hs : SH[nw]? = some (.inl ci)) (hd : decode μ.cc pc = .ok (.new idx, 3)) (hcl : Cond.classLink μ.own idx r.1 ∈ T0) (hinst : Cond.instantiable r.1 r.2.2 ∈ T0) (hini : Cond.initialized r.1 ∈ T0) (hn : nw0 ≤ nw) (hku : k + 1 ≤ μ.R.cells ∧ u + r.2.2 ≤ μ.R.slots) (h1000 : nw + 1 ≤ 1000) (ho : ∀ v ∈ lv ++ st, okw nw v) (kk : G ρ0 E μ QQ nw0 (pc + 3) lv (.ref nw :: st) (nw + 1) (k + 1) (u + r.2.2) (upr mem nw (dfl ci))) : G ρ0 E μ QQ nw0 pc lv st nw k u mem := by
  intro p l e s m args below meth c D cA A0 A H locs ls C hA hP hD hS hl
  obtain ⟨CN, T, N⟩ := r
  have hts := C.2.2.2.2.1
  obtain ⟨hck, ⟨ty0, hty⟩, hnm⟩ := CKall hci
  have hNF := NFc_of hci
  have hfs : ∀ j, j < N → defaultValue (ty0 j) = vp_V ((List.range (NFc ci)).map (fun j => dV (kd ci j))) j := fun j hj => by
    unfold vp_V
    rw [List.getD_eq_getElem?_getD, List.getElem?_map, hNF, List.getElem?_range hj, Option.map_some, Option.getD_some, kd_of hci]
    exact dV_of (dOKall hci j hj) (hty j hj)
  refine va_new (fs := (List.range (NFc ci)).map (fun j => dV (kd ci j))) C.1 C.2.1 hts hck ty0 hty C.2.2.2.1 (hts _ hcl) (hts _ hinst) (hts _ hini) C.2.2.2.2.2.1 hP.1 hD hS (fun q hq => Or.inr hq) hci hfs hku.1 hku.2 hd (fun q H1 hP1 hD1 hS1 => ?_)
  have hpush := Ws_push (A := A) (cA := cA) (q := q) (f := dfl ci) hs hP.2
  rw [cel_new] at hpush
  rw [← hpush] at hP1 hD1
  have hW : WFm ρ0 (nw + 1) (upr mem nw (dfl ci)) := hP.2.push (fun j _ => by unfold dfl; split <;> omega)
  have h := kk p l e s m args below meth c D cA A0 (ext A nw q) H1 locs ls C (agr_ext hA hn) ⟨hP1, hW⟩ hD1 hS1 (hl.mono (lvs_okw ext_agr h1000 (fun v hv => ho v (List.mem_append_left _ hv))))
  rw [List.map_cons, map_okw ext_agr h1000 (fun v hv => ho v (List.mem_append_right _ hv)), show cv (ext A nw q) (.ref nw) = .ref q from congrArg Value.ref ext_at] at h
  exact h
theorem G_newLW {n : Nat} {z : Int} (hs : SH[nw]? = some (.inr (2, n))) (hz : (n : Int) = z) (hn2 : n ≤ 2000) (hd : decode μ.cc pc = .ok (.newarray .long, 2)) (hn : nw0 ≤ nw) (hku : k + 1 ≤ μ.R.cells ∧ u + n ≤ μ.R.slots) (h1000 : nw + 1 ≤ 1000) (ho : ∀ v ∈ lv ++ st, okw nw v) (kk : G ρ0 E μ QQ nw0 (pc + 2) lv (.ref nw :: st) (nw + 1) (k + 1) (u + n) (upr mem nw (fun _ => 0))) : G ρ0 E μ QQ nw0 pc lv (vi z :: st) nw k u mem := by
  intro p l e s m args below meth c D cA A0 A H locs ls C hA hP hD hS hl
  subst hz
  have hts := C.2.2.2.2.1
  refine va_newa (ty := .long) (N' := n) (a0 := (n, Sum.inr (Sum.inl (fun _ : Nat => iL 0)))) C.1 C.2.1 (hts _ (tw2 237 rfl (by decide +kernel))) rfl C.2.2.2.2.2.1 hP.1 hD hS (fun q hq => Or.inr hq) (fun cA9 => ?_) (iI_nn hn2) (by rw [iI_clamp (by omega) (by omega)]; rfl) (by show n * 8 ≤ _; omega) hku.1 hku.2 hd (fun q cA9 H1 hK1 hP1 hD1 hS1 => ?_)
  · show arrV cA9 n (fun j => Value.long (iL 0)) = arrV cA9 n (fun _ => Value.long 0)
    rw [iL_0]
  · have e9 := cid_eq (t := 2) (by decide) rfl hK1
    subst e9
    have hpush := Ws_push (A := A) (cA := cA) (q := q) (f := fun _ => 0) hs hP.2
    have hc : cel ρ0 (ext A nw q) cA (upr mem nw (fun _ => 0)) nw (.inr (2, n)) = .inl (cA 2, n, Sum.inr (Sum.inl (fun _ : Nat => iL 0))) := by
      simp only [cel, ar, upr_row]
    rw [hc] at hpush
    rw [← hpush] at hP1 hD1
    have hW : WFm ρ0 (nw + 1) (upr mem nw (fun _ => 0)) := hP.2.push (fun j _ => by omega)
    have h := kk p l e s m args below meth c D cA A0 (ext A nw q) H1 locs ls C (agr_ext hA hn) ⟨hP1, hW⟩ hD1 hS1 (hl.mono (lvs_okw ext_agr h1000 (fun v hv => ho v (List.mem_append_left _ hv))))
    rw [List.map_cons, map_okw ext_agr h1000 (fun v hv => ho v (List.mem_append_right _ hv)), show cv (ext A nw q) (.ref nw) = .ref q from congrArg Value.ref ext_at] at h
    exact h
theorem G_callIW {ρ : Rho} {idx n : Nat} {y : MethodName} {μ2 : Mu} {as stk : List Value} {b : Nat} {Post2 : Option Value → Nat → Mem → Prop} (hct : Ct ρ E y μ2 nw (.ref b :: as) mem Post2) (hd : decode μ.cc pc = .ok (.invokespecial idx, 3)) (hc : CV μ.own idx y n μ2.cc μ2.nL μ2.rt) (hi : Cond.instanceMethod y ∈ T0) (hnm : y.name = "<init>") (hrt : μ2.rt = none) (hlen : as.length = n) (hr : roomIn μ2 μ k u) (hst : (st.map fun v => v.category).sum ≤ 8) (hn : nw0 ≤ nw ∧ nw ≤ 1000) (h1000 : ∀ r n m, Post2 r n m → n ≤ 1000) (ho : ∀ v ∈ lv ++ st, okw nw v) (hk : stk = as.reverse ++ .ref b :: st) (kk : ∀ (r : Option Value) (nw2 : Nat) (mem2 : Mem), nw ≤ nw2 → Post2 r nw2 mem2 → G ρ E μ QQ nw0 (pc + 3) lv (r.toList ++ st) nw2 (k + μ2.R.cells) (u + μ2.R.slots) mem2) : G ρ E μ QQ nw0 pc lv stk nw k u mem := by
  subst hk
  intro p l e s m args below meth c D cA A0 A H locs ls C hA hP hD hS hl
  obtain ⟨hlk, hini, hcode, hnm2, hsig⟩ := hc
  have hts := C.2.2.2.2.1
  have hsg : ∀ sig, parseMethodDescriptor y.desc = some sig → n = sig.parameters.length := fun sig h => by rw [h] at hsig; simp at hsig; exact hsig.symm
  have hfix : CallFix p m c μ.cc μ.nL s args T0 μ.own := ⟨C.1, C.2.1, C.2.2.1, C.2.2.2.1, hts⟩
  have hpc := pC_at (as := (.ref b :: as)) C hA hn.2 hP hD hS
  have hrun : va_Run p l e μ.R s m args below meth c H locs k u μ2.R.cells μ2.R.slots (F0 m pc ls (((as.reverse ++ .ref b :: st)).map (cv A))) (st.map (cv A)) (gQ ρ nw Post2 D cA A (.ref (A b) :: as.map (cv A)).toArray) (frE A nw H.size) := by
    rcases hlk with hlk | ⟨host, hlk⟩
    · have hM := hct l D cA A H.size
      have hcode2 := hcode
      have hpay := C.payB (μ2 := μ2) hcode
      rw [hrt] at hM hcode2 hpay
      exact va_runI (rest := st.map (cv A)) (As := as.map (cv A)) (b := A b) hfix hM ⟨⟨rfl, rfl, hr.1, hr.2.1, hpay, List.mem_cons_self, hts _ hcode2, hts _ hini, hnm2, hsg, hts _ hlk⟩, hnm, hts _ hi⟩ ⟨pC_blind, fun U hU hW => by have := hpc U hU hW; rwa [List.map_cons] at this⟩ rfl (by rw [List.length_map]; exact hlen) hl.1 (by simp [F0, List.map_append, List.map_reverse, cv]) (lv_room (by rw [cv_cats]; exact hst)) hd ⟨hr.2.2.1, hr.2.2.2⟩
    · have hM := hct l D cA A H.size
      have hcode2 := hcode
      have hpay := C.payB (μ2 := μ2) hcode
      rw [hrt] at hM hcode2 hpay
      exact va_runIN (rest := st.map (cv A)) (As := as.map (cv A)) (b := A b) hfix hM ⟨⟨⟨rfl, rfl, hr.1, hr.2.1, hpay, List.mem_cons_self⟩, hts _ hcode2, hts _ hini, hnm2, hsg, hts _ hlk⟩, hnm, hts _ hi⟩ ⟨pC_blind, fun U hU hW => by have := hpc U hU hW; rwa [List.map_cons] at this⟩ rfl (by rw [List.length_map]; exact hlen) hl.1 (by simp [F0, List.map_append, List.map_reverse, cv]) (lv_room (by rw [cv_cats]; exact hst)) hd ⟨hr.2.2.1, hr.2.2.2⟩
  refine va_callG hrun hS rfl (frE_in hD hS rfl) (fun r A2 nw2 mem2 H1 locs1 hA2 hnw2 hP1 hD1 hp1 hS1 => ?_)
  have hA3 : Agr nw0 nw2 A2 A0 := fun j hj => by
    rcases hj with hj | hj
    · rw [hA2 j (Or.inl (by omega)), hA j (Or.inl hj)]
    · rw [hA2 j (Or.inr hj), hA j (Or.inr (by omega))]
  have h := kk r nw2 mem2 hnw2 hp1 p l e s m args below meth c D cA A0 A2 H1 locs1 ls C hA3 hP1 hD1 hS1 (hl.mono (lvs_okw hA2 (h1000 _ _ _ hp1) (fun v hv => ho v (List.mem_append_left _ hv))))
  rw [List.map_append, map_okw hA2 (h1000 _ _ _ hp1) (fun v hv => ho v (List.mem_append_right _ hv))] at h
  cases r <;> exact h
end GNW
theorem law_entry {E : Nat × (Nat → Int32)} {tb : List ExceptionTableEntry} {nm : String} {mem : Mem} (hE : (E.1 : Int) ≤ 2560) : G ρ0 E (mL nm) (cQ tb lawQ) 0 0 [.ref 1000, un, un, un, un, un, un, un] [] 0 0 0 mem := by
  refine G_newW (ci := 11) rfl rfl dL_law_0 wl_8 wi_11 wj_11 (Nat.le_refl _) ⟨Nat.le_of_ble_eq_true rfl, Nat.le_of_ble_eq_true rfl⟩ (by decide) (okLw_all (And.intro (Or.inr (Nat.le_refl 1000)) (And.intro trivial (And.intro trivial (And.intro trivial (And.intro trivial (And.intro trivial (And.intro trivial (And.intro trivial (trivial)))))))))) ?_
  refine G_dup dL_law_3 rfl ?_
  refine G_callIW (as := []) (b := 0) (st := [.ref 0]) ci_11 dL_law_4 cv_L_27 im_X11_init rfl rfl rfl ⟨Nat.le_of_ble_eq_true rfl, Nat.le_of_ble_eq_true rfl, Nat.le_of_ble_eq_true rfl, Nat.le_of_ble_eq_true rfl⟩ (Nat.le_of_ble_eq_true rfl) ⟨Nat.zero_le _, by decide⟩ (fun r n m h => by rw [h.2.1]; decide) (okLw_all (And.intro (Or.inr (Nat.le_refl 1000)) (And.intro trivial (And.intro trivial (And.intro trivial (And.intro trivial (And.intro trivial (And.intro trivial (And.intro trivial (And.intro (Or.inl (by decide : (0 : Nat) < 1)) (trivial))))))))))) rfl (fun r nw2 m1 hn2 hp => ?_)
  obtain ⟨rfl, rfl, p1, q1⟩ := hp
  refine G_astore_n dL_law_7 rfl (Nat.le_of_ble_eq_true rfl) rfl ?_
  refine G_newW (ci := 12) rfl rfl dL_law_8 wl_28 wi_12 wj_12 (Nat.zero_le _) ⟨Nat.le_of_ble_eq_true rfl, Nat.le_of_ble_eq_true rfl⟩ (by decide) (okLw_all (And.intro (Or.inr (Nat.le_refl 1000)) (And.intro (Or.inl (by decide : (0 : Nat) < 169)) (And.intro trivial (And.intro trivial (And.intro trivial (And.intro trivial (And.intro trivial (And.intro trivial (trivial)))))))))) ?_
  refine G_dup dL_law_11 rfl ?_
  refine G_callIW (as := []) (b := 169) (st := [.ref 169]) ci_12 dL_law_12 cv_L_30 im_X12_init rfl rfl rfl ⟨Nat.le_of_ble_eq_true rfl, Nat.le_of_ble_eq_true rfl, Nat.le_of_ble_eq_true rfl, Nat.le_of_ble_eq_true rfl⟩ (Nat.le_of_ble_eq_true rfl) ⟨Nat.zero_le _, by decide⟩ (fun r n m h => by rw [h.2.1]; decide) (okLw_all (And.intro (Or.inr (Nat.le_refl 1000)) (And.intro (Or.inl (by decide : (0 : Nat) < 170)) (And.intro trivial (And.intro trivial (And.intro trivial (And.intro trivial (And.intro trivial (And.intro trivial (And.intro (Or.inl (by decide : (169 : Nat) < 170)) (trivial))))))))))) rfl (fun r nw2 m2 hn2 hp => ?_)
  obtain ⟨rfl, rfl, p2, q2⟩ := hp
  refine G_astore_n dL_law_15 rfl (Nat.le_of_ble_eq_true rfl) rfl ?_
  refine G_iconst (z := 1) dL_law_16 rfl ?_
  refine G_newLW (n := 1) rfl rfl (by decide) dL_law_17 (Nat.zero_le _) ⟨Nat.le_of_ble_eq_true rfl, Nat.le_of_ble_eq_true rfl⟩ (by decide) (okLw_all (And.intro (Or.inr (Nat.le_refl 1000)) (And.intro (Or.inl (by decide : (0 : Nat) < 208)) (And.intro (Or.inl (by decide : (169 : Nat) < 208)) (And.intro trivial (And.intro trivial (And.intro trivial (And.intro trivial (And.intro trivial (trivial)))))))))) ?_
  refine G_astore_n dL_law_19 rfl (Nat.le_of_ble_eq_true rfl) rfl ?_
  refine G_iconst (z := 0) dL_law_20 rfl ?_
  refine G_istore dL_law_21 (Nat.le_of_ble_eq_true rfl) rfl ?_
  have hM : Made (upr m2 208 (fun _ => 0)) := BtR.app (b := 169) (q1.fr (fun k k1 k2 => by rw [upr_k (by omega), p2 k k2])) (q2.fr (fun k k1 k2 => by rw [upr_k (by omega)]))
  exact G_made hM (law_loop hE 513 0 _ 0 _ _ _ rfl hM.rel (by decide) (Nat.le_of_ble_eq_true rfl) (Nat.le_of_ble_eq_true rfl))
