section GM
variable {ρ : Rho} {E : Nat × (Nat → Int32)} {μ : Mu} {QQ : QF} {nw0 pc : Nat} {lv st : List Value} {nw k u : Nat} {mem : Mem}
theorem cel_fs {ρ : Rho} {A : Nat → Nat} {mem : Mem} {a ci j q : Nat} (hj : j < NFc ci) (hq : kd ci j = q) : ((List.range (NFc ci)).map (fun j => fv ρ A (kd ci j) mem a (j : Int)))[j]? = some (fv ρ A q mem a (j : Int)) := by
  rw [List.getElem?_map, List.getElem?_range hj, ← hq]
  rfl
theorem NFc_of {ci : Nat} {r : vw_C} (h : vwCl[ci]? = some r) : NFc ci = r.2.2 := by unfold NFc; rw [h]
theorem kd_of {ci j : Nat} {r : vw_C} (h : vwCl[ci]? = some r) : kd ci j = kdOf (r.2.1 j).2.2.1 := by unfold kd; rw [h]
theorem G_getV {idx a ci j q : Nat} {v : Value} (hd : decode μ.cc pc = .ok (.getfield idx, 3)) (hf : FL μ.own idx ci j q) (ha : a < nw) (hs : SH[a]? = some (.inl ci)) (hv : ∀ A : Nat → Nat, fv ρ A q mem a (j : Int) = cv A v) (kk : G ρ E μ QQ nw0 (pc + 3) lv (v :: st) nw k u mem) : G ρ E μ QQ nw0 pc lv (.ref a :: st) nw k u mem := by
  intro p l e s m args below meth c D cA A0 A H locs ls C hA hP hD hS hl
  obtain ⟨⟨CN, T, N⟩, hc, hj, hq, hw⟩ := hf
  have hcel := Ws_get (ρ := ρ) (A := A) (cA := cA) (mem := mem) ha hs
  have hNF := NFc_of hc
  have h1 := cel_fs (ρ := ρ) (A := A) (mem := mem) (a := a) (by rw [hNF]; exact hj) hq
  rw [hv A] at h1
  have hts := C.2.2.2.2.1
  have hck := CKall hc
  rcases hw with hw | ⟨host, hw⟩
  · exact va_get C.1 C.2.1 hts hck.1 C.2.2.2.1 C.2.2.2.2.2.1 hP.1 a hcel hc j hj (hts _ hw) (fun x h => h) h1 hd (kk p l e s m args below meth c D cA A0 A H locs ls C hA hP hD hS hl)
  · exact va_getN C.1 C.2.1 hts hck.1 C.2.2.2.1 C.2.2.2.2.2.1 hP.1 a hcel hc j hj (hts _ hw) (fun x h => h) h1 hd (kk p l e s m args below meth c D cA A0 A H locs ls C hA hP hD hS hl)
theorem G_getI {idx a ci j : Nat} {z : Int} (hd : decode μ.cc pc = .ok (.getfield idx, 3)) (hf : FL μ.own idx ci j 0) (ha : a < nw) (hs : SH[a]? = some (.inl ci)) (hz : mem a (j : Int) = z) (kk : G ρ E μ QQ nw0 (pc + 3) lv (vi z :: st) nw k u mem) : G ρ E μ QQ nw0 pc lv (.ref a :: st) nw k u mem := G_getV hd hf ha hs (fun A => by rw [← hz]; rfl) kk
theorem G_getL {idx a ci j : Nat} {z : Int} (hd : decode μ.cc pc = .ok (.getfield idx, 3)) (hf : FL μ.own idx ci j 1) (ha : a < nw) (hs : SH[a]? = some (.inl ci)) (hz : mem a (j : Int) = z) (kk : G ρ E μ QQ nw0 (pc + 3) lv (vl z :: st) nw k u mem) : G ρ E μ QQ nw0 pc lv (.ref a :: st) nw k u mem := G_getV hd hf ha hs (fun A => by rw [← hz]; rfl) kk
theorem G_getR {idx a ci j t : Nat} (hd : decode μ.cc pc = .ok (.getfield idx, 3)) (hf : FL μ.own idx ci j 2) (ha : a < nw) (hs : SH[a]? = some (.inl ci)) (hr : ρ a (j : Int) = some t) (kk : G ρ E μ QQ nw0 (pc + 3) lv (.ref t :: st) nw k u mem) : G ρ E μ QQ nw0 pc lv (.ref a :: st) nw k u mem := G_getV hd hf ha hs (fun A => by unfold fv rfv; rw [hr]; rfl) kk
theorem G_getD {idx a ci j t : Nat} (hd : decode μ.cc pc = .ok (.getfield idx, 3)) (hf : FL μ.own idx ci j 2) (ha : a < nw) (hs : SH[a]? = some (.inl ci)) (hr : ρ a (j : Int) = none) (hz : mem a (j : Int) = (t : Int)) (kk : G ρ E μ QQ nw0 (pc + 3) lv (.ref t :: st) nw k u mem) : G ρ E μ QQ nw0 pc lv (.ref a :: st) nw k u mem := G_getV hd hf ha hs (fun A => by
  unfold fv rfv
  rw [hr, hz]
  simp only [show ¬ ((t : Int) < 0) by omega, if_false, Int.toNat_natCast]
  rfl) kk
theorem G_putV {idx a ci j : Nat} {z : Int} {v : Value} {ds : String} {ty : FieldType} {mem2 : Mem} (hd : decode μ.cc pc = .ok (.putfield idx, 3)) (hf : FP μ.own idx ci j ds) (ha : a < nw) (hs : SH[a]? = some (.inl ci)) (hds : parseFieldDescriptor ds = some ty) (hn : ∀ A : Nat → Nat, narrow ty (cv A v) = cv A v) (hfit : ∀ A : Nat → Nat, fits ty (cv A v) = true) (hv : ∀ A : Nat → Nat, cv A v = fv ρ A (kdOf ds) (up2 mem a j z) a (j : Int)) (hwf : kdOf ds ≠ 2 ∨ z < nw) (hm : up2 mem a j z = mem2) (kk : G ρ E μ QQ nw0 (pc + 3) lv st nw k u mem2) : G ρ E μ QQ nw0 pc lv (v :: .ref a :: st) nw k u mem := by
  subst hm
  intro p l e s m args below meth c D cA A0 A H locs ls C hA hP hD hS hl
  obtain ⟨⟨CN, T, N⟩, hc, hj, rfl, hfin, hw⟩ := hf
  have hcel := Ws_get (ρ := ρ) (A := A) (cA := cA) (mem := mem) ha hs
  have hNF := NFc_of hc
  have hts := C.2.2.2.2.1
  obtain ⟨hck, ⟨ty0, hty⟩, hnm⟩ := CKall hc
  have hv2 : cv A v = fv ρ A (kd ci j) (up2 mem a j z) a (j : Int) := by rw [kd_of hc]; exact hv A
  have hW : WFm ρ nw (up2 mem a j z) := hP.2.put (hwf.imp (fun h => rsl_obj hs (by rw [kd_of hc]; exact h)) (fun h => h))
  have hset := Ws_set (ρ := ρ) (A := A) (cA := cA) (mem := mem) (mem' := up2 mem a j z) (nw := nw) hs (fun b hb => up2_k hb) (cel_put hv2)
  rcases hw with hw | ⟨host, hw⟩
  · refine va_put C.1 C.2.1 hts hck ty0 hty hnm C.2.2.2.1 C.2.2.2.2.2.1 hP.1 hD hS a hcel hc j hj (hts _ hw) (fun x h => h) hfin hds (hn A) (hfit A) (by simp; omega) hd (fun H1 locs1 hP1 hD1 hS1 => ?_)
    rw [hset] at hP1 hD1
    exact kk p l e s m args below meth c D cA A0 A H1 locs1 ls C hA ⟨hP1, hW⟩ hD1 hS1 hl
  · refine va_putN C.1 C.2.1 hts hck ty0 hty hnm C.2.2.2.1 C.2.2.2.2.2.1 hP.1 hD hS a hcel hc j hj (hts _ hw) (fun x h => h) hfin hds (hn A) (hfit A) (by simp; omega) hd (fun H1 locs1 hP1 hD1 hS1 => ?_)
    rw [hset] at hP1 hD1
    exact kk p l e s m args below meth c D cA A0 A H1 locs1 ls C hA ⟨hP1, hW⟩ hD1 hS1 hl
theorem G_putI {idx a ci j : Nat} {z : Int} {mem2 : Mem} (hd : decode μ.cc pc = .ok (.putfield idx, 3)) (hf : FP μ.own idx ci j "I") (ha : a < nw) (hs : SH[a]? = some (.inl ci)) (hm : up2 mem a j z = mem2) (kk : G ρ E μ QQ nw0 (pc + 3) lv st nw k u mem2) : G ρ E μ QQ nw0 pc lv (vi z :: .ref a :: st) nw k u mem := G_putV (ty := .int) hd hf ha hs (by decide +kernel) (fun A => rfl) (fun A => rfl) (fun A => by
  show Value.int (iI z) = Value.int (iI (up2 mem a j z a j))
  rw [up2_same]) (Or.inl (by decide)) hm kk
theorem G_putZ {idx a ci j : Nat} {z : Int} {mem2 : Mem} (hz : z = 0 ∨ z = 1) (hd : decode μ.cc pc = .ok (.putfield idx, 3)) (hf : FP μ.own idx ci j "Z") (ha : a < nw) (hs : SH[a]? = some (.inl ci)) (hm : up2 mem a j z = mem2) (kk : G ρ E μ QQ nw0 (pc + 3) lv st nw k u mem2) : G ρ E μ QQ nw0 pc lv (vi z :: .ref a :: st) nw k u mem := G_putV (ty := .boolean) hd hf ha hs (by decide +kernel) (fun A => by rcases hz with rfl | rfl <;> rfl) (fun A => by rcases hz with rfl | rfl <;> rfl) (fun A => by
  show Value.int (iI z) = Value.int (iI (up2 mem a j z a j))
  rw [up2_same]) (Or.inl (by decide)) hm kk
theorem G_putJ {idx a ci j : Nat} {z : Int} {mem2 : Mem} (hd : decode μ.cc pc = .ok (.putfield idx, 3)) (hf : FP μ.own idx ci j "J") (ha : a < nw) (hs : SH[a]? = some (.inl ci)) (hm : up2 mem a j z = mem2) (kk : G ρ E μ QQ nw0 (pc + 3) lv st nw k u mem2) : G ρ E μ QQ nw0 pc lv (vl z :: .ref a :: st) nw k u mem := G_putV (ty := .long) hd hf ha hs (by decide +kernel) (fun A => rfl) (fun A => rfl) (fun A => by
  show Value.long (iL z) = Value.long (iL (up2 mem a j z a j))
  rw [up2_same]) (Or.inl (by decide)) hm kk
def refTy : FieldType → Bool
  | .object _ => true
  | .array _ => true
  | _ => false
theorem ref_narrow {ty : FieldType} (h : refTy ty = true) (a : Nat) : narrow ty (.ref a) = .ref a ∧ fits ty (.ref a) = true := by
  cases ty <;> first | (cases h; done) | exact ⟨rfl, rfl⟩
theorem G_putD {idx a ci j t : Nat} {ds : String} {ty : FieldType} {mem2 : Mem} (hd : decode μ.cc pc = .ok (.putfield idx, 3)) (hf : FP μ.own idx ci j ds) (hds : parseFieldDescriptor ds = some ty) (hty : refTy ty = true) (hk : kdOf ds = 2) (ha : a < nw) (hs : SH[a]? = some (.inl ci)) (hr : ρ a (j : Int) = none) (ht : t < nw) (hm : up2 mem a j (t : Int) = mem2) (kk : G ρ E μ QQ nw0 (pc + 3) lv st nw k u mem2) : G ρ E μ QQ nw0 pc lv (.ref t :: .ref a :: st) nw k u mem := G_putV hd hf ha hs hds (fun A => (ref_narrow hty (A t)).1) (fun A => (ref_narrow hty (A t)).2) (fun A => by
  rw [hk]
  show Value.ref (A t) = va_rf (rfv ρ A (up2 mem a j (t : Int)) a j)
  unfold rfv
  rw [hr, up2_same]
  simp only [show ¬ ((t : Int) < 0) by omega, if_false, Int.toNat_natCast]
  rfl) (Or.inr (by omega)) hm kk
theorem G_putFV {idx a ci j : Nat} {z : Int} {v : Value} {ds : String} {ty : FieldType} {mem2 : Mem} (hd : decode μ.cc pc = .ok (.putfield idx, 3)) (hf : FPF μ.own idx ci j ds) (hmn : μ.mn = "<init>") (ha : a < nw) (hs : SH[a]? = some (.inl ci)) (hds : parseFieldDescriptor ds = some ty) (hn : ∀ A : Nat → Nat, narrow ty (cv A v) = cv A v) (hfit : ∀ A : Nat → Nat, fits ty (cv A v) = true) (hv : ∀ A : Nat → Nat, cv A v = fv ρ A (kdOf ds) (up2 mem a j z) a (j : Int)) (hwf : kdOf ds ≠ 2 ∨ z < nw) (hm : up2 mem a j z = mem2) (kk : G ρ E μ QQ nw0 (pc + 3) lv st nw k u mem2) : G ρ E μ QQ nw0 pc lv (v :: .ref a :: st) nw k u mem := by
  subst hm
  intro p l e s m args below meth c D cA A0 A H locs ls C hA hP hD hS hl
  obtain ⟨⟨CN, T, N⟩, hc, hj, rfl, hfin, hown, hw⟩ := hf
  have hcel := Ws_get (ρ := ρ) (A := A) (cA := cA) (mem := mem) ha hs
  have hNF := NFc_of hc
  have hts := C.2.2.2.2.1
  obtain ⟨hck, ⟨ty0, hty⟩, hnm⟩ := CKall hc
  have hv2 : cv A v = fv ρ A (kd ci j) (up2 mem a j z) a (j : Int) := by rw [kd_of hc]; exact hv A
  have hW : WFm ρ nw (up2 mem a j z) := hP.2.put (hwf.imp (fun h => rsl_obj hs (by rw [kd_of hc]; exact h)) (fun h => h))
  have hset := Ws_set (ρ := ρ) (A := A) (cA := cA) (mem := mem) (mem' := up2 mem a j z) (nw := nw) hs (fun b hb => up2_k hb) (cel_put hv2)
  refine va_putF C.1 C.2.1 hts hck ty0 hty hnm C.2.2.2.1 C.2.2.2.2.2.1 hP.1 hD hS a hcel hc j hj (hts _ hw) (fun x h => h) hfin (C.2.2.2.2.2.2.2.2.1.trans hmn) hown hds (hn A) (hfit A) (by simp; omega) hd (fun H1 locs1 hP1 hD1 hS1 => ?_)
  rw [hset] at hP1 hD1
  exact kk p l e s m args below meth c D cA A0 A H1 locs1 ls C hA ⟨hP1, hW⟩ hD1 hS1 hl
theorem G_putFI {idx a ci j : Nat} {z : Int} {mem2 : Mem} (hd : decode μ.cc pc = .ok (.putfield idx, 3)) (hf : FPF μ.own idx ci j "I") (hmn : μ.mn = "<init>") (ha : a < nw) (hs : SH[a]? = some (.inl ci)) (hm : up2 mem a j z = mem2) (kk : G ρ E μ QQ nw0 (pc + 3) lv st nw k u mem2) : G ρ E μ QQ nw0 pc lv (vi z :: .ref a :: st) nw k u mem := G_putFV (ty := .int) hd hf hmn ha hs (by decide +kernel) (fun A => rfl) (fun A => rfl) (fun A => by
  show Value.int (iI z) = Value.int (iI (up2 mem a j z a j))
  rw [up2_same]) (Or.inl (by decide)) hm kk
theorem G_putFD {idx a ci j t : Nat} {ds : String} {ty : FieldType} {mem2 : Mem} (hd : decode μ.cc pc = .ok (.putfield idx, 3)) (hf : FPF μ.own idx ci j ds) (hmn : μ.mn = "<init>") (hds : parseFieldDescriptor ds = some ty) (hty : refTy ty = true) (hk : kdOf ds = 2) (ha : a < nw) (hs : SH[a]? = some (.inl ci)) (hr : ρ a (j : Int) = none) (ht : t < nw) (hm : up2 mem a j (t : Int) = mem2) (kk : G ρ E μ QQ nw0 (pc + 3) lv st nw k u mem2) : G ρ E μ QQ nw0 pc lv (.ref t :: .ref a :: st) nw k u mem := G_putFV hd hf hmn ha hs hds (fun A => (ref_narrow hty (A t)).1) (fun A => (ref_narrow hty (A t)).2) (fun A => by
  rw [hk]
  show Value.ref (A t) = va_rf (rfv ρ A (up2 mem a j (t : Int)) a j)
  unfold rfv
  rw [hr, up2_same]
  simp only [show ¬ ((t : Int) < 0) by omega, if_false, Int.toNat_natCast]
  rfl) (Or.inr (by omega)) hm kk
theorem G_iald {a n : Nat} {i z : Int} (hd : decode μ.cc pc = .ok (.iaload, 1)) (ha : a < nw) (hs : SH[a]? = some (.inr (0, n))) (hn : n < 2147483648) (h0 : 0 ≤ i) (h1 : i < n) (hz : mem a i = z) (kk : G ρ E μ QQ nw0 (pc + 1) lv (vi z :: st) nw k u mem) : G ρ E μ QQ nw0 pc lv (vi i :: .ref a :: st) nw k u mem := by
  intro p l e s m args below meth c D cA A0 A H locs ls C hA hP hD hS hl
  refine va_iald C.1 C.2.1 C.2.2.2.2.2.1 hP.1 a 0 (Ws_get ha hs) rfl (iI_in h0 h1 hn) hd ?_
  have h := kk p l e s m args below meth c D cA A0 A H locs ls C hA hP hD hS hl
  rw [iI_clamp h0 (by omega)]
  simp only [Int.toNat_of_nonneg h0, hz]
  exact h
theorem G_zald {a n : Nat} {i z : Int} (hd : decode μ.cc pc = .ok (.baload, 1)) (ha : a < nw) (hs : SH[a]? = some (.inr (1, n))) (hn : n < 2147483648) (h0 : 0 ≤ i) (h1 : i < n) (hz : mem a i = z) (kk : G ρ E μ QQ nw0 (pc + 1) lv (vi z :: st) nw k u mem) : G ρ E μ QQ nw0 pc lv (vi i :: .ref a :: st) nw k u mem := by
  intro p l e s m args below meth c D cA A0 A H locs ls C hA hP hD hS hl
  refine va_zald C.1 C.2.1 C.2.2.2.2.2.1 hP.1 a 1 (Ws_get ha hs) rfl (iI_in h0 h1 hn) hd ?_
  have h := kk p l e s m args below meth c D cA A0 A H locs ls C hA hP hD hS hl
  rw [iI_clamp h0 (by omega)]
  simp only [Int.toNat_of_nonneg h0, hz]
  exact h
theorem G_lald {a n : Nat} {i z : Int} (hd : decode μ.cc pc = .ok (.laload, 1)) (ha : a < nw) (hs : SH[a]? = some (.inr (2, n))) (hn : n < 2147483648) (h0 : 0 ≤ i) (h1 : i < n) (hz : mem a i = z) (kk : G ρ E μ QQ nw0 (pc + 1) lv (vl z :: st) nw k u mem) : G ρ E μ QQ nw0 pc lv (vi i :: .ref a :: st) nw k u mem := by
  intro p l e s m args below meth c D cA A0 A H locs ls C hA hP hD hS hl
  refine va_lald C.1 C.2.1 C.2.2.2.2.2.1 hP.1 a 2 (Ws_get ha hs) rfl (iI_in h0 h1 hn) hd ?_
  have h := kk p l e s m args below meth c D cA A0 A H locs ls C hA hP hD hS hl
  rw [iI_clamp h0 (by omega)]
  simp only [Int.toNat_of_nonneg h0, hz]
  exact h
theorem upd_up2 {mem : Mem} {a : Nat} {i z : Int} (h0 : 0 ≤ i) : upd (fun j => iI (mem a (j : Int))) i.toNat (iI z) = fun j : Nat => iI (up2 mem a i z a (j : Int)) := by
  funext j
  unfold upd up2
  by_cases h : j = i.toNat
  · subst h
    simp [Int.toNat_of_nonneg h0]
  · have : ¬ ((j : Int) = i) := by omega
    simp [h, this]
theorem updL_up2 {mem : Mem} {a : Nat} {i z : Int} (h0 : 0 ≤ i) : vp_updL (fun j => iL (mem a (j : Int))) i.toNat (iL z) = fun j : Nat => iL (up2 mem a i z a (j : Int)) := by
  funext j
  unfold vp_updL up2
  by_cases h : j = i.toNat
  · subst h
    simp [Int.toNat_of_nonneg h0]
  · have : ¬ ((j : Int) = i) := by omega
    simp [h, this]
theorem G_iast {a n : Nat} {i z : Int} {mem2 : Mem} (hd : decode μ.cc pc = .ok (.iastore, 1)) (ha : a < nw) (hs : SH[a]? = some (.inr (0, n))) (hn : n < 2147483648) (h0 : 0 ≤ i) (h1 : i < n) (hm : up2 mem a i z = mem2) (kk : G ρ E μ QQ nw0 (pc + 1) lv st nw k u mem2) : G ρ E μ QQ nw0 pc lv (vi z :: vi i :: .ref a :: st) nw k u mem := by
  intro p l e s m args below meth c D cA A0 A H locs ls C hA hP hD hS hl
  subst hm
  refine va_iast C.1 C.2.1 C.2.2.2.2.2.1 hP.1 hD hS a 0 (Ws_get ha hs) rfl (iI_in h0 h1 hn) hd (fun H1 locs1 hP1 hD1 hS1 => ?_)
  rw [iI_clamp h0 (by omega), upd_up2 h0, Ws_set (x := Sum.inl (cA 0, n, .inl fun j : Nat => iI (up2 mem a i z a (j : Int)))) (mem' := up2 mem a i z) hs (fun b hb => up2_k hb) rfl] at hP1 hD1
  exact kk p l e s m args below meth c D cA A0 A H1 locs1 ls C hA ⟨hP1, hP.2.put (Or.inl (rsl_arr hs (by omega)))⟩ hD1 hS1 hl
theorem G_last {a n : Nat} {i z : Int} {mem2 : Mem} (hd : decode μ.cc pc = .ok (.lastore, 1)) (ha : a < nw) (hs : SH[a]? = some (.inr (2, n))) (hn : n < 2147483648) (h0 : 0 ≤ i) (h1 : i < n) (hm : up2 mem a i z = mem2) (kk : G ρ E μ QQ nw0 (pc + 1) lv st nw k u mem2) : G ρ E μ QQ nw0 pc lv (vl z :: vi i :: .ref a :: st) nw k u mem := by
  intro p l e s m args below meth c D cA A0 A H locs ls C hA hP hD hS hl
  subst hm
  refine va_last C.1 C.2.1 C.2.2.2.2.2.1 hP.1 hD hS a 2 (Ws_get ha hs) rfl (iI_in h0 h1 hn) hd (fun H1 locs1 hP1 hD1 hS1 => ?_)
  rw [iI_clamp h0 (by omega), updL_up2 h0, Ws_set (x := Sum.inl (cA 2, n, .inr (.inl fun j : Nat => iL (up2 mem a i z a (j : Int))))) (mem' := up2 mem a i z) hs (fun b hb => up2_k hb) rfl] at hP1 hD1
  exact kk p l e s m args below meth c D cA A0 A H1 locs1 ls C hA ⟨hP1, hP.2.put (Or.inl (rsl_arr hs (by omega)))⟩ hD1 hS1 hl
theorem nar_z {z : Int} (hz : z = 0 ∨ z = 1) : vp_nar .boolean (iI z) = iI z := by rcases hz with rfl | rfl <;> rfl
theorem G_zast {a n : Nat} {i z : Int} {mem2 : Mem} (hz : z = 0 ∨ z = 1) (hd : decode μ.cc pc = .ok (.bastore, 1)) (ha : a < nw) (hs : SH[a]? = some (.inr (1, n))) (hn : n < 2147483648) (h0 : 0 ≤ i) (h1 : i < n) (hm : up2 mem a i z = mem2) (kk : G ρ E μ QQ nw0 (pc + 1) lv st nw k u mem2) : G ρ E μ QQ nw0 pc lv (vi z :: vi i :: .ref a :: st) nw k u mem := by
  intro p l e s m args below meth c D cA A0 A H locs ls C hA hP hD hS hl
  subst hm
  refine va_zast C.1 C.2.1 C.2.2.2.2.2.1 hP.1 hD hS a 1 (Ws_get ha hs) rfl (iI_in h0 h1 hn) hd (fun H1 locs1 hP1 hD1 hS1 => ?_)
  rw [iI_clamp h0 (by omega), nar_z hz, upd_up2 h0, Ws_set (x := Sum.inl (cA 1, n, .inl fun j : Nat => iI (up2 mem a i z a (j : Int)))) (mem' := up2 mem a i z) hs (fun b hb => up2_k hb) rfl] at hP1 hD1
  exact kk p l e s m args below meth c D cA A0 A H1 locs1 ls C hA ⟨hP1, hP.2.put (Or.inl (rsl_arr hs (by omega)))⟩ hD1 hS1 hl
theorem G_alen {a n t : Nat} {z : Int} (hd : decode μ.cc pc = .ok (.arraylength, 1)) (ha : a < nw) (hs : SH[a]? = some (.inr (t, n))) (ht : t < 6) (hz : (n : Int) = z) (kk : G ρ E μ QQ nw0 (pc + 1) lv (vi z :: st) nw k u mem) : G ρ E μ QQ nw0 pc lv (.ref a :: st) nw k u mem := by
  intro p l e s m args below meth c D cA A0 A H locs ls C hA hP hD hS hl
  subst hz
  have h := kk p l e s m args below meth c D cA A0 A H locs ls C hA hP hD hS hl
  match t, ht, hs with
  | 0, _, hs => exact va_alen C.1 C.2.1 C.2.2.2.2.2.1 hP.1 a 0 (Ws_get ha hs) rfl (show Int32.ofNat n = iI (n : Int) from rfl) hd h
  | 1, _, hs => exact va_alen C.1 C.2.1 C.2.2.2.2.2.1 hP.1 a 1 (Ws_get ha hs) rfl (show Int32.ofNat n = iI (n : Int) from rfl) hd h
  | 2, _, hs => exact va_alen C.1 C.2.1 C.2.2.2.2.2.1 hP.1 a 2 (Ws_get ha hs) rfl (show Int32.ofNat n = iI (n : Int) from rfl) hd h
  | 3, _, hs => exact va_alen C.1 C.2.1 C.2.2.2.2.2.1 hP.1 a 3 (Ws_get ha hs) rfl (show Int32.ofNat n = iI (n : Int) from rfl) hd h
  | 4, _, hs => exact va_alen C.1 C.2.1 C.2.2.2.2.2.1 hP.1 a 4 (Ws_get ha hs) rfl (show Int32.ofNat n = iI (n : Int) from rfl) hd h
  | 5, _, hs => exact va_alen C.1 C.2.1 C.2.2.2.2.2.1 hP.1 a 5 (Ws_get ha hs) rfl (show Int32.ofNat n = iI (n : Int) from rfl) hd h
  | n + 6, ht, _ => omega
theorem rfv_s {ρ : Rho} {A : Nat → Nat} {mem : Mem} {a t : Nat} {i : Int} (h : ρ a i = some t) : rfv ρ A mem a i = some (A t) := by unfold rfv; rw [h]
theorem rfv_d {ρ : Rho} {A : Nat → Nat} {mem : Mem} {a t : Nat} {i : Int} (h : ρ a i = none) (hz : mem a i = (t : Int)) : rfv ρ A mem a i = some (A t) := by
  unfold rfv
  rw [h, hz]
  simp only [show ¬ ((t : Int) < 0) by omega, if_false, Int.toNat_natCast]
theorem G_aald3S {a n t : Nat} {i : Int} (hd : decode μ.cc pc = .ok (.aaload, 1)) (ha : a < nw) (hs : SH[a]? = some (.inr (3, n))) (hn : n < 2147483648) (h0 : 0 ≤ i) (h1 : i < n) (hr : ρ a i = some t) (kk : G ρ E μ QQ nw0 (pc + 1) lv (.ref t :: st) nw k u mem) : G ρ E μ QQ nw0 pc lv (vi i :: .ref a :: st) nw k u mem := by
  intro p l e s m args below meth c D cA A0 A H locs ls C hA hP hD hS hl
  refine va_aldq C.1 C.2.1 C.2.2.2.2.2.1 hP.1 a 3 (Ws_get ha hs) rfl (iI_in h0 h1 hn) hd ?_
  have h := kk p l e s m args below meth c D cA A0 A H locs ls C hA hP hD hS hl
  rw [iI_clamp h0 (by omega)]
  simp only [Int.toNat_of_nonneg h0]
  rw [rfv_s hr]
  exact h
theorem G_aald3D {a n t : Nat} {i : Int} (hd : decode μ.cc pc = .ok (.aaload, 1)) (ha : a < nw) (hs : SH[a]? = some (.inr (3, n))) (hn : n < 2147483648) (h0 : 0 ≤ i) (h1 : i < n) (hr : ρ a i = none) (hz : mem a i = (t : Int)) (kk : G ρ E μ QQ nw0 (pc + 1) lv (.ref t :: st) nw k u mem) : G ρ E μ QQ nw0 pc lv (vi i :: .ref a :: st) nw k u mem := by
  intro p l e s m args below meth c D cA A0 A H locs ls C hA hP hD hS hl
  refine va_aldq C.1 C.2.1 C.2.2.2.2.2.1 hP.1 a 3 (Ws_get ha hs) rfl (iI_in h0 h1 hn) hd ?_
  have h := kk p l e s m args below meth c D cA A0 A H locs ls C hA hP hD hS hl
  rw [iI_clamp h0 (by omega)]
  simp only [Int.toNat_of_nonneg h0]
  rw [rfv_d hr hz]
  exact h
theorem updq_up2 {ρ : Rho} {A : Nat → Nat} {mem : Mem} {a v : Nat} {i : Int} (h0 : 0 ≤ i) (hr : ρ a i = none) : va_up (fun j : Nat => rfv ρ A mem a (j : Int)) i.toNat (some (A v)) = fun j : Nat => rfv ρ A (up2 mem a i (v : Int)) a (j : Int) := by
  funext j
  unfold va_up
  by_cases h : j = i.toNat
  · subst h
    simp only [if_true, Int.toNat_of_nonneg h0]
    exact (rfv_d hr (up2_same _ _ _ _)).symm
  · have h2 : (j : Int) ≠ i := by omega
    simp only [h, if_false]
    unfold rfv
    rw [up2_j h2]
theorem G_aast3 {a n v : Nat} {i : Int} {mem2 : Mem} (hd : decode μ.cc pc = .ok (.aastore, 1)) (ha : a < nw) (hs : SH[a]? = some (.inr (3, n))) (hv : v < nw) (hsv : SH[v]? = some (.inl 8)) (hn : n < 2147483648) (h0 : 0 ≤ i) (h1 : i < n) (hr : ρ a i = none) (hm : up2 mem a i (v : Int) = mem2) (kk : G ρ E μ QQ nw0 (pc + 1) lv st nw k u mem2) : G ρ E μ QQ nw0 pc lv (.ref v :: vi i :: .ref a :: st) nw k u mem := by
  intro p l e s m args below meth c D cA A0 A H locs ls C hA hP hD hS hl
  subst hm
  refine va_astq (r := (RX8, TX8, 9)) C.1 C.2.1 C.2.2.2.2.2.1 hP.1 hD hS a 3 v 8 (Ws_get ha hs) rfl (Ws_get hv hsv) rfl (iI_in h0 h1 hn) hd (fun H1 locs1 hP1 hD1 hS1 => ?_)
  rw [iI_clamp h0 (by omega), updq_up2 h0 hr, Ws_set (x := Sum.inl (cA 3, n, .inr (.inr (.inr (.inr fun j : Nat => rfv ρ A (up2 mem a i (v : Int)) a (j : Int)))))) (mem' := up2 mem a i (v : Int)) hs (fun b hb => up2_k hb) rfl] at hP1 hD1
  exact kk p l e s m args below meth c D cA A0 A H1 locs1 ls C hA ⟨hP1, hP.2.put (Or.inr (by omega))⟩ hD1 hS1 hl
theorem G_aald4S {a n t : Nat} {i : Int} (hd : decode μ.cc pc = .ok (.aaload, 1)) (ha : a < nw) (hs : SH[a]? = some (.inr (4, n))) (hn : n < 2147483648) (h0 : 0 ≤ i) (h1 : i < n) (hr : ρ a i = some t) (kk : G ρ E μ QQ nw0 (pc + 1) lv (.ref t :: st) nw k u mem) : G ρ E μ QQ nw0 pc lv (vi i :: .ref a :: st) nw k u mem := by
  intro p l e s m args below meth c D cA A0 A H locs ls C hA hP hD hS hl
  refine va_aldq C.1 C.2.1 C.2.2.2.2.2.1 hP.1 a 4 (Ws_get ha hs) rfl (iI_in h0 h1 hn) hd ?_
  have h := kk p l e s m args below meth c D cA A0 A H locs ls C hA hP hD hS hl
  rw [iI_clamp h0 (by omega)]
  simp only [Int.toNat_of_nonneg h0]
  rw [rfv_s hr]
  exact h
theorem G_aald4D {a n t : Nat} {i : Int} (hd : decode μ.cc pc = .ok (.aaload, 1)) (ha : a < nw) (hs : SH[a]? = some (.inr (4, n))) (hn : n < 2147483648) (h0 : 0 ≤ i) (h1 : i < n) (hr : ρ a i = none) (hz : mem a i = (t : Int)) (kk : G ρ E μ QQ nw0 (pc + 1) lv (.ref t :: st) nw k u mem) : G ρ E μ QQ nw0 pc lv (vi i :: .ref a :: st) nw k u mem := by
  intro p l e s m args below meth c D cA A0 A H locs ls C hA hP hD hS hl
  refine va_aldq C.1 C.2.1 C.2.2.2.2.2.1 hP.1 a 4 (Ws_get ha hs) rfl (iI_in h0 h1 hn) hd ?_
  have h := kk p l e s m args below meth c D cA A0 A H locs ls C hA hP hD hS hl
  rw [iI_clamp h0 (by omega)]
  simp only [Int.toNat_of_nonneg h0]
  rw [rfv_d hr hz]
  exact h
theorem G_aast4 {a n v : Nat} {i : Int} {mem2 : Mem} (hd : decode μ.cc pc = .ok (.aastore, 1)) (ha : a < nw) (hs : SH[a]? = some (.inr (4, n))) (hv : v < nw) (hsv : SH[v]? = some (.inl 7)) (hn : n < 2147483648) (h0 : 0 ≤ i) (h1 : i < n) (hr : ρ a i = none) (hm : up2 mem a i (v : Int) = mem2) (kk : G ρ E μ QQ nw0 (pc + 1) lv st nw k u mem2) : G ρ E μ QQ nw0 pc lv (.ref v :: vi i :: .ref a :: st) nw k u mem := by
  intro p l e s m args below meth c D cA A0 A H locs ls C hA hP hD hS hl
  subst hm
  refine va_astq (r := (RX7, TX7, 6)) C.1 C.2.1 C.2.2.2.2.2.1 hP.1 hD hS a 4 v 7 (Ws_get ha hs) rfl (Ws_get hv hsv) rfl (iI_in h0 h1 hn) hd (fun H1 locs1 hP1 hD1 hS1 => ?_)
  rw [iI_clamp h0 (by omega), updq_up2 h0 hr, Ws_set (x := Sum.inl (cA 4, n, .inr (.inr (.inr (.inr fun j : Nat => rfv ρ A (up2 mem a i (v : Int)) a (j : Int)))))) (mem' := up2 mem a i (v : Int)) hs (fun b hb => up2_k hb) rfl] at hP1 hD1
  exact kk p l e s m args below meth c D cA A0 A H1 locs1 ls C hA ⟨hP1, hP.2.put (Or.inr (by omega))⟩ hD1 hS1 hl
theorem G_aald5S {a n t : Nat} {i : Int} (hd : decode μ.cc pc = .ok (.aaload, 1)) (ha : a < nw) (hs : SH[a]? = some (.inr (5, n))) (hn : n < 2147483648) (h0 : 0 ≤ i) (h1 : i < n) (hr : ρ a i = some t) (kk : G ρ E μ QQ nw0 (pc + 1) lv (.ref t :: st) nw k u mem) : G ρ E μ QQ nw0 pc lv (vi i :: .ref a :: st) nw k u mem := by
  intro p l e s m args below meth c D cA A0 A H locs ls C hA hP hD hS hl
  refine va_aldq C.1 C.2.1 C.2.2.2.2.2.1 hP.1 a 5 (Ws_get ha hs) rfl (iI_in h0 h1 hn) hd ?_
  have h := kk p l e s m args below meth c D cA A0 A H locs ls C hA hP hD hS hl
  rw [iI_clamp h0 (by omega)]
  simp only [Int.toNat_of_nonneg h0]
  rw [rfv_s hr]
  exact h
theorem G_aald5D {a n t : Nat} {i : Int} (hd : decode μ.cc pc = .ok (.aaload, 1)) (ha : a < nw) (hs : SH[a]? = some (.inr (5, n))) (hn : n < 2147483648) (h0 : 0 ≤ i) (h1 : i < n) (hr : ρ a i = none) (hz : mem a i = (t : Int)) (kk : G ρ E μ QQ nw0 (pc + 1) lv (.ref t :: st) nw k u mem) : G ρ E μ QQ nw0 pc lv (vi i :: .ref a :: st) nw k u mem := by
  intro p l e s m args below meth c D cA A0 A H locs ls C hA hP hD hS hl
  refine va_aldq C.1 C.2.1 C.2.2.2.2.2.1 hP.1 a 5 (Ws_get ha hs) rfl (iI_in h0 h1 hn) hd ?_
  have h := kk p l e s m args below meth c D cA A0 A H locs ls C hA hP hD hS hl
  rw [iI_clamp h0 (by omega)]
  simp only [Int.toNat_of_nonneg h0]
  rw [rfv_d hr hz]
  exact h
theorem G_aast5 {a n v : Nat} {i : Int} {mem2 : Mem} (hd : decode μ.cc pc = .ok (.aastore, 1)) (ha : a < nw) (hs : SH[a]? = some (.inr (5, n))) (hv : v < nw) (hsv : SH[v]? = some (.inl 2)) (hn : n < 2147483648) (h0 : 0 ≤ i) (h1 : i < n) (hr : ρ a i = none) (hm : up2 mem a i (v : Int) = mem2) (kk : G ρ E μ QQ nw0 (pc + 1) lv st nw k u mem2) : G ρ E μ QQ nw0 pc lv (.ref v :: vi i :: .ref a :: st) nw k u mem := by
  intro p l e s m args below meth c D cA A0 A H locs ls C hA hP hD hS hl
  subst hm
  refine va_astq (r := (RX2, TX2, 19)) C.1 C.2.1 C.2.2.2.2.2.1 hP.1 hD hS a 5 v 2 (Ws_get ha hs) rfl (Ws_get hv hsv) rfl (iI_in h0 h1 hn) hd (fun H1 locs1 hP1 hD1 hS1 => ?_)
  rw [iI_clamp h0 (by omega), updq_up2 h0 hr, Ws_set (x := Sum.inl (cA 5, n, .inr (.inr (.inr (.inr fun j : Nat => rfv ρ A (up2 mem a i (v : Int)) a (j : Int)))))) (mem' := up2 mem a i (v : Int)) hs (fun b hb => up2_k hb) rfl] at hP1 hD1
  exact kk p l e s m args below meth c D cA A0 A H1 locs1 ls C hA ⟨hP1, hP.2.put (Or.inr (by omega))⟩ hD1 hS1 hl
end GM
