-- ===== YOUR PART BEGINS =====
/-- YOUR PART: from the entry, for every script of at most 2560 ints, the law comes to its end with true ('hflags': the launch's flags, for a law that throws: no stack traces) -/
theorem whole_start {p : Program} {e : Env} {s : State} {m : MethodId} {below : List Frame} {meth : Method} {c : Code} (l : Launch) (hflags : l.flags = flags0) {b L : Nat} {xs : Nat → Int32} (hL : L ≤ 2560) (C0 : lw_At p s m meth c b L xs) : W p l e room_1 s m #[Value.ref b] below meth c s.heap [] 0 0 (lw_Z below #[Value.ref b] s) (entryFrame m ([Value.ref b] : List Value).toArray 8) := by
  obtain ⟨hx, hb, hr, hml, hown, hts, hX, hbl, hlk, hgv⟩ := C0
  have hs : ∀ c ∈ NL, c.before #[Value.ref b] s = true := flat_of_before _ hgv
  obtain ⟨D, hD⟩ := cls_of hts
  obtain ⟨cA, hcA⟩ := cA_of hts
  obtain ⟨A0, hA0, hEv⟩ := ev_of hL hts hs hX hbl
  have hst : l.stackTraces = false := by
    unfold Launch.stackTraces
    rw [hflags]
    decide +kernel
  have hnw : NW s := fun w hw => va_Nw.of (nse_on w hw) (hts w (nse_tbl w hw))
  have hC : GC (L, xs) (mL meth.name) 0 p s m #[Value.ref b] meth c D cA A0 := ⟨hx, hb, hml, hown, fun w hw => hts w (List.mem_filter.mp hw).1, ⟨hD, hcA⟩, hr, hlk, rfl, hEv.narrow (fun q hq => hq.elim (fun ⟨k, hk, _⟩ => absurd hk (Nat.not_lt_zero k)) id)⟩
  have h := law_entry (E := (L, xs)) (tb := c.exceptionTable.toList) (nm := meth.name) (mem := fun _ _ => 0) (by show ((L : Nat) : Int) ≤ 2560; omega)
  have hl := lv_entry ([Value.ref 1000].map (cv A0)) (n := 8) (by rw [lvE_len]; exact Nat.le_of_ble_eq_true rfl)
  have ea : ([Value.ref b] : List Value) = [Value.ref 1000].map (cv A0) := by rw [← hA0]; rfl
  rw [ea]
  rw [ea] at hC
  rw [lg_entry_eq]
  generalize (lg_sl ([Value.ref 1000].map (cv A0)) ++ List.replicate (8 - (lg_sl ([Value.ref 1000].map (cv A0))).length) Slot.unset).toArray = ls at hl ⊢
  have hl2 : lv_has ls 8 (lvs A0 [.ref 1000, un, un, un, un, un, un, un]) := hl.mono (fun q hq => by
    obtain ⟨i, w⟩ := q
    obtain ⟨v, h1, h2, rfl⟩ := mem_lvs.mp hq
    match i, h1 with
    | 0, h1 =>
      have := lvE_in A0 [Value.ref 1000] 0 0 v h1 h2
      rwa [Nat.zero_add] at this
    | 1, h1 => cases h1; cases h2
    | 2, h1 => cases h1; cases h2
    | 3, h1 => cases h1; cases h2
    | 4, h1 => cases h1; cases h2
    | 5, h1 => cases h1; cases h2
    | 6, h1 => cases h1; cases h2
    | 7, h1 => cases h1; cases h2
    | n + 8, h1 => simp at h1)
  intro T hT X
  have hF : Fx c.exceptionTable.toList l s := ⟨hst, hnw, TbOK.of X.frames X.method X.code rfl⟩
  have g := h p l e s m _ below meth c D cA A0 A0 s.heap [] ls hC (fun k _ => rfl) ⟨fun k q hq => (by cases hq), fun k j hk => absurd hk (Nat.not_lt_zero k)⟩ ⟨fun i j x y hx => (by cases hx), fun k q hq => (by cases hq)⟩ va_S.rf hl2
  exact W_u hF g T hT X
