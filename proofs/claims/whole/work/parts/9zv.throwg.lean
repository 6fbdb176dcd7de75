/-! throwing, in the judgement -/
def NSE : String := "java/util/NoSuchElementException"
def nseN : List String := ["java/lang/RuntimeException", "java/lang/Exception"]
abbrev rxN : ByteArray := prog_31_method_4_code
theorem rxN0 : decode rxN 0 = .ok (.aload_n 0, 1) := by decide +kernel
theorem rxN1 : decode rxN 1 = .ok (.aload_n 1, 1) := by decide +kernel
theorem rxN2 : decode rxN 2 = .ok (.invokespecial 13, 3) := by decide +kernel
theorem rxN5 : decode rxN 5 = .ok (.return_, 1) := by decide +kernel
theorem nse_fit : Bundle.fit NSE = true := by decide +kernel
theorem nse_fits : ∀ n ∈ nseN, Bundle.fit n = true := by decide +kernel
def nseL : List Cond := Cond.classLink RX11 137 NSE :: Cond.initialized NSE :: (vz_words RX11 141 NSE 13 rxN "java/lang/RuntimeException" ["java/lang/Exception"]).filter vx_no
theorem nse_ot : ∀ w ∈ nseL, vx_ot w = true := by decide +kernel
def nseB : List Cond := [.castable NSE NSE, .declares (Bundle.initS "java/lang/RuntimeException"), .declares (Bundle.initS "java/lang/Exception"), .declares (Bundle.initS "java/lang/Throwable")]
theorem nse_bad : ∀ w ∈ nseL, goodN w = false → w ∈ nseB := by decide +kernel
theorem nse_T : ∀ w ∈ nseL, w ∈ lw_tbl := by decide +kernel
def NW (U : State) : Prop := ∀ w ∈ nseB, va_Nw w U
theorem nse_on : ∀ w ∈ nseB, w.onTables = true := by decide +kernel
theorem NW.warm {s U : State} (hW : s.WarmedH U.vm) (h : NW s) : NW U := by
  intro w hw
  have h0 := h w hw
  simp only [nseB, List.mem_cons, List.not_mem_nil, or_false] at hw
  rcases hw with rfl | rfl | rfl | rfl
  · exact va_Nw.warmC hW h0
  · exact va_Nw.warmD hW h0
  · exact va_Nw.warmD hW h0
  · exact va_Nw.warmD hW h0
theorem NW.same {s U : State} (e : s.vm = U.vm) (h : NW s) : NW U := fun w hw => va_Nw.same (nse_on w hw) e (h w hw)
theorem nse_at {args : Array Value} {s : State} (h : ∀ w ∈ T0, w.before args s = true) (n : NW s) : ∀ w ∈ nseL, w.before args s = true := by
  intro w hw
  by_cases g : goodN w = true
  · exact h w (T0_ofN (nse_T w hw) g)
  · have g := nse_bad w hw (by simpa using g)
    exact va_Nw.use (nse_on w g) (n w g)
