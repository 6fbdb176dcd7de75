/-! the rule's text: what it tells -/
abbrev VF : Type := (Int → Int) → Int
abbrev PRes : Type := Option VF × Int
def ltr (c : Int) : Int := if c = 119 then 0 else if c = 98 then 1 else if c = 115 then 2 else if c = 117 then 3 else if c = 109 then 4 else if c = 114 then 5 else if c = 99 then 6 else if c = 116 then 7 else -1
def opR (r c : Int) : Int := if r = 0 then (if c = 60 then 0 else if c = 62 then 1 else if c = 61 then 2 else -1) else if r = 1 then (if c = 43 then 3 else if c = 45 then 4 else -1) else (if c = 42 then 5 else if c = 47 then 6 else -1)
theorem opR_0 {c : Int} : opR 0 c = if c = 60 then 0 else if c = 62 then 1 else if c = 61 then 2 else -1 := if_pos rfl
theorem opR_1 {c : Int} : opR 1 c = if c = 43 then 3 else if c = 45 then 4 else -1 := by unfold opR; rw [if_neg (by decide), if_pos rfl]
theorem opR_2 {c : Int} : opR 2 c = if c = 42 then 5 else if c = 47 then 6 else -1 := by unfold opR; rw [if_neg (by decide), if_neg (by decide)]
theorem opR_sgn {r c : Int} (hr : r = 0 ∨ r = 1 ∨ r = 2) (h : 0 ≤ opR r c) : opR r c ≤ 6 ∧ sgn (opR r c) = c := by
  rcases hr with rfl | rfl | rfl
  · rw [opR_0] at h ⊢
    by_cases c1 : c = 60
    · rw [if_pos c1, c1]; decide
    · by_cases c2 : c = 62
      · rw [if_neg c1, if_pos c2, c2]; decide
      · by_cases c3 : c = 61
        · rw [if_neg c1, if_neg c2, if_pos c3, c3]; decide
        · rw [if_neg c1, if_neg c2, if_neg c3] at h; omega
  · rw [opR_1] at h ⊢
    by_cases c1 : c = 43
    · rw [if_pos c1, c1]; decide
    · by_cases c2 : c = 45
      · rw [if_neg c1, if_pos c2, c2]; decide
      · rw [if_neg c1, if_neg c2] at h; omega
  · rw [opR_2] at h ⊢
    by_cases c1 : c = 42
    · rw [if_pos c1, c1]; decide
    · by_cases c2 : c = 47
      · rw [if_neg c1, if_pos c2, c2]; decide
      · rw [if_neg c1, if_neg c2] at h; omega
theorem opR_end {r : Int} (hr : r = 0 ∨ r = 1 ∨ r = 2) : opR r (-1) = -1 := by rcases hr with rfl | rfl | rfl <;> decide
def negF (v : VF) : VF := fun f => wI (-(v f))
def thB (lk : Int → Int) (cm : Option (Int → PRes)) (p : Int) : PRes :=
  if 0 ≤ (num lk 3 p).1 then (some (fun _ => (num lk 3 p).1), (num lk 3 p).2)
  else if 0 ≤ ltr (lk p) then (some (fun f => f (ltr (lk p))), p + 1)
  else match cm with
    | none => (none, p)
    | some g => if lk p = 40 then (match g (p + 1) with
      | (none, q) => (none, q)
      | (some v, q) => if lk q = 41 then (some v, q + 1) else (none, q)) else (none, p)
def thG (lk : Int → Int) (cm : Option (Int → PRes)) : Nat → Int → PRes
  | 0, p => (none, p)
  | n + 1, p => if lk p = 45 then (match thG lk cm n (p + 1) with
    | (none, q) => (none, q)
    | (some v, q) => (some (negF v), q)) else thB lk cm p
def tailG (lk : Int → Int) (r : Int) (sub : Int → PRes) : Nat → VF → Int → PRes
  | 0, v, q => (some v, q)
  | n + 1, v, q => if 0 ≤ opR r (lk q) then (match sub (q + 1) with
    | (none, q2) => (none, q2)
    | (some w, q2) => tailG lk r sub n (fun f => opv (opR r (lk q)) (v f) (w f)) q2) else (some v, q)
def bindT (lk : Int → Int) (r : Int) (sub : Int → PRes) (n : Nat) (p : Int) : PRes := match sub p with
  | (none, q) => (none, q)
  | (some v, q) => tailG lk r sub n v q
def prG (lk : Int → Int) (th : Int → PRes) : Int → PRes := bindT lk 2 th 41
def suG (lk : Int → Int) (th : Int → PRes) : Int → PRes := bindT lk 1 (prG lk th) 41
def cmG (lk : Int → Int) (th : Int → PRes) : Int → PRes := bindT lk 0 (suG lk th) 1
def cmL (lk : Int → Int) : Nat → Int → PRes
  | 0 => cmG lk (thG lk none 41)
  | j + 1 => cmG lk (thG lk (some (cmL lk j)) 41)
def cmO (lk : Int → Int) : Nat → Option (Int → PRes)
  | 0 => none
  | j + 1 => some (cmL lk j)
theorem cmL_eq {lk : Int → Int} : ∀ j : Nat, cmL lk j = cmG lk (thG lk (cmO lk j) 41)
  | 0 => rfl
  | _ + 1 => rfl
theorem thG_neg {lk : Int → Int} {cm : Option (Int → PRes)} {n : Nat} {p : Int} (h : lk p = 45) : thG lk cm (n + 1) p = match thG lk cm n (p + 1) with
    | (none, q) => (none, q)
    | (some v, q) => (some (negF v), q) := by rw [thG, if_pos h]
theorem thG_b {lk : Int → Int} {cm : Option (Int → PRes)} {n : Nat} {p : Int} (h : lk p ≠ 45) : thG lk cm (n + 1) p = thB lk cm p := by rw [thG, if_neg h]
theorem bind_no {lk : Int → Int} {r : Int} {sub : Int → PRes} {n : Nat} {p q : Int} (h : sub p = (none, q)) : bindT lk r sub n p = (none, q) := by unfold bindT; rw [h]
theorem bind_so {lk : Int → Int} {r : Int} {sub : Int → PRes} {n : Nat} {p q : Int} {v : VF} (h : sub p = (some v, q)) : bindT lk r sub n p = tailG lk r sub n v q := by unfold bindT; rw [h]
theorem tail_no {lk : Int → Int} {r : Int} {sub : Int → PRes} {n : Nat} {q q2 : Int} {v : VF} (h : 0 ≤ opR r (lk q)) (g : sub (q + 1) = (none, q2)) : tailG lk r sub (n + 1) v q = (none, q2) := by rw [tailG, if_pos h, g]
theorem tail_so {lk : Int → Int} {r : Int} {sub : Int → PRes} {n : Nat} {q q2 : Int} {v w : VF} (h : 0 ≤ opR r (lk q)) (g : sub (q + 1) = (some w, q2)) : tailG lk r sub (n + 1) v q = tailG lk r sub n (fun f => opv (opR r (lk q)) (v f) (w f)) q2 := by rw [tailG, if_pos h, g]
theorem tail_end {lk : Int → Int} {r : Int} {sub : Int → PRes} {n : Nat} {q : Int} {v : VF} (h : ¬ 0 ≤ opR r (lk q)) : tailG lk r sub n v q = (some v, q) := by
  cases n with
  | zero => rfl
  | succ n => rw [tailG, if_neg h]
theorem thB_num {lk : Int → Int} {cm : Option (Int → PRes)} {p : Int} (h : 0 ≤ (num lk 3 p).1) : thB lk cm p = (some (fun _ => (num lk 3 p).1), (num lk 3 p).2) := if_pos h
theorem thB_let {lk : Int → Int} {cm : Option (Int → PRes)} {p : Int} (h : ¬ 0 ≤ (num lk 3 p).1) (g : 0 ≤ ltr (lk p)) : thB lk cm p = (some (fun f => f (ltr (lk p))), p + 1) := by unfold thB; rw [if_neg h, if_pos g]
theorem thB_not {lk : Int → Int} {cm : Option (Int → PRes)} {p : Int} (h : ¬ 0 ≤ (num lk 3 p).1) (g : ¬ 0 ≤ ltr (lk p)) (k : lk p ≠ 40 ∨ cm = none) : thB lk cm p = (none, p) := by
  unfold thB
  rw [if_neg h, if_neg g]
  cases cm with
  | none => rfl
  | some g =>
    rcases k with k | k
    · show (if lk p = 40 then _ else (none, p)) = (none, p)
      rw [if_neg k]
    · cases k
theorem thB_par {lk : Int → Int} {g : Int → PRes} {p : Int} (h : lk p = 40) : thB lk (some g) p = match g (p + 1) with
      | (none, q) => (none, q)
      | (some v, q) => if lk q = 41 then (some v, q + 1) else (none, q) := by
  have n1 : ¬ 0 ≤ (num lk 3 p).1 := by
    unfold num
    rw [if_neg (by omega)]
    exact (by decide : ¬ (0 : Int) ≤ -1)
  have n2 : ¬ 0 ≤ ltr (lk p) := by rw [h]; decide
  unfold thB
  rw [if_neg n1, if_neg n2]
  show (if lk p = 40 then _ else (none, p)) = _
  rw [if_pos h]
theorem sIx_eq {i : Nat} {c z : Int} {g : Int → Int} (h : sIx i c z) (hg : ∀ q : Nat, q < sLen i → g (sAt i q) = q) (hn : (∀ j : Nat, j < sLen i → sAt i j ≠ c) → g c = -1) : z = g c := by
  rcases h with ⟨q, ez, hq, hc, -⟩ | ⟨ez, hz⟩
  · rw [ez, ← hc, hg q hq]
  · rw [ez, hn hz]
theorem six0 {c z : Int} (h : sIx 0 c z) : z = ltr c := by
  refine sIx_eq h (by decide +kernel) (fun hn => ?_)
  have e : sLen 0 = 8 := by decide
  have h0 := hn 0 (by rw [e]; decide)
  have h1 := hn 1 (by rw [e]; decide)
  have h2 := hn 2 (by rw [e]; decide)
  have h3 := hn 3 (by rw [e]; decide)
  have h4 := hn 4 (by rw [e]; decide)
  have h5 := hn 5 (by rw [e]; decide)
  have h6 := hn 6 (by rw [e]; decide)
  have h7 := hn 7 (by rw [e]; decide)
  rw [show sAt 0 0 = 119 by decide] at h0
  rw [show sAt 0 1 = 98 by decide] at h1
  rw [show sAt 0 2 = 115 by decide] at h2
  rw [show sAt 0 3 = 117 by decide] at h3
  rw [show sAt 0 4 = 109 by decide] at h4
  rw [show sAt 0 5 = 114 by decide] at h5
  rw [show sAt 0 6 = 99 by decide] at h6
  rw [show sAt 0 7 = 116 by decide] at h7
  unfold ltr
  rw [if_neg (fun o => h0 o.symm), if_neg (fun o => h1 o.symm), if_neg (fun o => h2 o.symm), if_neg (fun o => h3 o.symm), if_neg (fun o => h4 o.symm), if_neg (fun o => h5 o.symm), if_neg (fun o => h6 o.symm), if_neg (fun o => h7 o.symm)]
theorem six6 {c z : Int} (h : sIx 6 c z) : z = opR 0 c := by
  refine sIx_eq h (by decide +kernel) (fun hn => ?_)
  have e : sLen 6 = 3 := by decide
  have h0 := hn 0 (by rw [e]; decide)
  have h1 := hn 1 (by rw [e]; decide)
  have h2 := hn 2 (by rw [e]; decide)
  rw [show sAt 6 0 = 60 by decide] at h0
  rw [show sAt 6 1 = 62 by decide] at h1
  rw [show sAt 6 2 = 61 by decide] at h2
  rw [opR_0, if_neg (fun o => h0 o.symm), if_neg (fun o => h1 o.symm), if_neg (fun o => h2 o.symm)]
theorem six7 {c z : Int} (h : sIx 7 c z) : z = (fun c => if opR 1 c < 0 then -1 else opR 1 c - 3) c := by
  refine sIx_eq (i := 7) (g := fun c => if opR 1 c < 0 then -1 else opR 1 c - 3) h (by decide +kernel) (fun hn => ?_)
  have e : sLen 7 = 2 := by decide
  have h0 := hn 0 (by rw [e]; decide)
  have h1 := hn 1 (by rw [e]; decide)
  rw [show sAt 7 0 = 43 by decide] at h0
  rw [show sAt 7 1 = 45 by decide] at h1
  show (if opR 1 c < 0 then (-1 : Int) else opR 1 c - 3) = -1
  have e1 : opR 1 c = -1 := by rw [opR_1, if_neg (fun o => h0 o.symm), if_neg (fun o => h1 o.symm)]
  rw [e1]
  rfl
theorem six8 {c z : Int} (h : sIx 8 c z) : z = (fun c => if opR 2 c < 0 then -1 else opR 2 c - 5) c := by
  refine sIx_eq (i := 8) (g := fun c => if opR 2 c < 0 then -1 else opR 2 c - 5) h (by decide +kernel) (fun hn => ?_)
  have e : sLen 8 = 2 := by decide
  have h0 := hn 0 (by rw [e]; decide)
  have h1 := hn 1 (by rw [e]; decide)
  rw [show sAt 8 0 = 42 by decide] at h0
  rw [show sAt 8 1 = 47 by decide] at h1
  show (if opR 2 c < 0 then (-1 : Int) else opR 2 c - 5) = -1
  have e1 : opR 2 c = -1 := by rw [opR_2, if_neg (fun o => h0 o.symm), if_neg (fun o => h1 o.symm)]
  rw [e1]
  rfl
/-! pieces of code may be told otherwise -/
theorem CSeg.congr {code code' : Int → Int} {i j : Int} {v : VF} (h : CSeg code i j v) (e : ∀ x : Int, i ≤ x → x < j → code' x = code x) : CSeg code' i j v := by
  obtain ⟨h1, h2, h3, h4, run⟩ := h
  exact ⟨h1, h2, h3, h4, fun E P m d r y hr hs hy h0 d0 d1 h5 n0 n1 hm hf k => run E P m d r y hr hs hy h0 d0 d1 h5 n0 n1 (fun x x0 x1 => (hm x x0 x1).trans (e x x0 x1)) hf k⟩
theorem CSeg.ext {code : Int → Int} {i j : Int} {v v' : VF} (h : CSeg code i j v) (hv : VOK v') (e : ∀ f, FOK f → v f = v' f) : CSeg code i j v' := by
  obtain ⟨h1, h2, h3, h4, run⟩ := h
  exact ⟨hv, h2, h3, h4, fun E P m d r y hr hs hy h0 d0 d1 h5 n0 n1 hm hf k => run E P m d r y hr hs hy h0 d0 d1 h5 n0 n1 hm hf (fun m' a1 a2 a3 a4 a5 => k m' a1 a2 a3 a4 (by rw [a5, e _ hf]))⟩
theorem MSeg.congr {code code' : Int → Int} {i j : Int} {v : VF} (h : MSeg code i j v) (e : ∀ x : Int, i ≤ x → x < j → code' x = code x) : MSeg code' i j v := by
  obtain ⟨h1, h2, h3, h4, run⟩ := h
  exact ⟨h1, h2, h3, h4, fun E P m d d0 d1 n0 n1 hm hf k => run E P m d d0 d1 n0 n1 (fun x x0 x1 => (hm x x0 x1).trans (e x x0 x1)) hf k⟩
theorem negF_ok {v : VF} (h : VOK v) : VOK (negF v) := ⟨fun _ _ => wI_rng _, fun f g e => by show wI (-(v f)) = wI (-(v g)); rw [h.2 f g e]⟩
theorem negneg {v : VF} (h : VOK v) (f : Int → Int) (hf : FOK f) : v f = negF (negF v) f := by
  have r := h.1 f hf
  have e1 : iI (wI (-(v f))) = -(iI (v f)) := by
    show iI (iI (-(v f))).toInt = _
    rw [iI_of, iI_neg]
  show v f = (iI (-(wI (-(v f))))).toInt
  rw [iI_neg, e1, Int32.neg_neg]
  exact (iI_toInt r.1 r.2).symm
