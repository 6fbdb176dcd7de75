abbrev m_X12_set (d : Nat) : Mu := (cX12_set, 6, RX12, (some .int), ⟨d, 0, 0, 40 * d⟩, "set")
set_option maxRecDepth 20000 in
set_option maxHeartbeats 1000000 in
theorem sg_X12_set_0 {E : Nat × (Nat → Int32)} {d : Nat} {P : Option Value → Mem → Prop} {mem : Mem} {a1 : Int} {a2 : Int} (w1 : -2147483648 ≤ a1 ∧ a1 < 2147483648)
    (k1 : GM E (m_X12_set d) P 11 [.ref 169, vi a1, vi a2, un, un, un] [vl 6, vl 0, vl a1] (up2 mem 169 0 0)) :
    GM E (m_X12_set d) P 0 [.ref 169, vi a1, vi a2, un, un, un] [] mem := by
  refine G_aload_n dX12_set_0 rfl ?_
  refine G_iconst (z := 0) dX12_set_1 rfl ?_
  refine G_putI (mem2 := (up2 mem 169 0 0)) dX12_set_2 fp_12_126 (by decide) sh_169 rfl ?_
  refine G_iload_n dX12_set_5 rfl ?_
  refine G_i2l dX12_set_6 (w1) ?_
  refine G_lconst (z := 0) dX12_set_7 rfl ?_
  refine G_ldc2 (z := 6) dX12_set_8 kc_12_338 ?_
  exact k1
set_option maxRecDepth 20000 in
set_option maxHeartbeats 1000000 in
theorem sg_X12_set_14 {E : Nat × (Nat → Int32)} {d : Nat} (hd : 1 ≤ d) {P : Option Value → Mem → Prop} {mem : Mem} {a1 : Int} {a2 : Int} {s0 : Int} (w1 : -2147483648 ≤ s0 ∧ s0 < 2147483648) (w2 : -2147483648 ≤ a1 ∧ a1 < 2147483648) (w3 : -2147483648 ≤ a2 ∧ a2 < 2147483648) (w4 : s0 ≠ 0 → a1 = 0 → -2147483648 ≤ (mem 180 96) ∧ (mem 180 96) < 2147483648) (w5 : s0 ≠ 0 → a1 = 0 → a1 = 0 → -2147483648 ≤ (max 1 (mem 180 96)) ∧ (max 1 (mem 180 96)) < 2147483648) (w6 : s0 ≠ 0 → a1 = 0 → ¬ a1 = 0 → a1 ≠ 6 → a1 ≠ 1 → a1 ≠ 2 → a1 ≠ 3 → -2147483648 ≤ (max 1 (mem 180 96)) ∧ (max 1 (mem 180 96)) < 2147483648) (w7 : s0 ≠ 0 → a1 = 0 → ¬ a1 = 0 → a1 ≠ 6 → a1 ≠ 1 → a1 ≠ 2 → a1 = 3 → -2147483648 ≤ (max 1 (mem 180 96)) ∧ (max 1 (mem 180 96)) < 2147483648) (w8 : s0 ≠ 0 → a1 = 0 → ¬ a1 = 0 → a1 ≠ 6 → a1 ≠ 1 → a1 = 2 → -2147483648 ≤ (max 1 (mem 180 96)) ∧ (max 1 (mem 180 96)) < 2147483648) (w9 : s0 ≠ 0 → a1 = 0 → ¬ a1 = 0 → a1 ≠ 6 → a1 = 1 → -2147483648 ≤ (max 1 (mem 180 96)) ∧ (max 1 (mem 180 96)) < 2147483648) (w10 : s0 ≠ 0 → a1 = 0 → ¬ a1 = 0 → a1 = 6 → -2147483648 ≤ (max 1 (mem 180 96)) ∧ (max 1 (mem 180 96)) < 2147483648)
    (k1 : s0 ≠ 0 → a1 ≠ 0 → a1 = 1 → a1 = 0 → GM E (m_X12_set d) P 113 [.ref 169, vi a1, vi a2, vi 1, vi 999, un] [vl 999, vl 1, vl a2] mem)
    (k2 : s0 ≠ 0 → a1 ≠ 0 → a1 = 1 → ¬ a1 = 0 → a1 ≠ 6 → a1 ≠ 1 → a1 ≠ 2 → a1 ≠ 3 → GM E (m_X12_set d) P 113 [.ref 169, vi a1, vi a2, vi 1, vi 99, un] [vl 99, vl 1, vl a2] mem)
    (k3 : s0 ≠ 0 → a1 ≠ 0 → a1 = 1 → ¬ a1 = 0 → a1 ≠ 6 → a1 ≠ 1 → a1 ≠ 2 → a1 = 3 → GM E (m_X12_set d) P 113 [.ref 169, vi a1, vi a2, vi 1, vi 2, un] [vl 2, vl 1, vl a2] mem)
    (k4 : s0 ≠ 0 → a1 ≠ 0 → a1 = 1 → ¬ a1 = 0 → a1 ≠ 6 → a1 ≠ 1 → a1 = 2 → GM E (m_X12_set d) P 113 [.ref 169, vi a1, vi a2, vi 1, vi 9, un] [vl 9, vl 1, vl a2] mem)
    (k5 : s0 ≠ 0 → a1 ≠ 0 → a1 = 1 → ¬ a1 = 0 → a1 ≠ 6 → a1 = 1 → GM E (m_X12_set d) P 113 [.ref 169, vi a1, vi a2, vi 1, vi 4, un] [vl 4, vl 1, vl a2] mem)
    (k6 : s0 ≠ 0 → a1 ≠ 0 → a1 = 1 → ¬ a1 = 0 → a1 = 6 → GM E (m_X12_set d) P 113 [.ref 169, vi a1, vi a2, vi 1, vi 999, un] [vl 999, vl 1, vl a2] mem)
    (k7 : s0 ≠ 0 → a1 ≠ 0 → ¬ a1 = 1 → a1 = 3 → a1 = 0 → GM E (m_X12_set d) P 113 [.ref 169, vi a1, vi a2, vi 1, vi 999, un] [vl 999, vl 1, vl a2] mem)
    (k8 : s0 ≠ 0 → a1 ≠ 0 → ¬ a1 = 1 → a1 = 3 → ¬ a1 = 0 → a1 ≠ 6 → a1 ≠ 1 → a1 ≠ 2 → a1 ≠ 3 → GM E (m_X12_set d) P 113 [.ref 169, vi a1, vi a2, vi 1, vi 99, un] [vl 99, vl 1, vl a2] mem)
    (k9 : s0 ≠ 0 → a1 ≠ 0 → ¬ a1 = 1 → a1 = 3 → ¬ a1 = 0 → a1 ≠ 6 → a1 ≠ 1 → a1 ≠ 2 → a1 = 3 → GM E (m_X12_set d) P 113 [.ref 169, vi a1, vi a2, vi 1, vi 2, un] [vl 2, vl 1, vl a2] mem)
    (k10 : s0 ≠ 0 → a1 ≠ 0 → ¬ a1 = 1 → a1 = 3 → ¬ a1 = 0 → a1 ≠ 6 → a1 ≠ 1 → a1 = 2 → GM E (m_X12_set d) P 113 [.ref 169, vi a1, vi a2, vi 1, vi 9, un] [vl 9, vl 1, vl a2] mem)
    (k11 : s0 ≠ 0 → a1 ≠ 0 → ¬ a1 = 1 → a1 = 3 → ¬ a1 = 0 → a1 ≠ 6 → a1 = 1 → GM E (m_X12_set d) P 113 [.ref 169, vi a1, vi a2, vi 1, vi 4, un] [vl 4, vl 1, vl a2] mem)
    (k12 : s0 ≠ 0 → a1 ≠ 0 → ¬ a1 = 1 → a1 = 3 → ¬ a1 = 0 → a1 = 6 → GM E (m_X12_set d) P 113 [.ref 169, vi a1, vi a2, vi 1, vi 999, un] [vl 999, vl 1, vl a2] mem)
    (k13 : s0 ≠ 0 → a1 ≠ 0 → ¬ a1 = 1 → ¬ a1 = 3 → a1 ≠ 4 → a1 = 0 → GM E (m_X12_set d) P 113 [.ref 169, vi a1, vi a2, vi 0, vi 999, un] [vl 999, vl 0, vl a2] mem)
    (k14 : s0 ≠ 0 → a1 ≠ 0 → ¬ a1 = 1 → ¬ a1 = 3 → a1 ≠ 4 → ¬ a1 = 0 → a1 ≠ 6 → a1 ≠ 1 → a1 ≠ 2 → a1 ≠ 3 → GM E (m_X12_set d) P 113 [.ref 169, vi a1, vi a2, vi 0, vi 99, un] [vl 99, vl 0, vl a2] mem)
    (k15 : s0 ≠ 0 → a1 ≠ 0 → ¬ a1 = 1 → ¬ a1 = 3 → a1 ≠ 4 → ¬ a1 = 0 → a1 ≠ 6 → a1 ≠ 1 → a1 ≠ 2 → a1 = 3 → GM E (m_X12_set d) P 113 [.ref 169, vi a1, vi a2, vi 0, vi 2, un] [vl 2, vl 0, vl a2] mem)
    (k16 : s0 ≠ 0 → a1 ≠ 0 → ¬ a1 = 1 → ¬ a1 = 3 → a1 ≠ 4 → ¬ a1 = 0 → a1 ≠ 6 → a1 ≠ 1 → a1 = 2 → GM E (m_X12_set d) P 113 [.ref 169, vi a1, vi a2, vi 0, vi 9, un] [vl 9, vl 0, vl a2] mem)
    (k17 : s0 ≠ 0 → a1 ≠ 0 → ¬ a1 = 1 → ¬ a1 = 3 → a1 ≠ 4 → ¬ a1 = 0 → a1 ≠ 6 → a1 = 1 → GM E (m_X12_set d) P 113 [.ref 169, vi a1, vi a2, vi 0, vi 4, un] [vl 4, vl 0, vl a2] mem)
    (k18 : s0 ≠ 0 → a1 ≠ 0 → ¬ a1 = 1 → ¬ a1 = 3 → a1 ≠ 4 → ¬ a1 = 0 → a1 = 6 → GM E (m_X12_set d) P 113 [.ref 169, vi a1, vi a2, vi 0, vi 999, un] [vl 999, vl 0, vl a2] mem)
    (k19 : s0 ≠ 0 → a1 ≠ 0 → ¬ a1 = 1 → ¬ a1 = 3 → a1 = 4 → a1 = 0 → GM E (m_X12_set d) P 113 [.ref 169, vi a1, vi a2, vi 1, vi 999, un] [vl 999, vl 1, vl a2] mem)
    (k20 : s0 ≠ 0 → a1 ≠ 0 → ¬ a1 = 1 → ¬ a1 = 3 → a1 = 4 → ¬ a1 = 0 → a1 ≠ 6 → a1 ≠ 1 → a1 ≠ 2 → a1 ≠ 3 → GM E (m_X12_set d) P 113 [.ref 169, vi a1, vi a2, vi 1, vi 99, un] [vl 99, vl 1, vl a2] mem)
    (k21 : s0 ≠ 0 → a1 ≠ 0 → ¬ a1 = 1 → ¬ a1 = 3 → a1 = 4 → ¬ a1 = 0 → a1 ≠ 6 → a1 ≠ 1 → a1 ≠ 2 → a1 = 3 → GM E (m_X12_set d) P 113 [.ref 169, vi a1, vi a2, vi 1, vi 2, un] [vl 2, vl 1, vl a2] mem)
    (k22 : s0 ≠ 0 → a1 ≠ 0 → ¬ a1 = 1 → ¬ a1 = 3 → a1 = 4 → ¬ a1 = 0 → a1 ≠ 6 → a1 ≠ 1 → a1 = 2 → GM E (m_X12_set d) P 113 [.ref 169, vi a1, vi a2, vi 1, vi 9, un] [vl 9, vl 1, vl a2] mem)
    (k23 : s0 ≠ 0 → a1 ≠ 0 → ¬ a1 = 1 → ¬ a1 = 3 → a1 = 4 → ¬ a1 = 0 → a1 ≠ 6 → a1 = 1 → GM E (m_X12_set d) P 113 [.ref 169, vi a1, vi a2, vi 1, vi 4, un] [vl 4, vl 1, vl a2] mem)
    (k24 : s0 ≠ 0 → a1 ≠ 0 → ¬ a1 = 1 → ¬ a1 = 3 → a1 = 4 → ¬ a1 = 0 → a1 = 6 → GM E (m_X12_set d) P 113 [.ref 169, vi a1, vi a2, vi 1, vi 999, un] [vl 999, vl 1, vl a2] mem)
    (k25 : s0 ≠ 0 → a1 = 0 → a1 = 0 → GM E (m_X12_set d) P 113 [.ref 169, vi a1, vi a2, vi (max 1 (mem 180 96)), vi 999, un] [vl 999, vl (max 1 (mem 180 96)), vl a2] mem)
    (k26 : s0 ≠ 0 → a1 = 0 → ¬ a1 = 0 → a1 ≠ 6 → a1 ≠ 1 → a1 ≠ 2 → a1 ≠ 3 → GM E (m_X12_set d) P 113 [.ref 169, vi a1, vi a2, vi (max 1 (mem 180 96)), vi 99, un] [vl 99, vl (max 1 (mem 180 96)), vl a2] mem)
    (k27 : s0 ≠ 0 → a1 = 0 → ¬ a1 = 0 → a1 ≠ 6 → a1 ≠ 1 → a1 ≠ 2 → a1 = 3 → GM E (m_X12_set d) P 113 [.ref 169, vi a1, vi a2, vi (max 1 (mem 180 96)), vi 2, un] [vl 2, vl (max 1 (mem 180 96)), vl a2] mem)
    (k28 : s0 ≠ 0 → a1 = 0 → ¬ a1 = 0 → a1 ≠ 6 → a1 ≠ 1 → a1 = 2 → GM E (m_X12_set d) P 113 [.ref 169, vi a1, vi a2, vi (max 1 (mem 180 96)), vi 9, un] [vl 9, vl (max 1 (mem 180 96)), vl a2] mem)
    (k29 : s0 ≠ 0 → a1 = 0 → ¬ a1 = 0 → a1 ≠ 6 → a1 = 1 → GM E (m_X12_set d) P 113 [.ref 169, vi a1, vi a2, vi (max 1 (mem 180 96)), vi 4, un] [vl 4, vl (max 1 (mem 180 96)), vl a2] mem)
    (k30 : s0 ≠ 0 → a1 = 0 → ¬ a1 = 0 → a1 = 6 → GM E (m_X12_set d) P 113 [.ref 169, vi a1, vi a2, vi (max 1 (mem 180 96)), vi 999, un] [vl 999, vl (max 1 (mem 180 96)), vl a2] mem)
    (k31 : s0 = 0 → P (some (vi (-1))) mem) :
    GM E (m_X12_set d) P 14 [.ref 169, vi a1, vi a2, un, un, un] [vi s0] mem := by
  refine G_if_ne (tgt := 19) dX12_set_14 (by decide) (w1) (fun c1 => ?_) (fun c1 => ?_)
  · -- s0 ≠ 0
    refine G_iload_n dX12_set_19 rfl ?_
    refine G_if_ne (tgt := 37) dX12_set_20 (by decide) (w2) (fun c2 => ?_) (fun c2 => ?_)
    · -- a1 ≠ 0
      refine G_iload_n dX12_set_37 rfl ?_
      refine G_iconst (z := 1) dX12_set_38 rfl ?_
      refine G_icmp_eq (tgt := 52) dX12_set_39 (by decide) (w2) (by decide) (fun c3 => ?_) (fun c3 => ?_)
      · -- a1 = 1
        refine G_iconst (z := 1) dX12_set_52 rfl ?_
        refine G_goto (tgt := 57) dX12_set_53 (by decide) ?_
        refine G_istore_n dX12_set_57 rfl (by decide : 3 < 6) rfl ?_
        refine G_iload_n dX12_set_58 rfl ?_
        refine G_if_eq (tgt := 68) dX12_set_59 (by decide) (w2) (fun c4 => ?_) (fun c4 => ?_)
        · -- a1 = 0
          refine G_sipush (z := 999) dX12_set_68 rfl ?_
          refine G_goto (tgt := 104) dX12_set_71 (by decide) ?_
          refine G_istore dX12_set_104 (by decide : 4 < 6) rfl ?_
          refine G_iload_n dX12_set_106 rfl ?_
          refine G_i2l dX12_set_107 (w3) ?_
          refine G_iload_n dX12_set_108 rfl ?_
          refine G_i2l dX12_set_109 (by decide) ?_
          refine G_iload dX12_set_110 rfl ?_
          refine G_i2l dX12_set_112 (by decide) ?_
          exact k1 c1 c2 c3 c4
        · -- ¬ a1 = 0
          refine G_iload_n dX12_set_62 rfl ?_
          refine G_bipush (z := 6) dX12_set_63 rfl ?_
          refine G_icmp_ne (tgt := 74) dX12_set_65 (by decide) (w2) (by decide) (fun c5 => ?_) (fun c5 => ?_)
          · -- a1 ≠ 6
            refine G_iload_n dX12_set_74 rfl ?_
            refine G_iconst (z := 1) dX12_set_75 rfl ?_
            refine G_icmp_ne (tgt := 83) dX12_set_76 (by decide) (w2) (by decide) (fun c6 => ?_) (fun c6 => ?_)
            · -- a1 ≠ 1
              refine G_iload_n dX12_set_83 rfl ?_
              refine G_iconst (z := 2) dX12_set_84 rfl ?_
              refine G_icmp_ne (tgt := 93) dX12_set_85 (by decide) (w2) (by decide) (fun c7 => ?_) (fun c7 => ?_)
              · -- a1 ≠ 2
                refine G_iload_n dX12_set_93 rfl ?_
                refine G_iconst (z := 3) dX12_set_94 rfl ?_
                refine G_icmp_ne (tgt := 102) dX12_set_95 (by decide) (w2) (by decide) (fun c8 => ?_) (fun c8 => ?_)
                · -- a1 ≠ 3
                  refine G_bipush (z := 99) dX12_set_102 rfl ?_
                  refine G_istore dX12_set_104 (by decide : 4 < 6) rfl ?_
                  refine G_iload_n dX12_set_106 rfl ?_
                  refine G_i2l dX12_set_107 (w3) ?_
                  refine G_iload_n dX12_set_108 rfl ?_
                  refine G_i2l dX12_set_109 (by decide) ?_
                  refine G_iload dX12_set_110 rfl ?_
                  refine G_i2l dX12_set_112 (by decide) ?_
                  exact k2 c1 c2 c3 c4 c5 c6 c7 c8
                · -- a1 = 3
                  refine G_iconst (z := 2) dX12_set_98 rfl ?_
                  refine G_goto (tgt := 104) dX12_set_99 (by decide) ?_
                  refine G_istore dX12_set_104 (by decide : 4 < 6) rfl ?_
                  refine G_iload_n dX12_set_106 rfl ?_
                  refine G_i2l dX12_set_107 (w3) ?_
                  refine G_iload_n dX12_set_108 rfl ?_
                  refine G_i2l dX12_set_109 (by decide) ?_
                  refine G_iload dX12_set_110 rfl ?_
                  refine G_i2l dX12_set_112 (by decide) ?_
                  exact k3 c1 c2 c3 c4 c5 c6 c7 c8
              · -- a1 = 2
                refine G_bipush (z := 9) dX12_set_88 rfl ?_
                refine G_goto (tgt := 104) dX12_set_90 (by decide) ?_
                refine G_istore dX12_set_104 (by decide : 4 < 6) rfl ?_
                refine G_iload_n dX12_set_106 rfl ?_
                refine G_i2l dX12_set_107 (w3) ?_
                refine G_iload_n dX12_set_108 rfl ?_
                refine G_i2l dX12_set_109 (by decide) ?_
                refine G_iload dX12_set_110 rfl ?_
                refine G_i2l dX12_set_112 (by decide) ?_
                exact k4 c1 c2 c3 c4 c5 c6 c7
            · -- a1 = 1
              refine G_iconst (z := 4) dX12_set_79 rfl ?_
              refine G_goto (tgt := 104) dX12_set_80 (by decide) ?_
              refine G_istore dX12_set_104 (by decide : 4 < 6) rfl ?_
              refine G_iload_n dX12_set_106 rfl ?_
              refine G_i2l dX12_set_107 (w3) ?_
              refine G_iload_n dX12_set_108 rfl ?_
              refine G_i2l dX12_set_109 (by decide) ?_
              refine G_iload dX12_set_110 rfl ?_
              refine G_i2l dX12_set_112 (by decide) ?_
              exact k5 c1 c2 c3 c4 c5 c6
          · -- a1 = 6
            refine G_sipush (z := 999) dX12_set_68 rfl ?_
            refine G_goto (tgt := 104) dX12_set_71 (by decide) ?_
            refine G_istore dX12_set_104 (by decide : 4 < 6) rfl ?_
            refine G_iload_n dX12_set_106 rfl ?_
            refine G_i2l dX12_set_107 (w3) ?_
            refine G_iload_n dX12_set_108 rfl ?_
            refine G_i2l dX12_set_109 (by decide) ?_
            refine G_iload dX12_set_110 rfl ?_
            refine G_i2l dX12_set_112 (by decide) ?_
            exact k6 c1 c2 c3 c4 c5
      · -- ¬ a1 = 1
        refine G_iload_n dX12_set_42 rfl ?_
        refine G_iconst (z := 3) dX12_set_43 rfl ?_
        refine G_icmp_eq (tgt := 52) dX12_set_44 (by decide) (w2) (by decide) (fun c9 => ?_) (fun c9 => ?_)
        · -- a1 = 3
          refine G_iconst (z := 1) dX12_set_52 rfl ?_
          refine G_goto (tgt := 57) dX12_set_53 (by decide) ?_
          refine G_istore_n dX12_set_57 rfl (by decide : 3 < 6) rfl ?_
          refine G_iload_n dX12_set_58 rfl ?_
          refine G_if_eq (tgt := 68) dX12_set_59 (by decide) (w2) (fun c10 => ?_) (fun c10 => ?_)
          · -- a1 = 0
            refine G_sipush (z := 999) dX12_set_68 rfl ?_
            refine G_goto (tgt := 104) dX12_set_71 (by decide) ?_
            refine G_istore dX12_set_104 (by decide : 4 < 6) rfl ?_
            refine G_iload_n dX12_set_106 rfl ?_
            refine G_i2l dX12_set_107 (w3) ?_
            refine G_iload_n dX12_set_108 rfl ?_
            refine G_i2l dX12_set_109 (by decide) ?_
            refine G_iload dX12_set_110 rfl ?_
            refine G_i2l dX12_set_112 (by decide) ?_
            exact k7 c1 c2 c3 c9 c10
          · -- ¬ a1 = 0
            refine G_iload_n dX12_set_62 rfl ?_
            refine G_bipush (z := 6) dX12_set_63 rfl ?_
            refine G_icmp_ne (tgt := 74) dX12_set_65 (by decide) (w2) (by decide) (fun c11 => ?_) (fun c11 => ?_)
            · -- a1 ≠ 6
              refine G_iload_n dX12_set_74 rfl ?_
              refine G_iconst (z := 1) dX12_set_75 rfl ?_
              refine G_icmp_ne (tgt := 83) dX12_set_76 (by decide) (w2) (by decide) (fun c12 => ?_) (fun c12 => ?_)
              · -- a1 ≠ 1
                refine G_iload_n dX12_set_83 rfl ?_
                refine G_iconst (z := 2) dX12_set_84 rfl ?_
                refine G_icmp_ne (tgt := 93) dX12_set_85 (by decide) (w2) (by decide) (fun c13 => ?_) (fun c13 => ?_)
                · -- a1 ≠ 2
                  refine G_iload_n dX12_set_93 rfl ?_
                  refine G_iconst (z := 3) dX12_set_94 rfl ?_
                  refine G_icmp_ne (tgt := 102) dX12_set_95 (by decide) (w2) (by decide) (fun c14 => ?_) (fun c14 => ?_)
                  · -- a1 ≠ 3
                    refine G_bipush (z := 99) dX12_set_102 rfl ?_
                    refine G_istore dX12_set_104 (by decide : 4 < 6) rfl ?_
                    refine G_iload_n dX12_set_106 rfl ?_
                    refine G_i2l dX12_set_107 (w3) ?_
                    refine G_iload_n dX12_set_108 rfl ?_
                    refine G_i2l dX12_set_109 (by decide) ?_
                    refine G_iload dX12_set_110 rfl ?_
                    refine G_i2l dX12_set_112 (by decide) ?_
                    exact k8 c1 c2 c3 c9 c10 c11 c12 c13 c14
                  · -- a1 = 3
                    refine G_iconst (z := 2) dX12_set_98 rfl ?_
                    refine G_goto (tgt := 104) dX12_set_99 (by decide) ?_
                    refine G_istore dX12_set_104 (by decide : 4 < 6) rfl ?_
                    refine G_iload_n dX12_set_106 rfl ?_
                    refine G_i2l dX12_set_107 (w3) ?_
                    refine G_iload_n dX12_set_108 rfl ?_
                    refine G_i2l dX12_set_109 (by decide) ?_
                    refine G_iload dX12_set_110 rfl ?_
                    refine G_i2l dX12_set_112 (by decide) ?_
                    exact k9 c1 c2 c3 c9 c10 c11 c12 c13 c14
                · -- a1 = 2
                  refine G_bipush (z := 9) dX12_set_88 rfl ?_
                  refine G_goto (tgt := 104) dX12_set_90 (by decide) ?_
                  refine G_istore dX12_set_104 (by decide : 4 < 6) rfl ?_
                  refine G_iload_n dX12_set_106 rfl ?_
                  refine G_i2l dX12_set_107 (w3) ?_
                  refine G_iload_n dX12_set_108 rfl ?_
                  refine G_i2l dX12_set_109 (by decide) ?_
                  refine G_iload dX12_set_110 rfl ?_
                  refine G_i2l dX12_set_112 (by decide) ?_
                  exact k10 c1 c2 c3 c9 c10 c11 c12 c13
              · -- a1 = 1
                refine G_iconst (z := 4) dX12_set_79 rfl ?_
                refine G_goto (tgt := 104) dX12_set_80 (by decide) ?_
                refine G_istore dX12_set_104 (by decide : 4 < 6) rfl ?_
                refine G_iload_n dX12_set_106 rfl ?_
                refine G_i2l dX12_set_107 (w3) ?_
                refine G_iload_n dX12_set_108 rfl ?_
                refine G_i2l dX12_set_109 (by decide) ?_
                refine G_iload dX12_set_110 rfl ?_
                refine G_i2l dX12_set_112 (by decide) ?_
                exact k11 c1 c2 c3 c9 c10 c11 c12
            · -- a1 = 6
              refine G_sipush (z := 999) dX12_set_68 rfl ?_
              refine G_goto (tgt := 104) dX12_set_71 (by decide) ?_
              refine G_istore dX12_set_104 (by decide : 4 < 6) rfl ?_
              refine G_iload_n dX12_set_106 rfl ?_
              refine G_i2l dX12_set_107 (w3) ?_
              refine G_iload_n dX12_set_108 rfl ?_
              refine G_i2l dX12_set_109 (by decide) ?_
              refine G_iload dX12_set_110 rfl ?_
              refine G_i2l dX12_set_112 (by decide) ?_
              exact k12 c1 c2 c3 c9 c10 c11
        · -- ¬ a1 = 3
          refine G_iload_n dX12_set_47 rfl ?_
          refine G_iconst (z := 4) dX12_set_48 rfl ?_
          refine G_icmp_ne (tgt := 56) dX12_set_49 (by decide) (w2) (by decide) (fun c15 => ?_) (fun c15 => ?_)
          · -- a1 ≠ 4
            refine G_iconst (z := 0) dX12_set_56 rfl ?_
            refine G_istore_n dX12_set_57 rfl (by decide : 3 < 6) rfl ?_
            refine G_iload_n dX12_set_58 rfl ?_
            refine G_if_eq (tgt := 68) dX12_set_59 (by decide) (w2) (fun c16 => ?_) (fun c16 => ?_)
            · -- a1 = 0
              refine G_sipush (z := 999) dX12_set_68 rfl ?_
              refine G_goto (tgt := 104) dX12_set_71 (by decide) ?_
              refine G_istore dX12_set_104 (by decide : 4 < 6) rfl ?_
              refine G_iload_n dX12_set_106 rfl ?_
              refine G_i2l dX12_set_107 (w3) ?_
              refine G_iload_n dX12_set_108 rfl ?_
              refine G_i2l dX12_set_109 (by decide) ?_
              refine G_iload dX12_set_110 rfl ?_
              refine G_i2l dX12_set_112 (by decide) ?_
              exact k13 c1 c2 c3 c9 c15 c16
            · -- ¬ a1 = 0
              refine G_iload_n dX12_set_62 rfl ?_
              refine G_bipush (z := 6) dX12_set_63 rfl ?_
              refine G_icmp_ne (tgt := 74) dX12_set_65 (by decide) (w2) (by decide) (fun c17 => ?_) (fun c17 => ?_)
              · -- a1 ≠ 6
                refine G_iload_n dX12_set_74 rfl ?_
                refine G_iconst (z := 1) dX12_set_75 rfl ?_
                refine G_icmp_ne (tgt := 83) dX12_set_76 (by decide) (w2) (by decide) (fun c18 => ?_) (fun c18 => ?_)
                · -- a1 ≠ 1
                  refine G_iload_n dX12_set_83 rfl ?_
                  refine G_iconst (z := 2) dX12_set_84 rfl ?_
                  refine G_icmp_ne (tgt := 93) dX12_set_85 (by decide) (w2) (by decide) (fun c19 => ?_) (fun c19 => ?_)
                  · -- a1 ≠ 2
                    refine G_iload_n dX12_set_93 rfl ?_
                    refine G_iconst (z := 3) dX12_set_94 rfl ?_
                    refine G_icmp_ne (tgt := 102) dX12_set_95 (by decide) (w2) (by decide) (fun c20 => ?_) (fun c20 => ?_)
                    · -- a1 ≠ 3
                      refine G_bipush (z := 99) dX12_set_102 rfl ?_
                      refine G_istore dX12_set_104 (by decide : 4 < 6) rfl ?_
                      refine G_iload_n dX12_set_106 rfl ?_
                      refine G_i2l dX12_set_107 (w3) ?_
                      refine G_iload_n dX12_set_108 rfl ?_
                      refine G_i2l dX12_set_109 (by decide) ?_
                      refine G_iload dX12_set_110 rfl ?_
                      refine G_i2l dX12_set_112 (by decide) ?_
                      exact k14 c1 c2 c3 c9 c15 c16 c17 c18 c19 c20
                    · -- a1 = 3
                      refine G_iconst (z := 2) dX12_set_98 rfl ?_
                      refine G_goto (tgt := 104) dX12_set_99 (by decide) ?_
                      refine G_istore dX12_set_104 (by decide : 4 < 6) rfl ?_
                      refine G_iload_n dX12_set_106 rfl ?_
                      refine G_i2l dX12_set_107 (w3) ?_
                      refine G_iload_n dX12_set_108 rfl ?_
                      refine G_i2l dX12_set_109 (by decide) ?_
                      refine G_iload dX12_set_110 rfl ?_
                      refine G_i2l dX12_set_112 (by decide) ?_
                      exact k15 c1 c2 c3 c9 c15 c16 c17 c18 c19 c20
                  · -- a1 = 2
                    refine G_bipush (z := 9) dX12_set_88 rfl ?_
                    refine G_goto (tgt := 104) dX12_set_90 (by decide) ?_
                    refine G_istore dX12_set_104 (by decide : 4 < 6) rfl ?_
                    refine G_iload_n dX12_set_106 rfl ?_
                    refine G_i2l dX12_set_107 (w3) ?_
                    refine G_iload_n dX12_set_108 rfl ?_
                    refine G_i2l dX12_set_109 (by decide) ?_
                    refine G_iload dX12_set_110 rfl ?_
                    refine G_i2l dX12_set_112 (by decide) ?_
                    exact k16 c1 c2 c3 c9 c15 c16 c17 c18 c19
                · -- a1 = 1
                  refine G_iconst (z := 4) dX12_set_79 rfl ?_
                  refine G_goto (tgt := 104) dX12_set_80 (by decide) ?_
                  refine G_istore dX12_set_104 (by decide : 4 < 6) rfl ?_
                  refine G_iload_n dX12_set_106 rfl ?_
                  refine G_i2l dX12_set_107 (w3) ?_
                  refine G_iload_n dX12_set_108 rfl ?_
                  refine G_i2l dX12_set_109 (by decide) ?_
                  refine G_iload dX12_set_110 rfl ?_
                  refine G_i2l dX12_set_112 (by decide) ?_
                  exact k17 c1 c2 c3 c9 c15 c16 c17 c18
              · -- a1 = 6
                refine G_sipush (z := 999) dX12_set_68 rfl ?_
                refine G_goto (tgt := 104) dX12_set_71 (by decide) ?_
                refine G_istore dX12_set_104 (by decide : 4 < 6) rfl ?_
                refine G_iload_n dX12_set_106 rfl ?_
                refine G_i2l dX12_set_107 (w3) ?_
                refine G_iload_n dX12_set_108 rfl ?_
                refine G_i2l dX12_set_109 (by decide) ?_
                refine G_iload dX12_set_110 rfl ?_
                refine G_i2l dX12_set_112 (by decide) ?_
                exact k18 c1 c2 c3 c9 c15 c16 c17
          · -- a1 = 4
            refine G_iconst (z := 1) dX12_set_52 rfl ?_
            refine G_goto (tgt := 57) dX12_set_53 (by decide) ?_
            refine G_istore_n dX12_set_57 rfl (by decide : 3 < 6) rfl ?_
            refine G_iload_n dX12_set_58 rfl ?_
            refine G_if_eq (tgt := 68) dX12_set_59 (by decide) (w2) (fun c21 => ?_) (fun c21 => ?_)
            · -- a1 = 0
              refine G_sipush (z := 999) dX12_set_68 rfl ?_
              refine G_goto (tgt := 104) dX12_set_71 (by decide) ?_
              refine G_istore dX12_set_104 (by decide : 4 < 6) rfl ?_
              refine G_iload_n dX12_set_106 rfl ?_
              refine G_i2l dX12_set_107 (w3) ?_
              refine G_iload_n dX12_set_108 rfl ?_
              refine G_i2l dX12_set_109 (by decide) ?_
              refine G_iload dX12_set_110 rfl ?_
              refine G_i2l dX12_set_112 (by decide) ?_
              exact k19 c1 c2 c3 c9 c15 c21
            · -- ¬ a1 = 0
              refine G_iload_n dX12_set_62 rfl ?_
              refine G_bipush (z := 6) dX12_set_63 rfl ?_
              refine G_icmp_ne (tgt := 74) dX12_set_65 (by decide) (w2) (by decide) (fun c22 => ?_) (fun c22 => ?_)
              · -- a1 ≠ 6
                refine G_iload_n dX12_set_74 rfl ?_
                refine G_iconst (z := 1) dX12_set_75 rfl ?_
                refine G_icmp_ne (tgt := 83) dX12_set_76 (by decide) (w2) (by decide) (fun c23 => ?_) (fun c23 => ?_)
                · -- a1 ≠ 1
                  refine G_iload_n dX12_set_83 rfl ?_
                  refine G_iconst (z := 2) dX12_set_84 rfl ?_
                  refine G_icmp_ne (tgt := 93) dX12_set_85 (by decide) (w2) (by decide) (fun c24 => ?_) (fun c24 => ?_)
                  · -- a1 ≠ 2
                    refine G_iload_n dX12_set_93 rfl ?_
                    refine G_iconst (z := 3) dX12_set_94 rfl ?_
                    refine G_icmp_ne (tgt := 102) dX12_set_95 (by decide) (w2) (by decide) (fun c25 => ?_) (fun c25 => ?_)
                    · -- a1 ≠ 3
                      refine G_bipush (z := 99) dX12_set_102 rfl ?_
                      refine G_istore dX12_set_104 (by decide : 4 < 6) rfl ?_
                      refine G_iload_n dX12_set_106 rfl ?_
                      refine G_i2l dX12_set_107 (w3) ?_
                      refine G_iload_n dX12_set_108 rfl ?_
                      refine G_i2l dX12_set_109 (by decide) ?_
                      refine G_iload dX12_set_110 rfl ?_
                      refine G_i2l dX12_set_112 (by decide) ?_
                      exact k20 c1 c2 c3 c9 c15 c21 c22 c23 c24 c25
                    · -- a1 = 3
                      refine G_iconst (z := 2) dX12_set_98 rfl ?_
                      refine G_goto (tgt := 104) dX12_set_99 (by decide) ?_
                      refine G_istore dX12_set_104 (by decide : 4 < 6) rfl ?_
                      refine G_iload_n dX12_set_106 rfl ?_
                      refine G_i2l dX12_set_107 (w3) ?_
                      refine G_iload_n dX12_set_108 rfl ?_
                      refine G_i2l dX12_set_109 (by decide) ?_
                      refine G_iload dX12_set_110 rfl ?_
                      refine G_i2l dX12_set_112 (by decide) ?_
                      exact k21 c1 c2 c3 c9 c15 c21 c22 c23 c24 c25
                  · -- a1 = 2
                    refine G_bipush (z := 9) dX12_set_88 rfl ?_
                    refine G_goto (tgt := 104) dX12_set_90 (by decide) ?_
                    refine G_istore dX12_set_104 (by decide : 4 < 6) rfl ?_
                    refine G_iload_n dX12_set_106 rfl ?_
                    refine G_i2l dX12_set_107 (w3) ?_
                    refine G_iload_n dX12_set_108 rfl ?_
                    refine G_i2l dX12_set_109 (by decide) ?_
                    refine G_iload dX12_set_110 rfl ?_
                    refine G_i2l dX12_set_112 (by decide) ?_
                    exact k22 c1 c2 c3 c9 c15 c21 c22 c23 c24
                · -- a1 = 1
                  refine G_iconst (z := 4) dX12_set_79 rfl ?_
                  refine G_goto (tgt := 104) dX12_set_80 (by decide) ?_
                  refine G_istore dX12_set_104 (by decide : 4 < 6) rfl ?_
                  refine G_iload_n dX12_set_106 rfl ?_
                  refine G_i2l dX12_set_107 (w3) ?_
                  refine G_iload_n dX12_set_108 rfl ?_
                  refine G_i2l dX12_set_109 (by decide) ?_
                  refine G_iload dX12_set_110 rfl ?_
                  refine G_i2l dX12_set_112 (by decide) ?_
                  exact k23 c1 c2 c3 c9 c15 c21 c22 c23
              · -- a1 = 6
                refine G_sipush (z := 999) dX12_set_68 rfl ?_
                refine G_goto (tgt := 104) dX12_set_71 (by decide) ?_
                refine G_istore dX12_set_104 (by decide : 4 < 6) rfl ?_
                refine G_iload_n dX12_set_106 rfl ?_
                refine G_i2l dX12_set_107 (w3) ?_
                refine G_iload_n dX12_set_108 rfl ?_
                refine G_i2l dX12_set_109 (by decide) ?_
                refine G_iload dX12_set_110 rfl ?_
                refine G_i2l dX12_set_112 (by decide) ?_
                exact k24 c1 c2 c3 c9 c15 c21 c22
    · -- a1 = 0
      refine G_iconst (z := 1) dX12_set_23 rfl ?_
      refine G_aload_n dX12_set_24 rfl ?_
      refine G_getR (t := 180) dX12_set_25 fl_12_42 (by decide) sh_169 rr_169_14 ?_
      refine G_bipush (z := 96) dX12_set_28 rfl ?_
      refine G_iald (z := (mem 180 96)) dX12_set_30 (by decide) sh_180 (by decide) (by decide) (by decide) rfl ?_
      refine G_max (z := (max 1 (mem 180 96))) dX12_set_31 ml_12_257 mw_max (by decide) (w4 c1 c2) ⟨by show 1 ≤ d; omega, by show 21 ≤ 40 * d; omega, Nat.zero_le _, Nat.zero_le _⟩ (Nat.le_of_ble_eq_true rfl) rfl ?_
      refine G_goto (tgt := 57) dX12_set_34 (by decide) ?_
      refine G_istore_n dX12_set_57 rfl (by decide : 3 < 6) rfl ?_
      refine G_iload_n dX12_set_58 rfl ?_
      refine G_if_eq (tgt := 68) dX12_set_59 (by decide) (w2) (fun c26 => ?_) (fun c26 => ?_)
      · -- a1 = 0
        refine G_sipush (z := 999) dX12_set_68 rfl ?_
        refine G_goto (tgt := 104) dX12_set_71 (by decide) ?_
        refine G_istore dX12_set_104 (by decide : 4 < 6) rfl ?_
        refine G_iload_n dX12_set_106 rfl ?_
        refine G_i2l dX12_set_107 (w3) ?_
        refine G_iload_n dX12_set_108 rfl ?_
        refine G_i2l dX12_set_109 (w5 c1 c2 c26) ?_
        refine G_iload dX12_set_110 rfl ?_
        refine G_i2l dX12_set_112 (by decide) ?_
        exact k25 c1 c2 c26
      · -- ¬ a1 = 0
        refine G_iload_n dX12_set_62 rfl ?_
        refine G_bipush (z := 6) dX12_set_63 rfl ?_
        refine G_icmp_ne (tgt := 74) dX12_set_65 (by decide) (w2) (by decide) (fun c27 => ?_) (fun c27 => ?_)
        · -- a1 ≠ 6
          refine G_iload_n dX12_set_74 rfl ?_
          refine G_iconst (z := 1) dX12_set_75 rfl ?_
          refine G_icmp_ne (tgt := 83) dX12_set_76 (by decide) (w2) (by decide) (fun c28 => ?_) (fun c28 => ?_)
          · -- a1 ≠ 1
            refine G_iload_n dX12_set_83 rfl ?_
            refine G_iconst (z := 2) dX12_set_84 rfl ?_
            refine G_icmp_ne (tgt := 93) dX12_set_85 (by decide) (w2) (by decide) (fun c29 => ?_) (fun c29 => ?_)
            · -- a1 ≠ 2
              refine G_iload_n dX12_set_93 rfl ?_
              refine G_iconst (z := 3) dX12_set_94 rfl ?_
              refine G_icmp_ne (tgt := 102) dX12_set_95 (by decide) (w2) (by decide) (fun c30 => ?_) (fun c30 => ?_)
              · -- a1 ≠ 3
                refine G_bipush (z := 99) dX12_set_102 rfl ?_
                refine G_istore dX12_set_104 (by decide : 4 < 6) rfl ?_
                refine G_iload_n dX12_set_106 rfl ?_
                refine G_i2l dX12_set_107 (w3) ?_
                refine G_iload_n dX12_set_108 rfl ?_
                refine G_i2l dX12_set_109 (w6 c1 c2 c26 c27 c28 c29 c30) ?_
                refine G_iload dX12_set_110 rfl ?_
                refine G_i2l dX12_set_112 (by decide) ?_
                exact k26 c1 c2 c26 c27 c28 c29 c30
              · -- a1 = 3
                refine G_iconst (z := 2) dX12_set_98 rfl ?_
                refine G_goto (tgt := 104) dX12_set_99 (by decide) ?_
                refine G_istore dX12_set_104 (by decide : 4 < 6) rfl ?_
                refine G_iload_n dX12_set_106 rfl ?_
                refine G_i2l dX12_set_107 (w3) ?_
                refine G_iload_n dX12_set_108 rfl ?_
                refine G_i2l dX12_set_109 (w7 c1 c2 c26 c27 c28 c29 c30) ?_
                refine G_iload dX12_set_110 rfl ?_
                refine G_i2l dX12_set_112 (by decide) ?_
                exact k27 c1 c2 c26 c27 c28 c29 c30
            · -- a1 = 2
              refine G_bipush (z := 9) dX12_set_88 rfl ?_
              refine G_goto (tgt := 104) dX12_set_90 (by decide) ?_
              refine G_istore dX12_set_104 (by decide : 4 < 6) rfl ?_
              refine G_iload_n dX12_set_106 rfl ?_
              refine G_i2l dX12_set_107 (w3) ?_
              refine G_iload_n dX12_set_108 rfl ?_
              refine G_i2l dX12_set_109 (w8 c1 c2 c26 c27 c28 c29) ?_
              refine G_iload dX12_set_110 rfl ?_
              refine G_i2l dX12_set_112 (by decide) ?_
              exact k28 c1 c2 c26 c27 c28 c29
          · -- a1 = 1
            refine G_iconst (z := 4) dX12_set_79 rfl ?_
            refine G_goto (tgt := 104) dX12_set_80 (by decide) ?_
            refine G_istore dX12_set_104 (by decide : 4 < 6) rfl ?_
            refine G_iload_n dX12_set_106 rfl ?_
            refine G_i2l dX12_set_107 (w3) ?_
            refine G_iload_n dX12_set_108 rfl ?_
            refine G_i2l dX12_set_109 (w9 c1 c2 c26 c27 c28) ?_
            refine G_iload dX12_set_110 rfl ?_
            refine G_i2l dX12_set_112 (by decide) ?_
            exact k29 c1 c2 c26 c27 c28
        · -- a1 = 6
          refine G_sipush (z := 999) dX12_set_68 rfl ?_
          refine G_goto (tgt := 104) dX12_set_71 (by decide) ?_
          refine G_istore dX12_set_104 (by decide : 4 < 6) rfl ?_
          refine G_iload_n dX12_set_106 rfl ?_
          refine G_i2l dX12_set_107 (w3) ?_
          refine G_iload_n dX12_set_108 rfl ?_
          refine G_i2l dX12_set_109 (w10 c1 c2 c26 c27) ?_
          refine G_iload dX12_set_110 rfl ?_
          refine G_i2l dX12_set_112 (by decide) ?_
          exact k30 c1 c2 c26 c27
  · -- s0 = 0
    refine G_iconst (z := (-1)) dX12_set_17 rfl ?_
    exact G_iret dX12_set_18 rfl (Nat.zero_le _) (Nat.zero_le _) (Nat.le_refl _) ⟨rfl, k31 c1⟩
set_option maxRecDepth 20000 in
set_option maxHeartbeats 1000000 in
theorem sg_X12_set_116 {E : Nat × (Nat → Int32)} {d : Nat} {P : Option Value → Mem → Prop} {mem : Mem} {a1 : Int} {a2 : Int} {a3 : Int} {a4 : Int} {s0 : Int} (w1 : -2147483648 ≤ s0 ∧ s0 < 2147483648) (q2 : s0 ≠ 0 → 0 ≤ a1 ∧ a1 < 7)
    (k1 : s0 ≠ 0 → P (some (vi (mem 179 a1))) (up2 mem 179 a1 a2))
    (k2 : s0 = 0 → P (some (vi (-1))) mem) :
    GM E (m_X12_set d) P 116 [.ref 169, vi a1, vi a2, vi a3, vi a4, un] [vi s0] mem := by
  refine G_if_ne (tgt := 121) dX12_set_116 (by decide) (w1) (fun c1 => ?_) (fun c1 => ?_)
  · -- s0 ≠ 0
    refine G_aload_n dX12_set_121 rfl ?_
    refine G_getR (t := 179) dX12_set_122 fl_12_39 (by decide) sh_169 rr_169_13 ?_
    refine G_iload_n dX12_set_125 rfl ?_
    refine G_iald (z := (mem 179 a1)) dX12_set_126 (by decide) sh_179 (by decide) (q2 c1).1 (q2 c1).2 rfl ?_
    refine G_istore dX12_set_127 (by decide : 5 < 6) rfl ?_
    refine G_aload_n dX12_set_129 rfl ?_
    refine G_getR (t := 179) dX12_set_130 fl_12_39 (by decide) sh_169 rr_169_13 ?_
    refine G_iload_n dX12_set_133 rfl ?_
    refine G_iload_n dX12_set_134 rfl ?_
    refine G_iast (mem2 := (up2 mem 179 a1 a2)) dX12_set_135 (by decide) sh_179 (by decide) (q2 c1).1 (q2 c1).2 rfl ?_
    refine G_iload dX12_set_136 rfl ?_
    exact G_iret dX12_set_138 rfl (Nat.zero_le _) (Nat.zero_le _) (Nat.le_refl _) ⟨rfl, k1 c1⟩
  · -- s0 = 0
    refine G_iconst (z := (-1)) dX12_set_119 rfl ?_
    exact G_iret dX12_set_120 rfl (Nat.zero_le _) (Nat.zero_le _) (Nat.le_refl _) ⟨rfl, k2 c1⟩
abbrev m_X12_share (d : Nat) : Mu := (cX12_share, 8, RX12, (some .int), ⟨d, 0, 0, 40 * d⟩, "share")
set_option maxRecDepth 20000 in
set_option maxHeartbeats 1000000 in
theorem sg_X12_share_0 {E : Nat × (Nat → Int32)} {d : Nat} {P : Option Value → Mem → Prop} {mem : Mem} {a1 : Int} (w1 : -2147483648 ≤ a1 ∧ a1 < 2147483648)
    (k1 : GM E (m_X12_share d) P 9 [.ref 169, vi a1, un, un, un, un, un, un] [.ref 169, vl 0, vl a1] (up2 mem 169 0 0)) :
    GM E (m_X12_share d) P 0 [.ref 169, vi a1, un, un, un, un, un, un] [] mem := by
  refine G_aload_n dX12_share_0 rfl ?_
  refine G_iconst (z := 0) dX12_share_1 rfl ?_
  refine G_putI (mem2 := (up2 mem 169 0 0)) dX12_share_2 fp_12_126 (by decide) sh_169 rfl ?_
  refine G_iload_n dX12_share_5 rfl ?_
  refine G_i2l dX12_share_6 (w1) ?_
  refine G_lconst (z := 0) dX12_share_7 rfl ?_
  refine G_aload_n dX12_share_8 rfl ?_
  exact k1
set_option maxRecDepth 20000 in
set_option maxHeartbeats 1000000 in
theorem sg_X12_share_12 {E : Nat × (Nat → Int32)} {d : Nat} {P : Option Value → Mem → Prop} {mem : Mem} {a1 : Int} {s0 : Int} {s1 : Int} {s2 : Int} (w1 : -2147483648 ≤ s0 ∧ s0 < 2147483648)
    (k1 : GM E (m_X12_share d) P 13 [.ref 169, vi a1, un, un, un, un, un, un] [vl s0, vl s1, vl s2] mem) :
    GM E (m_X12_share d) P 12 [.ref 169, vi a1, un, un, un, un, un, un] [vi s0, vl s1, vl s2] mem := by
  refine G_i2l dX12_share_12 (w1) ?_
  exact k1
set_option maxRecDepth 20000 in
set_option maxHeartbeats 1000000 in
theorem sg_X12_share_16 {E : Nat × (Nat → Int32)} {d : Nat} {P : Option Value → Mem → Prop} {mem : Mem} {a1 : Int} {s0 : Int} (w1 : -2147483648 ≤ s0 ∧ s0 < 2147483648)
    (k1 : s0 ≠ 0 → GM E (m_X12_share d) P 25 [.ref 169, vi a1, vi 0, un, un, un, un, un] [vi a1, .ref 169] mem)
    (k2 : s0 = 0 → P (some (vi (-1))) mem) :
    GM E (m_X12_share d) P 16 [.ref 169, vi a1, un, un, un, un, un, un] [vi s0] mem := by
  refine G_if_ne (tgt := 21) dX12_share_16 (by decide) (w1) (fun c1 => ?_) (fun c1 => ?_)
  · -- s0 ≠ 0
    refine G_iconst (z := 0) dX12_share_21 rfl ?_
    refine G_istore_n dX12_share_22 rfl (by decide : 2 < 8) rfl ?_
    refine G_aload_n dX12_share_23 rfl ?_
    refine G_iload_n dX12_share_24 rfl ?_
    exact k1 c1
  · -- s0 = 0
    refine G_iconst (z := (-1)) dX12_share_19 rfl ?_
    exact G_iret dX12_share_20 rfl (Nat.zero_le _) (Nat.zero_le _) (Nat.le_refl _) ⟨rfl, k2 c1⟩
set_option maxRecDepth 20000 in
set_option maxHeartbeats 1000000 in
theorem sg_X12_share_28 {E : Nat × (Nat → Int32)} {d : Nat} {P : Option Value → Mem → Prop} {mem : Mem} {a1 : Int} {a2 : Int} {s0 : Int}
    (k1 : GM E (m_X12_share d) P 35 [.ref 169, vi a1, vi a2, vi s0, vi 0, vi 1, un, un] [] mem) :
    GM E (m_X12_share d) P 28 [.ref 169, vi a1, vi a2, un, un, un, un, un] [vi s0] mem := by
  refine G_istore_n dX12_share_28 rfl (by decide : 3 < 8) rfl ?_
  refine G_iconst (z := 0) dX12_share_29 rfl ?_
  refine G_istore dX12_share_30 (by decide : 4 < 8) rfl ?_
  refine G_iconst (z := 1) dX12_share_32 rfl ?_
  refine G_istore dX12_share_33 (by decide : 5 < 8) rfl ?_
  exact k1
set_option maxRecDepth 20000 in
set_option maxHeartbeats 1000000 in
theorem sg_X12_share_35 {E : Nat × (Nat → Int32)} {d : Nat} {P : Option Value → Mem → Prop} {mem : Mem} {a1 : Int} {a2 : Int} {a3 : Int} {a4 : Int} {a5 : Int} (w1 : -2147483648 ≤ a5 ∧ a5 < 2147483648) (w2 : -2147483648 ≤ a1 ∧ a1 < 2147483648) (w3 : -2147483648 ≤ a2 ∧ a2 < 2147483648)
    (k1 : a1 < a5 → GM E (m_X12_share d) P 115 [.ref 169, vi a1, vi a2, vi a3, vi a4, vi a5, un, un] [vl a2, .ref 169] (up2 mem 169 1 0))
    (k2 : ¬ a1 < a5 → (bandI a5 (bxorI a1 (-1))) ≠ 0 → GM E (m_X12_share d) P 35 [.ref 169, vi a1, vi a2, vi a3, vi a4, vi (a5 + 1), un, un] [] mem)
    (k3 : ¬ a1 < a5 → (bandI a5 (bxorI a1 (-1))) = 0 → GM E (m_X12_share d) P 53 [.ref 169, vi a1, vi a2, vi a3, vi a4, vi a5, un, un] [vi a5, .ref 169] mem) :
    GM E (m_X12_share d) P 35 [.ref 169, vi a1, vi a2, vi a3, vi a4, vi a5, un, un] [] mem := by
  refine G_iload dX12_share_35 rfl ?_
  refine G_iload_n dX12_share_37 rfl ?_
  refine G_icmp_gt (tgt := 107) dX12_share_38 (by decide) (w1) (w2) (fun c1 => ?_) (fun c1 => ?_)
  · -- a1 < a5
    refine G_aload_n dX12_share_107 rfl ?_
    refine G_iconst (z := 0) dX12_share_108 rfl ?_
    refine G_putI (mem2 := (up2 mem 169 1 0)) dX12_share_109 fp_12_134 (by decide) sh_169 rfl ?_
    refine G_aload_n dX12_share_112 rfl ?_
    refine G_iload_n dX12_share_113 rfl ?_
    refine G_i2l dX12_share_114 (w3) ?_
    exact k1 c1
  · -- ¬ a1 < a5
    refine G_iload dX12_share_41 rfl ?_
    refine G_iload_n dX12_share_43 rfl ?_
    refine G_iconst (z := (-1)) dX12_share_44 rfl ?_
    refine G_ixor (z := (bxorI a1 (-1))) dX12_share_45 (iI_inv _) ?_
    refine G_iand (z := (bandI a5 (bxorI a1 (-1)))) dX12_share_46 (iI_inv _) ?_
    refine G_if_ne (tgt := 101) dX12_share_47 (by decide) (iI_rng _) (fun c2 => ?_) (fun c2 => ?_)
    · -- (bandI a5 (bxorI a1 (-1))) ≠ 0
      refine G_iinc (z := (a5 + 1)) dX12_share_101 rfl rfl (by decide : 5 < 8) rfl ?_
      refine G_goto (tgt := 35) dX12_share_104 (by decide) ?_
      exact k2 c1 c2
    · -- (bandI a5 (bxorI a1 (-1))) = 0
      refine G_aload_n dX12_share_50 rfl ?_
      refine G_iload dX12_share_51 rfl ?_
      exact k3 c1 c2
set_option maxRecDepth 20000 in
set_option maxHeartbeats 1000000 in
theorem sg_X12_share_56 {E : Nat × (Nat → Int32)} {d : Nat} {P : Option Value → Mem → Prop} {mem : Mem} {a1 : Int} {a2 : Int} {a3 : Int} {a4 : Int} {a5 : Int} {s0 : Int}
    (k1 : GM E (m_X12_share d) P 65 [.ref 169, vi a1, vi a2, vi a3, vi a4, vi a5, vi s0, un] [vi (bandI a1 (bxorI a5 (-1))), .ref 169] mem) :
    GM E (m_X12_share d) P 56 [.ref 169, vi a1, vi a2, vi a3, vi a4, vi a5, un, un] [vi s0] mem := by
  refine G_istore dX12_share_56 (by decide : 6 < 8) rfl ?_
  refine G_aload_n dX12_share_58 rfl ?_
  refine G_iload_n dX12_share_59 rfl ?_
  refine G_iload dX12_share_60 rfl ?_
  refine G_iconst (z := (-1)) dX12_share_62 rfl ?_
  refine G_ixor (z := (bxorI a5 (-1))) dX12_share_63 (iI_inv _) ?_
  refine G_iand (z := (bandI a1 (bxorI a5 (-1)))) dX12_share_64 (iI_inv _) ?_
  exact k1
set_option maxRecDepth 20000 in
set_option maxHeartbeats 1000000 in
theorem sg_X12_share_68 {E : Nat × (Nat → Int32)} {d : Nat} (hd : 1 ≤ d) {P : Option Value → Mem → Prop} {mem : Mem} {a1 : Int} {a2 : Int} {a3 : Int} {a4 : Int} {a5 : Int} {a6 : Int} {s0 : Int} (w1 : -2147483648 ≤ a6 ∧ a6 < 2147483648) (w2 : -2147483648 ≤ s0 ∧ s0 < 2147483648) (w3 : -2147483648 ≤ (max a6 s0) ∧ (max a6 s0) < 2147483648) (w4 : -2147483648 ≤ a3 ∧ a3 < 2147483648)
    (k1 : a3 ≤ (max a6 s0) → GM E (m_X12_share d) P 35 [.ref 169, vi a1, vi a2, vi a3, vi a4, vi (a5 + 1), vi a6, vi s0] [] mem)
    (k2 : ¬ a3 ≤ (max a6 s0) → GM E (m_X12_share d) P 35 [.ref 169, vi a1, vi a5, vi (max a6 s0), vi (min a6 s0), vi (a5 + 1), vi a6, vi s0] [] mem) :
    GM E (m_X12_share d) P 68 [.ref 169, vi a1, vi a2, vi a3, vi a4, vi a5, vi a6, un] [vi s0] mem := by
  refine G_istore dX12_share_68 (by decide : 7 < 8) rfl ?_
  refine G_iload dX12_share_70 rfl ?_
  refine G_iload dX12_share_72 rfl ?_
  refine G_max (z := (max a6 s0)) dX12_share_74 ml_12_257 mw_max (w1) (w2) ⟨by show 1 ≤ d; omega, by show 21 ≤ 40 * d; omega, Nat.zero_le _, Nat.zero_le _⟩ (Nat.le_of_ble_eq_true rfl) rfl ?_
  refine G_iload_n dX12_share_77 rfl ?_
  refine G_icmp_ge (tgt := 101) dX12_share_78 (by decide) (w3) (w4) (fun c1 => ?_) (fun c1 => ?_)
  · -- a3 ≤ (max a6 s0)
    refine G_iinc (z := (a5 + 1)) dX12_share_101 rfl rfl (by decide : 5 < 8) rfl ?_
    refine G_goto (tgt := 35) dX12_share_104 (by decide) ?_
    exact k1 c1
  · -- ¬ a3 ≤ (max a6 s0)
    refine G_iload dX12_share_81 rfl ?_
    refine G_istore_n dX12_share_83 rfl (by decide : 2 < 8) rfl ?_
    refine G_iload dX12_share_84 rfl ?_
    refine G_iload dX12_share_86 rfl ?_
    refine G_max (z := (max a6 s0)) dX12_share_88 ml_12_257 mw_max (w1) (w2) ⟨by show 1 ≤ d; omega, by show 21 ≤ 40 * d; omega, Nat.zero_le _, Nat.zero_le _⟩ (Nat.le_of_ble_eq_true rfl) rfl ?_
    refine G_istore_n dX12_share_91 rfl (by decide : 3 < 8) rfl ?_
    refine G_iload dX12_share_92 rfl ?_
    refine G_iload dX12_share_94 rfl ?_
    refine G_min (z := (min a6 s0)) dX12_share_96 ml_12_157 mw_min (w1) (w2) ⟨by show 1 ≤ d; omega, by show 21 ≤ 40 * d; omega, Nat.zero_le _, Nat.zero_le _⟩ (Nat.le_of_ble_eq_true rfl) rfl ?_
    refine G_istore dX12_share_99 (by decide : 4 < 8) rfl ?_
    refine G_iinc (z := (a5 + 1)) dX12_share_101 rfl rfl (by decide : 5 < 8) rfl ?_
    refine G_goto (tgt := 35) dX12_share_104 (by decide) ?_
    exact k2 c1
set_option maxRecDepth 20000 in
set_option maxHeartbeats 1000000 in
theorem sg_X12_share_118 {E : Nat × (Nat → Int32)} {d : Nat} {P : Option Value → Mem → Prop} {mem : Mem} {a1 : Int} {a2 : Int} {a3 : Int} {a4 : Int} {a5 : Int} (w1 : -2147483648 ≤ a4 ∧ a4 < 2147483648)
    (k1 : GM E (m_X12_share d) P 122 [.ref 169, vi a1, vi a2, vi a3, vi a4, vi a5, un, un] [vl a4, .ref 169] mem) :
    GM E (m_X12_share d) P 118 [.ref 169, vi a1, vi a2, vi a3, vi a4, vi a5, un, un] [] mem := by
  refine G_aload_n dX12_share_118 rfl ?_
  refine G_iload dX12_share_119 rfl ?_
  refine G_i2l dX12_share_121 (w1) ?_
  exact k1
set_option maxRecDepth 20000 in
set_option maxHeartbeats 1000000 in
theorem sg_X12_share_125 {E : Nat × (Nat → Int32)} {d : Nat} {P : Option Value → Mem → Prop} {mem : Mem} {a1 : Int} {a2 : Int} {a3 : Int} {a4 : Int} {a5 : Int}
    (k1 : P (some (vi a3)) mem) :
    GM E (m_X12_share d) P 125 [.ref 169, vi a1, vi a2, vi a3, vi a4, vi a5, un, un] [] mem := by
  refine G_iload_n dX12_share_125 rfl ?_
  exact G_iret dX12_share_126 rfl (Nat.zero_le _) (Nat.zero_le _) (Nat.le_refl _) ⟨rfl, k1⟩
abbrev m_X12_sheet (d : Nat) : Mu := (cX12_sheet, 9, RX12, (some .int), ⟨d, 0, 0, 40 * d⟩, "sheet")
set_option maxRecDepth 20000 in
set_option maxHeartbeats 1000000 in
theorem sg_X12_sheet_0 {E : Nat × (Nat → Int32)} {d : Nat} {P : Option Value → Mem → Prop} {mem : Mem} {a1 : Int} {a2 : Int} {a3 : Int} {a4 : Int} (w1 : -2147483648 ≤ a1 ∧ a1 < 2147483648)
    (k1 : GM E (m_X12_sheet d) P 11 [.ref 169, vi a1, vi a2, vi a3, vi a4, un, un, un, un] [vl 3, vl 0, vl a1] (up2 mem 169 0 0)) :
    GM E (m_X12_sheet d) P 0 [.ref 169, vi a1, vi a2, vi a3, vi a4, un, un, un, un] [] mem := by
  refine G_aload_n dX12_sheet_0 rfl ?_
  refine G_iconst (z := 0) dX12_sheet_1 rfl ?_
  refine G_putI (mem2 := (up2 mem 169 0 0)) dX12_sheet_2 fp_12_126 (by decide) sh_169 rfl ?_
  refine G_iload_n dX12_sheet_5 rfl ?_
  refine G_i2l dX12_sheet_6 (w1) ?_
  refine G_lconst (z := 0) dX12_sheet_7 rfl ?_
  refine G_ldc2 (z := 3) dX12_sheet_8 kc_12_336 ?_
  exact k1
set_option maxRecDepth 20000 in
set_option maxHeartbeats 1000000 in
theorem sg_X12_sheet_14 {E : Nat × (Nat → Int32)} {d : Nat} {P : Option Value → Mem → Prop} {mem : Mem} {a1 : Int} {a2 : Int} {a3 : Int} {a4 : Int} {s0 : Int} (w1 : -2147483648 ≤ s0 ∧ s0 < 2147483648) (w2 : -2147483648 ≤ a2 ∧ a2 < 2147483648) (w3 : -2147483648 ≤ a1 ∧ a1 < 2147483648)
    (k1 : s0 = 0 → P (some (vi (-1))) mem)
    (k2 : ¬ s0 = 0 → a2 ≤ 6 → a1 = 3 → GM E (m_X12_sheet d) P 46 [.ref 169, vi a1, vi a2, vi a3, vi a4, vi 0, vi a3, vi 0, un] [] mem)
    (k3 : ¬ s0 = 0 → a2 ≤ 6 → ¬ a1 = 3 → 0 ≤ a2 → GM E (m_X12_sheet d) P 46 [.ref 169, vi a1, vi a2, vi a3, vi a4, vi 0, vi a3, vi 0, un] [] mem)
    (k4 : ¬ s0 = 0 → a2 ≤ 6 → ¬ a1 = 3 → ¬ 0 ≤ a2 → P (some (vi (-2))) mem)
    (k5 : ¬ s0 = 0 → ¬ a2 ≤ 6 → P (some (vi (-1))) mem) :
    GM E (m_X12_sheet d) P 14 [.ref 169, vi a1, vi a2, vi a3, vi a4, un, un, un, un] [vi s0] mem := by
  refine G_if_eq (tgt := 23) dX12_sheet_14 (by decide) (w1) (fun c1 => ?_) (fun c1 => ?_)
  · -- s0 = 0
    refine G_iconst (z := (-1)) dX12_sheet_23 rfl ?_
    exact G_iret dX12_sheet_24 rfl (Nat.zero_le _) (Nat.zero_le _) (Nat.le_refl _) ⟨rfl, k1 c1⟩
  · -- ¬ s0 = 0
    refine G_iload_n dX12_sheet_17 rfl ?_
    refine G_bipush (z := 6) dX12_sheet_18 rfl ?_
    refine G_icmp_le (tgt := 25) dX12_sheet_20 (by decide) (w2) (by decide) (fun c2 => ?_) (fun c2 => ?_)
    · -- a2 ≤ 6
      refine G_iload_n dX12_sheet_25 rfl ?_
      refine G_iconst (z := 3) dX12_sheet_26 rfl ?_
      refine G_icmp_eq (tgt := 37) dX12_sheet_27 (by decide) (w3) (by decide) (fun c3 => ?_) (fun c3 => ?_)
      · -- a1 = 3
        refine G_iconst (z := 0) dX12_sheet_37 rfl ?_
        refine G_istore dX12_sheet_38 (by decide : 5 < 9) rfl ?_
        refine G_iload_n dX12_sheet_40 rfl ?_
        refine G_istore dX12_sheet_41 (by decide : 6 < 9) rfl ?_
        refine G_iconst (z := 0) dX12_sheet_43 rfl ?_
        refine G_istore dX12_sheet_44 (by decide : 7 < 9) rfl ?_
        exact k2 c1 c2 c3
      · -- ¬ a1 = 3
        refine G_iload_n dX12_sheet_30 rfl ?_
        refine G_if_ge (tgt := 37) dX12_sheet_31 (by decide) (w2) (fun c4 => ?_) (fun c4 => ?_)
        · -- 0 ≤ a2
          refine G_iconst (z := 0) dX12_sheet_37 rfl ?_
          refine G_istore dX12_sheet_38 (by decide : 5 < 9) rfl ?_
          refine G_iload_n dX12_sheet_40 rfl ?_
          refine G_istore dX12_sheet_41 (by decide : 6 < 9) rfl ?_
          refine G_iconst (z := 0) dX12_sheet_43 rfl ?_
          refine G_istore dX12_sheet_44 (by decide : 7 < 9) rfl ?_
          exact k3 c1 c2 c3 c4
        · -- ¬ 0 ≤ a2
          refine G_bipush (z := (-2)) dX12_sheet_34 rfl ?_
          exact G_iret dX12_sheet_36 rfl (Nat.zero_le _) (Nat.zero_le _) (Nat.le_refl _) ⟨rfl, k4 c1 c2 c3 c4⟩
    · -- ¬ a2 ≤ 6
      refine G_iconst (z := (-1)) dX12_sheet_23 rfl ?_
      exact G_iret dX12_sheet_24 rfl (Nat.zero_le _) (Nat.zero_le _) (Nat.le_refl _) ⟨rfl, k5 c1 c2⟩
set_option maxRecDepth 20000 in
set_option maxHeartbeats 1000000 in
theorem sg_X12_sheet_46 {E : Nat × (Nat → Int32)} {d : Nat} (hd : 1 ≤ d) {P : Option Value → Mem → Prop} {mem : Mem} {a1 : Int} {a2 : Int} {a3 : Int} {a4 : Int} {a5 : Int} {a6 : Int} {a7 : Int} (w1 : -2147483648 ≤ a7 ∧ a7 < 2147483648) (w2 : -2147483648 ≤ (mem 169 3) ∧ (mem 169 3) < 2147483648) (w3 : -2147483648 ≤ a1 ∧ a1 < 2147483648) (q4 : ¬ (mem 169 3) ≤ a7 → a1 ≠ 0 → a1 ≠ 1 → a1 = 3 → 0 ≤ a7 ∧ a7 < 6) (w5 : -2147483648 ≤ a2 ∧ a2 < 2147483648) (w6 : -2147483648 ≤ a6 ∧ a6 < 2147483648) (w7 : ¬ (mem 169 3) ≤ a7 → a1 ≠ 0 → a1 ≠ 1 → ¬ a1 = 3 → a7 < a2 → -2147483648 ≤ (min 99 a6) ∧ (min 99 a6) < 2147483648) (q8 : ¬ (mem 169 3) ≤ a7 → a1 ≠ 0 → a1 ≠ 1 → ¬ a1 = 3 → a7 < a2 → 0 ≤ a7 ∧ a7 < 6) (q9 : ¬ (mem 169 3) ≤ a7 → a1 ≠ 0 → a1 ≠ 1 → ¬ a1 = 3 → ¬ a7 < a2 → 0 ≤ a7 ∧ a7 < 6) (q10 : ¬ (mem 169 3) ≤ a7 → a1 ≠ 0 → a1 = 1 → a1 = 3 → 0 ≤ a7 ∧ a7 < 6) (w11 : ¬ (mem 169 3) ≤ a7 → a1 ≠ 0 → a1 = 1 → ¬ a1 = 3 → a7 < a2 → -2147483648 ≤ (min 99 (shortI a6)) ∧ (min 99 (shortI a6)) < 2147483648) (q12 : ¬ (mem 169 3) ≤ a7 → a1 ≠ 0 → a1 = 1 → ¬ a1 = 3 → a7 < a2 → 0 ≤ a7 ∧ a7 < 6) (q13 : ¬ (mem 169 3) ≤ a7 → a1 ≠ 0 → a1 = 1 → ¬ a1 = 3 → ¬ a7 < a2 → 0 ≤ a7 ∧ a7 < 6) (q14 : ¬ (mem 169 3) ≤ a7 → a1 = 0 → a1 = 3 → 0 ≤ a7 ∧ a7 < 6) (w15 : ¬ (mem 169 3) ≤ a7 → a1 = 0 → ¬ a1 = 3 → a7 < a2 → -2147483648 ≤ (min 99 (byteI a6)) ∧ (min 99 (byteI a6)) < 2147483648) (q16 : ¬ (mem 169 3) ≤ a7 → a1 = 0 → ¬ a1 = 3 → a7 < a2 → 0 ≤ a7 ∧ a7 < 6) (q17 : ¬ (mem 169 3) ≤ a7 → a1 = 0 → ¬ a1 = 3 → ¬ a7 < a2 → 0 ≤ a7 ∧ a7 < 6)
    (k1 : (mem 169 3) ≤ a7 → a1 ≠ 3 → P (some (vi a5)) mem)
    (k2 : (mem 169 3) ≤ a7 → a1 = 3 → P (some (vi (-3))) mem)
    (k3 : ¬ (mem 169 3) ≤ a7 → a1 ≠ 0 → a1 ≠ 1 → a1 = 3 → GM E (m_X12_sheet d) P 46 [.ref 169, vi a1, vi a2, vi a3, vi a4, vi (a5 + 0), vi (a6 + a4), vi (a7 + 1), vi a6] [] (up2 mem 171 a7 0))
    (k4 : ¬ (mem 169 3) ≤ a7 → a1 ≠ 0 → a1 ≠ 1 → ¬ a1 = 3 → a7 < a2 → GM E (m_X12_sheet d) P 46 [.ref 169, vi a1, vi a2, vi a3, vi a4, vi (a5 + (max 0 (min 99 a6))), vi (a6 + a4), vi (a7 + 1), vi a6] [] (up2 mem 171 a7 (max 0 (min 99 a6))))
    (k5 : ¬ (mem 169 3) ≤ a7 → a1 ≠ 0 → a1 ≠ 1 → ¬ a1 = 3 → ¬ a7 < a2 → GM E (m_X12_sheet d) P 46 [.ref 169, vi a1, vi a2, vi a3, vi a4, vi (a5 + 0), vi (a6 + a4), vi (a7 + 1), vi a6] [] (up2 mem 171 a7 0))
    (k6 : ¬ (mem 169 3) ≤ a7 → a1 ≠ 0 → a1 = 1 → a1 = 3 → GM E (m_X12_sheet d) P 46 [.ref 169, vi a1, vi a2, vi a3, vi a4, vi (a5 + 0), vi (a6 + a4), vi (a7 + 1), vi (shortI a6)] [] (up2 mem 171 a7 0))
    (k7 : ¬ (mem 169 3) ≤ a7 → a1 ≠ 0 → a1 = 1 → ¬ a1 = 3 → a7 < a2 → GM E (m_X12_sheet d) P 46 [.ref 169, vi a1, vi a2, vi a3, vi a4, vi (a5 + (max 0 (min 99 (shortI a6)))), vi (a6 + a4), vi (a7 + 1), vi (shortI a6)] [] (up2 mem 171 a7 (max 0 (min 99 (shortI a6)))))
    (k8 : ¬ (mem 169 3) ≤ a7 → a1 ≠ 0 → a1 = 1 → ¬ a1 = 3 → ¬ a7 < a2 → GM E (m_X12_sheet d) P 46 [.ref 169, vi a1, vi a2, vi a3, vi a4, vi (a5 + 0), vi (a6 + a4), vi (a7 + 1), vi (shortI a6)] [] (up2 mem 171 a7 0))
    (k9 : ¬ (mem 169 3) ≤ a7 → a1 = 0 → a1 = 3 → GM E (m_X12_sheet d) P 46 [.ref 169, vi a1, vi a2, vi a3, vi a4, vi (a5 + 0), vi (a6 + a4), vi (a7 + 1), vi (byteI a6)] [] (up2 mem 171 a7 0))
    (k10 : ¬ (mem 169 3) ≤ a7 → a1 = 0 → ¬ a1 = 3 → a7 < a2 → GM E (m_X12_sheet d) P 46 [.ref 169, vi a1, vi a2, vi a3, vi a4, vi (a5 + (max 0 (min 99 (byteI a6)))), vi (a6 + a4), vi (a7 + 1), vi (byteI a6)] [] (up2 mem 171 a7 (max 0 (min 99 (byteI a6)))))
    (k11 : ¬ (mem 169 3) ≤ a7 → a1 = 0 → ¬ a1 = 3 → ¬ a7 < a2 → GM E (m_X12_sheet d) P 46 [.ref 169, vi a1, vi a2, vi a3, vi a4, vi (a5 + 0), vi (a6 + a4), vi (a7 + 1), vi (byteI a6)] [] (up2 mem 171 a7 0)) :
    GM E (m_X12_sheet d) P 46 [.ref 169, vi a1, vi a2, vi a3, vi a4, vi a5, vi a6, vi a7, un] [] mem := by
  refine G_iload dX12_sheet_46 rfl ?_
  refine G_aload_n dX12_sheet_48 rfl ?_
  refine G_getI (z := (mem 169 3)) dX12_sheet_49 fl_12_137 (by decide) sh_169 rfl ?_
  refine G_icmp_ge (tgt := 138) dX12_sheet_52 (by decide) (w1) (w2) (fun c1 => ?_) (fun c1 => ?_)
  · -- (mem 169 3) ≤ a7
    refine G_iload_n dX12_sheet_138 rfl ?_
    refine G_iconst (z := 3) dX12_sheet_139 rfl ?_
    refine G_icmp_ne (tgt := 148) dX12_sheet_140 (by decide) (w3) (by decide) (fun c2 => ?_) (fun c2 => ?_)
    · -- a1 ≠ 3
      refine G_iload dX12_sheet_148 rfl ?_
      exact G_iret dX12_sheet_150 rfl (Nat.zero_le _) (Nat.zero_le _) (Nat.le_refl _) ⟨rfl, k1 c1 c2⟩
    · -- a1 = 3
      refine G_bipush (z := (-3)) dX12_sheet_143 rfl ?_
      refine G_goto (tgt := 150) dX12_sheet_145 (by decide) ?_
      exact G_iret dX12_sheet_150 rfl (Nat.zero_le _) (Nat.zero_le _) (Nat.le_refl _) ⟨rfl, k2 c1 c2⟩
  · -- ¬ (mem 169 3) ≤ a7
    refine G_iload_n dX12_sheet_55 rfl ?_
    refine G_if_ne (tgt := 65) dX12_sheet_56 (by decide) (w3) (fun c3 => ?_) (fun c3 => ?_)
    · -- a1 ≠ 0
      refine G_iload_n dX12_sheet_65 rfl ?_
      refine G_iconst (z := 1) dX12_sheet_66 rfl ?_
      refine G_icmp_ne (tgt := 76) dX12_sheet_67 (by decide) (w3) (by decide) (fun c4 => ?_) (fun c4 => ?_)
      · -- a1 ≠ 1
        refine G_iload dX12_sheet_76 rfl ?_
        refine G_istore dX12_sheet_78 (by decide : 8 < 9) rfl ?_
        refine G_aload_n dX12_sheet_80 rfl ?_
        refine G_getR (t := 171) dX12_sheet_81 fl_12_13 (by decide) sh_169 rr_169_5 ?_
        refine G_iload dX12_sheet_84 rfl ?_
        refine G_iload_n dX12_sheet_86 rfl ?_
        refine G_iconst (z := 3) dX12_sheet_87 rfl ?_
        refine G_icmp_eq (tgt := 97) dX12_sheet_88 (by decide) (w3) (by decide) (fun c5 => ?_) (fun c5 => ?_)
        · -- a1 = 3
          refine G_iconst (z := 0) dX12_sheet_97 rfl ?_
          refine G_goto (tgt := 112) dX12_sheet_98 (by decide) ?_
          refine G_iast (mem2 := (up2 mem 171 a7 0)) dX12_sheet_112 (by decide) sh_171 (by decide) (q4 c1 c3 c4 c5).1 (q4 c1 c3 c4 c5).2 rfl ?_
          refine G_iload dX12_sheet_113 rfl ?_
          refine G_aload_n dX12_sheet_115 rfl ?_
          refine G_getR (t := 171) dX12_sheet_116 fl_12_13 (by decide) sh_169 rr_169_5 ?_
          refine G_iload dX12_sheet_119 rfl ?_
          refine G_iald (z := 0) dX12_sheet_121 (by decide) sh_171 (by decide) (q4 c1 c3 c4 c5).1 (q4 c1 c3 c4 c5).2 (by simp [up2, upr]) ?_
          refine G_iadd dX12_sheet_122 ?_
          refine G_istore dX12_sheet_123 (by decide : 5 < 9) rfl ?_
          refine G_iload dX12_sheet_125 rfl ?_
          refine G_iload dX12_sheet_127 rfl ?_
          refine G_iadd dX12_sheet_129 ?_
          refine G_istore dX12_sheet_130 (by decide : 6 < 9) rfl ?_
          refine G_iinc (z := (a7 + 1)) dX12_sheet_132 rfl rfl (by decide : 7 < 9) rfl ?_
          refine G_goto (tgt := 46) dX12_sheet_135 (by decide) ?_
          exact k3 c1 c3 c4 c5
        · -- ¬ a1 = 3
          refine G_iload dX12_sheet_91 rfl ?_
          refine G_iload_n dX12_sheet_93 rfl ?_
          refine G_icmp_lt (tgt := 101) dX12_sheet_94 (by decide) (w1) (w5) (fun c6 => ?_) (fun c6 => ?_)
          · -- a7 < a2
            refine G_iconst (z := 0) dX12_sheet_101 rfl ?_
            refine G_bipush (z := 99) dX12_sheet_102 rfl ?_
            refine G_iload dX12_sheet_104 rfl ?_
            refine G_min (z := (min 99 a6)) dX12_sheet_106 ml_12_157 mw_min (by decide) (w6) ⟨by show 1 ≤ d; omega, by show 21 ≤ 40 * d; omega, Nat.zero_le _, Nat.zero_le _⟩ (Nat.le_of_ble_eq_true rfl) rfl ?_
            refine G_max (z := (max 0 (min 99 a6))) dX12_sheet_109 ml_12_257 mw_max (by decide) (w7 c1 c3 c4 c5 c6) ⟨by show 1 ≤ d; omega, by show 21 ≤ 40 * d; omega, Nat.zero_le _, Nat.zero_le _⟩ (Nat.le_of_ble_eq_true rfl) rfl ?_
            refine G_iast (mem2 := (up2 mem 171 a7 (max 0 (min 99 a6)))) dX12_sheet_112 (by decide) sh_171 (by decide) (q8 c1 c3 c4 c5 c6).1 (q8 c1 c3 c4 c5 c6).2 rfl ?_
            refine G_iload dX12_sheet_113 rfl ?_
            refine G_aload_n dX12_sheet_115 rfl ?_
            refine G_getR (t := 171) dX12_sheet_116 fl_12_13 (by decide) sh_169 rr_169_5 ?_
            refine G_iload dX12_sheet_119 rfl ?_
            refine G_iald (z := (max 0 (min 99 a6))) dX12_sheet_121 (by decide) sh_171 (by decide) (q8 c1 c3 c4 c5 c6).1 (q8 c1 c3 c4 c5 c6).2 (by simp [up2, upr]) ?_
            refine G_iadd dX12_sheet_122 ?_
            refine G_istore dX12_sheet_123 (by decide : 5 < 9) rfl ?_
            refine G_iload dX12_sheet_125 rfl ?_
            refine G_iload dX12_sheet_127 rfl ?_
            refine G_iadd dX12_sheet_129 ?_
            refine G_istore dX12_sheet_130 (by decide : 6 < 9) rfl ?_
            refine G_iinc (z := (a7 + 1)) dX12_sheet_132 rfl rfl (by decide : 7 < 9) rfl ?_
            refine G_goto (tgt := 46) dX12_sheet_135 (by decide) ?_
            exact k4 c1 c3 c4 c5 c6
          · -- ¬ a7 < a2
            refine G_iconst (z := 0) dX12_sheet_97 rfl ?_
            refine G_goto (tgt := 112) dX12_sheet_98 (by decide) ?_
            refine G_iast (mem2 := (up2 mem 171 a7 0)) dX12_sheet_112 (by decide) sh_171 (by decide) (q9 c1 c3 c4 c5 c6).1 (q9 c1 c3 c4 c5 c6).2 rfl ?_
            refine G_iload dX12_sheet_113 rfl ?_
            refine G_aload_n dX12_sheet_115 rfl ?_
            refine G_getR (t := 171) dX12_sheet_116 fl_12_13 (by decide) sh_169 rr_169_5 ?_
            refine G_iload dX12_sheet_119 rfl ?_
            refine G_iald (z := 0) dX12_sheet_121 (by decide) sh_171 (by decide) (q9 c1 c3 c4 c5 c6).1 (q9 c1 c3 c4 c5 c6).2 (by simp [up2, upr]) ?_
            refine G_iadd dX12_sheet_122 ?_
            refine G_istore dX12_sheet_123 (by decide : 5 < 9) rfl ?_
            refine G_iload dX12_sheet_125 rfl ?_
            refine G_iload dX12_sheet_127 rfl ?_
            refine G_iadd dX12_sheet_129 ?_
            refine G_istore dX12_sheet_130 (by decide : 6 < 9) rfl ?_
            refine G_iinc (z := (a7 + 1)) dX12_sheet_132 rfl rfl (by decide : 7 < 9) rfl ?_
            refine G_goto (tgt := 46) dX12_sheet_135 (by decide) ?_
            exact k5 c1 c3 c4 c5 c6
      · -- a1 = 1
        refine G_iload dX12_sheet_70 rfl ?_
        refine G_i2s (z := (shortI a6)) dX12_sheet_72 (iI_inv _) ?_
        refine G_goto (tgt := 78) dX12_sheet_73 (by decide) ?_
        refine G_istore dX12_sheet_78 (by decide : 8 < 9) rfl ?_
        refine G_aload_n dX12_sheet_80 rfl ?_
        refine G_getR (t := 171) dX12_sheet_81 fl_12_13 (by decide) sh_169 rr_169_5 ?_
        refine G_iload dX12_sheet_84 rfl ?_
        refine G_iload_n dX12_sheet_86 rfl ?_
        refine G_iconst (z := 3) dX12_sheet_87 rfl ?_
        refine G_icmp_eq (tgt := 97) dX12_sheet_88 (by decide) (w3) (by decide) (fun c7 => ?_) (fun c7 => ?_)
        · -- a1 = 3
          refine G_iconst (z := 0) dX12_sheet_97 rfl ?_
          refine G_goto (tgt := 112) dX12_sheet_98 (by decide) ?_
          refine G_iast (mem2 := (up2 mem 171 a7 0)) dX12_sheet_112 (by decide) sh_171 (by decide) (q10 c1 c3 c4 c7).1 (q10 c1 c3 c4 c7).2 rfl ?_
          refine G_iload dX12_sheet_113 rfl ?_
          refine G_aload_n dX12_sheet_115 rfl ?_
          refine G_getR (t := 171) dX12_sheet_116 fl_12_13 (by decide) sh_169 rr_169_5 ?_
          refine G_iload dX12_sheet_119 rfl ?_
          refine G_iald (z := 0) dX12_sheet_121 (by decide) sh_171 (by decide) (q10 c1 c3 c4 c7).1 (q10 c1 c3 c4 c7).2 (by simp [up2, upr]) ?_
          refine G_iadd dX12_sheet_122 ?_
          refine G_istore dX12_sheet_123 (by decide : 5 < 9) rfl ?_
          refine G_iload dX12_sheet_125 rfl ?_
          refine G_iload dX12_sheet_127 rfl ?_
          refine G_iadd dX12_sheet_129 ?_
          refine G_istore dX12_sheet_130 (by decide : 6 < 9) rfl ?_
          refine G_iinc (z := (a7 + 1)) dX12_sheet_132 rfl rfl (by decide : 7 < 9) rfl ?_
          refine G_goto (tgt := 46) dX12_sheet_135 (by decide) ?_
          exact k6 c1 c3 c4 c7
        · -- ¬ a1 = 3
          refine G_iload dX12_sheet_91 rfl ?_
          refine G_iload_n dX12_sheet_93 rfl ?_
          refine G_icmp_lt (tgt := 101) dX12_sheet_94 (by decide) (w1) (w5) (fun c8 => ?_) (fun c8 => ?_)
          · -- a7 < a2
            refine G_iconst (z := 0) dX12_sheet_101 rfl ?_
            refine G_bipush (z := 99) dX12_sheet_102 rfl ?_
            refine G_iload dX12_sheet_104 rfl ?_
            refine G_min (z := (min 99 (shortI a6))) dX12_sheet_106 ml_12_157 mw_min (by decide) (iI_rng _) ⟨by show 1 ≤ d; omega, by show 21 ≤ 40 * d; omega, Nat.zero_le _, Nat.zero_le _⟩ (Nat.le_of_ble_eq_true rfl) rfl ?_
            refine G_max (z := (max 0 (min 99 (shortI a6)))) dX12_sheet_109 ml_12_257 mw_max (by decide) (w11 c1 c3 c4 c7 c8) ⟨by show 1 ≤ d; omega, by show 21 ≤ 40 * d; omega, Nat.zero_le _, Nat.zero_le _⟩ (Nat.le_of_ble_eq_true rfl) rfl ?_
            refine G_iast (mem2 := (up2 mem 171 a7 (max 0 (min 99 (shortI a6))))) dX12_sheet_112 (by decide) sh_171 (by decide) (q12 c1 c3 c4 c7 c8).1 (q12 c1 c3 c4 c7 c8).2 rfl ?_
            refine G_iload dX12_sheet_113 rfl ?_
            refine G_aload_n dX12_sheet_115 rfl ?_
            refine G_getR (t := 171) dX12_sheet_116 fl_12_13 (by decide) sh_169 rr_169_5 ?_
            refine G_iload dX12_sheet_119 rfl ?_
            refine G_iald (z := (max 0 (min 99 (shortI a6)))) dX12_sheet_121 (by decide) sh_171 (by decide) (q12 c1 c3 c4 c7 c8).1 (q12 c1 c3 c4 c7 c8).2 (by simp [up2, upr]) ?_
            refine G_iadd dX12_sheet_122 ?_
            refine G_istore dX12_sheet_123 (by decide : 5 < 9) rfl ?_
            refine G_iload dX12_sheet_125 rfl ?_
            refine G_iload dX12_sheet_127 rfl ?_
            refine G_iadd dX12_sheet_129 ?_
            refine G_istore dX12_sheet_130 (by decide : 6 < 9) rfl ?_
            refine G_iinc (z := (a7 + 1)) dX12_sheet_132 rfl rfl (by decide : 7 < 9) rfl ?_
            refine G_goto (tgt := 46) dX12_sheet_135 (by decide) ?_
            exact k7 c1 c3 c4 c7 c8
          · -- ¬ a7 < a2
            refine G_iconst (z := 0) dX12_sheet_97 rfl ?_
            refine G_goto (tgt := 112) dX12_sheet_98 (by decide) ?_
            refine G_iast (mem2 := (up2 mem 171 a7 0)) dX12_sheet_112 (by decide) sh_171 (by decide) (q13 c1 c3 c4 c7 c8).1 (q13 c1 c3 c4 c7 c8).2 rfl ?_
            refine G_iload dX12_sheet_113 rfl ?_
            refine G_aload_n dX12_sheet_115 rfl ?_
            refine G_getR (t := 171) dX12_sheet_116 fl_12_13 (by decide) sh_169 rr_169_5 ?_
            refine G_iload dX12_sheet_119 rfl ?_
            refine G_iald (z := 0) dX12_sheet_121 (by decide) sh_171 (by decide) (q13 c1 c3 c4 c7 c8).1 (q13 c1 c3 c4 c7 c8).2 (by simp [up2, upr]) ?_
            refine G_iadd dX12_sheet_122 ?_
            refine G_istore dX12_sheet_123 (by decide : 5 < 9) rfl ?_
            refine G_iload dX12_sheet_125 rfl ?_
            refine G_iload dX12_sheet_127 rfl ?_
            refine G_iadd dX12_sheet_129 ?_
            refine G_istore dX12_sheet_130 (by decide : 6 < 9) rfl ?_
            refine G_iinc (z := (a7 + 1)) dX12_sheet_132 rfl rfl (by decide : 7 < 9) rfl ?_
            refine G_goto (tgt := 46) dX12_sheet_135 (by decide) ?_
            exact k8 c1 c3 c4 c7 c8
    · -- a1 = 0
      refine G_iload dX12_sheet_59 rfl ?_
      refine G_i2b (z := (byteI a6)) dX12_sheet_61 (iI_inv _) ?_
      refine G_goto (tgt := 78) dX12_sheet_62 (by decide) ?_
      refine G_istore dX12_sheet_78 (by decide : 8 < 9) rfl ?_
      refine G_aload_n dX12_sheet_80 rfl ?_
      refine G_getR (t := 171) dX12_sheet_81 fl_12_13 (by decide) sh_169 rr_169_5 ?_
      refine G_iload dX12_sheet_84 rfl ?_
      refine G_iload_n dX12_sheet_86 rfl ?_
      refine G_iconst (z := 3) dX12_sheet_87 rfl ?_
      refine G_icmp_eq (tgt := 97) dX12_sheet_88 (by decide) (w3) (by decide) (fun c9 => ?_) (fun c9 => ?_)
      · -- a1 = 3
        refine G_iconst (z := 0) dX12_sheet_97 rfl ?_
        refine G_goto (tgt := 112) dX12_sheet_98 (by decide) ?_
        refine G_iast (mem2 := (up2 mem 171 a7 0)) dX12_sheet_112 (by decide) sh_171 (by decide) (q14 c1 c3 c9).1 (q14 c1 c3 c9).2 rfl ?_
        refine G_iload dX12_sheet_113 rfl ?_
        refine G_aload_n dX12_sheet_115 rfl ?_
        refine G_getR (t := 171) dX12_sheet_116 fl_12_13 (by decide) sh_169 rr_169_5 ?_
        refine G_iload dX12_sheet_119 rfl ?_
        refine G_iald (z := 0) dX12_sheet_121 (by decide) sh_171 (by decide) (q14 c1 c3 c9).1 (q14 c1 c3 c9).2 (by simp [up2, upr]) ?_
        refine G_iadd dX12_sheet_122 ?_
        refine G_istore dX12_sheet_123 (by decide : 5 < 9) rfl ?_
        refine G_iload dX12_sheet_125 rfl ?_
        refine G_iload dX12_sheet_127 rfl ?_
        refine G_iadd dX12_sheet_129 ?_
        refine G_istore dX12_sheet_130 (by decide : 6 < 9) rfl ?_
        refine G_iinc (z := (a7 + 1)) dX12_sheet_132 rfl rfl (by decide : 7 < 9) rfl ?_
        refine G_goto (tgt := 46) dX12_sheet_135 (by decide) ?_
        exact k9 c1 c3 c9
      · -- ¬ a1 = 3
        refine G_iload dX12_sheet_91 rfl ?_
        refine G_iload_n dX12_sheet_93 rfl ?_
        refine G_icmp_lt (tgt := 101) dX12_sheet_94 (by decide) (w1) (w5) (fun c10 => ?_) (fun c10 => ?_)
        · -- a7 < a2
          refine G_iconst (z := 0) dX12_sheet_101 rfl ?_
          refine G_bipush (z := 99) dX12_sheet_102 rfl ?_
          refine G_iload dX12_sheet_104 rfl ?_
          refine G_min (z := (min 99 (byteI a6))) dX12_sheet_106 ml_12_157 mw_min (by decide) (iI_rng _) ⟨by show 1 ≤ d; omega, by show 21 ≤ 40 * d; omega, Nat.zero_le _, Nat.zero_le _⟩ (Nat.le_of_ble_eq_true rfl) rfl ?_
          refine G_max (z := (max 0 (min 99 (byteI a6)))) dX12_sheet_109 ml_12_257 mw_max (by decide) (w15 c1 c3 c9 c10) ⟨by show 1 ≤ d; omega, by show 21 ≤ 40 * d; omega, Nat.zero_le _, Nat.zero_le _⟩ (Nat.le_of_ble_eq_true rfl) rfl ?_
          refine G_iast (mem2 := (up2 mem 171 a7 (max 0 (min 99 (byteI a6))))) dX12_sheet_112 (by decide) sh_171 (by decide) (q16 c1 c3 c9 c10).1 (q16 c1 c3 c9 c10).2 rfl ?_
          refine G_iload dX12_sheet_113 rfl ?_
          refine G_aload_n dX12_sheet_115 rfl ?_
          refine G_getR (t := 171) dX12_sheet_116 fl_12_13 (by decide) sh_169 rr_169_5 ?_
          refine G_iload dX12_sheet_119 rfl ?_
          refine G_iald (z := (max 0 (min 99 (byteI a6)))) dX12_sheet_121 (by decide) sh_171 (by decide) (q16 c1 c3 c9 c10).1 (q16 c1 c3 c9 c10).2 (by simp [up2, upr]) ?_
          refine G_iadd dX12_sheet_122 ?_
          refine G_istore dX12_sheet_123 (by decide : 5 < 9) rfl ?_
          refine G_iload dX12_sheet_125 rfl ?_
          refine G_iload dX12_sheet_127 rfl ?_
          refine G_iadd dX12_sheet_129 ?_
          refine G_istore dX12_sheet_130 (by decide : 6 < 9) rfl ?_
          refine G_iinc (z := (a7 + 1)) dX12_sheet_132 rfl rfl (by decide : 7 < 9) rfl ?_
          refine G_goto (tgt := 46) dX12_sheet_135 (by decide) ?_
          exact k10 c1 c3 c9 c10
        · -- ¬ a7 < a2
          refine G_iconst (z := 0) dX12_sheet_97 rfl ?_
          refine G_goto (tgt := 112) dX12_sheet_98 (by decide) ?_
          refine G_iast (mem2 := (up2 mem 171 a7 0)) dX12_sheet_112 (by decide) sh_171 (by decide) (q17 c1 c3 c9 c10).1 (q17 c1 c3 c9 c10).2 rfl ?_
          refine G_iload dX12_sheet_113 rfl ?_
          refine G_aload_n dX12_sheet_115 rfl ?_
          refine G_getR (t := 171) dX12_sheet_116 fl_12_13 (by decide) sh_169 rr_169_5 ?_
          refine G_iload dX12_sheet_119 rfl ?_
          refine G_iald (z := 0) dX12_sheet_121 (by decide) sh_171 (by decide) (q17 c1 c3 c9 c10).1 (q17 c1 c3 c9 c10).2 (by simp [up2, upr]) ?_
          refine G_iadd dX12_sheet_122 ?_
          refine G_istore dX12_sheet_123 (by decide : 5 < 9) rfl ?_
          refine G_iload dX12_sheet_125 rfl ?_
          refine G_iload dX12_sheet_127 rfl ?_
          refine G_iadd dX12_sheet_129 ?_
          refine G_istore dX12_sheet_130 (by decide : 6 < 9) rfl ?_
          refine G_iinc (z := (a7 + 1)) dX12_sheet_132 rfl rfl (by decide : 7 < 9) rfl ?_
          refine G_goto (tgt := 46) dX12_sheet_135 (by decide) ?_
          exact k11 c1 c3 c9 c10
abbrev m_X12_sign (d : Nat) : Mu := (cX12_sign, 3, RX12, (some .int), ⟨d, 0, 0, 40 * d⟩, "sign")
set_option maxRecDepth 20000 in
set_option maxHeartbeats 1000000 in
theorem sg_X12_sign_0 {E : Nat × (Nat → Int32)} {d : Nat} {P : Option Value → Mem → Prop} {mem : Mem} {a1 : Int} (w1 : -2147483648 ≤ (mem 169 17) ∧ (mem 169 17) < 2147483648)
    (k1 : (mem 169 17) ≤ 76 → GM E (m_X12_sign d) P 18 [.ref 169, vi a1, vi 0] [] (up2 mem 169 0 0))
    (k2 : ¬ (mem 169 17) ≤ 76 → P (some (vi (-1))) (up2 mem 169 0 0)) :
    GM E (m_X12_sign d) P 0 [.ref 169, vi a1, un] [] mem := by
  refine G_aload_n dX12_sign_0 rfl ?_
  refine G_iconst (z := 0) dX12_sign_1 rfl ?_
  refine G_putI (mem2 := (up2 mem 169 0 0)) dX12_sign_2 fp_12_126 (by decide) sh_169 rfl ?_
  refine G_aload_n dX12_sign_5 rfl ?_
  refine G_getI (z := (mem 169 17)) dX12_sign_6 fl_12_148 (by decide) sh_169 (by simp [up2, upr]) ?_
  refine G_bipush (z := 76) dX12_sign_9 rfl ?_
  refine G_icmp_le (tgt := 16) dX12_sign_11 (by decide) (w1) (by decide) (fun c1 => ?_) (fun c1 => ?_)
  · -- (mem 169 17) ≤ 76
    refine G_iconst (z := 0) dX12_sign_16 rfl ?_
    refine G_istore_n dX12_sign_17 rfl (by decide : 2 < 3) rfl ?_
    exact k1 c1
  · -- ¬ (mem 169 17) ≤ 76
    refine G_iconst (z := (-1)) dX12_sign_14 rfl ?_
    exact G_iret dX12_sign_15 rfl (Nat.zero_le _) (Nat.zero_le _) (Nat.le_refl _) ⟨rfl, k2 c1⟩
set_option maxRecDepth 20000 in
set_option maxHeartbeats 1000000 in
theorem sg_X12_sign_18 {E : Nat × (Nat → Int32)} {d : Nat} {P : Option Value → Mem → Prop} {mem : Mem} {a1 : Int} {a2 : Int} (w1 : -2147483648 ≤ a2 ∧ a2 < 2147483648) (q2 : ¬ 4 ≤ a2 → 0 ≤ ((mem 169 17) + a2) ∧ ((mem 169 17) + a2) < 80)
    (k1 : 4 ≤ a2 → P (some (vi ((mem 169 17) + 4))) (up2 mem 169 17 ((mem 169 17) + 4)))
    (k2 : ¬ 4 ≤ a2 → GM E (m_X12_sign d) P 18 [.ref 169, vi a1, vi (a2 + 1)] [] (up2 mem 182 ((mem 169 17) + a2) (bandI (shrI a1 (24 - (8 * a2))) 255))) :
    GM E (m_X12_sign d) P 18 [.ref 169, vi a1, vi a2] [] mem := by
  refine G_iload_n dX12_sign_18 rfl ?_
  refine G_iconst (z := 4) dX12_sign_19 rfl ?_
  refine G_icmp_ge (tgt := 53) dX12_sign_20 (by decide) (w1) (by decide) (fun c1 => ?_) (fun c1 => ?_)
  · -- 4 ≤ a2
    refine G_aload_n dX12_sign_53 rfl ?_
    refine G_dup dX12_sign_54 rfl ?_
    refine G_getI (z := (mem 169 17)) dX12_sign_55 fl_12_148 (by decide) sh_169 rfl ?_
    refine G_iconst (z := 4) dX12_sign_58 rfl ?_
    refine G_iadd dX12_sign_59 ?_
    refine G_putI (mem2 := (up2 mem 169 17 ((mem 169 17) + 4))) dX12_sign_60 fp_12_148 (by decide) sh_169 rfl ?_
    refine G_aload_n dX12_sign_63 rfl ?_
    refine G_getI (z := ((mem 169 17) + 4)) dX12_sign_64 fl_12_148 (by decide) sh_169 (by simp [up2, upr]) ?_
    exact G_iret dX12_sign_67 rfl (Nat.zero_le _) (Nat.zero_le _) (Nat.le_refl _) ⟨rfl, k1 c1⟩
  · -- ¬ 4 ≤ a2
    refine G_aload_n dX12_sign_23 rfl ?_
    refine G_getR (t := 182) dX12_sign_24 fl_12_48 (by decide) sh_169 rr_169_16 ?_
    refine G_aload_n dX12_sign_27 rfl ?_
    refine G_getI (z := (mem 169 17)) dX12_sign_28 fl_12_148 (by decide) sh_169 rfl ?_
    refine G_iload_n dX12_sign_31 rfl ?_
    refine G_iadd dX12_sign_32 ?_
    refine G_iload_n dX12_sign_33 rfl ?_
    refine G_bipush (z := 24) dX12_sign_34 rfl ?_
    refine G_bipush (z := 8) dX12_sign_36 rfl ?_
    refine G_iload_n dX12_sign_38 rfl ?_
    refine G_imul dX12_sign_39 ?_
    refine G_isub dX12_sign_40 ?_
    refine G_ishr (z := (shrI a1 (24 - (8 * a2)))) dX12_sign_41 (iI_inv _) ?_
    refine G_sipush (z := 255) dX12_sign_42 rfl ?_
    refine G_iand (z := (bandI (shrI a1 (24 - (8 * a2))) 255)) dX12_sign_45 (iI_inv _) ?_
    refine G_iast (mem2 := (up2 mem 182 ((mem 169 17) + a2) (bandI (shrI a1 (24 - (8 * a2))) 255))) dX12_sign_46 (by decide) sh_182 (by decide) (q2 c1).1 (q2 c1).2 rfl ?_
    refine G_iinc (z := (a2 + 1)) dX12_sign_47 rfl rfl (by decide : 2 < 3) rfl ?_
    refine G_goto (tgt := 18) dX12_sign_50 (by decide) ?_
    exact k2 c1
abbrev m_X12_soonest (d : Nat) : Mu := (cX12_soonest, 4, RX12, (some .int), ⟨d, 0, 0, 40 * d⟩, "soonest")
set_option maxRecDepth 20000 in
set_option maxHeartbeats 1000000 in
theorem sg_X12_soonest_0 {E : Nat × (Nat → Int32)} {d : Nat} {P : Option Value → Mem → Prop} {mem : Mem} {a1 : Int} (w1 : -2147483648 ≤ a1 ∧ a1 < 2147483648)
    (k1 : GM E (m_X12_soonest d) P 9 [.ref 169, vi a1, un, un] [.ref 169, vl 1, vl a1] (up2 mem 169 0 0)) :
    GM E (m_X12_soonest d) P 0 [.ref 169, vi a1, un, un] [] mem := by
  refine G_aload_n dX12_soonest_0 rfl ?_
  refine G_iconst (z := 0) dX12_soonest_1 rfl ?_
  refine G_putI (mem2 := (up2 mem 169 0 0)) dX12_soonest_2 fp_12_126 (by decide) sh_169 rfl ?_
  refine G_iload_n dX12_soonest_5 rfl ?_
  refine G_i2l dX12_soonest_6 (w1) ?_
  refine G_lconst (z := 1) dX12_soonest_7 rfl ?_
  refine G_aload_n dX12_soonest_8 rfl ?_
  exact k1
set_option maxRecDepth 20000 in
set_option maxHeartbeats 1000000 in
theorem sg_X12_soonest_12 {E : Nat × (Nat → Int32)} {d : Nat} {P : Option Value → Mem → Prop} {mem : Mem} {a1 : Int} {s0 : Int} {s1 : Int} {s2 : Int} (w1 : -2147483648 ≤ s0 ∧ s0 < 2147483648)
    (k1 : GM E (m_X12_soonest d) P 13 [.ref 169, vi a1, un, un] [vl s0, vl s1, vl s2] mem) :
    GM E (m_X12_soonest d) P 12 [.ref 169, vi a1, un, un] [vi s0, vl s1, vl s2] mem := by
  refine G_i2l dX12_soonest_12 (w1) ?_
  exact k1
set_option maxRecDepth 20000 in
set_option maxHeartbeats 1000000 in
theorem sg_X12_soonest_16 {E : Nat × (Nat → Int32)} {d : Nat} {P : Option Value → Mem → Prop} {mem : Mem} {a1 : Int} {s0 : Int} (w1 : -2147483648 ≤ s0 ∧ s0 < 2147483648)
    (k1 : s0 ≠ 0 → GM E (m_X12_soonest d) P 23 [.ref 169, vi a1, un, un] [vi a1, .ref 169] mem)
    (k2 : s0 = 0 → P (some (vi (-1))) mem) :
    GM E (m_X12_soonest d) P 16 [.ref 169, vi a1, un, un] [vi s0] mem := by
  refine G_if_ne (tgt := 21) dX12_soonest_16 (by decide) (w1) (fun c1 => ?_) (fun c1 => ?_)
  · -- s0 ≠ 0
    refine G_aload_n dX12_soonest_21 rfl ?_
    refine G_iload_n dX12_soonest_22 rfl ?_
    exact k1 c1
  · -- s0 = 0
    refine G_iconst (z := (-1)) dX12_soonest_19 rfl ?_
    exact G_iret dX12_soonest_20 rfl (Nat.zero_le _) (Nat.zero_le _) (Nat.le_refl _) ⟨rfl, k2 c1⟩
set_option maxRecDepth 20000 in
set_option maxHeartbeats 1000000 in
theorem sg_X12_soonest_26 {E : Nat × (Nat → Int32)} {d : Nat} {P : Option Value → Mem → Prop} {mem : Mem} {a1 : Int} {s0 : Int} (w1 : -2147483648 ≤ s0 ∧ s0 < 2147483648)
    (k1 : s0 < 0 → P (some (vi s0)) mem)
    (k2 : ¬ s0 < 0 → GM E (m_X12_soonest d) P 38 [.ref 169, vi a1, vi s0, vi 0] [] (up2 mem 169 1 0)) :
    GM E (m_X12_soonest d) P 26 [.ref 169, vi a1, un, un] [vi s0] mem := by
  refine G_istore_n dX12_soonest_26 rfl (by decide : 2 < 4) rfl ?_
  refine G_iload_n dX12_soonest_27 rfl ?_
  refine G_if_lt (tgt := 63) dX12_soonest_28 (by decide) (w1) (fun c1 => ?_) (fun c1 => ?_)
  · -- s0 < 0
    refine G_iload_n dX12_soonest_63 rfl ?_
    exact G_iret dX12_soonest_64 rfl (Nat.zero_le _) (Nat.zero_le _) (Nat.le_refl _) ⟨rfl, k1 c1⟩
  · -- ¬ s0 < 0
    refine G_aload_n dX12_soonest_31 rfl ?_
    refine G_iconst (z := 0) dX12_soonest_32 rfl ?_
    refine G_putI (mem2 := (up2 mem 169 1 0)) dX12_soonest_33 fp_12_134 (by decide) sh_169 rfl ?_
    refine G_iconst (z := 0) dX12_soonest_36 rfl ?_
    refine G_istore_n dX12_soonest_37 rfl (by decide : 3 < 4) rfl ?_
    exact k2 c1
set_option maxRecDepth 20000 in
set_option maxHeartbeats 1000000 in
theorem sg_X12_soonest_38 {E : Nat × (Nat → Int32)} {d : Nat} {P : Option Value → Mem → Prop} {mem : Mem} {a1 : Int} {a2 : Int} {a3 : Int}
    (k1 : GM E (m_X12_soonest d) P 40 [.ref 169, vi a1, vi a2, vi a3] [vi a1, vi a3] mem) :
    GM E (m_X12_soonest d) P 38 [.ref 169, vi a1, vi a2, vi a3] [] mem := by
  refine G_iload_n dX12_soonest_38 rfl ?_
  refine G_iload_n dX12_soonest_39 rfl ?_
  exact k1
set_option maxRecDepth 20000 in
set_option maxHeartbeats 1000000 in
theorem sg_X12_soonest_43 {E : Nat × (Nat → Int32)} {d : Nat} {P : Option Value → Mem → Prop} {mem : Mem} {a1 : Int} {a2 : Int} {a3 : Int} {s0 : Int} {s1 : Int} (w1 : -2147483648 ≤ s1 ∧ s1 < 2147483648) (w2 : -2147483648 ≤ s0 ∧ s0 < 2147483648) (q3 : ¬ s0 ≤ s1 → 0 ≤ a3 ∧ a3 < 6) (w4 : ¬ s0 ≤ s1 → -2147483648 ≤ (mem 196 a3) ∧ (mem 196 a3) < 2147483648)
    (k1 : s0 ≤ s1 → P (some (vi a2)) mem)
    (k2 : ¬ s0 ≤ s1 → GM E (m_X12_soonest d) P 54 [.ref 169, vi a1, vi a2, vi a3] [vl (mem 196 a3), .ref 169] mem) :
    GM E (m_X12_soonest d) P 43 [.ref 169, vi a1, vi a2, vi a3] [vi s0, vi s1] mem := by
  refine G_icmp_ge (tgt := 63) dX12_soonest_43 (by decide) (w1) (w2) (fun c1 => ?_) (fun c1 => ?_)
  · -- s0 ≤ s1
    refine G_iload_n dX12_soonest_63 rfl ?_
    exact G_iret dX12_soonest_64 rfl (Nat.zero_le _) (Nat.zero_le _) (Nat.le_refl _) ⟨rfl, k1 c1⟩
  · -- ¬ s0 ≤ s1
    refine G_aload_n dX12_soonest_46 rfl ?_
    refine G_aload_n dX12_soonest_47 rfl ?_
    refine G_getR (t := 196) dX12_soonest_48 fl_12_90 (by decide) sh_169 rr_169_53 ?_
    refine G_iload_n dX12_soonest_51 rfl ?_
    refine G_iald (z := (mem 196 a3)) dX12_soonest_52 (by decide) sh_196 (by decide) (q3 c1).1 (q3 c1).2 rfl ?_
    refine G_i2l dX12_soonest_53 (w4 c1) ?_
    exact k2 c1
set_option maxRecDepth 20000 in
set_option maxHeartbeats 1000000 in
theorem sg_X12_soonest_57 {E : Nat × (Nat → Int32)} {d : Nat} {P : Option Value → Mem → Prop} {mem : Mem} {a1 : Int} {a2 : Int} {a3 : Int}
    (k1 : GM E (m_X12_soonest d) P 38 [.ref 169, vi a1, vi a2, vi (a3 + 1)] [] mem) :
    GM E (m_X12_soonest d) P 57 [.ref 169, vi a1, vi a2, vi a3] [] mem := by
  refine G_iinc (z := (a3 + 1)) dX12_soonest_57 rfl rfl (by decide : 3 < 4) rfl ?_
  refine G_goto (tgt := 38) dX12_soonest_60 (by decide) ?_
  exact k1
abbrev m_X12_street (d : Nat) : Mu := (cX12_street, 5, RX12, (some .int), ⟨d, 0, 0, 40 * d⟩, "street")
set_option maxRecDepth 20000 in
set_option maxHeartbeats 1000000 in
theorem sg_X12_street_0 {E : Nat × (Nat → Int32)} {d : Nat} {P : Option Value → Mem → Prop} {mem : Mem} {a1 : Int} {a2 : Int}
    (k1 : GM E (m_X12_street d) P 7 [.ref 169, vi a1, vi a2, un, un] [vi a1, .ref 169] (up2 mem 169 0 0)) :
    GM E (m_X12_street d) P 0 [.ref 169, vi a1, vi a2, un, un] [] mem := by
  refine G_aload_n dX12_street_0 rfl ?_
  refine G_iconst (z := 0) dX12_street_1 rfl ?_
  refine G_putI (mem2 := (up2 mem 169 0 0)) dX12_street_2 fp_12_126 (by decide) sh_169 rfl ?_
  refine G_aload_n dX12_street_5 rfl ?_
  refine G_iload_n dX12_street_6 rfl ?_
  exact k1
set_option maxRecDepth 20000 in
set_option maxHeartbeats 1000000 in
theorem sg_X12_street_10 {E : Nat × (Nat → Int32)} {d : Nat} {P : Option Value → Mem → Prop} {mem : Mem} {a1 : Int} {a2 : Int} {s0 : Int} (w1 : -2147483648 ≤ s0 ∧ s0 < 2147483648) (w2 : -2147483648 ≤ a2 ∧ a2 < 2147483648)
    (k1 : s0 = 0 → GM E (m_X12_street d) P 26 [.ref 169, vi a1, vi a2, un, un] [.ref 169] mem)
    (k2 : ¬ s0 = 0 → GM E (m_X12_street d) P 19 [.ref 169, vi a1, vi a2, un, un] [vl 8, vl 0, vl a2] mem) :
    GM E (m_X12_street d) P 10 [.ref 169, vi a1, vi a2, un, un] [vi s0] mem := by
  refine G_if_eq (tgt := 25) dX12_street_10 (by decide) (w1) (fun c1 => ?_) (fun c1 => ?_)
  · -- s0 = 0
    refine G_aload_n dX12_street_25 rfl ?_
    exact k1 c1
  · -- ¬ s0 = 0
    refine G_iload_n dX12_street_13 rfl ?_
    refine G_i2l dX12_street_14 (w2) ?_
    refine G_lconst (z := 0) dX12_street_15 rfl ?_
    refine G_ldc2 (z := 8) dX12_street_16 kc_12_324 ?_
    exact k2 c1
set_option maxRecDepth 20000 in
set_option maxHeartbeats 1000000 in
theorem sg_X12_street_22 {E : Nat × (Nat → Int32)} {d : Nat} {P : Option Value → Mem → Prop} {mem : Mem} {a1 : Int} {a2 : Int} {s0 : Int} (w1 : -2147483648 ≤ s0 ∧ s0 < 2147483648) (w2 : -2147483648 ≤ a2 ∧ a2 < 2147483648) (q3 : s0 ≠ 0 → a2 = 0 → 0 ≤ a1 ∧ a1 < 6) (q4 : s0 ≠ 0 → ¬ a2 = 0 → a2 = 1 → 0 ≤ a1 ∧ a1 < 6) (q5 : s0 ≠ 0 → ¬ a2 = 0 → ¬ a2 = 1 → a2 = 2 → 0 ≤ a1 ∧ a1 < 6) (q6 : s0 ≠ 0 → ¬ a2 = 0 → ¬ a2 = 1 → ¬ a2 = 2 → a2 = 3 → 0 ≤ a1 ∧ a1 < 6) (q7 : s0 ≠ 0 → ¬ a2 = 0 → ¬ a2 = 1 → ¬ a2 = 2 → ¬ a2 = 3 → a2 = 4 → 0 ≤ a1 ∧ a1 < 6) (q8 : s0 ≠ 0 → ¬ a2 = 0 → ¬ a2 = 1 → ¬ a2 = 2 → ¬ a2 = 3 → ¬ a2 = 4 → a2 = 5 → 0 ≤ a1 ∧ a1 < 6) (q9 : s0 ≠ 0 → ¬ a2 = 0 → ¬ a2 = 1 → ¬ a2 = 2 → ¬ a2 = 3 → ¬ a2 = 4 → ¬ a2 = 5 → a2 = 6 → 0 ≤ a1 ∧ a1 < 6)
    (k1 : s0 ≠ 0 → a2 = 0 → P (some (vi (mem 171 a1))) mem)
    (k2 : s0 ≠ 0 → ¬ a2 = 0 → a2 = 1 → P (some (vi (mem 172 a1))) mem)
    (k3 : s0 ≠ 0 → ¬ a2 = 0 → ¬ a2 = 1 → a2 = 2 → P (some (vi (mem 173 a1))) mem)
    (k4 : s0 ≠ 0 → ¬ a2 = 0 → ¬ a2 = 1 → ¬ a2 = 2 → a2 = 3 → GM E (m_X12_street d) P 103 [.ref 169, vi a1, vi a2, un, un] [vi (mem 174 a1)] mem)
    (k5 : s0 ≠ 0 → ¬ a2 = 0 → ¬ a2 = 1 → ¬ a2 = 2 → ¬ a2 = 3 → a2 = 4 → P (some (vi (mem 175 a1))) mem)
    (k6 : s0 ≠ 0 → ¬ a2 = 0 → ¬ a2 = 1 → ¬ a2 = 2 → ¬ a2 = 3 → ¬ a2 = 4 → a2 = 5 → P (some (vi (mem 176 a1))) mem)
    (k7 : s0 ≠ 0 → ¬ a2 = 0 → ¬ a2 = 1 → ¬ a2 = 2 → ¬ a2 = 3 → ¬ a2 = 4 → ¬ a2 = 5 → a2 = 6 → P (some (vi (mem 177 a1))) mem)
    (k8 : s0 ≠ 0 → ¬ a2 = 0 → ¬ a2 = 1 → ¬ a2 = 2 → ¬ a2 = 3 → ¬ a2 = 4 → ¬ a2 = 5 → ¬ a2 = 6 → a2 = 7 → GM E (m_X12_street d) P 134 [.ref 169, vi a1, vi a2, un, un] [vi a1, .ref 180, .ref 169] mem)
    (k9 : s0 ≠ 0 → ¬ a2 = 0 → ¬ a2 = 1 → ¬ a2 = 2 → ¬ a2 = 3 → ¬ a2 = 4 → ¬ a2 = 5 → ¬ a2 = 6 → ¬ a2 = 7 → GM E (m_X12_street d) P 146 [.ref 169, vi a1, vi a2, vi 0, vi (16 * a1)] [] mem)
    (k10 : s0 = 0 → GM E (m_X12_street d) P 26 [.ref 169, vi a1, vi a2, un, un] [.ref 169] mem) :
    GM E (m_X12_street d) P 22 [.ref 169, vi a1, vi a2, un, un] [vi s0] mem := by
  refine G_if_ne (tgt := 30) dX12_street_22 (by decide) (w1) (fun c1 => ?_) (fun c1 => ?_)
  · -- s0 ≠ 0
    refine G_iload_n dX12_street_30 rfl ?_
    by_cases c2 : a2 = 0
    · refine G_tableIn (off := 45) (tgt := 76) dX12_street_31 (w2) (by omega) (by omega) (by rw [c2]; rfl) (by decide) ?_
      refine G_aload_n dX12_street_76 rfl ?_
      refine G_getR (t := 171) dX12_street_77 fl_12_13 (by decide) sh_169 rr_169_5 ?_
      refine G_iload_n dX12_street_80 rfl ?_
      refine G_iald (z := (mem 171 a1)) dX12_street_81 (by decide) sh_171 (by decide) (q3 c1 c2).1 (q3 c1 c2).2 rfl ?_
      exact G_iret dX12_street_82 rfl (Nat.zero_le _) (Nat.zero_le _) (Nat.le_refl _) ⟨rfl, k1 c1 c2⟩
    by_cases c3 : a2 = 1
    · refine G_tableIn (off := 52) (tgt := 83) dX12_street_31 (w2) (by omega) (by omega) (by rw [c3]; rfl) (by decide) ?_
      refine G_aload_n dX12_street_83 rfl ?_
      refine G_getR (t := 172) dX12_street_84 fl_12_17 (by decide) sh_169 rr_169_6 ?_
      refine G_iload_n dX12_street_87 rfl ?_
      refine G_iald (z := (mem 172 a1)) dX12_street_88 (by decide) sh_172 (by decide) (q4 c1 c2 c3).1 (q4 c1 c2 c3).2 rfl ?_
      exact G_iret dX12_street_89 rfl (Nat.zero_le _) (Nat.zero_le _) (Nat.le_refl _) ⟨rfl, k2 c1 c2 c3⟩
    by_cases c4 : a2 = 2
    · refine G_tableIn (off := 59) (tgt := 90) dX12_street_31 (w2) (by omega) (by omega) (by rw [c4]; rfl) (by decide) ?_
      refine G_aload_n dX12_street_90 rfl ?_
      refine G_getR (t := 173) dX12_street_91 fl_12_20 (by decide) sh_169 rr_169_7 ?_
      refine G_iload_n dX12_street_94 rfl ?_
      refine G_iald (z := (mem 173 a1)) dX12_street_95 (by decide) sh_173 (by decide) (q5 c1 c2 c3 c4).1 (q5 c1 c2 c3 c4).2 rfl ?_
      exact G_iret dX12_street_96 rfl (Nat.zero_le _) (Nat.zero_le _) (Nat.le_refl _) ⟨rfl, k3 c1 c2 c3 c4⟩
    by_cases c5 : a2 = 3
    · refine G_tableIn (off := 66) (tgt := 97) dX12_street_31 (w2) (by omega) (by omega) (by rw [c5]; rfl) (by decide) ?_
      refine G_aload_n dX12_street_97 rfl ?_
      refine G_getR (t := 174) dX12_street_98 fl_12_23 (by decide) sh_169 rr_169_8 ?_
      refine G_iload_n dX12_street_101 rfl ?_
      refine G_zald (z := (mem 174 a1)) dX12_street_102 (by decide) sh_174 (by decide) (q6 c1 c2 c3 c4 c5).1 (q6 c1 c2 c3 c4 c5).2 rfl ?_
      exact k4 c1 c2 c3 c4 c5
    by_cases c6 : a2 = 4
    · refine G_tableIn (off := 76) (tgt := 107) dX12_street_31 (w2) (by omega) (by omega) (by rw [c6]; rfl) (by decide) ?_
      refine G_aload_n dX12_street_107 rfl ?_
      refine G_getR (t := 175) dX12_street_108 fl_12_27 (by decide) sh_169 rr_169_9 ?_
      refine G_iload_n dX12_street_111 rfl ?_
      refine G_iald (z := (mem 175 a1)) dX12_street_112 (by decide) sh_175 (by decide) (q7 c1 c2 c3 c4 c5 c6).1 (q7 c1 c2 c3 c4 c5 c6).2 rfl ?_
      exact G_iret dX12_street_113 rfl (Nat.zero_le _) (Nat.zero_le _) (Nat.le_refl _) ⟨rfl, k5 c1 c2 c3 c4 c5 c6⟩
    by_cases c7 : a2 = 5
    · refine G_tableIn (off := 83) (tgt := 114) dX12_street_31 (w2) (by omega) (by omega) (by rw [c7]; rfl) (by decide) ?_
      refine G_aload_n dX12_street_114 rfl ?_
      refine G_getR (t := 176) dX12_street_115 fl_12_30 (by decide) sh_169 rr_169_10 ?_
      refine G_iload_n dX12_street_118 rfl ?_
      refine G_iald (z := (mem 176 a1)) dX12_street_119 (by decide) sh_176 (by decide) (q8 c1 c2 c3 c4 c5 c6 c7).1 (q8 c1 c2 c3 c4 c5 c6 c7).2 rfl ?_
      exact G_iret dX12_street_120 rfl (Nat.zero_le _) (Nat.zero_le _) (Nat.le_refl _) ⟨rfl, k6 c1 c2 c3 c4 c5 c6 c7⟩
    by_cases c8 : a2 = 6
    · refine G_tableIn (off := 90) (tgt := 121) dX12_street_31 (w2) (by omega) (by omega) (by rw [c8]; rfl) (by decide) ?_
      refine G_aload_n dX12_street_121 rfl ?_
      refine G_getR (t := 177) dX12_street_122 fl_12_33 (by decide) sh_169 rr_169_11 ?_
      refine G_iload_n dX12_street_125 rfl ?_
      refine G_iald (z := (mem 177 a1)) dX12_street_126 (by decide) sh_177 (by decide) (q9 c1 c2 c3 c4 c5 c6 c7 c8).1 (q9 c1 c2 c3 c4 c5 c6 c7 c8).2 rfl ?_
      exact G_iret dX12_street_127 rfl (Nat.zero_le _) (Nat.zero_le _) (Nat.le_refl _) ⟨rfl, k7 c1 c2 c3 c4 c5 c6 c7 c8⟩
    by_cases c9 : a2 = 7
    · refine G_tableIn (off := 97) (tgt := 128) dX12_street_31 (w2) (by omega) (by omega) (by rw [c9]; rfl) (by decide) ?_
      refine G_aload_n dX12_street_128 rfl ?_
      refine G_aload_n dX12_street_129 rfl ?_
      refine G_getR (t := 180) dX12_street_130 fl_12_42 (by decide) sh_169 rr_169_14 ?_
      refine G_iload_n dX12_street_133 rfl ?_
      exact k8 c1 c2 c3 c4 c5 c6 c7 c8 c9
    refine G_tableOut (tgt := 138) dX12_street_31 (w2) (by omega) (by decide) ?_
    refine G_iconst (z := 0) dX12_street_138 rfl ?_
    refine G_istore_n dX12_street_139 rfl (by decide : 3 < 5) rfl ?_
    refine G_bipush (z := 16) dX12_street_140 rfl ?_
    refine G_iload_n dX12_street_142 rfl ?_
    refine G_imul dX12_street_143 ?_
    refine G_istore dX12_street_144 (by decide : 4 < 5) rfl ?_
    exact k9 c1 c2 c3 c4 c5 c6 c7 c8 c9
  · -- s0 = 0
    refine G_aload_n dX12_street_25 rfl ?_
    exact k10 c1
set_option maxRecDepth 20000 in
set_option maxHeartbeats 1000000 in
theorem sg_X12_street_29 {E : Nat × (Nat → Int32)} {d : Nat} {P : Option Value → Mem → Prop} {mem : Mem} {a1 : Int} {a2 : Int} {s0 : Int}
    (k1 : P (some (vi s0)) mem) :
    GM E (m_X12_street d) P 29 [.ref 169, vi a1, vi a2, un, un] [vi s0] mem := by
  exact G_iret dX12_street_29 rfl (Nat.zero_le _) (Nat.zero_le _) (Nat.le_refl _) ⟨rfl, k1⟩
set_option maxRecDepth 20000 in
set_option maxHeartbeats 1000000 in
theorem sg_X12_street_106 {E : Nat × (Nat → Int32)} {d : Nat} {P : Option Value → Mem → Prop} {mem : Mem} {a1 : Int} {a2 : Int} {s0 : Int}
    (k1 : P (some (vi s0)) mem) :
    GM E (m_X12_street d) P 106 [.ref 169, vi a1, vi a2, un, un] [vi s0] mem := by
  exact G_iret dX12_street_106 rfl (Nat.zero_le _) (Nat.zero_le _) (Nat.le_refl _) ⟨rfl, k1⟩
set_option maxRecDepth 20000 in
set_option maxHeartbeats 1000000 in
theorem sg_X12_street_137 {E : Nat × (Nat → Int32)} {d : Nat} {P : Option Value → Mem → Prop} {mem : Mem} {a1 : Int} {a2 : Int} {s0 : Int}
    (k1 : P (some (vi s0)) mem) :
    GM E (m_X12_street d) P 137 [.ref 169, vi a1, vi a2, un, un] [vi s0] mem := by
  exact G_iret dX12_street_137 rfl (Nat.zero_le _) (Nat.zero_le _) (Nat.le_refl _) ⟨rfl, k1⟩
set_option maxRecDepth 20000 in
set_option maxHeartbeats 1000000 in
theorem sg_X12_street_146 {E : Nat × (Nat → Int32)} {d : Nat} {P : Option Value → Mem → Prop} {mem : Mem} {a1 : Int} {a2 : Int} {a3 : Int} {a4 : Int} (w1 : -2147483648 ≤ a4 ∧ a4 < 2147483648) (w2 : -2147483648 ≤ (16 * (a1 + 1)) ∧ (16 * (a1 + 1)) < 2147483648) (q3 : ¬ (16 * (a1 + 1)) ≤ a4 → 0 ≤ a4 ∧ a4 < 99) (w4 : ¬ (16 * (a1 + 1)) ≤ a4 → -2147483648 ≤ (mem 180 a4) ∧ (mem 180 a4) < 2147483648)
    (k1 : (16 * (a1 + 1)) ≤ a4 → P (some (vi a3)) mem)
    (k2 : ¬ (16 * (a1 + 1)) ≤ a4 → (mem 180 a4) ≠ 1 → GM E (m_X12_street d) P 146 [.ref 169, vi a1, vi a2, vi (a3 + 0), vi (a4 + 1)] [] mem)
    (k3 : ¬ (16 * (a1 + 1)) ≤ a4 → (mem 180 a4) = 1 → GM E (m_X12_street d) P 172 [.ref 169, vi a1, vi a2, vi a3, vi a4] [vi a4, .ref 169, vi a3] mem) :
    GM E (m_X12_street d) P 146 [.ref 169, vi a1, vi a2, vi a3, vi a4] [] mem := by
  refine G_iload dX12_street_146 rfl ?_
  refine G_bipush (z := 16) dX12_street_148 rfl ?_
  refine G_iload_n dX12_street_150 rfl ?_
  refine G_iconst (z := 1) dX12_street_151 rfl ?_
  refine G_iadd dX12_street_152 ?_
  refine G_imul dX12_street_153 ?_
  refine G_icmp_ge (tgt := 187) dX12_street_154 (by decide) (w1) (w2) (fun c1 => ?_) (fun c1 => ?_)
  · -- (16 * (a1 + 1)) ≤ a4
    refine G_iload_n dX12_street_187 rfl ?_
    exact G_iret dX12_street_188 rfl (Nat.zero_le _) (Nat.zero_le _) (Nat.le_refl _) ⟨rfl, k1 c1⟩
  · -- ¬ (16 * (a1 + 1)) ≤ a4
    refine G_iload_n dX12_street_157 rfl ?_
    refine G_aload_n dX12_street_158 rfl ?_
    refine G_getR (t := 180) dX12_street_159 fl_12_42 (by decide) sh_169 rr_169_14 ?_
    refine G_iload dX12_street_162 rfl ?_
    refine G_iald (z := (mem 180 a4)) dX12_street_164 (by decide) sh_180 (by decide) (q3 c1).1 (q3 c1).2 rfl ?_
    refine G_iconst (z := 1) dX12_street_165 rfl ?_
    refine G_icmp_ne (tgt := 178) dX12_street_166 (by decide) (w4 c1) (by decide) (fun c2 => ?_) (fun c2 => ?_)
    · -- (mem 180 a4) ≠ 1
      refine G_iconst (z := 0) dX12_street_178 rfl ?_
      refine G_iadd dX12_street_179 ?_
      refine G_istore_n dX12_street_180 rfl (by decide : 3 < 5) rfl ?_
      refine G_iinc (z := (a4 + 1)) dX12_street_181 rfl rfl (by decide : 4 < 5) rfl ?_
      refine G_goto (tgt := 146) dX12_street_184 (by decide) ?_
      exact k2 c1 c2
    · -- (mem 180 a4) = 1
      refine G_aload_n dX12_street_169 rfl ?_
      refine G_iload dX12_street_170 rfl ?_
      exact k3 c1 c2
set_option maxRecDepth 20000 in
set_option maxHeartbeats 1000000 in
theorem sg_X12_street_175 {E : Nat × (Nat → Int32)} {d : Nat} {P : Option Value → Mem → Prop} {mem : Mem} {a1 : Int} {a2 : Int} {a3 : Int} {a4 : Int} {s0 : Int} {s1 : Int}
    (k1 : GM E (m_X12_street d) P 146 [.ref 169, vi a1, vi a2, vi (s1 + s0), vi (a4 + 1)] [] mem) :
    GM E (m_X12_street d) P 175 [.ref 169, vi a1, vi a2, vi a3, vi a4] [vi s0, vi s1] mem := by
  refine G_goto (tgt := 179) dX12_street_175 (by decide) ?_
  refine G_iadd dX12_street_179 ?_
  refine G_istore_n dX12_street_180 rfl (by decide : 3 < 5) rfl ?_
  refine G_iinc (z := (a4 + 1)) dX12_street_181 rfl rfl (by decide : 4 < 5) rfl ?_
  refine G_goto (tgt := 146) dX12_street_184 (by decide) ?_
  exact k1
abbrev m_X12_streetGoes (d : Nat) : Mu := (cX12_streetGoes, 7, RX12, (some .int), ⟨d, 0, 0, 40 * d⟩, "streetGoes")
set_option maxRecDepth 20000 in
set_option maxHeartbeats 1000000 in
theorem sg_X12_streetGoes_0 {E : Nat × (Nat → Int32)} {d : Nat} {P : Option Value → Mem → Prop} {mem : Mem} {r1 : Nat} {n1 : Nat} {a2 : Int} {a3 : Int} {a4 : Int} (hl1 : r1 < 209) (hs1 : SH[r1]? = some (.inr (0, n1))) (q1 : 0 ≤ a2 ∧ a2 < 6)
    (k1 : GM E (m_X12_streetGoes d) P 36 [.ref 169, .ref r1, vi a2, vi a3, vi a4, vi (mem 172 a2), vi 0] [] (up2 (up2 (up2 (up2 (up2 mem 169 32 0) 169 34 0) 169 35 0) 169 36 0) 169 37 0)) :
    GM E (m_X12_streetGoes d) P 0 [.ref 169, .ref r1, vi a2, vi a3, vi a4, un, un] [] mem := by
  refine G_aload_n dX12_streetGoes_0 rfl ?_
  refine G_iconst (z := 0) dX12_streetGoes_1 rfl ?_
  refine G_putI (mem2 := (up2 mem 169 32 0)) dX12_streetGoes_2 fp_12_282 (by decide) sh_169 rfl ?_
  refine G_aload_n dX12_streetGoes_5 rfl ?_
  refine G_iconst (z := 0) dX12_streetGoes_6 rfl ?_
  refine G_putI (mem2 := (up2 (up2 mem 169 32 0) 169 34 0)) dX12_streetGoes_7 fp_12_288 (by decide) sh_169 rfl ?_
  refine G_aload_n dX12_streetGoes_10 rfl ?_
  refine G_iconst (z := 0) dX12_streetGoes_11 rfl ?_
  refine G_putI (mem2 := (up2 (up2 (up2 mem 169 32 0) 169 34 0) 169 35 0)) dX12_streetGoes_12 fp_12_279 (by decide) sh_169 rfl ?_
  refine G_aload_n dX12_streetGoes_15 rfl ?_
  refine G_iconst (z := 0) dX12_streetGoes_16 rfl ?_
  refine G_putI (mem2 := (up2 (up2 (up2 (up2 mem 169 32 0) 169 34 0) 169 35 0) 169 36 0)) dX12_streetGoes_17 fp_12_285 (by decide) sh_169 rfl ?_
  refine G_aload_n dX12_streetGoes_20 rfl ?_
  refine G_iconst (z := 0) dX12_streetGoes_21 rfl ?_
  refine G_putZ (mem2 := (up2 (up2 (up2 (up2 (up2 mem 169 32 0) 169 34 0) 169 35 0) 169 36 0) 169 37 0)) (by decide) dX12_streetGoes_22 fp_12_275 (by decide) sh_169 rfl ?_
  refine G_aload_n dX12_streetGoes_25 rfl ?_
  refine G_getR (t := 172) dX12_streetGoes_26 fl_12_17 (by decide) sh_169 rr_169_6 ?_
  refine G_iload_n dX12_streetGoes_29 rfl ?_
  refine G_iald (z := (mem 172 a2)) dX12_streetGoes_30 (by decide) sh_172 (by decide) (q1).1 (q1).2 (by simp [up2, upr]) ?_
  refine G_istore dX12_streetGoes_31 (by decide : 5 < 7) rfl ?_
  refine G_iconst (z := 0) dX12_streetGoes_33 rfl ?_
  refine G_istore dX12_streetGoes_34 (by decide : 6 < 7) rfl ?_
  exact k1
set_option maxRecDepth 20000 in
set_option maxHeartbeats 1000000 in
theorem sg_X12_streetGoes_36 {E : Nat × (Nat → Int32)} {d : Nat} {P : Option Value → Mem → Prop} {mem : Mem} {r1 : Nat} {n1 : Nat} {a2 : Int} {a3 : Int} {a4 : Int} {a5 : Int} {a6 : Int} (hl1 : r1 < 209) (hs1 : SH[r1]? = some (.inr (0, n1))) (w1 : -2147483648 ≤ a6 ∧ a6 < 2147483648) (w2 : -2147483648 ≤ a5 ∧ a5 < 2147483648)
    (k1 : a5 ≤ a6 → GM E (m_X12_streetGoes d) P 83 [.ref 169, .ref r1, vi a2, vi a3, vi a4, vi a5, vi (a5 - 1)] [] mem)
    (k2 : ¬ a5 ≤ a6 → GM E (m_X12_streetGoes d) P 52 [.ref 169, .ref r1, vi a2, vi a3, vi a4, vi a5, vi a6] [vi a4, vi a3, vi a6, vi 0, vi a2, .ref r1, .ref 169] mem) :
    GM E (m_X12_streetGoes d) P 36 [.ref 169, .ref r1, vi a2, vi a3, vi a4, vi a5, vi a6] [] mem := by
  refine G_iload dX12_streetGoes_36 rfl ?_
  refine G_iload dX12_streetGoes_38 rfl ?_
  refine G_icmp_ge (tgt := 77) dX12_streetGoes_40 (by decide) (w1) (w2) (fun c1 => ?_) (fun c1 => ?_)
  · -- a5 ≤ a6
    refine G_iload dX12_streetGoes_77 rfl ?_
    refine G_iconst (z := 1) dX12_streetGoes_79 rfl ?_
    refine G_isub dX12_streetGoes_80 ?_
    refine G_istore dX12_streetGoes_81 (by decide : 6 < 7) rfl ?_
    exact k1 c1
  · -- ¬ a5 ≤ a6
    refine G_aload_n dX12_streetGoes_43 rfl ?_
    refine G_aload_n dX12_streetGoes_44 rfl ?_
    refine G_iload_n dX12_streetGoes_45 rfl ?_
    refine G_iconst (z := 0) dX12_streetGoes_46 rfl ?_
    refine G_iload dX12_streetGoes_47 rfl ?_
    refine G_iload_n dX12_streetGoes_49 rfl ?_
    refine G_iload dX12_streetGoes_50 rfl ?_
    exact k2 c1
set_option maxRecDepth 20000 in
set_option maxHeartbeats 1000000 in
theorem sg_X12_streetGoes_55 {E : Nat × (Nat → Int32)} {d : Nat} {P : Option Value → Mem → Prop} {mem : Mem} {r1 : Nat} {n1 : Nat} {a2 : Int} {a3 : Int} {a4 : Int} {a5 : Int} {a6 : Int} (hl1 : r1 < 209) (hs1 : SH[r1]? = some (.inr (0, n1))) (w1 : -2147483648 ≤ a3 ∧ a3 < 2147483648)
    (k1 : a3 ≤ 0 → GM E (m_X12_streetGoes d) P 36 [.ref 169, .ref r1, vi a2, vi a3, vi a4, vi a5, vi (a6 + 1)] [] mem)
    (k2 : ¬ a3 ≤ 0 → GM E (m_X12_streetGoes d) P 68 [.ref 169, .ref r1, vi a2, vi a3, vi a4, vi a5, vi a6] [vi a4, vi a3, vi a6, vi 1, vi a2, .ref r1, .ref 169] mem) :
    GM E (m_X12_streetGoes d) P 55 [.ref 169, .ref r1, vi a2, vi a3, vi a4, vi a5, vi a6] [] mem := by
  refine G_iload_n dX12_streetGoes_55 rfl ?_
  refine G_if_le (tgt := 71) dX12_streetGoes_56 (by decide) (w1) (fun c1 => ?_) (fun c1 => ?_)
  · -- a3 ≤ 0
    refine G_iinc (z := (a6 + 1)) dX12_streetGoes_71 rfl rfl (by decide : 6 < 7) rfl ?_
    refine G_goto (tgt := 36) dX12_streetGoes_74 (by decide) ?_
    exact k1 c1
  · -- ¬ a3 ≤ 0
    refine G_aload_n dX12_streetGoes_59 rfl ?_
    refine G_aload_n dX12_streetGoes_60 rfl ?_
    refine G_iload_n dX12_streetGoes_61 rfl ?_
    refine G_iconst (z := 1) dX12_streetGoes_62 rfl ?_
    refine G_iload dX12_streetGoes_63 rfl ?_
    refine G_iload_n dX12_streetGoes_65 rfl ?_
    refine G_iload dX12_streetGoes_66 rfl ?_
    exact k2 c1
set_option maxRecDepth 20000 in
set_option maxHeartbeats 1000000 in
theorem sg_X12_streetGoes_71 {E : Nat × (Nat → Int32)} {d : Nat} {P : Option Value → Mem → Prop} {mem : Mem} {r1 : Nat} {n1 : Nat} {a2 : Int} {a3 : Int} {a4 : Int} {a5 : Int} {a6 : Int} (hl1 : r1 < 209) (hs1 : SH[r1]? = some (.inr (0, n1)))
    (k1 : GM E (m_X12_streetGoes d) P 36 [.ref 169, .ref r1, vi a2, vi a3, vi a4, vi a5, vi (a6 + 1)] [] mem) :
    GM E (m_X12_streetGoes d) P 71 [.ref 169, .ref r1, vi a2, vi a3, vi a4, vi a5, vi a6] [] mem := by
  refine G_iinc (z := (a6 + 1)) dX12_streetGoes_71 rfl rfl (by decide : 6 < 7) rfl ?_
  refine G_goto (tgt := 36) dX12_streetGoes_74 (by decide) ?_
  exact k1
set_option maxRecDepth 20000 in
set_option maxHeartbeats 1000000 in
theorem sg_X12_streetGoes_83 {E : Nat × (Nat → Int32)} {d : Nat} {P : Option Value → Mem → Prop} {mem : Mem} {r1 : Nat} {n1 : Nat} {a2 : Int} {a3 : Int} {a4 : Int} {a5 : Int} {a6 : Int} (hl1 : r1 < 209) (hs1 : SH[r1]? = some (.inr (0, n1))) (w1 : -2147483648 ≤ a6 ∧ a6 < 2147483648) (w2 : a6 < 0 → -2147483648 ≤ (mem 169 30) ∧ (mem 169 30) < 2147483648) (z3 : a6 < 0 → (mem 169 30) ≠ 0) (w4 : -2147483648 ≤ a3 ∧ a3 < 2147483648) (q5 : a6 < 0 → a3 ≠ 0 → a3 = 1 → 0 ≤ a2 ∧ a2 < 6) (w6 : a6 < 0 → a3 ≠ 0 → a3 = 1 → -2147483648 ≤ (mem 174 a2) ∧ (mem 174 a2) < 2147483648) (w7 : ¬ a6 < 0 → a3 ≠ 0 → -2147483648 ≤ (mem 169 30) ∧ (mem 169 30) < 2147483648) (z8 : ¬ a6 < 0 → a3 ≠ 0 → (mem 169 30) ≠ 0) (q9 : ¬ a6 < 0 → a3 ≠ 0 → a3 ≠ 0 → a3 = 1 → 0 ≤ a2 ∧ a2 < 6) (w10 : ¬ a6 < 0 → a3 ≠ 0 → a3 ≠ 0 → a3 = 1 → -2147483648 ≤ (mem 174 a2) ∧ (mem 174 a2) < 2147483648)
    (k1 : a6 < 0 → a3 ≠ 0 → a3 ≠ 1 → P (some (vi ((divI (((mem 169 32) + (mem 169 30)) - 1) (mem 169 30)) + 0))) (up2 (up2 mem 169 32 (divI (((mem 169 32) + (mem 169 30)) - 1) (mem 169 30))) 169 33 0))
    (k2 : a6 < 0 → a3 ≠ 0 → a3 = 1 → (mem 174 a2) = 0 → P (some (vi ((divI (((mem 169 32) + (mem 169 30)) - 1) (mem 169 30)) + ((5 * a5) + 0)))) (up2 (up2 mem 169 32 (divI (((mem 169 32) + (mem 169 30)) - 1) (mem 169 30))) 169 33 ((5 * a5) + 0)))
    (k3 : a6 < 0 → a3 ≠ 0 → a3 = 1 → ¬ (mem 174 a2) = 0 → P (some (vi ((divI (((mem 169 32) + (mem 169 30)) - 1) (mem 169 30)) + ((5 * a5) + (9 * a5))))) (up2 (up2 mem 169 32 (divI (((mem 169 32) + (mem 169 30)) - 1) (mem 169 30))) 169 33 ((5 * a5) + (9 * a5))))
    (k4 : a6 < 0 → a3 = 0 → P (some (vi ((divI (((mem 169 32) + (mem 169 30)) - 1) (mem 169 30)) + (10 * a5)))) (up2 (up2 mem 169 32 (divI (((mem 169 32) + (mem 169 30)) - 1) (mem 169 30))) 169 33 (10 * a5)))
    (k5 : ¬ a6 < 0 → a3 ≠ 0 → a3 ≠ 0 → a3 ≠ 1 → P (some (vi ((divI (((mem 169 32) + (mem 169 30)) - 1) (mem 169 30)) + 0))) (up2 (up2 mem 169 32 (divI (((mem 169 32) + (mem 169 30)) - 1) (mem 169 30))) 169 33 0))
    (k6 : ¬ a6 < 0 → a3 ≠ 0 → a3 ≠ 0 → a3 = 1 → (mem 174 a2) = 0 → P (some (vi ((divI (((mem 169 32) + (mem 169 30)) - 1) (mem 169 30)) + ((5 * a5) + 0)))) (up2 (up2 mem 169 32 (divI (((mem 169 32) + (mem 169 30)) - 1) (mem 169 30))) 169 33 ((5 * a5) + 0)))
    (k7 : ¬ a6 < 0 → a3 ≠ 0 → a3 ≠ 0 → a3 = 1 → ¬ (mem 174 a2) = 0 → P (some (vi ((divI (((mem 169 32) + (mem 169 30)) - 1) (mem 169 30)) + ((5 * a5) + (9 * a5))))) (up2 (up2 mem 169 32 (divI (((mem 169 32) + (mem 169 30)) - 1) (mem 169 30))) 169 33 ((5 * a5) + (9 * a5))))
    (k8 : ¬ a6 < 0 → a3 ≠ 0 → a3 = 0 → P (some (vi ((divI (((mem 169 32) + (mem 169 30)) - 1) (mem 169 30)) + (10 * a5)))) (up2 (up2 mem 169 32 (divI (((mem 169 32) + (mem 169 30)) - 1) (mem 169 30))) 169 33 (10 * a5)))
    (k9 : ¬ a6 < 0 → a3 = 0 → GM E (m_X12_streetGoes d) P 101 [.ref 169, .ref r1, vi a2, vi a3, vi a4, vi a5, vi a6] [vi a4, vi a3, vi a6, vi 1, vi a2, .ref r1, .ref 169] mem) :
    GM E (m_X12_streetGoes d) P 83 [.ref 169, .ref r1, vi a2, vi a3, vi a4, vi a5, vi a6] [] mem := by
  refine G_iload dX12_streetGoes_83 rfl ?_
  refine G_if_lt (tgt := 110) dX12_streetGoes_85 (by decide) (w1) (fun c1 => ?_) (fun c1 => ?_)
  · -- a6 < 0
    refine G_aload_n dX12_streetGoes_110 rfl ?_
    refine G_aload_n dX12_streetGoes_111 rfl ?_
    refine G_getI (z := (mem 169 32)) dX12_streetGoes_112 fl_12_282 (by decide) sh_169 rfl ?_
    refine G_aload_n dX12_streetGoes_115 rfl ?_
    refine G_getI (z := (mem 169 30)) dX12_streetGoes_116 fl_12_269 (by decide) sh_169 rfl ?_
    refine G_iadd dX12_streetGoes_119 ?_
    refine G_iconst (z := 1) dX12_streetGoes_120 rfl ?_
    refine G_isub dX12_streetGoes_121 ?_
    refine G_aload_n dX12_streetGoes_122 rfl ?_
    refine G_getI (z := (mem 169 30)) dX12_streetGoes_123 fl_12_269 (by decide) sh_169 rfl ?_
    refine G_idiv (z := (divI (((mem 169 32) + (mem 169 30)) - 1) (mem 169 30))) dX12_streetGoes_126 (iI_ne0 (w2 c1) (z3 c1)) (iI_inv _) ?_
    refine G_putI (mem2 := (up2 mem 169 32 (divI (((mem 169 32) + (mem 169 30)) - 1) (mem 169 30)))) dX12_streetGoes_127 fp_12_282 (by decide) sh_169 rfl ?_
    refine G_aload_n dX12_streetGoes_130 rfl ?_
    refine G_iload_n dX12_streetGoes_131 rfl ?_
    refine G_if_ne (tgt := 143) dX12_streetGoes_132 (by decide) (w4) (fun c2 => ?_) (fun c2 => ?_)
    · -- a3 ≠ 0
      refine G_iload_n dX12_streetGoes_143 rfl ?_
      refine G_iconst (z := 1) dX12_streetGoes_144 rfl ?_
      refine G_icmp_ne (tgt := 174) dX12_streetGoes_145 (by decide) (w4) (by decide) (fun c3 => ?_) (fun c3 => ?_)
      · -- a3 ≠ 1
        refine G_iconst (z := 0) dX12_streetGoes_174 rfl ?_
        refine G_putI (mem2 := (up2 (up2 mem 169 32 (divI (((mem 169 32) + (mem 169 30)) - 1) (mem 169 30))) 169 33 0)) dX12_streetGoes_175 fp_12_299 (by decide) sh_169 rfl ?_
        refine G_aload_n dX12_streetGoes_178 rfl ?_
        refine G_getI (z := (divI (((mem 169 32) + (mem 169 30)) - 1) (mem 169 30))) dX12_streetGoes_179 fl_12_282 (by decide) sh_169 (by simp [up2, upr]) ?_
        refine G_aload_n dX12_streetGoes_182 rfl ?_
        refine G_getI (z := 0) dX12_streetGoes_183 fl_12_299 (by decide) sh_169 (by simp [up2, upr]) ?_
        refine G_iadd dX12_streetGoes_186 ?_
        exact G_iret dX12_streetGoes_187 rfl (Nat.zero_le _) (Nat.zero_le _) (Nat.le_refl _) ⟨rfl, k1 c1 c2 c3⟩
      · -- a3 = 1
        refine G_iconst (z := 5) dX12_streetGoes_148 rfl ?_
        refine G_iload dX12_streetGoes_149 rfl ?_
        refine G_imul dX12_streetGoes_151 ?_
        refine G_aload_n dX12_streetGoes_152 rfl ?_
        refine G_getR (t := 174) dX12_streetGoes_153 fl_12_23 (by decide) sh_169 rr_169_8 ?_
        refine G_iload_n dX12_streetGoes_156 rfl ?_
        refine G_zald (z := (mem 174 a2)) dX12_streetGoes_157 (by decide) sh_174 (by decide) (q5 c1 c2 c3).1 (q5 c1 c2 c3).2 (by simp [up2, upr]) ?_
        refine G_if_eq (tgt := 169) dX12_streetGoes_158 (by decide) (w6 c1 c2 c3) (fun c4 => ?_) (fun c4 => ?_)
        · -- (mem 174 a2) = 0
          refine G_iconst (z := 0) dX12_streetGoes_169 rfl ?_
          refine G_iadd dX12_streetGoes_170 ?_
          refine G_goto (tgt := 175) dX12_streetGoes_171 (by decide) ?_
          refine G_putI (mem2 := (up2 (up2 mem 169 32 (divI (((mem 169 32) + (mem 169 30)) - 1) (mem 169 30))) 169 33 ((5 * a5) + 0))) dX12_streetGoes_175 fp_12_299 (by decide) sh_169 rfl ?_
          refine G_aload_n dX12_streetGoes_178 rfl ?_
          refine G_getI (z := (divI (((mem 169 32) + (mem 169 30)) - 1) (mem 169 30))) dX12_streetGoes_179 fl_12_282 (by decide) sh_169 (by simp [up2, upr]) ?_
          refine G_aload_n dX12_streetGoes_182 rfl ?_
          refine G_getI (z := ((5 * a5) + 0)) dX12_streetGoes_183 fl_12_299 (by decide) sh_169 (by simp [up2, upr]) ?_
          refine G_iadd dX12_streetGoes_186 ?_
          exact G_iret dX12_streetGoes_187 rfl (Nat.zero_le _) (Nat.zero_le _) (Nat.le_refl _) ⟨rfl, k2 c1 c2 c3 c4⟩
        · -- ¬ (mem 174 a2) = 0
          refine G_bipush (z := 9) dX12_streetGoes_161 rfl ?_
          refine G_iload dX12_streetGoes_163 rfl ?_
          refine G_imul dX12_streetGoes_165 ?_
          refine G_goto (tgt := 170) dX12_streetGoes_166 (by decide) ?_
          refine G_iadd dX12_streetGoes_170 ?_
          refine G_goto (tgt := 175) dX12_streetGoes_171 (by decide) ?_
          refine G_putI (mem2 := (up2 (up2 mem 169 32 (divI (((mem 169 32) + (mem 169 30)) - 1) (mem 169 30))) 169 33 ((5 * a5) + (9 * a5)))) dX12_streetGoes_175 fp_12_299 (by decide) sh_169 rfl ?_
          refine G_aload_n dX12_streetGoes_178 rfl ?_
          refine G_getI (z := (divI (((mem 169 32) + (mem 169 30)) - 1) (mem 169 30))) dX12_streetGoes_179 fl_12_282 (by decide) sh_169 (by simp [up2, upr]) ?_
          refine G_aload_n dX12_streetGoes_182 rfl ?_
          refine G_getI (z := ((5 * a5) + (9 * a5))) dX12_streetGoes_183 fl_12_299 (by decide) sh_169 (by simp [up2, upr]) ?_
          refine G_iadd dX12_streetGoes_186 ?_
          exact G_iret dX12_streetGoes_187 rfl (Nat.zero_le _) (Nat.zero_le _) (Nat.le_refl _) ⟨rfl, k3 c1 c2 c3 c4⟩
    · -- a3 = 0
      refine G_bipush (z := 10) dX12_streetGoes_135 rfl ?_
      refine G_iload dX12_streetGoes_137 rfl ?_
      refine G_imul dX12_streetGoes_139 ?_
      refine G_goto (tgt := 175) dX12_streetGoes_140 (by decide) ?_
      refine G_putI (mem2 := (up2 (up2 mem 169 32 (divI (((mem 169 32) + (mem 169 30)) - 1) (mem 169 30))) 169 33 (10 * a5))) dX12_streetGoes_175 fp_12_299 (by decide) sh_169 rfl ?_
      refine G_aload_n dX12_streetGoes_178 rfl ?_
      refine G_getI (z := (divI (((mem 169 32) + (mem 169 30)) - 1) (mem 169 30))) dX12_streetGoes_179 fl_12_282 (by decide) sh_169 (by simp [up2, upr]) ?_
      refine G_aload_n dX12_streetGoes_182 rfl ?_
      refine G_getI (z := (10 * a5)) dX12_streetGoes_183 fl_12_299 (by decide) sh_169 (by simp [up2, upr]) ?_
      refine G_iadd dX12_streetGoes_186 ?_
      exact G_iret dX12_streetGoes_187 rfl (Nat.zero_le _) (Nat.zero_le _) (Nat.le_refl _) ⟨rfl, k4 c1 c2⟩
  · -- ¬ a6 < 0
    refine G_iload_n dX12_streetGoes_88 rfl ?_
    refine G_if_ne (tgt := 110) dX12_streetGoes_89 (by decide) (w4) (fun c5 => ?_) (fun c5 => ?_)
    · -- a3 ≠ 0
      refine G_aload_n dX12_streetGoes_110 rfl ?_
      refine G_aload_n dX12_streetGoes_111 rfl ?_
      refine G_getI (z := (mem 169 32)) dX12_streetGoes_112 fl_12_282 (by decide) sh_169 rfl ?_
      refine G_aload_n dX12_streetGoes_115 rfl ?_
      refine G_getI (z := (mem 169 30)) dX12_streetGoes_116 fl_12_269 (by decide) sh_169 rfl ?_
      refine G_iadd dX12_streetGoes_119 ?_
      refine G_iconst (z := 1) dX12_streetGoes_120 rfl ?_
      refine G_isub dX12_streetGoes_121 ?_
      refine G_aload_n dX12_streetGoes_122 rfl ?_
      refine G_getI (z := (mem 169 30)) dX12_streetGoes_123 fl_12_269 (by decide) sh_169 rfl ?_
      refine G_idiv (z := (divI (((mem 169 32) + (mem 169 30)) - 1) (mem 169 30))) dX12_streetGoes_126 (iI_ne0 (w7 c1 c5) (z8 c1 c5)) (iI_inv _) ?_
      refine G_putI (mem2 := (up2 mem 169 32 (divI (((mem 169 32) + (mem 169 30)) - 1) (mem 169 30)))) dX12_streetGoes_127 fp_12_282 (by decide) sh_169 rfl ?_
      refine G_aload_n dX12_streetGoes_130 rfl ?_
      refine G_iload_n dX12_streetGoes_131 rfl ?_
      refine G_if_ne (tgt := 143) dX12_streetGoes_132 (by decide) (w4) (fun c6 => ?_) (fun c6 => ?_)
      · -- a3 ≠ 0
        refine G_iload_n dX12_streetGoes_143 rfl ?_
        refine G_iconst (z := 1) dX12_streetGoes_144 rfl ?_
        refine G_icmp_ne (tgt := 174) dX12_streetGoes_145 (by decide) (w4) (by decide) (fun c7 => ?_) (fun c7 => ?_)
        · -- a3 ≠ 1
          refine G_iconst (z := 0) dX12_streetGoes_174 rfl ?_
          refine G_putI (mem2 := (up2 (up2 mem 169 32 (divI (((mem 169 32) + (mem 169 30)) - 1) (mem 169 30))) 169 33 0)) dX12_streetGoes_175 fp_12_299 (by decide) sh_169 rfl ?_
          refine G_aload_n dX12_streetGoes_178 rfl ?_
          refine G_getI (z := (divI (((mem 169 32) + (mem 169 30)) - 1) (mem 169 30))) dX12_streetGoes_179 fl_12_282 (by decide) sh_169 (by simp [up2, upr]) ?_
          refine G_aload_n dX12_streetGoes_182 rfl ?_
          refine G_getI (z := 0) dX12_streetGoes_183 fl_12_299 (by decide) sh_169 (by simp [up2, upr]) ?_
          refine G_iadd dX12_streetGoes_186 ?_
          exact G_iret dX12_streetGoes_187 rfl (Nat.zero_le _) (Nat.zero_le _) (Nat.le_refl _) ⟨rfl, k5 c1 c5 c6 c7⟩
        · -- a3 = 1
          refine G_iconst (z := 5) dX12_streetGoes_148 rfl ?_
          refine G_iload dX12_streetGoes_149 rfl ?_
          refine G_imul dX12_streetGoes_151 ?_
          refine G_aload_n dX12_streetGoes_152 rfl ?_
          refine G_getR (t := 174) dX12_streetGoes_153 fl_12_23 (by decide) sh_169 rr_169_8 ?_
          refine G_iload_n dX12_streetGoes_156 rfl ?_
          refine G_zald (z := (mem 174 a2)) dX12_streetGoes_157 (by decide) sh_174 (by decide) (q9 c1 c5 c6 c7).1 (q9 c1 c5 c6 c7).2 (by simp [up2, upr]) ?_
          refine G_if_eq (tgt := 169) dX12_streetGoes_158 (by decide) (w10 c1 c5 c6 c7) (fun c8 => ?_) (fun c8 => ?_)
          · -- (mem 174 a2) = 0
            refine G_iconst (z := 0) dX12_streetGoes_169 rfl ?_
            refine G_iadd dX12_streetGoes_170 ?_
            refine G_goto (tgt := 175) dX12_streetGoes_171 (by decide) ?_
            refine G_putI (mem2 := (up2 (up2 mem 169 32 (divI (((mem 169 32) + (mem 169 30)) - 1) (mem 169 30))) 169 33 ((5 * a5) + 0))) dX12_streetGoes_175 fp_12_299 (by decide) sh_169 rfl ?_
            refine G_aload_n dX12_streetGoes_178 rfl ?_
            refine G_getI (z := (divI (((mem 169 32) + (mem 169 30)) - 1) (mem 169 30))) dX12_streetGoes_179 fl_12_282 (by decide) sh_169 (by simp [up2, upr]) ?_
            refine G_aload_n dX12_streetGoes_182 rfl ?_
            refine G_getI (z := ((5 * a5) + 0)) dX12_streetGoes_183 fl_12_299 (by decide) sh_169 (by simp [up2, upr]) ?_
            refine G_iadd dX12_streetGoes_186 ?_
            exact G_iret dX12_streetGoes_187 rfl (Nat.zero_le _) (Nat.zero_le _) (Nat.le_refl _) ⟨rfl, k6 c1 c5 c6 c7 c8⟩
          · -- ¬ (mem 174 a2) = 0
            refine G_bipush (z := 9) dX12_streetGoes_161 rfl ?_
            refine G_iload dX12_streetGoes_163 rfl ?_
            refine G_imul dX12_streetGoes_165 ?_
            refine G_goto (tgt := 170) dX12_streetGoes_166 (by decide) ?_
            refine G_iadd dX12_streetGoes_170 ?_
            refine G_goto (tgt := 175) dX12_streetGoes_171 (by decide) ?_
            refine G_putI (mem2 := (up2 (up2 mem 169 32 (divI (((mem 169 32) + (mem 169 30)) - 1) (mem 169 30))) 169 33 ((5 * a5) + (9 * a5)))) dX12_streetGoes_175 fp_12_299 (by decide) sh_169 rfl ?_
            refine G_aload_n dX12_streetGoes_178 rfl ?_
            refine G_getI (z := (divI (((mem 169 32) + (mem 169 30)) - 1) (mem 169 30))) dX12_streetGoes_179 fl_12_282 (by decide) sh_169 (by simp [up2, upr]) ?_
            refine G_aload_n dX12_streetGoes_182 rfl ?_
            refine G_getI (z := ((5 * a5) + (9 * a5))) dX12_streetGoes_183 fl_12_299 (by decide) sh_169 (by simp [up2, upr]) ?_
            refine G_iadd dX12_streetGoes_186 ?_
            exact G_iret dX12_streetGoes_187 rfl (Nat.zero_le _) (Nat.zero_le _) (Nat.le_refl _) ⟨rfl, k7 c1 c5 c6 c7 c8⟩
      · -- a3 = 0
        refine G_bipush (z := 10) dX12_streetGoes_135 rfl ?_
        refine G_iload dX12_streetGoes_137 rfl ?_
        refine G_imul dX12_streetGoes_139 ?_
        refine G_goto (tgt := 175) dX12_streetGoes_140 (by decide) ?_
        refine G_putI (mem2 := (up2 (up2 mem 169 32 (divI (((mem 169 32) + (mem 169 30)) - 1) (mem 169 30))) 169 33 (10 * a5))) dX12_streetGoes_175 fp_12_299 (by decide) sh_169 rfl ?_
        refine G_aload_n dX12_streetGoes_178 rfl ?_
        refine G_getI (z := (divI (((mem 169 32) + (mem 169 30)) - 1) (mem 169 30))) dX12_streetGoes_179 fl_12_282 (by decide) sh_169 (by simp [up2, upr]) ?_
        refine G_aload_n dX12_streetGoes_182 rfl ?_
        refine G_getI (z := (10 * a5)) dX12_streetGoes_183 fl_12_299 (by decide) sh_169 (by simp [up2, upr]) ?_
        refine G_iadd dX12_streetGoes_186 ?_
        exact G_iret dX12_streetGoes_187 rfl (Nat.zero_le _) (Nat.zero_le _) (Nat.le_refl _) ⟨rfl, k8 c1 c5 c6⟩
    · -- a3 = 0
      refine G_aload_n dX12_streetGoes_92 rfl ?_
      refine G_aload_n dX12_streetGoes_93 rfl ?_
      refine G_iload_n dX12_streetGoes_94 rfl ?_
      refine G_iconst (z := 1) dX12_streetGoes_95 rfl ?_
      refine G_iload dX12_streetGoes_96 rfl ?_
      refine G_iload_n dX12_streetGoes_98 rfl ?_
      refine G_iload dX12_streetGoes_99 rfl ?_
      exact k9 c1 c5
set_option maxRecDepth 20000 in
set_option maxHeartbeats 1000000 in
theorem sg_X12_streetGoes_104 {E : Nat × (Nat → Int32)} {d : Nat} {P : Option Value → Mem → Prop} {mem : Mem} {r1 : Nat} {n1 : Nat} {a2 : Int} {a3 : Int} {a4 : Int} {a5 : Int} {a6 : Int} (hl1 : r1 < 209) (hs1 : SH[r1]? = some (.inr (0, n1)))
    (k1 : GM E (m_X12_streetGoes d) P 83 [.ref 169, .ref r1, vi a2, vi a3, vi a4, vi a5, vi (a6 + (-1))] [] mem) :
    GM E (m_X12_streetGoes d) P 104 [.ref 169, .ref r1, vi a2, vi a3, vi a4, vi a5, vi a6] [] mem := by
  refine G_iinc (z := (a6 + (-1))) dX12_streetGoes_104 rfl rfl (by decide : 6 < 7) rfl ?_
  refine G_goto (tgt := 83) dX12_streetGoes_107 (by decide) ?_
  exact k1
abbrev m_X12_streets (d : Nat) : Mu := (cX12_streets, 6, RX12, (some .int), ⟨d, 0, 0, 40 * d⟩, "streets")
set_option maxRecDepth 20000 in
set_option maxHeartbeats 1000000 in
theorem sg_X12_streets_0 {E : Nat × (Nat → Int32)} {d : Nat} {P : Option Value → Mem → Prop} {mem : Mem}
    (k1 : GM E (m_X12_streets d) P 8 [.ref 169, un, un, un, un, un] [vi 76, .ref 169] (up2 mem 169 0 0)) :
    GM E (m_X12_streets d) P 0 [.ref 169, un, un, un, un, un] [] mem := by
  refine G_aload_n dX12_streets_0 rfl ?_
  refine G_iconst (z := 0) dX12_streets_1 rfl ?_
  refine G_putI (mem2 := (up2 mem 169 0 0)) dX12_streets_2 fp_12_126 (by decide) sh_169 rfl ?_
  refine G_aload_n dX12_streets_5 rfl ?_
  refine G_bipush (z := 76) dX12_streets_6 rfl ?_
  exact k1
set_option maxRecDepth 20000 in
set_option maxHeartbeats 1000000 in
theorem sg_X12_streets_11 {E : Nat × (Nat → Int32)} {d : Nat} {P : Option Value → Mem → Prop} {mem : Mem} {s0 : Int} (w1 : -2147483648 ≤ s0 ∧ s0 < 2147483648)
    (k1 : s0 ≤ 0 → GM E (m_X12_streets d) P 29 [.ref 169, vi s0, vi 1, vi 0, un, un] [] (up2 mem 169 23 0))
    (k2 : ¬ s0 ≤ 0 → GM E (m_X12_streets d) P 29 [.ref 169, vi s0, vi 1, vi 1, un, un] [] (up2 mem 169 23 0)) :
    GM E (m_X12_streets d) P 11 [.ref 169, un, un, un, un, un] [vi s0] mem := by
  refine G_istore_n dX12_streets_11 rfl (by decide : 1 < 6) rfl ?_
  refine G_aload_n dX12_streets_12 rfl ?_
  refine G_iconst (z := 0) dX12_streets_13 rfl ?_
  refine G_putI (mem2 := (up2 mem 169 23 0)) dX12_streets_14 fp_12_192 (by decide) sh_169 rfl ?_
  refine G_iconst (z := 1) dX12_streets_17 rfl ?_
  refine G_istore_n dX12_streets_18 rfl (by decide : 2 < 6) rfl ?_
  refine G_iload_n dX12_streets_19 rfl ?_
  refine G_if_le (tgt := 27) dX12_streets_20 (by decide) (w1) (fun c1 => ?_) (fun c1 => ?_)
  · -- s0 ≤ 0
    refine G_iconst (z := 0) dX12_streets_27 rfl ?_
    refine G_istore_n dX12_streets_28 rfl (by decide : 3 < 6) rfl ?_
    exact k1 c1
  · -- ¬ s0 ≤ 0
    refine G_iconst (z := 1) dX12_streets_23 rfl ?_
    refine G_goto (tgt := 28) dX12_streets_24 (by decide) ?_
    refine G_istore_n dX12_streets_28 rfl (by decide : 3 < 6) rfl ?_
    exact k2 c1
set_option maxRecDepth 20000 in
set_option maxHeartbeats 1000000 in
theorem sg_X12_streets_29 {E : Nat × (Nat → Int32)} {d : Nat} {P : Option Value → Mem → Prop} {mem : Mem} {a1 : Int} {a2 : Int} {a3 : Int} (w1 : -2147483648 ≤ a3 ∧ a3 < 2147483648)
    (k1 : a3 = 0 → GM E (m_X12_streets d) P 65 [.ref 169, vi a1, vi a2, vi a3, un, un] [vi a2, vi 76, vi a1, .ref 169] mem)
    (k2 : ¬ a3 = 0 → GM E (m_X12_streets d) P 34 [.ref 169, vi a1, vi a2, vi a3, un, un] [.ref 169] mem) :
    GM E (m_X12_streets d) P 29 [.ref 169, vi a1, vi a2, vi a3, un, un] [] mem := by
  refine G_iload_n dX12_streets_29 rfl ?_
  refine G_if_eq (tgt := 60) dX12_streets_30 (by decide) (w1) (fun c1 => ?_) (fun c1 => ?_)
  · -- a3 = 0
    refine G_aload_n dX12_streets_60 rfl ?_
    refine G_iload_n dX12_streets_61 rfl ?_
    refine G_bipush (z := 76) dX12_streets_62 rfl ?_
    refine G_iload_n dX12_streets_64 rfl ?_
    exact k1 c1
  · -- ¬ a3 = 0
    refine G_aload_n dX12_streets_33 rfl ?_
    exact k2 c1
set_option maxRecDepth 20000 in
set_option maxHeartbeats 1000000 in
theorem sg_X12_streets_37 {E : Nat × (Nat → Int32)} {d : Nat} {P : Option Value → Mem → Prop} {mem : Mem} {a1 : Int} {a2 : Int} {a3 : Int} {s0 : Int} (w1 : -2147483648 ≤ s0 ∧ s0 < 2147483648)
    (k1 : s0 = 0 → GM E (m_X12_streets d) P 29 [.ref 169, vi a1, vi s0, vi 0, un, un] [] mem)
    (k2 : ¬ s0 = 0 → GM E (m_X12_streets d) P 45 [.ref 169, vi a1, vi s0, vi a3, un, un] [vi 59, .ref 169] mem) :
    GM E (m_X12_streets d) P 37 [.ref 169, vi a1, vi a2, vi a3, un, un] [vi s0] mem := by
  refine G_istore_n dX12_streets_37 rfl (by decide : 2 < 6) rfl ?_
  refine G_iload_n dX12_streets_38 rfl ?_
  refine G_if_eq (tgt := 55) dX12_streets_39 (by decide) (w1) (fun c1 => ?_) (fun c1 => ?_)
  · -- s0 = 0
    refine G_iconst (z := 0) dX12_streets_55 rfl ?_
    refine G_istore_n dX12_streets_56 rfl (by decide : 3 < 6) rfl ?_
    refine G_goto (tgt := 29) dX12_streets_57 (by decide) ?_
    exact k1 c1
  · -- ¬ s0 = 0
    refine G_aload_n dX12_streets_42 rfl ?_
    refine G_bipush (z := 59) dX12_streets_43 rfl ?_
    exact k2 c1
set_option maxRecDepth 20000 in
set_option maxHeartbeats 1000000 in
theorem sg_X12_streets_48 {E : Nat × (Nat → Int32)} {d : Nat} {P : Option Value → Mem → Prop} {mem : Mem} {a1 : Int} {a2 : Int} {a3 : Int} {s0 : Int} (w1 : -2147483648 ≤ s0 ∧ s0 < 2147483648)
    (k1 : s0 = 0 → GM E (m_X12_streets d) P 29 [.ref 169, vi a1, vi a2, vi 0, un, un] [] mem)
    (k2 : ¬ s0 = 0 → GM E (m_X12_streets d) P 29 [.ref 169, vi a1, vi a2, vi 1, un, un] [] mem) :
    GM E (m_X12_streets d) P 48 [.ref 169, vi a1, vi a2, vi a3, un, un] [vi s0] mem := by
  refine G_if_eq (tgt := 55) dX12_streets_48 (by decide) (w1) (fun c1 => ?_) (fun c1 => ?_)
  · -- s0 = 0
    refine G_iconst (z := 0) dX12_streets_55 rfl ?_
    refine G_istore_n dX12_streets_56 rfl (by decide : 3 < 6) rfl ?_
    refine G_goto (tgt := 29) dX12_streets_57 (by decide) ?_
    exact k1 c1
  · -- ¬ s0 = 0
    refine G_iconst (z := 1) dX12_streets_51 rfl ?_
    refine G_goto (tgt := 56) dX12_streets_52 (by decide) ?_
    refine G_istore_n dX12_streets_56 rfl (by decide : 3 < 6) rfl ?_
    refine G_goto (tgt := 29) dX12_streets_57 (by decide) ?_
    exact k2 c1
set_option maxRecDepth 20000 in
set_option maxHeartbeats 1000000 in
theorem sg_X12_streets_68 {E : Nat × (Nat → Int32)} {d : Nat} {P : Option Value → Mem → Prop} {mem : Mem} {a1 : Int} {a2 : Int} {a3 : Int} {s0 : Int} (w1 : -2147483648 ≤ s0 ∧ s0 < 2147483648)
    (k1 : 0 ≤ s0 → GM E (m_X12_streets d) P 81 [.ref 169, vi a1, vi a2, vi a3, vi s0, vi 0] [] mem)
    (k2 : ¬ 0 ≤ s0 → P (some (vi s0)) mem) :
    GM E (m_X12_streets d) P 68 [.ref 169, vi a1, vi a2, vi a3, un, un] [vi s0] mem := by
  refine G_istore dX12_streets_68 (by decide : 4 < 6) rfl ?_
  refine G_iload dX12_streets_70 rfl ?_
  refine G_if_ge (tgt := 78) dX12_streets_72 (by decide) (w1) (fun c1 => ?_) (fun c1 => ?_)
  · -- 0 ≤ s0
    refine G_iconst (z := 0) dX12_streets_78 rfl ?_
    refine G_istore dX12_streets_79 (by decide : 5 < 6) rfl ?_
    exact k1 c1
  · -- ¬ 0 ≤ s0
    refine G_iload dX12_streets_75 rfl ?_
    exact G_iret dX12_streets_77 rfl (Nat.zero_le _) (Nat.zero_le _) (Nat.le_refl _) ⟨rfl, k2 c1⟩
set_option maxRecDepth 20000 in
set_option maxHeartbeats 1000000 in
theorem sg_X12_streets_81 {E : Nat × (Nat → Int32)} {d : Nat} {P : Option Value → Mem → Prop} {mem : Mem} {a1 : Int} {a2 : Int} {a3 : Int} {a4 : Int} {a5 : Int} (w1 : -2147483648 ≤ a5 ∧ a5 < 2147483648) (w2 : -2147483648 ≤ (mem 169 23) ∧ (mem 169 23) < 2147483648) (w3 : -2147483648 ≤ a1 ∧ a1 < 2147483648)
    (k1 : (mem 169 23) ≤ a5 → a1 ≤ 0 → P (some (vi (mem 169 23))) (up2 mem 169 3 ((mem 169 3) + (mem 169 23))))
    (k2 : (mem 169 23) ≤ a5 → ¬ a1 ≤ 0 → P (some (vi (mem 169 23))) (up2 (up2 (up2 mem 169 3 ((mem 169 3) + (mem 169 23))) 169 40 0) 169 4 ((mem 169 4) + 1)))
    (k3 : ¬ (mem 169 23) ≤ a5 → GM E (m_X12_streets d) P 100 [.ref 169, vi a1, vi a2, vi a3, vi a4, vi a5] [vi a5, vi ((mem 169 3) + a5), .ref 169] mem) :
    GM E (m_X12_streets d) P 81 [.ref 169, vi a1, vi a2, vi a3, vi a4, vi a5] [] mem := by
  refine G_iload dX12_streets_81 rfl ?_
  refine G_aload_n dX12_streets_83 rfl ?_
  refine G_getI (z := (mem 169 23)) dX12_streets_84 fl_12_192 (by decide) sh_169 rfl ?_
  refine G_icmp_ge (tgt := 109) dX12_streets_87 (by decide) (w1) (w2) (fun c1 => ?_) (fun c1 => ?_)
  · -- (mem 169 23) ≤ a5
    refine G_aload_n dX12_streets_109 rfl ?_
    refine G_dup dX12_streets_110 rfl ?_
    refine G_getI (z := (mem 169 3)) dX12_streets_111 fl_12_137 (by decide) sh_169 rfl ?_
    refine G_aload_n dX12_streets_114 rfl ?_
    refine G_getI (z := (mem 169 23)) dX12_streets_115 fl_12_192 (by decide) sh_169 rfl ?_
    refine G_iadd dX12_streets_118 ?_
    refine G_putI (mem2 := (up2 mem 169 3 ((mem 169 3) + (mem 169 23)))) dX12_streets_119 fp_12_137 (by decide) sh_169 rfl ?_
    refine G_iload_n dX12_streets_122 rfl ?_
    refine G_if_le (tgt := 141) dX12_streets_123 (by decide) (w3) (fun c2 => ?_) (fun c2 => ?_)
    · -- a1 ≤ 0
      refine G_aload_n dX12_streets_141 rfl ?_
      refine G_getI (z := (mem 169 23)) dX12_streets_142 fl_12_192 (by decide) sh_169 (by simp [up2, upr]) ?_
      exact G_iret dX12_streets_145 rfl (Nat.zero_le _) (Nat.zero_le _) (Nat.le_refl _) ⟨rfl, k1 c1 c2⟩
    · -- ¬ a1 ≤ 0
      refine G_aload_n dX12_streets_126 rfl ?_
      refine G_iconst (z := 0) dX12_streets_127 rfl ?_
      refine G_putI (mem2 := (up2 (up2 mem 169 3 ((mem 169 3) + (mem 169 23))) 169 40 0)) dX12_streets_128 fp_12_224 (by decide) sh_169 rfl ?_
      refine G_aload_n dX12_streets_131 rfl ?_
      refine G_dup dX12_streets_132 rfl ?_
      refine G_getI (z := (mem 169 4)) dX12_streets_133 fl_12_227 (by decide) sh_169 (by simp [up2, upr]) ?_
      refine G_iconst (z := 1) dX12_streets_136 rfl ?_
      refine G_iadd dX12_streets_137 ?_
      refine G_putI (mem2 := (up2 (up2 (up2 mem 169 3 ((mem 169 3) + (mem 169 23))) 169 40 0) 169 4 ((mem 169 4) + 1))) dX12_streets_138 fp_12_227 (by decide) sh_169 rfl ?_
      refine G_aload_n dX12_streets_141 rfl ?_
      refine G_getI (z := (mem 169 23)) dX12_streets_142 fl_12_192 (by decide) sh_169 (by simp [up2, upr]) ?_
      exact G_iret dX12_streets_145 rfl (Nat.zero_le _) (Nat.zero_le _) (Nat.le_refl _) ⟨rfl, k2 c1 c2⟩
  · -- ¬ (mem 169 23) ≤ a5
    refine G_aload_n dX12_streets_90 rfl ?_
    refine G_aload_n dX12_streets_91 rfl ?_
    refine G_getI (z := (mem 169 3)) dX12_streets_92 fl_12_137 (by decide) sh_169 rfl ?_
    refine G_iload dX12_streets_95 rfl ?_
    refine G_iadd dX12_streets_97 ?_
    refine G_iload dX12_streets_98 rfl ?_
    exact k3 c1
set_option maxRecDepth 20000 in
set_option maxHeartbeats 1000000 in
theorem sg_X12_streets_103 {E : Nat × (Nat → Int32)} {d : Nat} {P : Option Value → Mem → Prop} {mem : Mem} {a1 : Int} {a2 : Int} {a3 : Int} {a4 : Int} {a5 : Int}
    (k1 : GM E (m_X12_streets d) P 81 [.ref 169, vi a1, vi a2, vi a3, vi a4, vi (a5 + 1)] [] mem) :
    GM E (m_X12_streets d) P 103 [.ref 169, vi a1, vi a2, vi a3, vi a4, vi a5] [] mem := by
  refine G_iinc (z := (a5 + 1)) dX12_streets_103 rfl rfl (by decide : 5 < 6) rfl ?_
  refine G_goto (tgt := 81) dX12_streets_106 (by decide) ?_
  exact k1
abbrev m_X12_sumOf (d : Nat) : Mu := (cX12_sumOf, 4, RX12, (some .int), ⟨d, 0, 0, 40 * d⟩, "sumOf")
set_option maxRecDepth 20000 in
set_option maxHeartbeats 1000000 in
theorem sg_X12_sumOf_0 {E : Nat × (Nat → Int32)} {d : Nat} {P : Option Value → Mem → Prop} {mem : Mem} {a1 : Int}
    (k1 : GM E (m_X12_sumOf d) P 4 [.ref 169, vi a1, vi 0, vi 0] [] mem) :
    GM E (m_X12_sumOf d) P 0 [.ref 169, vi a1, un, un] [] mem := by
  refine G_iconst (z := 0) dX12_sumOf_0 rfl ?_
  refine G_istore_n dX12_sumOf_1 rfl (by decide : 2 < 4) rfl ?_
  refine G_iconst (z := 0) dX12_sumOf_2 rfl ?_
  refine G_istore_n dX12_sumOf_3 rfl (by decide : 3 < 4) rfl ?_
  exact k1
set_option maxRecDepth 20000 in
set_option maxHeartbeats 1000000 in
theorem sg_X12_sumOf_4 {E : Nat × (Nat → Int32)} {d : Nat} {P : Option Value → Mem → Prop} {mem : Mem} {a1 : Int} {a2 : Int} {a3 : Int} (w1 : -2147483648 ≤ a3 ∧ a3 < 2147483648) (w2 : -2147483648 ≤ (mem 169 3) ∧ (mem 169 3) < 2147483648)
    (k1 : (mem 169 3) ≤ a3 → P (some (vi a2)) mem)
    (k2 : ¬ (mem 169 3) ≤ a3 → GM E (m_X12_sumOf d) P 15 [.ref 169, vi a1, vi a2, vi a3] [vi a3, vi a1, vi a2] mem) :
    GM E (m_X12_sumOf d) P 4 [.ref 169, vi a1, vi a2, vi a3] [] mem := by
  refine G_iload_n dX12_sumOf_4 rfl ?_
  refine G_aload_n dX12_sumOf_5 rfl ?_
  refine G_getI (z := (mem 169 3)) dX12_sumOf_6 fl_12_137 (by decide) sh_169 rfl ?_
  refine G_icmp_ge (tgt := 38) dX12_sumOf_9 (by decide) (w1) (w2) (fun c1 => ?_) (fun c1 => ?_)
  · -- (mem 169 3) ≤ a3
    refine G_iload_n dX12_sumOf_38 rfl ?_
    exact G_iret dX12_sumOf_39 rfl (Nat.zero_le _) (Nat.zero_le _) (Nat.le_refl _) ⟨rfl, k1 c1⟩
  · -- ¬ (mem 169 3) ≤ a3
    refine G_iload_n dX12_sumOf_12 rfl ?_
    refine G_iload_n dX12_sumOf_13 rfl ?_
    refine G_iload_n dX12_sumOf_14 rfl ?_
    exact k2 c1
set_option maxRecDepth 20000 in
set_option maxHeartbeats 1000000 in
theorem sg_X12_sumOf_18 {E : Nat × (Nat → Int32)} {d : Nat} {P : Option Value → Mem → Prop} {mem : Mem} {a1 : Int} {a2 : Int} {a3 : Int} {s0 : Int} {s1 : Int} (w1 : -2147483648 ≤ s0 ∧ s0 < 2147483648)
    (k1 : s0 = 0 → GM E (m_X12_sumOf d) P 4 [.ref 169, vi a1, vi (s1 + 0), vi (a3 + 1)] [] mem)
    (k2 : ¬ s0 = 0 → GM E (m_X12_sumOf d) P 23 [.ref 169, vi a1, vi a2, vi a3] [vi a3, .ref 169, vi s1] mem) :
    GM E (m_X12_sumOf d) P 18 [.ref 169, vi a1, vi a2, vi a3] [vi s0, vi s1] mem := by
  refine G_if_eq (tgt := 29) dX12_sumOf_18 (by decide) (w1) (fun c1 => ?_) (fun c1 => ?_)
  · -- s0 = 0
    refine G_iconst (z := 0) dX12_sumOf_29 rfl ?_
    refine G_iadd dX12_sumOf_30 ?_
    refine G_istore_n dX12_sumOf_31 rfl (by decide : 2 < 4) rfl ?_
    refine G_iinc (z := (a3 + 1)) dX12_sumOf_32 rfl rfl (by decide : 3 < 4) rfl ?_
    refine G_goto (tgt := 4) dX12_sumOf_35 (by decide) ?_
    exact k1 c1
  · -- ¬ s0 = 0
    refine G_aload_n dX12_sumOf_21 rfl ?_
    refine G_iload_n dX12_sumOf_22 rfl ?_
    exact k2 c1
set_option maxRecDepth 20000 in
set_option maxHeartbeats 1000000 in
theorem sg_X12_sumOf_26 {E : Nat × (Nat → Int32)} {d : Nat} {P : Option Value → Mem → Prop} {mem : Mem} {a1 : Int} {a2 : Int} {a3 : Int} {s0 : Int} {s1 : Int}
    (k1 : GM E (m_X12_sumOf d) P 4 [.ref 169, vi a1, vi (s1 + s0), vi (a3 + 1)] [] mem) :
    GM E (m_X12_sumOf d) P 26 [.ref 169, vi a1, vi a2, vi a3] [vi s0, vi s1] mem := by
  refine G_goto (tgt := 30) dX12_sumOf_26 (by decide) ?_
  refine G_iadd dX12_sumOf_30 ?_
  refine G_istore_n dX12_sumOf_31 rfl (by decide : 2 < 4) rfl ?_
  refine G_iinc (z := (a3 + 1)) dX12_sumOf_32 rfl rfl (by decide : 3 < 4) rfl ?_
  refine G_goto (tgt := 4) dX12_sumOf_35 (by decide) ?_
  exact k1
abbrev m_X12_takes (d : Nat) : Mu := (cX12_takes, 4, RX12, (some .int), ⟨d, 0, 0, 40 * d⟩, "takes")
set_option maxRecDepth 20000 in
set_option maxHeartbeats 1000000 in
theorem sg_X12_takes_0 {E : Nat × (Nat → Int32)} {d : Nat} {P : Option Value → Mem → Prop} {mem : Mem} {a1 : Int} {a2 : Int}
    (k1 : GM E (m_X12_takes d) P 7 [.ref 169, vi a1, vi a2, un] [vi a1, .ref 169] (up2 mem 169 0 0)) :
    GM E (m_X12_takes d) P 0 [.ref 169, vi a1, vi a2, un] [] mem := by
  refine G_aload_n dX12_takes_0 rfl ?_
  refine G_iconst (z := 0) dX12_takes_1 rfl ?_
  refine G_putI (mem2 := (up2 mem 169 0 0)) dX12_takes_2 fp_12_126 (by decide) sh_169 rfl ?_
  refine G_aload_n dX12_takes_5 rfl ?_
  refine G_iload_n dX12_takes_6 rfl ?_
  exact k1
set_option maxRecDepth 20000 in
set_option maxHeartbeats 1000000 in
theorem sg_X12_takes_10 {E : Nat × (Nat → Int32)} {d : Nat} {P : Option Value → Mem → Prop} {mem : Mem} {a1 : Int} {a2 : Int} {s0 : Int} (w1 : -2147483648 ≤ s0 ∧ s0 < 2147483648) (w2 : -2147483648 ≤ a2 ∧ a2 < 2147483648)
    (k1 : s0 = 0 → P (some (vi (-1))) mem)
    (k2 : ¬ s0 = 0 → GM E (m_X12_takes d) P 19 [.ref 169, vi a1, vi a2, un] [vl 2, vl 0, vl a2] mem) :
    GM E (m_X12_takes d) P 10 [.ref 169, vi a1, vi a2, un] [vi s0] mem := by
  refine G_if_eq (tgt := 25) dX12_takes_10 (by decide) (w1) (fun c1 => ?_) (fun c1 => ?_)
  · -- s0 = 0
    refine G_iconst (z := (-1)) dX12_takes_25 rfl ?_
    exact G_iret dX12_takes_26 rfl (Nat.zero_le _) (Nat.zero_le _) (Nat.le_refl _) ⟨rfl, k1 c1⟩
  · -- ¬ s0 = 0
    refine G_iload_n dX12_takes_13 rfl ?_
    refine G_i2l dX12_takes_14 (w2) ?_
    refine G_lconst (z := 0) dX12_takes_15 rfl ?_
    refine G_ldc2 (z := 2) dX12_takes_16 kc_12_346 ?_
    exact k2 c1
set_option maxRecDepth 20000 in
set_option maxHeartbeats 1000000 in
theorem sg_X12_takes_22 {E : Nat × (Nat → Int32)} {d : Nat} {P : Option Value → Mem → Prop} {mem : Mem} {a1 : Int} {a2 : Int} {s0 : Int} (w1 : -2147483648 ≤ s0 ∧ s0 < 2147483648)
    (k1 : s0 ≠ 0 → GM E (m_X12_takes d) P 29 [.ref 169, vi a1, vi a2, un] [vi a1, .ref 169] mem)
    (k2 : s0 = 0 → P (some (vi (-1))) mem) :
    GM E (m_X12_takes d) P 22 [.ref 169, vi a1, vi a2, un] [vi s0] mem := by
  refine G_if_ne (tgt := 27) dX12_takes_22 (by decide) (w1) (fun c1 => ?_) (fun c1 => ?_)
  · -- s0 ≠ 0
    refine G_aload_n dX12_takes_27 rfl ?_
    refine G_iload_n dX12_takes_28 rfl ?_
    exact k1 c1
  · -- s0 = 0
    refine G_iconst (z := (-1)) dX12_takes_25 rfl ?_
    exact G_iret dX12_takes_26 rfl (Nat.zero_le _) (Nat.zero_le _) (Nat.le_refl _) ⟨rfl, k2 c1⟩
set_option maxRecDepth 20000 in
set_option maxHeartbeats 1000000 in
theorem sg_X12_takes_32 {E : Nat × (Nat → Int32)} {d : Nat} {P : Option Value → Mem → Prop} {mem : Mem} {a1 : Int} {a2 : Int}
    (k1 : GM E (m_X12_takes d) P 39 [.ref 169, vi a1, vi a2, un] [vi a2, vi a1, .ref 180, .ref 169] mem) :
    GM E (m_X12_takes d) P 32 [.ref 169, vi a1, vi a2, un] [] mem := by
  refine G_aload_n dX12_takes_32 rfl ?_
  refine G_aload_n dX12_takes_33 rfl ?_
  refine G_getR (t := 180) dX12_takes_34 fl_12_42 (by decide) sh_169 rr_169_14 ?_
  refine G_iload_n dX12_takes_37 rfl ?_
  refine G_iload_n dX12_takes_38 rfl ?_
  exact k1
set_option maxRecDepth 20000 in
set_option maxHeartbeats 1000000 in
theorem sg_X12_takes_42 {E : Nat × (Nat → Int32)} {d : Nat} {P : Option Value → Mem → Prop} {mem : Mem} {a1 : Int} {a2 : Int} {s0 : Int} (w1 : -2147483648 ≤ (mem 169 32) ∧ (mem 169 32) < 2147483648)
    (k1 : GM E (m_X12_takes d) P 54 [.ref 169, vi a1, vi a2, vi s0] [vl (mem 169 32), .ref 169] (up2 mem 169 1 0)) :
    GM E (m_X12_takes d) P 42 [.ref 169, vi a1, vi a2, un] [vi s0] mem := by
  refine G_istore_n dX12_takes_42 rfl (by decide : 3 < 4) rfl ?_
  refine G_aload_n dX12_takes_43 rfl ?_
  refine G_iconst (z := 0) dX12_takes_44 rfl ?_
  refine G_putI (mem2 := (up2 mem 169 1 0)) dX12_takes_45 fp_12_134 (by decide) sh_169 rfl ?_
  refine G_aload_n dX12_takes_48 rfl ?_
  refine G_aload_n dX12_takes_49 rfl ?_
  refine G_getI (z := (mem 169 32)) dX12_takes_50 fl_12_282 (by decide) sh_169 (by simp [up2, upr]) ?_
  refine G_i2l dX12_takes_53 (w1) ?_
  exact k1
set_option maxRecDepth 20000 in
set_option maxHeartbeats 1000000 in
theorem sg_X12_takes_57 {E : Nat × (Nat → Int32)} {d : Nat} {P : Option Value → Mem → Prop} {mem : Mem} {a1 : Int} {a2 : Int} {a3 : Int} (w1 : -2147483648 ≤ (mem 169 33) ∧ (mem 169 33) < 2147483648)
    (k1 : GM E (m_X12_takes d) P 63 [.ref 169, vi a1, vi a2, vi a3] [vl (mem 169 33), .ref 169] mem) :
    GM E (m_X12_takes d) P 57 [.ref 169, vi a1, vi a2, vi a3] [] mem := by
  refine G_aload_n dX12_takes_57 rfl ?_
  refine G_aload_n dX12_takes_58 rfl ?_
  refine G_getI (z := (mem 169 33)) dX12_takes_59 fl_12_299 (by decide) sh_169 rfl ?_
  refine G_i2l dX12_takes_62 (w1) ?_
  exact k1
set_option maxRecDepth 20000 in
set_option maxHeartbeats 1000000 in
theorem sg_X12_takes_66 {E : Nat × (Nat → Int32)} {d : Nat} {P : Option Value → Mem → Prop} {mem : Mem} {a1 : Int} {a2 : Int} {a3 : Int}
    (k1 : P (some (vi a3)) mem) :
    GM E (m_X12_takes d) P 66 [.ref 169, vi a1, vi a2, vi a3] [] mem := by
  refine G_iload_n dX12_takes_66 rfl ?_
  exact G_iret dX12_takes_67 rfl (Nat.zero_le _) (Nat.zero_le _) (Nat.le_refl _) ⟨rfl, k1⟩
abbrev m_X12_takesOf (d : Nat) : Mu := (cX12_takesOf, 3, RX12, (some .int), ⟨d, 0, 0, 40 * d⟩, "takesOf")
set_option maxRecDepth 20000 in
set_option maxHeartbeats 1000000 in
theorem sg_X12_takesOf_0 {E : Nat × (Nat → Int32)} {d : Nat} {P : Option Value → Mem → Prop} {mem : Mem} {o1 : Nat}
    (k1 : GM E (m_X12_takesOf d) P 2 [.ref 169, .ref (1100 + o1), un] [.ref (1100 + o1), .ref 169] mem) :
    GM E (m_X12_takesOf d) P 0 [.ref 169, .ref (1100 + o1), un] [] mem := by
  refine G_aload_n dX12_takesOf_0 rfl ?_
  refine G_aload_n dX12_takesOf_1 rfl ?_
  exact k1
set_option maxRecDepth 20000 in
set_option maxHeartbeats 1000000 in
theorem sg_X12_takesOf_5 {E : Nat × (Nat → Int32)} {d : Nat} {P : Option Value → Mem → Prop} {mem : Mem} {o1 : Nat} {s0 : Int} (w1 : -2147483648 ≤ s0 ∧ s0 < 2147483648)
    (k1 : s0 < 0 → GM E (m_X12_takesOf d) P 20 [.ref 169, .ref (1100 + o1), vi s0] [vi 0, vi (mem 169 18), .ref 169] mem)
    (k2 : ¬ s0 < 0 → GM E (m_X12_takesOf d) P 20 [.ref 169, .ref (1100 + o1), vi s0] [vi 1, vi (mem 169 18), .ref 169] mem) :
    GM E (m_X12_takesOf d) P 5 [.ref 169, .ref (1100 + o1), un] [vi s0] mem := by
  refine G_istore_n dX12_takesOf_5 rfl (by decide : 2 < 3) rfl ?_
  refine G_aload_n dX12_takesOf_6 rfl ?_
  refine G_dup dX12_takesOf_7 rfl ?_
  refine G_getI (z := (mem 169 18)) dX12_takesOf_8 fl_12_151 (by decide) sh_169 rfl ?_
  refine G_iload_n dX12_takesOf_11 rfl ?_
  refine G_if_lt (tgt := 19) dX12_takesOf_12 (by decide) (w1) (fun c1 => ?_) (fun c1 => ?_)
  · -- s0 < 0
    refine G_iconst (z := 0) dX12_takesOf_19 rfl ?_
    exact k1 c1
  · -- ¬ s0 < 0
    refine G_iconst (z := 1) dX12_takesOf_15 rfl ?_
    refine G_goto (tgt := 20) dX12_takesOf_16 (by decide) ?_
    exact k2 c1
set_option maxRecDepth 20000 in
set_option maxHeartbeats 1000000 in
theorem sg_X12_takesOf_23 {E : Nat × (Nat → Int32)} {d : Nat} {P : Option Value → Mem → Prop} {mem : Mem} {o1 : Nat} {a2 : Int} {s0 : Int} {s1 : Int}
    (k1 : P (some (vi a2)) (up2 mem 169 18 (s1 + s0))) :
    GM E (m_X12_takesOf d) P 23 [.ref 169, .ref (1100 + o1), vi a2] [vi s0, vi s1, .ref 169] mem := by
  refine G_iadd dX12_takesOf_23 ?_
  refine G_putI (mem2 := (up2 mem 169 18 (s1 + s0))) dX12_takesOf_24 fp_12_151 (by decide) sh_169 rfl ?_
  refine G_iload_n dX12_takesOf_27 rfl ?_
  exact G_iret dX12_takesOf_28 rfl (Nat.zero_le _) (Nat.zero_le _) (Nat.le_refl _) ⟨rfl, k1⟩
abbrev m_X12_takesOf_ (d : Nat) : Mu := (cX12_takesOf_, 4, RX12, (some .int), ⟨d, 0, 0, 40 * d⟩, "takesOf")
set_option maxRecDepth 20000 in
set_option maxHeartbeats 1000000 in
theorem sg_X12_takesOf__0 {E : Nat × (Nat → Int32)} {d : Nat} {P : Option Value → Mem → Prop} {mem : Mem} {r1 : Nat} {n1 : Nat} {a2 : Int} {a3 : Int} (hl1 : r1 < 209) (hs1 : SH[r1]? = some (.inr (0, n1)))
    (k1 : GM E (m_X12_takesOf_ d) P 5 [.ref 169, .ref r1, vi a2, vi a3] [.ref 189, .ref r1] mem) :
    GM E (m_X12_takesOf_ d) P 0 [.ref 169, .ref r1, vi a2, vi a3] [] mem := by
  refine G_aload_n dX12_takesOf__0 rfl ?_
  refine G_aload_n dX12_takesOf__1 rfl ?_
  refine G_getR (t := 189) dX12_takesOf__2 fl_12_69 (by decide) sh_169 rr_169_38 ?_
  exact k1
set_option maxRecDepth 20000 in
set_option maxHeartbeats 1000000 in
theorem sg_X12_takesOf__8 {E : Nat × (Nat → Int32)} {d : Nat} {P : Option Value → Mem → Prop} {mem : Mem} {r1 : Nat} {n1 : Nat} {a2 : Int} {a3 : Int} (hl1 : r1 < 209) (hs1 : SH[r1]? = some (.inr (0, n1)))
    (k1 : GM E (m_X12_takesOf_ d) P 26 [.ref 169, .ref r1, vi a2, vi a3] [vi 1000000, vi a3, vi a2, .ref 189, .ref 169] (up2 mem 189 96 0)) :
    GM E (m_X12_takesOf_ d) P 8 [.ref 169, .ref r1, vi a2, vi a3] [] mem := by
  refine G_aload_n dX12_takesOf__8 rfl ?_
  refine G_getR (t := 189) dX12_takesOf__9 fl_12_69 (by decide) sh_169 rr_169_38 ?_
  refine G_bipush (z := 96) dX12_takesOf__12 rfl ?_
  refine G_iconst (z := 0) dX12_takesOf__14 rfl ?_
  refine G_iast (mem2 := (up2 mem 189 96 0)) dX12_takesOf__15 (by decide) sh_189 (by decide) (by decide) (by decide) rfl ?_
  refine G_aload_n dX12_takesOf__16 rfl ?_
  refine G_aload_n dX12_takesOf__17 rfl ?_
  refine G_getR (t := 189) dX12_takesOf__18 fl_12_69 (by decide) sh_169 rr_169_38 ?_
  refine G_iload_n dX12_takesOf__21 rfl ?_
  refine G_iload_n dX12_takesOf__22 rfl ?_
  refine G_ldcw (z := 1000000) dX12_takesOf__23 kc_12_306 ?_
  exact k1
set_option maxRecDepth 20000 in
set_option maxHeartbeats 1000000 in
theorem sg_X12_takesOf__29 {E : Nat × (Nat → Int32)} {d : Nat} {P : Option Value → Mem → Prop} {mem : Mem} {r1 : Nat} {n1 : Nat} {a2 : Int} {a3 : Int} {s0 : Int} (hl1 : r1 < 209) (hs1 : SH[r1]? = some (.inr (0, n1)))
    (k1 : P (some (vi s0)) mem) :
    GM E (m_X12_takesOf_ d) P 29 [.ref 169, .ref r1, vi a2, vi a3] [vi s0] mem := by
  exact G_iret dX12_takesOf__29 rfl (Nat.zero_le _) (Nat.zero_le _) (Nat.le_refl _) ⟨rfl, k1⟩
abbrev m_X12_thinksAsIs (d : Nat) : Mu := (cX12_thinksAsIs, 2, RX12, none, ⟨d, 0, 0, 40 * d⟩, "thinksAsIs")
set_option maxRecDepth 20000 in
set_option maxHeartbeats 1000000 in
theorem sg_X12_thinksAsIs_0 {E : Nat × (Nat → Int32)} {d : Nat} {P : Option Value → Mem → Prop} {mem : Mem} {a1 : Int} (q1 : 0 ≤ a1 ∧ a1 < 6)
    (k1 : P none (up2 (up2 mem 169 30 (mem 179 1)) 169 31 (mem 173 a1))) :
    GM E (m_X12_thinksAsIs d) P 0 [.ref 169, vi a1] [] mem := by
  refine G_aload_n dX12_thinksAsIs_0 rfl ?_
  refine G_aload_n dX12_thinksAsIs_1 rfl ?_
  refine G_getR (t := 179) dX12_thinksAsIs_2 fl_12_39 (by decide) sh_169 rr_169_13 ?_
  refine G_iconst (z := 1) dX12_thinksAsIs_5 rfl ?_
  refine G_iald (z := (mem 179 1)) dX12_thinksAsIs_6 (by decide) sh_179 (by decide) (by decide) (by decide) rfl ?_
  refine G_putI (mem2 := (up2 mem 169 30 (mem 179 1))) dX12_thinksAsIs_7 fp_12_269 (by decide) sh_169 rfl ?_
  refine G_aload_n dX12_thinksAsIs_10 rfl ?_
  refine G_aload_n dX12_thinksAsIs_11 rfl ?_
  refine G_getR (t := 173) dX12_thinksAsIs_12 fl_12_20 (by decide) sh_169 rr_169_7 ?_
  refine G_iload_n dX12_thinksAsIs_15 rfl ?_
  refine G_iald (z := (mem 173 a1)) dX12_thinksAsIs_16 (by decide) sh_173 (by decide) (q1).1 (q1).2 (by simp [up2, upr]) ?_
  refine G_putI (mem2 := (up2 (up2 mem 169 30 (mem 179 1)) 169 31 (mem 173 a1))) dX12_thinksAsIs_17 fp_12_266 (by decide) sh_169 rfl ?_
  exact G_vret dX12_thinksAsIs_20 rfl (Nat.zero_le _) (Nat.zero_le _) (Nat.le_refl _) ⟨rfl, k1⟩
abbrev m_X12_thrown (d : Nat) : Mu := (cX12_thrown, 1, RX12, (some .int), ⟨d, 0, 0, 40 * d⟩, "thrown")
set_option maxRecDepth 20000 in
set_option maxHeartbeats 1000000 in
theorem sg_X12_thrown_0 {E : Nat × (Nat → Int32)} {d : Nat} {P : Option Value → Mem → Prop} {mem : Mem}
    (k1 : P (some (vi (mem 169 0))) mem) :
    GM E (m_X12_thrown d) P 0 [.ref 169] [] mem := by
  refine G_aload_n dX12_thrown_0 rfl ?_
  refine G_getI (z := (mem 169 0)) dX12_thrown_1 fl_12_126 (by decide) sh_169 rfl ?_
  exact G_iret dX12_thrown_4 rfl (Nat.zero_le _) (Nat.zero_le _) (Nat.le_refl _) ⟨rfl, k1⟩
abbrev m_X12_tip (d : Nat) : Mu := (cX12_tip, 2, RX12, (some .int), ⟨d, 0, 0, 40 * d⟩, "tip")
set_option maxRecDepth 20000 in
set_option maxHeartbeats 1000000 in
theorem sg_X12_tip_0 {E : Nat × (Nat → Int32)} {d : Nat} {P : Option Value → Mem → Prop} {mem : Mem}
    (k1 : GM E (m_X12_tip d) P 6 [.ref 169, un] [.ref 169] (up2 mem 169 0 0)) :
    GM E (m_X12_tip d) P 0 [.ref 169, un] [] mem := by
  refine G_aload_n dX12_tip_0 rfl ?_
  refine G_iconst (z := 0) dX12_tip_1 rfl ?_
  refine G_putI (mem2 := (up2 mem 169 0 0)) dX12_tip_2 fp_12_126 (by decide) sh_169 rfl ?_
  refine G_aload_n dX12_tip_5 rfl ?_
  exact k1
set_option maxRecDepth 20000 in
set_option maxHeartbeats 1000000 in
theorem sg_X12_tip_9 {E : Nat × (Nat → Int32)} {d : Nat} {P : Option Value → Mem → Prop} {mem : Mem}
    (k1 : GM E (m_X12_tip d) P 14 [.ref 169, un] [.ref 180, .ref 169] mem) :
    GM E (m_X12_tip d) P 9 [.ref 169, un] [] mem := by
  refine G_aload_n dX12_tip_9 rfl ?_
  refine G_aload_n dX12_tip_10 rfl ?_
  refine G_getR (t := 180) dX12_tip_11 fl_12_42 (by decide) sh_169 rr_169_14 ?_
  exact k1
set_option maxRecDepth 20000 in
set_option maxHeartbeats 1000000 in
theorem sg_X12_tip_17 {E : Nat × (Nat → Int32)} {d : Nat} {P : Option Value → Mem → Prop} {mem : Mem} {s0 : Int} (w1 : -2147483648 ≤ s0 ∧ s0 < 2147483648) (w2 : ¬ s0 < 0 → -2147483648 ≤ (mem 169 42) ∧ (mem 169 42) < 2147483648)
    (k1 : s0 < 0 → GM E (m_X12_tip d) P 38 [.ref 169, vi s0] [vi s0, .ref 169] mem)
    (k2 : ¬ s0 < 0 → GM E (m_X12_tip d) P 33 [.ref 169, vi s0] [vl (mem 169 42), .ref 169] (up2 mem 169 1 0)) :
    GM E (m_X12_tip d) P 17 [.ref 169, un] [vi s0] mem := by
  refine G_istore_n dX12_tip_17 rfl (by decide : 1 < 2) rfl ?_
  refine G_iload_n dX12_tip_18 rfl ?_
  refine G_if_lt (tgt := 36) dX12_tip_19 (by decide) (w1) (fun c1 => ?_) (fun c1 => ?_)
  · -- s0 < 0
    refine G_aload_n dX12_tip_36 rfl ?_
    refine G_iload_n dX12_tip_37 rfl ?_
    exact k1 c1
  · -- ¬ s0 < 0
    refine G_aload_n dX12_tip_22 rfl ?_
    refine G_iconst (z := 0) dX12_tip_23 rfl ?_
    refine G_putI (mem2 := (up2 mem 169 1 0)) dX12_tip_24 fp_12_134 (by decide) sh_169 rfl ?_
    refine G_aload_n dX12_tip_27 rfl ?_
    refine G_aload_n dX12_tip_28 rfl ?_
    refine G_getI (z := (mem 169 42)) dX12_tip_29 fl_12_362 (by decide) sh_169 (by simp [up2, upr]) ?_
    refine G_i2l dX12_tip_32 (w2 c1) ?_
    exact k2 c1
set_option maxRecDepth 20000 in
set_option maxHeartbeats 1000000 in
theorem sg_X12_tip_36 {E : Nat × (Nat → Int32)} {d : Nat} {P : Option Value → Mem → Prop} {mem : Mem} {a1 : Int}
    (k1 : GM E (m_X12_tip d) P 38 [.ref 169, vi a1] [vi a1, .ref 169] mem) :
    GM E (m_X12_tip d) P 36 [.ref 169, vi a1] [] mem := by
  refine G_aload_n dX12_tip_36 rfl ?_
  refine G_iload_n dX12_tip_37 rfl ?_
  exact k1
set_option maxRecDepth 20000 in
set_option maxHeartbeats 1000000 in
theorem sg_X12_tip_41 {E : Nat × (Nat → Int32)} {d : Nat} {P : Option Value → Mem → Prop} {mem : Mem} {a1 : Int} {s0 : Int}
    (k1 : P (some (vi s0)) mem) :
    GM E (m_X12_tip d) P 41 [.ref 169, vi a1] [vi s0] mem := by
  exact G_iret dX12_tip_41 rfl (Nat.zero_le _) (Nat.zero_le _) (Nat.le_refl _) ⟨rfl, k1⟩
abbrev m_X12_tipnow (d : Nat) : Mu := (cX12_tipnow, 8, RX12, (some .int), ⟨d, 0, 0, 40 * d⟩, "tipnow")
set_option maxRecDepth 20000 in
set_option maxHeartbeats 1000000 in
theorem sg_X12_tipnow_0 {E : Nat × (Nat → Int32)} {d : Nat} {P : Option Value → Mem → Prop} {mem : Mem} {a1 : Int}
    (k1 : GM E (m_X12_tipnow d) P 7 [.ref 169, vi a1, un, un, un, un, un, un] [vi a1, .ref 169] (up2 mem 169 0 0)) :
    GM E (m_X12_tipnow d) P 0 [.ref 169, vi a1, un, un, un, un, un, un] [] mem := by
  refine G_aload_n dX12_tipnow_0 rfl ?_
  refine G_iconst (z := 0) dX12_tipnow_1 rfl ?_
  refine G_putI (mem2 := (up2 mem 169 0 0)) dX12_tipnow_2 fp_12_126 (by decide) sh_169 rfl ?_
  refine G_aload_n dX12_tipnow_5 rfl ?_
  refine G_iload_n dX12_tipnow_6 rfl ?_
  exact k1
set_option maxRecDepth 20000 in
set_option maxHeartbeats 1000000 in
theorem sg_X12_tipnow_10 {E : Nat × (Nat → Int32)} {d : Nat} {P : Option Value → Mem → Prop} {mem : Mem} {a1 : Int} {s0 : Int} (w1 : -2147483648 ≤ s0 ∧ s0 < 2147483648)
    (k1 : s0 ≠ 0 → GM E (m_X12_tipnow d) P 21 [.ref 169, vi a1, un, un, un, un, un, un] [vi a1, .ref 180, .ref 169] mem)
    (k2 : s0 = 0 → P (some (vi (-1))) mem) :
    GM E (m_X12_tipnow d) P 10 [.ref 169, vi a1, un, un, un, un, un, un] [vi s0] mem := by
  refine G_if_ne (tgt := 15) dX12_tipnow_10 (by decide) (w1) (fun c1 => ?_) (fun c1 => ?_)
  · -- s0 ≠ 0
    refine G_aload_n dX12_tipnow_15 rfl ?_
    refine G_aload_n dX12_tipnow_16 rfl ?_
    refine G_getR (t := 180) dX12_tipnow_17 fl_12_42 (by decide) sh_169 rr_169_14 ?_
    refine G_iload_n dX12_tipnow_20 rfl ?_
    exact k1 c1
  · -- s0 = 0
    refine G_iconst (z := (-1)) dX12_tipnow_13 rfl ?_
    exact G_iret dX12_tipnow_14 rfl (Nat.zero_le _) (Nat.zero_le _) (Nat.le_refl _) ⟨rfl, k2 c1⟩
set_option maxRecDepth 20000 in
set_option maxHeartbeats 1000000 in
theorem sg_X12_tipnow_24 {E : Nat × (Nat → Int32)} {d : Nat} {P : Option Value → Mem → Prop} {mem : Mem} {a1 : Int} {s0 : Int} (w1 : -2147483648 ≤ s0 ∧ s0 < 2147483648) (w2 : -2147483648 ≤ (mem 179 0) ∧ (mem 179 0) < 2147483648)
    (k1 : s0 ≤ (mem 179 0) → GM E (m_X12_tipnow d) P 40 [.ref 169, vi a1, vi s0, un, un, un, un, un] [vi a1, .ref 169] mem)
    (k2 : ¬ s0 ≤ (mem 179 0) → P (some (vi (-2))) mem) :
    GM E (m_X12_tipnow d) P 24 [.ref 169, vi a1, un, un, un, un, un, un] [vi s0] mem := by
  refine G_istore_n dX12_tipnow_24 rfl (by decide : 2 < 8) rfl ?_
  refine G_iload_n dX12_tipnow_25 rfl ?_
  refine G_aload_n dX12_tipnow_26 rfl ?_
  refine G_getR (t := 179) dX12_tipnow_27 fl_12_39 (by decide) sh_169 rr_169_13 ?_
  refine G_iconst (z := 0) dX12_tipnow_30 rfl ?_
  refine G_iald (z := (mem 179 0)) dX12_tipnow_31 (by decide) sh_179 (by decide) (by decide) (by decide) rfl ?_
  refine G_icmp_le (tgt := 38) dX12_tipnow_32 (by decide) (w1) (w2) (fun c1 => ?_) (fun c1 => ?_)
  · -- s0 ≤ (mem 179 0)
    refine G_aload_n dX12_tipnow_38 rfl ?_
    refine G_iload_n dX12_tipnow_39 rfl ?_
    exact k1 c1
  · -- ¬ s0 ≤ (mem 179 0)
    refine G_bipush (z := (-2)) dX12_tipnow_35 rfl ?_
    exact G_iret dX12_tipnow_37 rfl (Nat.zero_le _) (Nat.zero_le _) (Nat.le_refl _) ⟨rfl, k2 c1⟩
set_option maxRecDepth 20000 in
set_option maxHeartbeats 1000000 in
theorem sg_X12_tipnow_43 {E : Nat × (Nat → Int32)} {d : Nat} (hd : 1 ≤ d) {P : Option Value → Mem → Prop} {mem : Mem} {a1 : Int} {a2 : Int} {s0 : Int} (q1 : 0 ≤ a1 ∧ a1 < 6) (w2 : -2147483648 ≤ ((mem 171 a1) - (mem 179 5)) ∧ ((mem 171 a1) - (mem 179 5)) < 2147483648) (w3 : -2147483648 ≤ ((mem 180 97) - (mem 179 5)) ∧ ((mem 180 97) - (mem 179 5)) < 2147483648) (w4 : -2147483648 ≤ ((mem 180 97) - (mem 171 a1)) ∧ ((mem 180 97) - (mem 171 a1)) < 2147483648) (w5 : -2147483648 ≤ ((mem 180 96) + a2) ∧ ((mem 180 96) + a2) < 2147483648) (w6 : -2147483648 ≤ (mem 179 0) ∧ (mem 179 0) < 2147483648) (w7 : (mem 179 0) < ((mem 180 96) + a2) → -2147483648 ≤ ((((((10 * (if 0 ≤ ((mem 180 97) - (mem 179 5)) then ((mem 180 97) - (mem 179 5)) else -((mem 180 97) - (mem 179 5)))) + 300) + (10 * (if 0 ≤ ((mem 171 a1) - (mem 179 5)) then ((mem 171 a1) - (mem 179 5)) else -((mem 171 a1) - (mem 179 5))))) + s0) + (10 * (if 0 ≤ ((mem 171 a1) - (mem 179 5)) then ((mem 171 a1) - (mem 179 5)) else -((mem 171 a1) - (mem 179 5))))) + 300) ∧ ((((((10 * (if 0 ≤ ((mem 180 97) - (mem 179 5)) then ((mem 180 97) - (mem 179 5)) else -((mem 180 97) - (mem 179 5)))) + 300) + (10 * (if 0 ≤ ((mem 171 a1) - (mem 179 5)) then ((mem 171 a1) - (mem 179 5)) else -((mem 171 a1) - (mem 179 5))))) + s0) + (10 * (if 0 ≤ ((mem 171 a1) - (mem 179 5)) then ((mem 171 a1) - (mem 179 5)) else -((mem 171 a1) - (mem 179 5))))) + 300) < 2147483648) (w8 : ¬ (mem 179 0) < ((mem 180 96) + a2) → -2147483648 ≤ ((((((10 * (if 0 ≤ ((mem 180 97) - (mem 179 5)) then ((mem 180 97) - (mem 179 5)) else -((mem 180 97) - (mem 179 5)))) + 300) + (10 * (if 0 ≤ ((mem 171 a1) - (mem 179 5)) then ((mem 171 a1) - (mem 179 5)) else -((mem 171 a1) - (mem 179 5))))) + s0) + (10 * (if 0 ≤ ((mem 171 a1) - (mem 179 5)) then ((mem 171 a1) - (mem 179 5)) else -((mem 171 a1) - (mem 179 5))))) + 300) ∧ ((((((10 * (if 0 ≤ ((mem 180 97) - (mem 179 5)) then ((mem 180 97) - (mem 179 5)) else -((mem 180 97) - (mem 179 5)))) + 300) + (10 * (if 0 ≤ ((mem 171 a1) - (mem 179 5)) then ((mem 171 a1) - (mem 179 5)) else -((mem 171 a1) - (mem 179 5))))) + s0) + (10 * (if 0 ≤ ((mem 171 a1) - (mem 179 5)) then ((mem 171 a1) - (mem 179 5)) else -((mem 171 a1) - (mem 179 5))))) + 300) < 2147483648)
    (k1 : (mem 179 0) < ((mem 180 96) + a2) → GM E (m_X12_tipnow d) P 168 [.ref 169, vi a1, vi a2, vi s0, vi (10 * (if 0 ≤ ((mem 171 a1) - (mem 179 5)) then ((mem 171 a1) - (mem 179 5)) else -((mem 171 a1) - (mem 179 5)))), vi ((((((10 * (if 0 ≤ ((mem 180 97) - (mem 179 5)) then ((mem 180 97) - (mem 179 5)) else -((mem 180 97) - (mem 179 5)))) + 300) + (10 * (if 0 ≤ ((mem 171 a1) - (mem 179 5)) then ((mem 171 a1) - (mem 179 5)) else -((mem 171 a1) - (mem 179 5))))) + s0) + (10 * (if 0 ≤ ((mem 171 a1) - (mem 179 5)) then ((mem 171 a1) - (mem 179 5)) else -((mem 171 a1) - (mem 179 5))))) + 300), vi ((((10 * (if 0 ≤ ((mem 180 97) - (mem 171 a1)) then ((mem 180 97) - (mem 171 a1)) else -((mem 180 97) - (mem 171 a1)))) + s0) + (10 * (if 0 ≤ ((mem 171 a1) - (mem 179 5)) then ((mem 171 a1) - (mem 179 5)) else -((mem 171 a1) - (mem 179 5))))) + 300), vi 0] [vl ((((((10 * (if 0 ≤ ((mem 180 97) - (mem 179 5)) then ((mem 180 97) - (mem 179 5)) else -((mem 180 97) - (mem 179 5)))) + 300) + (10 * (if 0 ≤ ((mem 171 a1) - (mem 179 5)) then ((mem 171 a1) - (mem 179 5)) else -((mem 171 a1) - (mem 179 5))))) + s0) + (10 * (if 0 ≤ ((mem 171 a1) - (mem 179 5)) then ((mem 171 a1) - (mem 179 5)) else -((mem 171 a1) - (mem 179 5))))) + 300), .ref 169] (up2 mem 169 1 0))
    (k2 : ¬ (mem 179 0) < ((mem 180 96) + a2) → GM E (m_X12_tipnow d) P 168 [.ref 169, vi a1, vi a2, vi s0, vi (10 * (if 0 ≤ ((mem 171 a1) - (mem 179 5)) then ((mem 171 a1) - (mem 179 5)) else -((mem 171 a1) - (mem 179 5)))), vi ((((((10 * (if 0 ≤ ((mem 180 97) - (mem 179 5)) then ((mem 180 97) - (mem 179 5)) else -((mem 180 97) - (mem 179 5)))) + 300) + (10 * (if 0 ≤ ((mem 171 a1) - (mem 179 5)) then ((mem 171 a1) - (mem 179 5)) else -((mem 171 a1) - (mem 179 5))))) + s0) + (10 * (if 0 ≤ ((mem 171 a1) - (mem 179 5)) then ((mem 171 a1) - (mem 179 5)) else -((mem 171 a1) - (mem 179 5))))) + 300), vi ((((10 * (if 0 ≤ ((mem 180 97) - (mem 171 a1)) then ((mem 180 97) - (mem 171 a1)) else -((mem 180 97) - (mem 171 a1)))) + s0) + (10 * (if 0 ≤ ((mem 171 a1) - (mem 179 5)) then ((mem 171 a1) - (mem 179 5)) else -((mem 171 a1) - (mem 179 5))))) + 300), vi 1] [vl ((((((10 * (if 0 ≤ ((mem 180 97) - (mem 179 5)) then ((mem 180 97) - (mem 179 5)) else -((mem 180 97) - (mem 179 5)))) + 300) + (10 * (if 0 ≤ ((mem 171 a1) - (mem 179 5)) then ((mem 171 a1) - (mem 179 5)) else -((mem 171 a1) - (mem 179 5))))) + s0) + (10 * (if 0 ≤ ((mem 171 a1) - (mem 179 5)) then ((mem 171 a1) - (mem 179 5)) else -((mem 171 a1) - (mem 179 5))))) + 300), .ref 169] (up2 mem 169 1 0)) :
    GM E (m_X12_tipnow d) P 43 [.ref 169, vi a1, vi a2, un, un, un, un, un] [vi s0] mem := by
  refine G_istore_n dX12_tipnow_43 rfl (by decide : 3 < 8) rfl ?_
  refine G_bipush (z := 10) dX12_tipnow_44 rfl ?_
  refine G_aload_n dX12_tipnow_46 rfl ?_
  refine G_getR (t := 171) dX12_tipnow_47 fl_12_13 (by decide) sh_169 rr_169_5 ?_
  refine G_iload_n dX12_tipnow_50 rfl ?_
  refine G_iald (z := (mem 171 a1)) dX12_tipnow_51 (by decide) sh_171 (by decide) (q1).1 (q1).2 rfl ?_
  refine G_aload_n dX12_tipnow_52 rfl ?_
  refine G_getR (t := 179) dX12_tipnow_53 fl_12_39 (by decide) sh_169 rr_169_13 ?_
  refine G_iconst (z := 5) dX12_tipnow_56 rfl ?_
  refine G_iald (z := (mem 179 5)) dX12_tipnow_57 (by decide) sh_179 (by decide) (by decide) (by decide) rfl ?_
  refine G_isub dX12_tipnow_58 ?_
  refine G_abs (z := (if 0 ≤ ((mem 171 a1) - (mem 179 5)) then ((mem 171 a1) - (mem 179 5)) else -((mem 171 a1) - (mem 179 5)))) dX12_tipnow_59 ml_12_343 mw_abs (w2) ⟨by show 1 ≤ d; omega, by show 21 ≤ 40 * d; omega, Nat.zero_le _, Nat.zero_le _⟩ (Nat.le_of_ble_eq_true rfl) rfl ?_
  refine G_imul dX12_tipnow_62 ?_
  refine G_istore dX12_tipnow_63 (by decide : 4 < 8) rfl ?_
  refine G_bipush (z := 10) dX12_tipnow_65 rfl ?_
  refine G_aload_n dX12_tipnow_67 rfl ?_
  refine G_getR (t := 180) dX12_tipnow_68 fl_12_42 (by decide) sh_169 rr_169_14 ?_
  refine G_bipush (z := 97) dX12_tipnow_71 rfl ?_
  refine G_iald (z := (mem 180 97)) dX12_tipnow_73 (by decide) sh_180 (by decide) (by decide) (by decide) rfl ?_
  refine G_aload_n dX12_tipnow_74 rfl ?_
  refine G_getR (t := 179) dX12_tipnow_75 fl_12_39 (by decide) sh_169 rr_169_13 ?_
  refine G_iconst (z := 5) dX12_tipnow_78 rfl ?_
  refine G_iald (z := (mem 179 5)) dX12_tipnow_79 (by decide) sh_179 (by decide) (by decide) (by decide) rfl ?_
  refine G_isub dX12_tipnow_80 ?_
  refine G_abs (z := (if 0 ≤ ((mem 180 97) - (mem 179 5)) then ((mem 180 97) - (mem 179 5)) else -((mem 180 97) - (mem 179 5)))) dX12_tipnow_81 ml_12_343 mw_abs (w3) ⟨by show 1 ≤ d; omega, by show 21 ≤ 40 * d; omega, Nat.zero_le _, Nat.zero_le _⟩ (Nat.le_of_ble_eq_true rfl) rfl ?_
  refine G_imul dX12_tipnow_84 ?_
  refine G_sipush (z := 300) dX12_tipnow_85 rfl ?_
  refine G_iadd dX12_tipnow_88 ?_
  refine G_iload dX12_tipnow_89 rfl ?_
  refine G_iadd dX12_tipnow_91 ?_
  refine G_iload_n dX12_tipnow_92 rfl ?_
  refine G_iadd dX12_tipnow_93 ?_
  refine G_iload dX12_tipnow_94 rfl ?_
  refine G_iadd dX12_tipnow_96 ?_
  refine G_sipush (z := 300) dX12_tipnow_97 rfl ?_
  refine G_iadd dX12_tipnow_100 ?_
  refine G_istore dX12_tipnow_101 (by decide : 5 < 8) rfl ?_
  refine G_bipush (z := 10) dX12_tipnow_103 rfl ?_
  refine G_aload_n dX12_tipnow_105 rfl ?_
  refine G_getR (t := 180) dX12_tipnow_106 fl_12_42 (by decide) sh_169 rr_169_14 ?_
  refine G_bipush (z := 97) dX12_tipnow_109 rfl ?_
  refine G_iald (z := (mem 180 97)) dX12_tipnow_111 (by decide) sh_180 (by decide) (by decide) (by decide) rfl ?_
  refine G_aload_n dX12_tipnow_112 rfl ?_
  refine G_getR (t := 171) dX12_tipnow_113 fl_12_13 (by decide) sh_169 rr_169_5 ?_
  refine G_iload_n dX12_tipnow_116 rfl ?_
  refine G_iald (z := (mem 171 a1)) dX12_tipnow_117 (by decide) sh_171 (by decide) (q1).1 (q1).2 rfl ?_
  refine G_isub dX12_tipnow_118 ?_
  refine G_abs (z := (if 0 ≤ ((mem 180 97) - (mem 171 a1)) then ((mem 180 97) - (mem 171 a1)) else -((mem 180 97) - (mem 171 a1)))) dX12_tipnow_119 ml_12_343 mw_abs (w4) ⟨by show 1 ≤ d; omega, by show 21 ≤ 40 * d; omega, Nat.zero_le _, Nat.zero_le _⟩ (Nat.le_of_ble_eq_true rfl) rfl ?_
  refine G_imul dX12_tipnow_122 ?_
  refine G_iload_n dX12_tipnow_123 rfl ?_
  refine G_iadd dX12_tipnow_124 ?_
  refine G_iload dX12_tipnow_125 rfl ?_
  refine G_iadd dX12_tipnow_127 ?_
  refine G_sipush (z := 300) dX12_tipnow_128 rfl ?_
  refine G_iadd dX12_tipnow_131 ?_
  refine G_istore dX12_tipnow_132 (by decide : 6 < 8) rfl ?_
  refine G_aload_n dX12_tipnow_134 rfl ?_
  refine G_getR (t := 180) dX12_tipnow_135 fl_12_42 (by decide) sh_169 rr_169_14 ?_
  refine G_bipush (z := 96) dX12_tipnow_138 rfl ?_
  refine G_iald (z := (mem 180 96)) dX12_tipnow_140 (by decide) sh_180 (by decide) (by decide) (by decide) rfl ?_
  refine G_iload_n dX12_tipnow_141 rfl ?_
  refine G_iadd dX12_tipnow_142 ?_
  refine G_aload_n dX12_tipnow_143 rfl ?_
  refine G_getR (t := 179) dX12_tipnow_144 fl_12_39 (by decide) sh_169 rr_169_13 ?_
  refine G_iconst (z := 0) dX12_tipnow_147 rfl ?_
  refine G_iald (z := (mem 179 0)) dX12_tipnow_148 (by decide) sh_179 (by decide) (by decide) (by decide) rfl ?_
  refine G_icmp_gt (tgt := 156) dX12_tipnow_149 (by decide) (w5) (w6) (fun c1 => ?_) (fun c1 => ?_)
  · -- (mem 179 0) < ((mem 180 96) + a2)
    refine G_iconst (z := 0) dX12_tipnow_156 rfl ?_
    refine G_istore dX12_tipnow_157 (by decide : 7 < 8) rfl ?_
    refine G_aload_n dX12_tipnow_159 rfl ?_
    refine G_iconst (z := 0) dX12_tipnow_160 rfl ?_
    refine G_putI (mem2 := (up2 mem 169 1 0)) dX12_tipnow_161 fp_12_134 (by decide) sh_169 rfl ?_
    refine G_aload_n dX12_tipnow_164 rfl ?_
    refine G_iload dX12_tipnow_165 rfl ?_
    refine G_i2l dX12_tipnow_167 (w7 c1) ?_
    exact k1 c1
  · -- ¬ (mem 179 0) < ((mem 180 96) + a2)
    refine G_iconst (z := 1) dX12_tipnow_152 rfl ?_
    refine G_goto (tgt := 157) dX12_tipnow_153 (by decide) ?_
    refine G_istore dX12_tipnow_157 (by decide : 7 < 8) rfl ?_
    refine G_aload_n dX12_tipnow_159 rfl ?_
    refine G_iconst (z := 0) dX12_tipnow_160 rfl ?_
    refine G_putI (mem2 := (up2 mem 169 1 0)) dX12_tipnow_161 fp_12_134 (by decide) sh_169 rfl ?_
    refine G_aload_n dX12_tipnow_164 rfl ?_
    refine G_iload dX12_tipnow_165 rfl ?_
    refine G_i2l dX12_tipnow_167 (w8 c1) ?_
    exact k2 c1
set_option maxRecDepth 20000 in
set_option maxHeartbeats 1000000 in
theorem sg_X12_tipnow_171 {E : Nat × (Nat → Int32)} {d : Nat} {P : Option Value → Mem → Prop} {mem : Mem} {a1 : Int} {a2 : Int} {a3 : Int} {a4 : Int} {a5 : Int} {a6 : Int} {a7 : Int} (w1 : -2147483648 ≤ a7 ∧ a7 < 2147483648) (w2 : -2147483648 ≤ a6 ∧ a6 < 2147483648)
    (k1 : a7 = 0 → GM E (m_X12_tipnow d) P 186 [.ref 169, vi a1, vi a2, vi a3, vi a4, vi a5, vi a6, vi a7] [vl (-1), .ref 169] mem)
    (k2 : ¬ a7 = 0 → GM E (m_X12_tipnow d) P 186 [.ref 169, vi a1, vi a2, vi a3, vi a4, vi a5, vi a6, vi a7] [vl a6, .ref 169] mem) :
    GM E (m_X12_tipnow d) P 171 [.ref 169, vi a1, vi a2, vi a3, vi a4, vi a5, vi a6, vi a7] [] mem := by
  refine G_aload_n dX12_tipnow_171 rfl ?_
  refine G_iload dX12_tipnow_172 rfl ?_
  refine G_if_eq (tgt := 183) dX12_tipnow_174 (by decide) (w1) (fun c1 => ?_) (fun c1 => ?_)
  · -- a7 = 0
    refine G_ldc2 (z := (-1)) dX12_tipnow_183 kc_12_412 ?_
    exact k1 c1
  · -- ¬ a7 = 0
    refine G_iload dX12_tipnow_177 rfl ?_
    refine G_i2l dX12_tipnow_179 (w2) ?_
    refine G_goto (tgt := 186) dX12_tipnow_180 (by decide) ?_
    exact k2 c1
set_option maxRecDepth 20000 in
set_option maxHeartbeats 1000000 in
theorem sg_X12_tipnow_189 {E : Nat × (Nat → Int32)} {d : Nat} {P : Option Value → Mem → Prop} {mem : Mem} {a1 : Int} {a2 : Int} {a3 : Int} {a4 : Int} {a5 : Int} {a6 : Int} {a7 : Int} (w1 : -2147483648 ≤ a7 ∧ a7 < 2147483648) (w2 : -2147483648 ≤ a5 ∧ a5 < 2147483648) (w3 : -2147483648 ≤ a6 ∧ a6 < 2147483648) (w4 : a7 ≠ 0 → ¬ a6 ≤ a5 → -2147483648 ≤ (mem 180 96) ∧ (mem 180 96) < 2147483648)
    (k1 : a7 ≠ 0 → a6 ≤ a5 → GM E (m_X12_tipnow d) P 220 [.ref 169, vi a1, vi a2, vi a3, vi a4, vi a5, vi a6, vi a7] [vi 0] mem)
    (k2 : a7 ≠ 0 → ¬ a6 ≤ a5 → (mem 180 96) ≤ 0 → GM E (m_X12_tipnow d) P 220 [.ref 169, vi a1, vi a2, vi a3, vi a4, vi a5, vi a6, vi a7] [vi 0] mem)
    (k3 : a7 ≠ 0 → ¬ a6 ≤ a5 → ¬ (mem 180 96) ≤ 0 → GM E (m_X12_tipnow d) P 220 [.ref 169, vi a1, vi a2, vi a3, vi a4, vi a5, vi a6, vi a7] [vi 1] mem)
    (k4 : a7 = 0 → P (some (vi 2)) mem) :
    GM E (m_X12_tipnow d) P 189 [.ref 169, vi a1, vi a2, vi a3, vi a4, vi a5, vi a6, vi a7] [] mem := by
  refine G_iload dX12_tipnow_189 rfl ?_
  refine G_if_ne (tgt := 198) dX12_tipnow_191 (by decide) (w1) (fun c1 => ?_) (fun c1 => ?_)
  · -- a7 ≠ 0
    refine G_iload dX12_tipnow_198 rfl ?_
    refine G_iload dX12_tipnow_200 rfl ?_
    refine G_icmp_ge (tgt := 219) dX12_tipnow_202 (by decide) (w2) (w3) (fun c2 => ?_) (fun c2 => ?_)
    · -- a6 ≤ a5
      refine G_iconst (z := 0) dX12_tipnow_219 rfl ?_
      exact k1 c1 c2
    · -- ¬ a6 ≤ a5
      refine G_aload_n dX12_tipnow_205 rfl ?_
      refine G_getR (t := 180) dX12_tipnow_206 fl_12_42 (by decide) sh_169 rr_169_14 ?_
      refine G_bipush (z := 96) dX12_tipnow_209 rfl ?_
      refine G_iald (z := (mem 180 96)) dX12_tipnow_211 (by decide) sh_180 (by decide) (by decide) (by decide) rfl ?_
      refine G_if_le (tgt := 219) dX12_tipnow_212 (by decide) (w4 c1 c2) (fun c3 => ?_) (fun c3 => ?_)
      · -- (mem 180 96) ≤ 0
        refine G_iconst (z := 0) dX12_tipnow_219 rfl ?_
        exact k2 c1 c2 c3
      · -- ¬ (mem 180 96) ≤ 0
        refine G_iconst (z := 1) dX12_tipnow_215 rfl ?_
        refine G_goto (tgt := 220) dX12_tipnow_216 (by decide) ?_
        exact k3 c1 c2 c3
  · -- a7 = 0
    refine G_iconst (z := 2) dX12_tipnow_194 rfl ?_
    refine G_goto (tgt := 223) dX12_tipnow_195 (by decide) ?_
    exact G_iret dX12_tipnow_223 rfl (Nat.zero_le _) (Nat.zero_le _) (Nat.le_refl _) ⟨rfl, k4 c1⟩
set_option maxRecDepth 20000 in
set_option maxHeartbeats 1000000 in
theorem sg_X12_tipnow_223 {E : Nat × (Nat → Int32)} {d : Nat} {P : Option Value → Mem → Prop} {mem : Mem} {a1 : Int} {a2 : Int} {a3 : Int} {a4 : Int} {a5 : Int} {a6 : Int} {a7 : Int} {s0 : Int}
    (k1 : P (some (vi s0)) mem) :
    GM E (m_X12_tipnow d) P 223 [.ref 169, vi a1, vi a2, vi a3, vi a4, vi a5, vi a6, vi a7] [vi s0] mem := by
  exact G_iret dX12_tipnow_223 rfl (Nat.zero_le _) (Nat.zero_le _) (Nat.le_refl _) ⟨rfl, k1⟩
abbrev m_X12_tips (d : Nat) : Mu := (cX12_tips, 3, RX12, (some .int), ⟨d, 0, 0, 40 * d⟩, "tips")
set_option maxRecDepth 20000 in
set_option maxHeartbeats 1000000 in
theorem sg_X12_tips_0 {E : Nat × (Nat → Int32)} {d : Nat} {P : Option Value → Mem → Prop} {mem : Mem} {r1 : Nat} {n1 : Nat} (hl1 : r1 < 209) (hs1 : SH[r1]? = some (.inr (0, n1)))
    (k1 : GM E (m_X12_tips d) P 2 [.ref 169, .ref r1, un] [.ref r1, .ref 169] mem) :
    GM E (m_X12_tips d) P 0 [.ref 169, .ref r1, un] [] mem := by
  refine G_aload_n dX12_tips_0 rfl ?_
  refine G_aload_n dX12_tips_1 rfl ?_
  exact k1
set_option maxRecDepth 20000 in
set_option maxHeartbeats 1000000 in
theorem sg_X12_tips_5 {E : Nat × (Nat → Int32)} {d : Nat} {P : Option Value → Mem → Prop} {mem : Mem} {r1 : Nat} {n1 : Nat} {s0 : Int} (hl1 : r1 < 209) (hs1 : SH[r1]? = some (.inr (0, n1))) (w1 : -2147483648 ≤ s0 ∧ s0 < 2147483648)
    (k1 : s0 = 0 → GM E (m_X12_tips d) P 19 [.ref 169, .ref r1, un] [vi (mem 179 5), .ref r1, .ref 169] mem)
    (k2 : ¬ s0 = 0 → P (some (vi (-2))) mem) :
    GM E (m_X12_tips d) P 5 [.ref 169, .ref r1, un] [vi s0] mem := by
  refine G_if_eq (tgt := 11) dX12_tips_5 (by decide) (w1) (fun c1 => ?_) (fun c1 => ?_)
  · -- s0 = 0
    refine G_aload_n dX12_tips_11 rfl ?_
    refine G_aload_n dX12_tips_12 rfl ?_
    refine G_aload_n dX12_tips_13 rfl ?_
    refine G_getR (t := 179) dX12_tips_14 fl_12_39 (by decide) sh_169 rr_169_13 ?_
    refine G_iconst (z := 5) dX12_tips_17 rfl ?_
    refine G_iald (z := (mem 179 5)) dX12_tips_18 (by decide) sh_179 (by decide) (by decide) (by decide) rfl ?_
    exact k1 c1
  · -- ¬ s0 = 0
    refine G_bipush (z := (-2)) dX12_tips_8 rfl ?_
    exact G_iret dX12_tips_10 rfl (Nat.zero_le _) (Nat.zero_le _) (Nat.le_refl _) ⟨rfl, k2 c1⟩
set_option maxRecDepth 20000 in
set_option maxHeartbeats 1000000 in
theorem sg_X12_tips_22 {E : Nat × (Nat → Int32)} {d : Nat} {P : Option Value → Mem → Prop} {mem : Mem} {r1 : Nat} {n1 : Nat} {s0 : Int} (hl1 : r1 < 209) (hs1 : SH[r1]? = some (.inr (0, n1))) (q1 : 0 ≤ (98 : Int) ∧ (98 : Int) < (n1 : Int)) (n2 : n1 < 2147483648) (q3 : 0 ≤ (96 : Int) ∧ (96 : Int) < (n1 : Int))
    (k1 : P (some (vi (s0 + 300))) (up2 (up2 (up2 mem r1 98 ((mem r1 98) + 300)) 169 42 (mem r1 96)) r1 96 0)) :
    GM E (m_X12_tips d) P 22 [.ref 169, .ref r1, un] [vi s0] mem := by
  refine G_sipush (z := 300) dX12_tips_22 rfl ?_
  refine G_iadd dX12_tips_25 ?_
  refine G_istore_n dX12_tips_26 rfl (by decide : 2 < 3) rfl ?_
  refine G_aload_n dX12_tips_27 rfl ?_
  refine G_bipush (z := 98) dX12_tips_28 rfl ?_
  refine G_dup2 dX12_tips_30 rfl rfl ?_
  refine G_iald (z := (mem r1 98)) dX12_tips_31 hl1 hs1 (n2) (q1).1 (q1).2 rfl ?_
  refine G_sipush (z := 300) dX12_tips_32 rfl ?_
  refine G_iadd dX12_tips_35 ?_
  refine G_iast (mem2 := (up2 mem r1 98 ((mem r1 98) + 300))) dX12_tips_36 hl1 hs1 (n2) (q1).1 (q1).2 rfl ?_
  refine G_aload_n dX12_tips_37 rfl ?_
  refine G_aload_n dX12_tips_38 rfl ?_
  refine G_bipush (z := 96) dX12_tips_39 rfl ?_
  refine G_iald (z := (mem r1 96)) dX12_tips_41 hl1 hs1 (n2) (q3).1 (q3).2 (by simp [up2, upr]) ?_
  refine G_putI (mem2 := (up2 (up2 mem r1 98 ((mem r1 98) + 300)) 169 42 (mem r1 96))) dX12_tips_42 fp_12_362 (by decide) sh_169 rfl ?_
  refine G_aload_n dX12_tips_45 rfl ?_
  refine G_bipush (z := 96) dX12_tips_46 rfl ?_
  refine G_iconst (z := 0) dX12_tips_48 rfl ?_
  refine G_iast (mem2 := (up2 (up2 (up2 mem r1 98 ((mem r1 98) + 300)) 169 42 (mem r1 96)) r1 96 0)) dX12_tips_49 hl1 hs1 (n2) (q3).1 (q3).2 rfl ?_
  refine G_iload_n dX12_tips_50 rfl ?_
  exact G_iret dX12_tips_51 rfl (Nat.zero_le _) (Nat.zero_le _) (Nat.le_refl _) ⟨rfl, k1⟩
abbrev m_X12_triesOrders (d : Nat) : Mu := (cX12_triesOrders, 5, RX12, none, ⟨d, 0, 0, 40 * d⟩, "triesOrders")
set_option maxRecDepth 20000 in
set_option maxHeartbeats 1000000 in
theorem sg_X12_triesOrders_0 {E : Nat × (Nat → Int32)} {d : Nat} {P : Option Value → Mem → Prop} {mem : Mem} {a1 : Int} {a2 : Int} (w1 : -2147483648 ≤ a1 ∧ a1 < 2147483648)
    (k1 : a1 ≠ 0 → GM E (m_X12_triesOrders d) P 81 [.ref 169, vi a1, vi a2, vi 0, un] [] mem)
    (k2 : a1 = 0 → GM E (m_X12_triesOrders d) P 17 [.ref 169, vi a1, vi a2, un, un] [.ref 181, .ref 180] (up2 mem 169 52 a2)) :
    GM E (m_X12_triesOrders d) P 0 [.ref 169, vi a1, vi a2, un, un] [] mem := by
  refine G_iload_n dX12_triesOrders_0 rfl ?_
  refine G_if_ne (tgt := 79) dX12_triesOrders_1 (by decide) (w1) (fun c1 => ?_) (fun c1 => ?_)
  · -- a1 ≠ 0
    refine G_iconst (z := 0) dX12_triesOrders_79 rfl ?_
    refine G_istore_n dX12_triesOrders_80 rfl (by decide : 3 < 5) rfl ?_
    exact k1 c1
  · -- a1 = 0
    refine G_aload_n dX12_triesOrders_4 rfl ?_
    refine G_iload_n dX12_triesOrders_5 rfl ?_
    refine G_putI (mem2 := (up2 mem 169 52 a2)) dX12_triesOrders_6 fp_12_419 (by decide) sh_169 rfl ?_
    refine G_aload_n dX12_triesOrders_9 rfl ?_
    refine G_getR (t := 180) dX12_triesOrders_10 fl_12_42 (by decide) sh_169 rr_169_14 ?_
    refine G_aload_n dX12_triesOrders_13 rfl ?_
    refine G_getR (t := 181) dX12_triesOrders_14 fl_12_45 (by decide) sh_169 rr_169_15 ?_
    exact k2 c1
set_option maxRecDepth 20000 in
set_option maxHeartbeats 1000000 in
theorem sg_X12_triesOrders_20 {E : Nat × (Nat → Int32)} {d : Nat} {P : Option Value → Mem → Prop} {mem : Mem} {a1 : Int} {a2 : Int}
    (k1 : GM E (m_X12_triesOrders d) P 21 [.ref 169, vi a1, vi a2, un, un] [.ref 169] mem) :
    GM E (m_X12_triesOrders d) P 20 [.ref 169, vi a1, vi a2, un, un] [] mem := by
  refine G_aload_n dX12_triesOrders_20 rfl ?_
  exact k1
set_option maxRecDepth 20000 in
set_option maxHeartbeats 1000000 in
theorem sg_X12_triesOrders_24 {E : Nat × (Nat → Int32)} {d : Nat} {P : Option Value → Mem → Prop} {mem : Mem} {a1 : Int} {a2 : Int} {s0 : Int} (w1 : -2147483648 ≤ s0 ∧ s0 < 2147483648) (w2 : ¬ s0 < 0 → -2147483648 ≤ (mem 169 54) ∧ (mem 169 54) < 2147483648)
    (k1 : s0 < 0 → P none mem)
    (k2 : ¬ s0 < 0 → (mem 169 54) < 0 → GM E (m_X12_triesOrders d) P 52 [.ref 169, vi a1, vi a2, vi s0, vi 0] [] (up2 mem 169 54 s0))
    (k3 : ¬ s0 < 0 → ¬ (mem 169 54) < 0 → (mem 169 54) ≤ s0 → P none mem)
    (k4 : ¬ s0 < 0 → ¬ (mem 169 54) < 0 → ¬ (mem 169 54) ≤ s0 → GM E (m_X12_triesOrders d) P 52 [.ref 169, vi a1, vi a2, vi s0, vi 0] [] (up2 mem 169 54 s0)) :
    GM E (m_X12_triesOrders d) P 24 [.ref 169, vi a1, vi a2, un, un] [vi s0] mem := by
  refine G_istore_n dX12_triesOrders_24 rfl (by decide : 3 < 5) rfl ?_
  refine G_iload_n dX12_triesOrders_25 rfl ?_
  refine G_if_lt (tgt := 78) dX12_triesOrders_26 (by decide) (w1) (fun c1 => ?_) (fun c1 => ?_)
  · -- s0 < 0
    exact G_vret dX12_triesOrders_78 rfl (Nat.zero_le _) (Nat.zero_le _) (Nat.le_refl _) ⟨rfl, k1 c1⟩
  · -- ¬ s0 < 0
    refine G_aload_n dX12_triesOrders_29 rfl ?_
    refine G_getI (z := (mem 169 54)) dX12_triesOrders_30 fl_12_432 (by decide) sh_169 rfl ?_
    refine G_if_lt (tgt := 44) dX12_triesOrders_33 (by decide) (w2 c1) (fun c2 => ?_) (fun c2 => ?_)
    · -- (mem 169 54) < 0
      refine G_aload_n dX12_triesOrders_44 rfl ?_
      refine G_iload_n dX12_triesOrders_45 rfl ?_
      refine G_putI (mem2 := (up2 mem 169 54 s0)) dX12_triesOrders_46 fp_12_432 (by decide) sh_169 rfl ?_
      refine G_iconst (z := 0) dX12_triesOrders_49 rfl ?_
      refine G_istore dX12_triesOrders_50 (by decide : 4 < 5) rfl ?_
      exact k2 c1 c2
    · -- ¬ (mem 169 54) < 0
      refine G_iload_n dX12_triesOrders_36 rfl ?_
      refine G_aload_n dX12_triesOrders_37 rfl ?_
      refine G_getI (z := (mem 169 54)) dX12_triesOrders_38 fl_12_432 (by decide) sh_169 rfl ?_
      refine G_icmp_ge (tgt := 78) dX12_triesOrders_41 (by decide) (w1) (w2 c1) (fun c3 => ?_) (fun c3 => ?_)
      · -- (mem 169 54) ≤ s0
        exact G_vret dX12_triesOrders_78 rfl (Nat.zero_le _) (Nat.zero_le _) (Nat.le_refl _) ⟨rfl, k3 c1 c2 c3⟩
      · -- ¬ (mem 169 54) ≤ s0
        refine G_aload_n dX12_triesOrders_44 rfl ?_
        refine G_iload_n dX12_triesOrders_45 rfl ?_
        refine G_putI (mem2 := (up2 mem 169 54 s0)) dX12_triesOrders_46 fp_12_432 (by decide) sh_169 rfl ?_
        refine G_iconst (z := 0) dX12_triesOrders_49 rfl ?_
        refine G_istore dX12_triesOrders_50 (by decide : 4 < 5) rfl ?_
        exact k4 c1 c2 c3
set_option maxRecDepth 20000 in
set_option maxHeartbeats 1000000 in
theorem sg_X12_triesOrders_52 {E : Nat × (Nat → Int32)} {d : Nat} {P : Option Value → Mem → Prop} {mem : Mem} {a1 : Int} {a2 : Int} {a3 : Int} {a4 : Int} (w1 : -2147483648 ≤ a4 ∧ a4 < 2147483648) (w2 : -2147483648 ≤ a2 ∧ a2 < 2147483648) (q3 : ¬ a2 ≤ a4 → 0 ≤ a4 ∧ a4 < 6)
    (k1 : a2 ≤ a4 → P none mem)
    (k2 : ¬ a2 ≤ a4 → GM E (m_X12_triesOrders d) P 52 [.ref 169, vi a1, vi a2, vi a3, vi (a4 + 1)] [] (up2 mem 196 a4 (mem 195 a4))) :
    GM E (m_X12_triesOrders d) P 52 [.ref 169, vi a1, vi a2, vi a3, vi a4] [] mem := by
  refine G_iload dX12_triesOrders_52 rfl ?_
  refine G_iload_n dX12_triesOrders_54 rfl ?_
  refine G_icmp_ge (tgt := 78) dX12_triesOrders_55 (by decide) (w1) (w2) (fun c1 => ?_) (fun c1 => ?_)
  · -- a2 ≤ a4
    exact G_vret dX12_triesOrders_78 rfl (Nat.zero_le _) (Nat.zero_le _) (Nat.le_refl _) ⟨rfl, k1 c1⟩
  · -- ¬ a2 ≤ a4
    refine G_aload_n dX12_triesOrders_58 rfl ?_
    refine G_getR (t := 196) dX12_triesOrders_59 fl_12_90 (by decide) sh_169 rr_169_53 ?_
    refine G_iload dX12_triesOrders_62 rfl ?_
    refine G_aload_n dX12_triesOrders_64 rfl ?_
    refine G_getR (t := 195) dX12_triesOrders_65 fl_12_87 (by decide) sh_169 rr_169_51 ?_
    refine G_iload dX12_triesOrders_68 rfl ?_
    refine G_iald (z := (mem 195 a4)) dX12_triesOrders_70 (by decide) sh_195 (by decide) (q3 c1).1 (q3 c1).2 rfl ?_
    refine G_iast (mem2 := (up2 mem 196 a4 (mem 195 a4))) dX12_triesOrders_71 (by decide) sh_196 (by decide) (q3 c1).1 (q3 c1).2 rfl ?_
    refine G_iinc (z := (a4 + 1)) dX12_triesOrders_72 rfl rfl (by decide : 4 < 5) rfl ?_
    refine G_goto (tgt := 52) dX12_triesOrders_75 (by decide) ?_
    exact k2 c1
set_option maxRecDepth 20000 in
set_option maxHeartbeats 1000000 in
theorem sg_X12_triesOrders_81 {E : Nat × (Nat → Int32)} {d : Nat} {P : Option Value → Mem → Prop} {mem : Mem} {a1 : Int} {a2 : Int} {a3 : Int} (w1 : -2147483648 ≤ a3 ∧ a3 < 2147483648) (w2 : -2147483648 ≤ (mem 169 3) ∧ (mem 169 3) < 2147483648)
    (k1 : (mem 169 3) ≤ a3 → P none mem)
    (k2 : ¬ (mem 169 3) ≤ a3 → GM E (m_X12_triesOrders d) P 91 [.ref 169, vi a1, vi a2, vi a3, un] [vi a3, vi a1] mem) :
    GM E (m_X12_triesOrders d) P 81 [.ref 169, vi a1, vi a2, vi a3, un] [] mem := by
  refine G_iload_n dX12_triesOrders_81 rfl ?_
  refine G_aload_n dX12_triesOrders_82 rfl ?_
  refine G_getI (z := (mem 169 3)) dX12_triesOrders_83 fl_12_137 (by decide) sh_169 rfl ?_
  refine G_icmp_ge (tgt := 124) dX12_triesOrders_86 (by decide) (w1) (w2) (fun c1 => ?_) (fun c1 => ?_)
  · -- (mem 169 3) ≤ a3
    exact G_vret dX12_triesOrders_124 rfl (Nat.zero_le _) (Nat.zero_le _) (Nat.le_refl _) ⟨rfl, k1 c1⟩
  · -- ¬ (mem 169 3) ≤ a3
    refine G_iload_n dX12_triesOrders_89 rfl ?_
    refine G_iload_n dX12_triesOrders_90 rfl ?_
    exact k2 c1
set_option maxRecDepth 20000 in
set_option maxHeartbeats 1000000 in
theorem sg_X12_triesOrders_94 {E : Nat × (Nat → Int32)} {d : Nat} {P : Option Value → Mem → Prop} {mem : Mem} {a1 : Int} {a2 : Int} {a3 : Int} {s0 : Int} (w1 : -2147483648 ≤ s0 ∧ s0 < 2147483648) (q2 : ¬ s0 = 0 → 0 ≤ a2 ∧ a2 < 6)
    (k1 : s0 = 0 → GM E (m_X12_triesOrders d) P 81 [.ref 169, vi a1, vi a2, vi (a3 + 1), un] [] mem)
    (k2 : ¬ s0 = 0 → GM E (m_X12_triesOrders d) P 115 [.ref 169, vi a1, vi a2, vi a3, un] [vi (a2 + 1), vi (bandI a1 (bxorI (shlI 1 a3) (-1))), .ref 169] (up2 mem 195 a2 a3)) :
    GM E (m_X12_triesOrders d) P 94 [.ref 169, vi a1, vi a2, vi a3, un] [vi s0] mem := by
  refine G_if_eq (tgt := 118) dX12_triesOrders_94 (by decide) (w1) (fun c1 => ?_) (fun c1 => ?_)
  · -- s0 = 0
    refine G_iinc (z := (a3 + 1)) dX12_triesOrders_118 rfl rfl (by decide : 3 < 5) rfl ?_
    refine G_goto (tgt := 81) dX12_triesOrders_121 (by decide) ?_
    exact k1 c1
  · -- ¬ s0 = 0
    refine G_aload_n dX12_triesOrders_97 rfl ?_
    refine G_getR (t := 195) dX12_triesOrders_98 fl_12_87 (by decide) sh_169 rr_169_51 ?_
    refine G_iload_n dX12_triesOrders_101 rfl ?_
    refine G_iload_n dX12_triesOrders_102 rfl ?_
    refine G_iast (mem2 := (up2 mem 195 a2 a3)) dX12_triesOrders_103 (by decide) sh_195 (by decide) (q2 c1).1 (q2 c1).2 rfl ?_
    refine G_aload_n dX12_triesOrders_104 rfl ?_
    refine G_iload_n dX12_triesOrders_105 rfl ?_
    refine G_iconst (z := 1) dX12_triesOrders_106 rfl ?_
    refine G_iload_n dX12_triesOrders_107 rfl ?_
    refine G_ishl (z := (shlI 1 a3)) dX12_triesOrders_108 (iI_inv _) ?_
    refine G_iconst (z := (-1)) dX12_triesOrders_109 rfl ?_
    refine G_ixor (z := (bxorI (shlI 1 a3) (-1))) dX12_triesOrders_110 (iI_inv _) ?_
    refine G_iand (z := (bandI a1 (bxorI (shlI 1 a3) (-1)))) dX12_triesOrders_111 (iI_inv _) ?_
    refine G_iload_n dX12_triesOrders_112 rfl ?_
    refine G_iconst (z := 1) dX12_triesOrders_113 rfl ?_
    refine G_iadd dX12_triesOrders_114 ?_
    exact k2 c1
set_option maxRecDepth 20000 in
set_option maxHeartbeats 1000000 in
theorem sg_X12_triesOrders_118 {E : Nat × (Nat → Int32)} {d : Nat} {P : Option Value → Mem → Prop} {mem : Mem} {a1 : Int} {a2 : Int} {a3 : Int}
    (k1 : GM E (m_X12_triesOrders d) P 81 [.ref 169, vi a1, vi a2, vi (a3 + 1), un] [] mem) :
    GM E (m_X12_triesOrders d) P 118 [.ref 169, vi a1, vi a2, vi a3, un] [] mem := by
  refine G_iinc (z := (a3 + 1)) dX12_triesOrders_118 rfl rfl (by decide : 3 < 5) rfl ?_
  refine G_goto (tgt := 81) dX12_triesOrders_121 (by decide) ?_
  exact k1
abbrev m_X12_undo (d : Nat) : Mu := (cX12_undo, 2, RX12, (some .int), ⟨d, 0, 0, 40 * d⟩, "undo")
set_option maxRecDepth 20000 in
set_option maxHeartbeats 1000000 in
theorem sg_X12_undo_0 {E : Nat × (Nat → Int32)} {d : Nat} {P : Option Value → Mem → Prop} {mem : Mem} (w1 : -2147483648 ≤ (mem 169 40) ∧ (mem 169 40) < 2147483648)
    (k1 : (mem 169 40) ≠ 0 → GM E (m_X12_undo d) P 26 [.ref 169, vi 0] [] (up2 (up2 mem 169 0 0) 169 40 ((mem 169 40) - 1)))
    (k2 : (mem 169 40) = 0 → P (some (vi (-1))) (up2 mem 169 0 0)) :
    GM E (m_X12_undo d) P 0 [.ref 169, un] [] mem := by
  refine G_aload_n dX12_undo_0 rfl ?_
  refine G_iconst (z := 0) dX12_undo_1 rfl ?_
  refine G_putI (mem2 := (up2 mem 169 0 0)) dX12_undo_2 fp_12_126 (by decide) sh_169 rfl ?_
  refine G_aload_n dX12_undo_5 rfl ?_
  refine G_getI (z := (mem 169 40)) dX12_undo_6 fl_12_224 (by decide) sh_169 (by simp [up2, upr]) ?_
  refine G_if_ne (tgt := 14) dX12_undo_9 (by decide) (w1) (fun c1 => ?_) (fun c1 => ?_)
  · -- (mem 169 40) ≠ 0
    refine G_aload_n dX12_undo_14 rfl ?_
    refine G_dup dX12_undo_15 rfl ?_
    refine G_getI (z := (mem 169 40)) dX12_undo_16 fl_12_224 (by decide) sh_169 (by simp [up2, upr]) ?_
    refine G_iconst (z := 1) dX12_undo_19 rfl ?_
    refine G_isub dX12_undo_20 ?_
    refine G_putI (mem2 := (up2 (up2 mem 169 0 0) 169 40 ((mem 169 40) - 1))) dX12_undo_21 fp_12_224 (by decide) sh_169 rfl ?_
    refine G_iconst (z := 0) dX12_undo_24 rfl ?_
    refine G_istore_n dX12_undo_25 rfl (by decide : 1 < 2) rfl ?_
    exact k1 c1
  · -- (mem 169 40) = 0
    refine G_iconst (z := (-1)) dX12_undo_12 rfl ?_
    exact G_iret dX12_undo_13 rfl (Nat.zero_le _) (Nat.zero_le _) (Nat.le_refl _) ⟨rfl, k2 c1⟩
set_option maxRecDepth 20000 in
set_option maxHeartbeats 1000000 in
theorem sg_X12_undo_26 {E : Nat × (Nat → Int32)} {d : Nat} {P : Option Value → Mem → Prop} {mem : Mem} {a1 : Int} (w1 : -2147483648 ≤ a1 ∧ a1 < 2147483648) (q2 : ¬ 99 ≤ a1 → 0 ≤ ((99 * (mem 169 40)) + a1) ∧ ((99 * (mem 169 40)) + a1) < 1584) (q3 : ¬ 99 ≤ a1 → 0 ≤ a1 ∧ a1 < 99)
    (k1 : 99 ≤ a1 → P (some (vi (mem 169 40))) mem)
    (k2 : ¬ 99 ≤ a1 → GM E (m_X12_undo d) P 26 [.ref 169, vi (a1 + 1)] [] (up2 mem 180 a1 (mem 190 ((99 * (mem 169 40)) + a1)))) :
    GM E (m_X12_undo d) P 26 [.ref 169, vi a1] [] mem := by
  refine G_iload_n dX12_undo_26 rfl ?_
  refine G_bipush (z := 99) dX12_undo_27 rfl ?_
  refine G_icmp_ge (tgt := 58) dX12_undo_29 (by decide) (w1) (by decide) (fun c1 => ?_) (fun c1 => ?_)
  · -- 99 ≤ a1
    refine G_aload_n dX12_undo_58 rfl ?_
    refine G_getI (z := (mem 169 40)) dX12_undo_59 fl_12_224 (by decide) sh_169 rfl ?_
    exact G_iret dX12_undo_62 rfl (Nat.zero_le _) (Nat.zero_le _) (Nat.le_refl _) ⟨rfl, k1 c1⟩
  · -- ¬ 99 ≤ a1
    refine G_aload_n dX12_undo_32 rfl ?_
    refine G_getR (t := 180) dX12_undo_33 fl_12_42 (by decide) sh_169 rr_169_14 ?_
    refine G_iload_n dX12_undo_36 rfl ?_
    refine G_aload_n dX12_undo_37 rfl ?_
    refine G_getR (t := 190) dX12_undo_38 fl_12_72 (by decide) sh_169 rr_169_41 ?_
    refine G_bipush (z := 99) dX12_undo_41 rfl ?_
    refine G_aload_n dX12_undo_43 rfl ?_
    refine G_getI (z := (mem 169 40)) dX12_undo_44 fl_12_224 (by decide) sh_169 rfl ?_
    refine G_imul dX12_undo_47 ?_
    refine G_iload_n dX12_undo_48 rfl ?_
    refine G_iadd dX12_undo_49 ?_
    refine G_iald (z := (mem 190 ((99 * (mem 169 40)) + a1))) dX12_undo_50 (by decide) sh_190 (by decide) (q2 c1).1 (q2 c1).2 rfl ?_
    refine G_iast (mem2 := (up2 mem 180 a1 (mem 190 ((99 * (mem 169 40)) + a1)))) dX12_undo_51 (by decide) sh_180 (by decide) (q3 c1).1 (q3 c1).2 rfl ?_
    refine G_iinc (z := (a1 + 1)) dX12_undo_52 rfl rfl (by decide : 1 < 2) rfl ?_
    refine G_goto (tgt := 26) dX12_undo_55 (by decide) ?_
    exact k2 c1
abbrev m_X12_week (d : Nat) : Mu := (cX12_week, 2, RX12, (some .int), ⟨d, 0, 0, 40 * d⟩, "week")
set_option maxRecDepth 20000 in
set_option maxHeartbeats 1000000 in
theorem sg_X12_week_0 {E : Nat × (Nat → Int32)} {d : Nat} {P : Option Value → Mem → Prop} {mem : Mem}
    (k1 : GM E (m_X12_week d) P 6 [.ref 169, un] [.ref 169] (up2 mem 169 0 0)) :
    GM E (m_X12_week d) P 0 [.ref 169, un] [] mem := by
  refine G_aload_n dX12_week_0 rfl ?_
  refine G_iconst (z := 0) dX12_week_1 rfl ?_
  refine G_putI (mem2 := (up2 mem 169 0 0)) dX12_week_2 fp_12_126 (by decide) sh_169 rfl ?_
  refine G_aload_n dX12_week_5 rfl ?_
  exact k1
set_option maxRecDepth 20000 in
set_option maxHeartbeats 1000000 in
theorem sg_X12_week_9 {E : Nat × (Nat → Int32)} {d : Nat} {P : Option Value → Mem → Prop} {mem : Mem}
    (k1 : GM E (m_X12_week d) P 11 [.ref 169, vi 0] [] mem) :
    GM E (m_X12_week d) P 9 [.ref 169, un] [] mem := by
  refine G_iconst (z := 0) dX12_week_9 rfl ?_
  refine G_istore_n dX12_week_10 rfl (by decide : 1 < 2) rfl ?_
  exact k1
set_option maxRecDepth 20000 in
set_option maxHeartbeats 1000000 in
theorem sg_X12_week_11 {E : Nat × (Nat → Int32)} {d : Nat} {P : Option Value → Mem → Prop} {mem : Mem} {a1 : Int} (w1 : -2147483648 ≤ a1 ∧ a1 < 2147483648) (q2 : ¬ 96 ≤ a1 → 0 ≤ a1 ∧ a1 < 96) (w3 : ¬ 96 ≤ a1 → -2147483648 ≤ (mem 178 a1) ∧ (mem 178 a1) < 2147483648) (q4 : ¬ 96 ≤ a1 → (mem 178 a1) ≤ 0 → 0 ≤ a1 ∧ a1 < 99) (q5 : ¬ 96 ≤ a1 → ¬ (mem 178 a1) ≤ 0 → 0 ≤ a1 ∧ a1 < 99)
    (k1 : 96 ≤ a1 → GM E (m_X12_week d) P 70 [.ref 169, vi a1] [vi 1, .ref 169, .ref 169] (up2 (up2 (up2 mem 180 96 0) 180 97 0) 180 98 0))
    (k2 : ¬ 96 ≤ a1 → (mem 178 a1) ≤ 0 → GM E (m_X12_week d) P 11 [.ref 169, vi (a1 + 1)] [] (up2 mem 180 a1 0))
    (k3 : ¬ 96 ≤ a1 → ¬ (mem 178 a1) ≤ 0 → GM E (m_X12_week d) P 11 [.ref 169, vi (a1 + 1)] [] (up2 mem 180 a1 1)) :
    GM E (m_X12_week d) P 11 [.ref 169, vi a1] [] mem := by
  refine G_iload_n dX12_week_11 rfl ?_
  refine G_bipush (z := 96) dX12_week_12 rfl ?_
  refine G_icmp_ge (tgt := 43) dX12_week_14 (by decide) (w1) (by decide) (fun c1 => ?_) (fun c1 => ?_)
  · -- 96 ≤ a1
    refine G_aload_n dX12_week_43 rfl ?_
    refine G_getR (t := 180) dX12_week_44 fl_12_42 (by decide) sh_169 rr_169_14 ?_
    refine G_bipush (z := 96) dX12_week_47 rfl ?_
    refine G_iconst (z := 0) dX12_week_49 rfl ?_
    refine G_iast (mem2 := (up2 mem 180 96 0)) dX12_week_50 (by decide) sh_180 (by decide) (by decide) (by decide) rfl ?_
    refine G_aload_n dX12_week_51 rfl ?_
    refine G_getR (t := 180) dX12_week_52 fl_12_42 (by decide) sh_169 rr_169_14 ?_
    refine G_bipush (z := 97) dX12_week_55 rfl ?_
    refine G_iconst (z := 0) dX12_week_57 rfl ?_
    refine G_iast (mem2 := (up2 (up2 mem 180 96 0) 180 97 0)) dX12_week_58 (by decide) sh_180 (by decide) (by decide) (by decide) rfl ?_
    refine G_aload_n dX12_week_59 rfl ?_
    refine G_getR (t := 180) dX12_week_60 fl_12_42 (by decide) sh_169 rr_169_14 ?_
    refine G_bipush (z := 98) dX12_week_63 rfl ?_
    refine G_iconst (z := 0) dX12_week_65 rfl ?_
    refine G_iast (mem2 := (up2 (up2 (up2 mem 180 96 0) 180 97 0) 180 98 0)) dX12_week_66 (by decide) sh_180 (by decide) (by decide) (by decide) rfl ?_
    refine G_aload_n dX12_week_67 rfl ?_
    refine G_aload_n dX12_week_68 rfl ?_
    refine G_iconst (z := 1) dX12_week_69 rfl ?_
    exact k1 c1
  · -- ¬ 96 ≤ a1
    refine G_aload_n dX12_week_17 rfl ?_
    refine G_getR (t := 180) dX12_week_18 fl_12_42 (by decide) sh_169 rr_169_14 ?_
    refine G_iload_n dX12_week_21 rfl ?_
    refine G_aload_n dX12_week_22 rfl ?_
    refine G_getR (t := 178) dX12_week_23 fl_12_36 (by decide) sh_169 rr_169_12 ?_
    refine G_iload_n dX12_week_26 rfl ?_
    refine G_iald (z := (mem 178 a1)) dX12_week_27 (by decide) sh_178 (by decide) (q2 c1).1 (q2 c1).2 rfl ?_
    refine G_if_le (tgt := 35) dX12_week_28 (by decide) (w3 c1) (fun c2 => ?_) (fun c2 => ?_)
    · -- (mem 178 a1) ≤ 0
      refine G_iconst (z := 0) dX12_week_35 rfl ?_
      refine G_iast (mem2 := (up2 mem 180 a1 0)) dX12_week_36 (by decide) sh_180 (by decide) (q4 c1 c2).1 (q4 c1 c2).2 rfl ?_
      refine G_iinc (z := (a1 + 1)) dX12_week_37 rfl rfl (by decide : 1 < 2) rfl ?_
      refine G_goto (tgt := 11) dX12_week_40 (by decide) ?_
      exact k2 c1 c2
    · -- ¬ (mem 178 a1) ≤ 0
      refine G_iconst (z := 1) dX12_week_31 rfl ?_
      refine G_goto (tgt := 36) dX12_week_32 (by decide) ?_
      refine G_iast (mem2 := (up2 mem 180 a1 1)) dX12_week_36 (by decide) sh_180 (by decide) (q5 c1 c2).1 (q5 c1 c2).2 rfl ?_
      refine G_iinc (z := (a1 + 1)) dX12_week_37 rfl rfl (by decide : 1 < 2) rfl ?_
      refine G_goto (tgt := 11) dX12_week_40 (by decide) ?_
      exact k3 c1 c2
set_option maxRecDepth 20000 in
set_option maxHeartbeats 1000000 in
theorem sg_X12_week_73 {E : Nat × (Nat → Int32)} {d : Nat} {P : Option Value → Mem → Prop} {mem : Mem} {a1 : Int} {s0 : Int}
    (k1 : GM E (m_X12_week d) P 73 [.ref 169, vi a1] [vi s0, .ref 169] mem) :
    GM E (m_X12_week d) P 73 [.ref 169, vi a1] [vi s0, .ref 169] mem := by
  exact k1
set_option maxRecDepth 20000 in
set_option maxHeartbeats 1000000 in
theorem sg_X12_week_76 {E : Nat × (Nat → Int32)} {d : Nat} {P : Option Value → Mem → Prop} {mem : Mem} {a1 : Int} {s0 : Int}
    (k1 : P (some (vi s0)) mem) :
    GM E (m_X12_week d) P 76 [.ref 169, vi a1] [vi s0] mem := by
  exact G_iret dX12_week_76 rfl (Nat.zero_le _) (Nat.zero_le _) (Nat.le_refl _) ⟨rfl, k1⟩
abbrev m_X12_weeks (d : Nat) : Mu := (cX12_weeks, 10, RX12, (some .int), ⟨d, 0, 0, 40 * d⟩, "weeks")
set_option maxRecDepth 20000 in
set_option maxHeartbeats 1000000 in
theorem sg_X12_weeks_0 {E : Nat × (Nat → Int32)} {d : Nat} {P : Option Value → Mem → Prop} {mem : Mem} {a1 : Int} {a2 : Int} {a3 : Int} (w1 : -2147483648 ≤ a2 ∧ a2 < 2147483648)
    (k1 : GM E (m_X12_weeks d) P 11 [.ref 169, vi a1, vi a2, vi a3, un, un, un, un, un, un] [vl 20, vl 1, vl a2] (up2 mem 169 0 0)) :
    GM E (m_X12_weeks d) P 0 [.ref 169, vi a1, vi a2, vi a3, un, un, un, un, un, un] [] mem := by
  refine G_aload_n dX12_weeks_0 rfl ?_
  refine G_iconst (z := 0) dX12_weeks_1 rfl ?_
  refine G_putI (mem2 := (up2 mem 169 0 0)) dX12_weeks_2 fp_12_126 (by decide) sh_169 rfl ?_
  refine G_iload_n dX12_weeks_5 rfl ?_
  refine G_i2l dX12_weeks_6 (w1) ?_
  refine G_lconst (z := 1) dX12_weeks_7 rfl ?_
  refine G_ldc2 (z := 20) dX12_weeks_8 kc_12_496 ?_
  exact k1
set_option maxRecDepth 20000 in
set_option maxHeartbeats 1000000 in
theorem sg_X12_weeks_14 {E : Nat × (Nat → Int32)} {d : Nat} {P : Option Value → Mem → Prop} {mem : Mem} {a1 : Int} {a2 : Int} {a3 : Int} {s0 : Int} (w1 : -2147483648 ≤ s0 ∧ s0 < 2147483648) (w2 : -2147483648 ≤ a3 ∧ a3 < 2147483648)
    (k1 : s0 = 0 → P (some (vi (-1))) mem)
    (k2 : ¬ s0 = 0 → GM E (m_X12_weeks d) P 23 [.ref 169, vi a1, vi a2, vi a3, un, un, un, un, un, un] [vl 10, vl 0, vl a3] mem) :
    GM E (m_X12_weeks d) P 14 [.ref 169, vi a1, vi a2, vi a3, un, un, un, un, un, un] [vi s0] mem := by
  refine G_if_eq (tgt := 36) dX12_weeks_14 (by decide) (w1) (fun c1 => ?_) (fun c1 => ?_)
  · -- s0 = 0
    refine G_iconst (z := (-1)) dX12_weeks_36 rfl ?_
    exact G_iret dX12_weeks_37 rfl (Nat.zero_le _) (Nat.zero_le _) (Nat.le_refl _) ⟨rfl, k1 c1⟩
  · -- ¬ s0 = 0
    refine G_iload_n dX12_weeks_17 rfl ?_
    refine G_i2l dX12_weeks_18 (w2) ?_
    refine G_lconst (z := 0) dX12_weeks_19 rfl ?_
    refine G_ldc2 (z := 10) dX12_weeks_20 kc_12_489 ?_
    exact k2 c1
set_option maxRecDepth 20000 in
set_option maxHeartbeats 1000000 in
theorem sg_X12_weeks_26 {E : Nat × (Nat → Int32)} {d : Nat} {P : Option Value → Mem → Prop} {mem : Mem} {a1 : Int} {a2 : Int} {a3 : Int} {s0 : Int} (w1 : -2147483648 ≤ s0 ∧ s0 < 2147483648) (w2 : ¬ s0 = 0 → -2147483648 ≤ (mem 169 3) ∧ (mem 169 3) < 2147483648)
    (k1 : s0 = 0 → P (some (vi (-1))) mem)
    (k2 : ¬ s0 = 0 → (mem 169 3) ≠ 0 → GM E (m_X12_weeks d) P 53 [.ref 169, vi a1, vi a2, vi a3, vi a1, vi 0, vi (-1), vi (-1), vi 0, un] [] mem)
    (k3 : ¬ s0 = 0 → (mem 169 3) = 0 → P (some (vi (-1))) mem) :
    GM E (m_X12_weeks d) P 26 [.ref 169, vi a1, vi a2, vi a3, un, un, un, un, un, un] [vi s0] mem := by
  refine G_if_eq (tgt := 36) dX12_weeks_26 (by decide) (w1) (fun c1 => ?_) (fun c1 => ?_)
  · -- s0 = 0
    refine G_iconst (z := (-1)) dX12_weeks_36 rfl ?_
    exact G_iret dX12_weeks_37 rfl (Nat.zero_le _) (Nat.zero_le _) (Nat.le_refl _) ⟨rfl, k1 c1⟩
  · -- ¬ s0 = 0
    refine G_aload_n dX12_weeks_29 rfl ?_
    refine G_getI (z := (mem 169 3)) dX12_weeks_30 fl_12_137 (by decide) sh_169 rfl ?_
    refine G_if_ne (tgt := 38) dX12_weeks_33 (by decide) (w2 c1) (fun c2 => ?_) (fun c2 => ?_)
    · -- (mem 169 3) ≠ 0
      refine G_iload_n dX12_weeks_38 rfl ?_
      refine G_istore dX12_weeks_39 (by decide : 4 < 10) rfl ?_
      refine G_iconst (z := 0) dX12_weeks_41 rfl ?_
      refine G_istore dX12_weeks_42 (by decide : 5 < 10) rfl ?_
      refine G_iconst (z := (-1)) dX12_weeks_44 rfl ?_
      refine G_istore dX12_weeks_45 (by decide : 6 < 10) rfl ?_
      refine G_iconst (z := (-1)) dX12_weeks_47 rfl ?_
      refine G_istore dX12_weeks_48 (by decide : 7 < 10) rfl ?_
      refine G_iconst (z := 0) dX12_weeks_50 rfl ?_
      refine G_istore dX12_weeks_51 (by decide : 8 < 10) rfl ?_
      exact k2 c1 c2
    · -- (mem 169 3) = 0
      refine G_iconst (z := (-1)) dX12_weeks_36 rfl ?_
      exact G_iret dX12_weeks_37 rfl (Nat.zero_le _) (Nat.zero_le _) (Nat.le_refl _) ⟨rfl, k3 c1 c2⟩
set_option maxRecDepth 20000 in
set_option maxHeartbeats 1000000 in
theorem sg_X12_weeks_53 {E : Nat × (Nat → Int32)} {d : Nat} {P : Option Value → Mem → Prop} {mem : Mem} {a1 : Int} {a2 : Int} {a3 : Int} {a4 : Int} {a5 : Int} {a6 : Int} {a7 : Int} {a8 : Int} (w1 : -2147483648 ≤ a8 ∧ a8 < 2147483648) (w2 : -2147483648 ≤ a2 ∧ a2 < 2147483648) (w3 : -2147483648 ≤ a6 ∧ a6 < 2147483648)
    (k1 : a2 ≤ a8 → GM E (m_X12_weeks d) P 245 [.ref 169, vi a1, vi a2, vi a3, vi a4, vi a5, vi a6, vi a7, vi a8, un] [vl a6, .ref 169] (up2 mem 169 1 0))
    (k2 : ¬ a2 ≤ a8 → GM E (m_X12_weeks d) P 62 [.ref 169, vi a1, vi a2, vi a3, vi a4, vi a5, vi a6, vi a7, vi a8, vi 0] [] mem) :
    GM E (m_X12_weeks d) P 53 [.ref 169, vi a1, vi a2, vi a3, vi a4, vi a5, vi a6, vi a7, vi a8, un] [] mem := by
  refine G_iload dX12_weeks_53 rfl ?_
  refine G_iload_n dX12_weeks_55 rfl ?_
  refine G_icmp_ge (tgt := 236) dX12_weeks_56 (by decide) (w1) (w2) (fun c1 => ?_) (fun c1 => ?_)
  · -- a2 ≤ a8
    refine G_aload_n dX12_weeks_236 rfl ?_
    refine G_iconst (z := 0) dX12_weeks_237 rfl ?_
    refine G_putI (mem2 := (up2 mem 169 1 0)) dX12_weeks_238 fp_12_134 (by decide) sh_169 rfl ?_
    refine G_aload_n dX12_weeks_241 rfl ?_
    refine G_iload dX12_weeks_242 rfl ?_
    refine G_i2l dX12_weeks_244 (w3) ?_
    exact k1 c1
  · -- ¬ a2 ≤ a8
    refine G_iconst (z := 0) dX12_weeks_59 rfl ?_
    refine G_istore dX12_weeks_60 (by decide : 9 < 10) rfl ?_
    exact k2 c1
set_option maxRecDepth 20000 in
set_option maxHeartbeats 1000000 in
theorem sg_X12_weeks_62 {E : Nat × (Nat → Int32)} {d : Nat} {P : Option Value → Mem → Prop} {mem : Mem} {a1 : Int} {a2 : Int} {a3 : Int} {a4 : Int} {a5 : Int} {a6 : Int} {a7 : Int} {a8 : Int} {a9 : Int} (w1 : -2147483648 ≤ a9 ∧ a9 < 2147483648) (q2 : ¬ 96 ≤ a9 → 0 ≤ a9 ∧ a9 < 99) (q3 : ¬ 96 ≤ a9 → 0 ≤ a9 ∧ a9 < 96) (w4 : ¬ 96 ≤ a9 → -2147483648 ≤ (mem 178 a9) ∧ (mem 178 a9) < 2147483648) (w5 : -2147483648 ≤ a3 ∧ a3 < 2147483648)
    (k1 : 96 ≤ a9 → GM E (m_X12_weeks d) P 164 [.ref 169, vi a1, vi a2, vi a3, vi a4, vi a5, vi a6, vi a7, vi a8, vi 0] [] (up2 (up2 (up2 (up2 mem 181 96 0) 181 97 0) 181 98 0) 169 52 (mem 169 3)))
    (k2 : ¬ 96 ≤ a9 → (mem 178 a9) ≤ 0 → GM E (m_X12_weeks d) P 62 [.ref 169, vi a1, vi a2, vi a3, vi a4, vi a5, vi a6, vi a7, vi a8, vi (a9 + 1)] [] (up2 mem 181 a9 0))
    (k3 : ¬ 96 ≤ a9 → ¬ (mem 178 a9) ≤ 0 → a3 ≤ (remI (ushrI ((a4 * 1103515245) + 12345) 16) 10) → GM E (m_X12_weeks d) P 62 [.ref 169, vi a1, vi a2, vi a3, vi ((a4 * 1103515245) + 12345), vi a5, vi a6, vi a7, vi a8, vi (a9 + 1)] [] (up2 (up2 mem 181 a9 0) 181 a9 0))
    (k4 : ¬ 96 ≤ a9 → ¬ (mem 178 a9) ≤ 0 → ¬ a3 ≤ (remI (ushrI ((a4 * 1103515245) + 12345) 16) 10) → GM E (m_X12_weeks d) P 62 [.ref 169, vi a1, vi a2, vi a3, vi ((a4 * 1103515245) + 12345), vi a5, vi a6, vi a7, vi a8, vi (a9 + 1)] [] (up2 (up2 mem 181 a9 0) 181 a9 1)) :
    GM E (m_X12_weeks d) P 62 [.ref 169, vi a1, vi a2, vi a3, vi a4, vi a5, vi a6, vi a7, vi a8, vi a9] [] mem := by
  refine G_iload dX12_weeks_62 rfl ?_
  refine G_bipush (z := 96) dX12_weeks_64 rfl ?_
  refine G_icmp_ge (tgt := 129) dX12_weeks_66 (by decide) (w1) (by decide) (fun c1 => ?_) (fun c1 => ?_)
  · -- 96 ≤ a9
    refine G_aload_n dX12_weeks_129 rfl ?_
    refine G_getR (t := 181) dX12_weeks_130 fl_12_45 (by decide) sh_169 rr_169_15 ?_
    refine G_bipush (z := 96) dX12_weeks_133 rfl ?_
    refine G_iconst (z := 0) dX12_weeks_135 rfl ?_
    refine G_iast (mem2 := (up2 mem 181 96 0)) dX12_weeks_136 (by decide) sh_181 (by decide) (by decide) (by decide) rfl ?_
    refine G_aload_n dX12_weeks_137 rfl ?_
    refine G_getR (t := 181) dX12_weeks_138 fl_12_45 (by decide) sh_169 rr_169_15 ?_
    refine G_bipush (z := 97) dX12_weeks_141 rfl ?_
    refine G_iconst (z := 0) dX12_weeks_143 rfl ?_
    refine G_iast (mem2 := (up2 (up2 mem 181 96 0) 181 97 0)) dX12_weeks_144 (by decide) sh_181 (by decide) (by decide) (by decide) rfl ?_
    refine G_aload_n dX12_weeks_145 rfl ?_
    refine G_getR (t := 181) dX12_weeks_146 fl_12_45 (by decide) sh_169 rr_169_15 ?_
    refine G_bipush (z := 98) dX12_weeks_149 rfl ?_
    refine G_iconst (z := 0) dX12_weeks_151 rfl ?_
    refine G_iast (mem2 := (up2 (up2 (up2 mem 181 96 0) 181 97 0) 181 98 0)) dX12_weeks_152 (by decide) sh_181 (by decide) (by decide) (by decide) rfl ?_
    refine G_aload_n dX12_weeks_153 rfl ?_
    refine G_aload_n dX12_weeks_154 rfl ?_
    refine G_getI (z := (mem 169 3)) dX12_weeks_155 fl_12_137 (by decide) sh_169 (by simp [up2, upr]) ?_
    refine G_putI (mem2 := (up2 (up2 (up2 (up2 mem 181 96 0) 181 97 0) 181 98 0) 169 52 (mem 169 3))) dX12_weeks_158 fp_12_419 (by decide) sh_169 rfl ?_
    refine G_iconst (z := 0) dX12_weeks_161 rfl ?_
    refine G_istore dX12_weeks_162 (by decide : 9 < 10) rfl ?_
    exact k1 c1
  · -- ¬ 96 ≤ a9
    refine G_aload_n dX12_weeks_69 rfl ?_
    refine G_getR (t := 181) dX12_weeks_70 fl_12_45 (by decide) sh_169 rr_169_15 ?_
    refine G_iload dX12_weeks_73 rfl ?_
    refine G_iconst (z := 0) dX12_weeks_75 rfl ?_
    refine G_iast (mem2 := (up2 mem 181 a9 0)) dX12_weeks_76 (by decide) sh_181 (by decide) (q2 c1).1 (q2 c1).2 rfl ?_
    refine G_aload_n dX12_weeks_77 rfl ?_
    refine G_getR (t := 178) dX12_weeks_78 fl_12_36 (by decide) sh_169 rr_169_12 ?_
    refine G_iload dX12_weeks_81 rfl ?_
    refine G_iald (z := (mem 178 a9)) dX12_weeks_83 (by decide) sh_178 (by decide) (q3 c1).1 (q3 c1).2 (by simp [up2, upr]) ?_
    refine G_if_le (tgt := 123) dX12_weeks_84 (by decide) (w4 c1) (fun c2 => ?_) (fun c2 => ?_)
    · -- (mem 178 a9) ≤ 0
      refine G_iinc (z := (a9 + 1)) dX12_weeks_123 rfl rfl (by decide : 9 < 10) rfl ?_
      refine G_goto (tgt := 62) dX12_weeks_126 (by decide) ?_
      exact k2 c1 c2
    · -- ¬ (mem 178 a9) ≤ 0
      refine G_iload dX12_weeks_87 rfl ?_
      refine G_ldcw (z := 1103515245) dX12_weeks_89 kc_12_498 ?_
      refine G_imul dX12_weeks_92 ?_
      refine G_sipush (z := 12345) dX12_weeks_93 rfl ?_
      refine G_iadd dX12_weeks_96 ?_
      refine G_istore dX12_weeks_97 (by decide : 4 < 10) rfl ?_
      refine G_aload_n dX12_weeks_99 rfl ?_
      refine G_getR (t := 181) dX12_weeks_100 fl_12_45 (by decide) sh_169 rr_169_15 ?_
      refine G_iload dX12_weeks_103 rfl ?_
      refine G_iload dX12_weeks_105 rfl ?_
      refine G_bipush (z := 16) dX12_weeks_107 rfl ?_
      refine G_iushr (z := (ushrI ((a4 * 1103515245) + 12345) 16)) dX12_weeks_109 (iI_inv _) ?_
      refine G_bipush (z := 10) dX12_weeks_110 rfl ?_
      refine G_irem (z := (remI (ushrI ((a4 * 1103515245) + 12345) 16) 10)) dX12_weeks_112 (iI_ne0 (by decide) (by decide)) (iI_inv _) ?_
      refine G_iload_n dX12_weeks_113 rfl ?_
      refine G_icmp_ge (tgt := 121) dX12_weeks_114 (by decide) (iI_rng _) (w5) (fun c3 => ?_) (fun c3 => ?_)
      · -- a3 ≤ (remI (ushrI ((a4 * 1103515245) + 12345) 16) 10)
        refine G_iconst (z := 0) dX12_weeks_121 rfl ?_
        refine G_iast (mem2 := (up2 (up2 mem 181 a9 0) 181 a9 0)) dX12_weeks_122 (by decide) sh_181 (by decide) (q2 c1).1 (q2 c1).2 rfl ?_
        refine G_iinc (z := (a9 + 1)) dX12_weeks_123 rfl rfl (by decide : 9 < 10) rfl ?_
        refine G_goto (tgt := 62) dX12_weeks_126 (by decide) ?_
        exact k3 c1 c2 c3
      · -- ¬ a3 ≤ (remI (ushrI ((a4 * 1103515245) + 12345) 16) 10)
        refine G_iconst (z := 1) dX12_weeks_117 rfl ?_
        refine G_goto (tgt := 122) dX12_weeks_118 (by decide) ?_
        refine G_iast (mem2 := (up2 (up2 mem 181 a9 0) 181 a9 1)) dX12_weeks_122 (by decide) sh_181 (by decide) (q2 c1).1 (q2 c1).2 rfl ?_
        refine G_iinc (z := (a9 + 1)) dX12_weeks_123 rfl rfl (by decide : 9 < 10) rfl ?_
        refine G_goto (tgt := 62) dX12_weeks_126 (by decide) ?_
        exact k4 c1 c2 c3
set_option maxRecDepth 20000 in
set_option maxHeartbeats 1000000 in
theorem sg_X12_weeks_164 {E : Nat × (Nat → Int32)} {d : Nat} {P : Option Value → Mem → Prop} {mem : Mem} {a1 : Int} {a2 : Int} {a3 : Int} {a4 : Int} {a5 : Int} {a6 : Int} {a7 : Int} {a8 : Int} {a9 : Int} (w1 : -2147483648 ≤ a9 ∧ a9 < 2147483648) (w2 : -2147483648 ≤ (mem 169 3) ∧ (mem 169 3) < 2147483648) (q3 : ¬ (mem 169 3) ≤ a9 → 0 ≤ a9 ∧ a9 < 6)
    (k1 : (mem 169 3) ≤ a9 → GM E (m_X12_weeks d) P 189 [.ref 169, vi a1, vi a2, vi a3, vi a4, vi a5, vi a6, vi a7, vi a8, vi a9] [.ref 169] mem)
    (k2 : ¬ (mem 169 3) ≤ a9 → GM E (m_X12_weeks d) P 164 [.ref 169, vi a1, vi a2, vi a3, vi a4, vi a5, vi a6, vi a7, vi a8, vi (a9 + 1)] [] (up2 mem 195 a9 a9)) :
    GM E (m_X12_weeks d) P 164 [.ref 169, vi a1, vi a2, vi a3, vi a4, vi a5, vi a6, vi a7, vi a8, vi a9] [] mem := by
  refine G_iload dX12_weeks_164 rfl ?_
  refine G_aload_n dX12_weeks_166 rfl ?_
  refine G_getI (z := (mem 169 3)) dX12_weeks_167 fl_12_137 (by decide) sh_169 rfl ?_
  refine G_icmp_ge (tgt := 188) dX12_weeks_170 (by decide) (w1) (w2) (fun c1 => ?_) (fun c1 => ?_)
  · -- (mem 169 3) ≤ a9
    refine G_aload_n dX12_weeks_188 rfl ?_
    exact k1 c1
  · -- ¬ (mem 169 3) ≤ a9
    refine G_aload_n dX12_weeks_173 rfl ?_
    refine G_getR (t := 195) dX12_weeks_174 fl_12_87 (by decide) sh_169 rr_169_51 ?_
    refine G_iload dX12_weeks_177 rfl ?_
    refine G_iload dX12_weeks_179 rfl ?_
    refine G_iast (mem2 := (up2 mem 195 a9 a9)) dX12_weeks_181 (by decide) sh_195 (by decide) (q3 c1).1 (q3 c1).2 rfl ?_
    refine G_iinc (z := (a9 + 1)) dX12_weeks_182 rfl rfl (by decide : 9 < 10) rfl ?_
    refine G_goto (tgt := 164) dX12_weeks_185 (by decide) ?_
    exact k2 c1
set_option maxRecDepth 20000 in
set_option maxHeartbeats 1000000 in
theorem sg_X12_weeks_192 {E : Nat × (Nat → Int32)} {d : Nat} (hd : 1 ≤ d) {P : Option Value → Mem → Prop} {mem : Mem} {a1 : Int} {a2 : Int} {a3 : Int} {a4 : Int} {a5 : Int} {a6 : Int} {a7 : Int} {a8 : Int} {a9 : Int} {s0 : Int} (w1 : -2147483648 ≤ s0 ∧ s0 < 2147483648) (w2 : -2147483648 ≤ a6 ∧ a6 < 2147483648) (w3 : -2147483648 ≤ a7 ∧ a7 < 2147483648)
    (k1 : s0 < 0 → GM E (m_X12_weeks d) P 53 [.ref 169, vi a1, vi a2, vi a3, vi a4, vi a5, vi a6, vi a7, vi (a8 + 1), vi s0] [] mem)
    (k2 : ¬ s0 < 0 → 0 ≤ a6 → GM E (m_X12_weeks d) P 53 [.ref 169, vi a1, vi a2, vi a3, vi a4, vi (a5 + 1), vi (min a6 s0), vi (max a7 s0), vi (a8 + 1), vi s0] [] mem)
    (k3 : ¬ s0 < 0 → ¬ 0 ≤ a6 → GM E (m_X12_weeks d) P 53 [.ref 169, vi a1, vi a2, vi a3, vi a4, vi (a5 + 1), vi s0, vi (max a7 s0), vi (a8 + 1), vi s0] [] mem) :
    GM E (m_X12_weeks d) P 192 [.ref 169, vi a1, vi a2, vi a3, vi a4, vi a5, vi a6, vi a7, vi a8, vi a9] [vi s0] mem := by
  refine G_istore dX12_weeks_192 (by decide : 9 < 10) rfl ?_
  refine G_iload dX12_weeks_194 rfl ?_
  refine G_if_lt (tgt := 230) dX12_weeks_196 (by decide) (w1) (fun c1 => ?_) (fun c1 => ?_)
  · -- s0 < 0
    refine G_iinc (z := (a8 + 1)) dX12_weeks_230 rfl rfl (by decide : 8 < 10) rfl ?_
    refine G_goto (tgt := 53) dX12_weeks_233 (by decide) ?_
    exact k1 c1
  · -- ¬ s0 < 0
    refine G_iinc (z := (a5 + 1)) dX12_weeks_199 rfl rfl (by decide : 5 < 10) rfl ?_
    refine G_iload dX12_weeks_202 rfl ?_
    refine G_if_ge (tgt := 212) dX12_weeks_204 (by decide) (w2) (fun c2 => ?_) (fun c2 => ?_)
    · -- 0 ≤ a6
      refine G_iload dX12_weeks_212 rfl ?_
      refine G_iload dX12_weeks_214 rfl ?_
      refine G_min (z := (min a6 s0)) dX12_weeks_216 ml_12_157 mw_min (w2) (w1) ⟨by show 1 ≤ d; omega, by show 21 ≤ 40 * d; omega, Nat.zero_le _, Nat.zero_le _⟩ (Nat.le_of_ble_eq_true rfl) rfl ?_
      refine G_istore dX12_weeks_219 (by decide : 6 < 10) rfl ?_
      refine G_iload dX12_weeks_221 rfl ?_
      refine G_iload dX12_weeks_223 rfl ?_
      refine G_max (z := (max a7 s0)) dX12_weeks_225 ml_12_257 mw_max (w3) (w1) ⟨by show 1 ≤ d; omega, by show 21 ≤ 40 * d; omega, Nat.zero_le _, Nat.zero_le _⟩ (Nat.le_of_ble_eq_true rfl) rfl ?_
      refine G_istore dX12_weeks_228 (by decide : 7 < 10) rfl ?_
      refine G_iinc (z := (a8 + 1)) dX12_weeks_230 rfl rfl (by decide : 8 < 10) rfl ?_
      refine G_goto (tgt := 53) dX12_weeks_233 (by decide) ?_
      exact k2 c1 c2
    · -- ¬ 0 ≤ a6
      refine G_iload dX12_weeks_207 rfl ?_
      refine G_goto (tgt := 219) dX12_weeks_209 (by decide) ?_
      refine G_istore dX12_weeks_219 (by decide : 6 < 10) rfl ?_
      refine G_iload dX12_weeks_221 rfl ?_
      refine G_iload dX12_weeks_223 rfl ?_
      refine G_max (z := (max a7 s0)) dX12_weeks_225 ml_12_257 mw_max (w3) (w1) ⟨by show 1 ≤ d; omega, by show 21 ≤ 40 * d; omega, Nat.zero_le _, Nat.zero_le _⟩ (Nat.le_of_ble_eq_true rfl) rfl ?_
      refine G_istore dX12_weeks_228 (by decide : 7 < 10) rfl ?_
      refine G_iinc (z := (a8 + 1)) dX12_weeks_230 rfl rfl (by decide : 8 < 10) rfl ?_
      refine G_goto (tgt := 53) dX12_weeks_233 (by decide) ?_
      exact k3 c1 c2
set_option maxRecDepth 20000 in
set_option maxHeartbeats 1000000 in
theorem sg_X12_weeks_248 {E : Nat × (Nat → Int32)} {d : Nat} {P : Option Value → Mem → Prop} {mem : Mem} {a1 : Int} {a2 : Int} {a3 : Int} {a4 : Int} {a5 : Int} {a6 : Int} {a7 : Int} {a8 : Int} (w1 : -2147483648 ≤ a7 ∧ a7 < 2147483648)
    (k1 : GM E (m_X12_weeks d) P 252 [.ref 169, vi a1, vi a2, vi a3, vi a4, vi a5, vi a6, vi a7, vi a8, un] [vl a7, .ref 169] mem) :
    GM E (m_X12_weeks d) P 248 [.ref 169, vi a1, vi a2, vi a3, vi a4, vi a5, vi a6, vi a7, vi a8, un] [] mem := by
  refine G_aload_n dX12_weeks_248 rfl ?_
  refine G_iload dX12_weeks_249 rfl ?_
  refine G_i2l dX12_weeks_251 (w1) ?_
  exact k1
set_option maxRecDepth 20000 in
set_option maxHeartbeats 1000000 in
theorem sg_X12_weeks_255 {E : Nat × (Nat → Int32)} {d : Nat} {P : Option Value → Mem → Prop} {mem : Mem} {a1 : Int} {a2 : Int} {a3 : Int} {a4 : Int} {a5 : Int} {a6 : Int} {a7 : Int} {a8 : Int}
    (k1 : P (some (vi a5)) mem) :
    GM E (m_X12_weeks d) P 255 [.ref 169, vi a1, vi a2, vi a3, vi a4, vi a5, vi a6, vi a7, vi a8, un] [] mem := by
  refine G_iload dX12_weeks_255 rfl ?_
  exact G_iret dX12_weeks_257 rfl (Nat.zero_le _) (Nat.zero_le _) (Nat.le_refl _) ⟨rfl, k1⟩
abbrev m_X12_weighed (d : Nat) : Mu := (cX12_weighed, 3, RX12, (some .int), ⟨d, 0, 0, 40 * d⟩, "weighed")
set_option maxRecDepth 20000 in
set_option maxHeartbeats 1000000 in
theorem sg_X12_weighed_0 {E : Nat × (Nat → Int32)} {d : Nat} {P : Option Value → Mem → Prop} {mem : Mem} {a1 : Int} {a2 : Int} (w1 : -2147483648 ≤ a1 ∧ a1 < 2147483648)
    (k1 : GM E (m_X12_weighed d) P 9 [.ref 169, vi a1, vi a2] [.ref 169, vl 0, vl a1] (up2 mem 169 0 0)) :
    GM E (m_X12_weighed d) P 0 [.ref 169, vi a1, vi a2] [] mem := by
  refine G_aload_n dX12_weighed_0 rfl ?_
  refine G_iconst (z := 0) dX12_weighed_1 rfl ?_
  refine G_putI (mem2 := (up2 mem 169 0 0)) dX12_weighed_2 fp_12_126 (by decide) sh_169 rfl ?_
  refine G_iload_n dX12_weighed_5 rfl ?_
  refine G_i2l dX12_weighed_6 (w1) ?_
  refine G_lconst (z := 0) dX12_weighed_7 rfl ?_
  refine G_aload_n dX12_weighed_8 rfl ?_
  exact k1
set_option maxRecDepth 20000 in
set_option maxHeartbeats 1000000 in
theorem sg_X12_weighed_12 {E : Nat × (Nat → Int32)} {d : Nat} {P : Option Value → Mem → Prop} {mem : Mem} {a1 : Int} {a2 : Int} {s0 : Int} {s1 : Int} {s2 : Int} (w1 : -2147483648 ≤ s0 ∧ s0 < 2147483648)
    (k1 : GM E (m_X12_weighed d) P 13 [.ref 169, vi a1, vi a2] [vl s0, vl s1, vl s2] mem) :
    GM E (m_X12_weighed d) P 12 [.ref 169, vi a1, vi a2] [vi s0, vl s1, vl s2] mem := by
  refine G_i2l dX12_weighed_12 (w1) ?_
  exact k1
set_option maxRecDepth 20000 in
set_option maxHeartbeats 1000000 in
theorem sg_X12_weighed_16 {E : Nat × (Nat → Int32)} {d : Nat} {P : Option Value → Mem → Prop} {mem : Mem} {a1 : Int} {a2 : Int} {s0 : Int} (w1 : -2147483648 ≤ s0 ∧ s0 < 2147483648) (w2 : -2147483648 ≤ a2 ∧ a2 < 2147483648)
    (k1 : s0 = 0 → P (some (vi (-1))) mem)
    (k2 : ¬ s0 = 0 → GM E (m_X12_weighed d) P 25 [.ref 169, vi a1, vi a2] [vl 9999, vl 0, vl a2] mem) :
    GM E (m_X12_weighed d) P 16 [.ref 169, vi a1, vi a2] [vi s0] mem := by
  refine G_if_eq (tgt := 40) dX12_weighed_16 (by decide) (w1) (fun c1 => ?_) (fun c1 => ?_)
  · -- s0 = 0
    refine G_iconst (z := (-1)) dX12_weighed_40 rfl ?_
    exact G_iret dX12_weighed_41 rfl (Nat.zero_le _) (Nat.zero_le _) (Nat.le_refl _) ⟨rfl, k1 c1⟩
  · -- ¬ s0 = 0
    refine G_iload_n dX12_weighed_19 rfl ?_
    refine G_i2l dX12_weighed_20 (w2) ?_
    refine G_lconst (z := 0) dX12_weighed_21 rfl ?_
    refine G_ldc2 (z := 9999) dX12_weighed_22 kc_12_382 ?_
    exact k2 c1
set_option maxRecDepth 20000 in
set_option maxHeartbeats 1000000 in
theorem sg_X12_weighed_28 {E : Nat × (Nat → Int32)} {d : Nat} {P : Option Value → Mem → Prop} {mem : Mem} {a1 : Int} {a2 : Int} {s0 : Int} (w1 : -2147483648 ≤ s0 ∧ s0 < 2147483648) (w2 : ¬ s0 = 0 → -2147483648 ≤ (mem 169 62) ∧ (mem 169 62) < 2147483648) (q3 : ¬ s0 = 0 → (mem 169 62) ≠ 10 → 0 ≤ (mem 169 62) ∧ (mem 169 62) < 10)
    (k1 : s0 = 0 → P (some (vi (-1))) mem)
    (k2 : ¬ s0 = 0 → (mem 169 62) ≠ 10 → P (some (vi ((mem 169 62) + 1))) (up2 (up2 (up2 mem 201 (mem 169 62) a1) 202 (mem 169 62) a2) 169 62 ((mem 169 62) + 1)))
    (k3 : ¬ s0 = 0 → (mem 169 62) = 10 → P (some (vi (-1))) mem) :
    GM E (m_X12_weighed d) P 28 [.ref 169, vi a1, vi a2] [vi s0] mem := by
  refine G_if_eq (tgt := 40) dX12_weighed_28 (by decide) (w1) (fun c1 => ?_) (fun c1 => ?_)
  · -- s0 = 0
    refine G_iconst (z := (-1)) dX12_weighed_40 rfl ?_
    exact G_iret dX12_weighed_41 rfl (Nat.zero_le _) (Nat.zero_le _) (Nat.le_refl _) ⟨rfl, k1 c1⟩
  · -- ¬ s0 = 0
    refine G_aload_n dX12_weighed_31 rfl ?_
    refine G_getI (z := (mem 169 62)) dX12_weighed_32 fl_12_470 (by decide) sh_169 rfl ?_
    refine G_bipush (z := 10) dX12_weighed_35 rfl ?_
    refine G_icmp_ne (tgt := 42) dX12_weighed_37 (by decide) (w2 c1) (by decide) (fun c2 => ?_) (fun c2 => ?_)
    · -- (mem 169 62) ≠ 10
      refine G_aload_n dX12_weighed_42 rfl ?_
      refine G_getR (t := 201) dX12_weighed_43 fl_12_105 (by decide) sh_169 rr_169_63 ?_
      refine G_aload_n dX12_weighed_46 rfl ?_
      refine G_getI (z := (mem 169 62)) dX12_weighed_47 fl_12_470 (by decide) sh_169 rfl ?_
      refine G_iload_n dX12_weighed_50 rfl ?_
      refine G_iast (mem2 := (up2 mem 201 (mem 169 62) a1)) dX12_weighed_51 (by decide) sh_201 (by decide) (q3 c1 c2).1 (q3 c1 c2).2 rfl ?_
      refine G_aload_n dX12_weighed_52 rfl ?_
      refine G_getR (t := 202) dX12_weighed_53 fl_12_108 (by decide) sh_169 rr_169_64 ?_
      refine G_aload_n dX12_weighed_56 rfl ?_
      refine G_getI (z := (mem 169 62)) dX12_weighed_57 fl_12_470 (by decide) sh_169 (by simp [up2, upr]) ?_
      refine G_iload_n dX12_weighed_60 rfl ?_
      refine G_iast (mem2 := (up2 (up2 mem 201 (mem 169 62) a1) 202 (mem 169 62) a2)) dX12_weighed_61 (by decide) sh_202 (by decide) (q3 c1 c2).1 (q3 c1 c2).2 rfl ?_
      refine G_aload_n dX12_weighed_62 rfl ?_
      refine G_dup dX12_weighed_63 rfl ?_
      refine G_getI (z := (mem 169 62)) dX12_weighed_64 fl_12_470 (by decide) sh_169 (by simp [up2, upr]) ?_
      refine G_iconst (z := 1) dX12_weighed_67 rfl ?_
      refine G_iadd dX12_weighed_68 ?_
      refine G_putI (mem2 := (up2 (up2 (up2 mem 201 (mem 169 62) a1) 202 (mem 169 62) a2) 169 62 ((mem 169 62) + 1))) dX12_weighed_69 fp_12_470 (by decide) sh_169 rfl ?_
      refine G_aload_n dX12_weighed_72 rfl ?_
      refine G_getI (z := ((mem 169 62) + 1)) dX12_weighed_73 fl_12_470 (by decide) sh_169 (by simp [up2, upr]) ?_
      exact G_iret dX12_weighed_76 rfl (Nat.zero_le _) (Nat.zero_le _) (Nat.le_refl _) ⟨rfl, k2 c1 c2⟩
    · -- (mem 169 62) = 10
      refine G_iconst (z := (-1)) dX12_weighed_40 rfl ?_
      exact G_iret dX12_weighed_41 rfl (Nat.zero_le _) (Nat.zero_le _) (Nat.le_refl _) ⟨rfl, k3 c1 c2⟩
abbrev m_X12_wet (d : Nat) : Mu := (cX12_wet, 7, RX12, (some .int), ⟨d, 0, 0, 40 * d⟩, "wet")
set_option maxRecDepth 20000 in
set_option maxHeartbeats 1000000 in
theorem sg_X12_wet_0 {E : Nat × (Nat → Int32)} {d : Nat} {P : Option Value → Mem → Prop} {mem : Mem} {a1 : Int} {a2 : Int}
    (k1 : GM E (m_X12_wet d) P 7 [.ref 169, vi a1, vi a2, un, un, un, un] [vi a1, .ref 169] (up2 mem 169 0 0)) :
    GM E (m_X12_wet d) P 0 [.ref 169, vi a1, vi a2, un, un, un, un] [] mem := by
  refine G_aload_n dX12_wet_0 rfl ?_
  refine G_iconst (z := 0) dX12_wet_1 rfl ?_
  refine G_putI (mem2 := (up2 mem 169 0 0)) dX12_wet_2 fp_12_126 (by decide) sh_169 rfl ?_
  refine G_aload_n dX12_wet_5 rfl ?_
  refine G_iload_n dX12_wet_6 rfl ?_
  exact k1
set_option maxRecDepth 20000 in
set_option maxHeartbeats 1000000 in
theorem sg_X12_wet_10 {E : Nat × (Nat → Int32)} {d : Nat} {P : Option Value → Mem → Prop} {mem : Mem} {a1 : Int} {a2 : Int} {s0 : Int} (w1 : -2147483648 ≤ s0 ∧ s0 < 2147483648) (w2 : -2147483648 ≤ a2 ∧ a2 < 2147483648)
    (k1 : s0 = 0 → P (some (vi (-1))) mem)
    (k2 : ¬ s0 = 0 → GM E (m_X12_wet d) P 19 [.ref 169, vi a1, vi a2, un, un, un, un] [vl 9, vl 0, vl a2] mem) :
    GM E (m_X12_wet d) P 10 [.ref 169, vi a1, vi a2, un, un, un, un] [vi s0] mem := by
  refine G_if_eq (tgt := 25) dX12_wet_10 (by decide) (w1) (fun c1 => ?_) (fun c1 => ?_)
  · -- s0 = 0
    refine G_iconst (z := (-1)) dX12_wet_25 rfl ?_
    exact G_iret dX12_wet_26 rfl (Nat.zero_le _) (Nat.zero_le _) (Nat.le_refl _) ⟨rfl, k1 c1⟩
  · -- ¬ s0 = 0
    refine G_iload_n dX12_wet_13 rfl ?_
    refine G_i2l dX12_wet_14 (w2) ?_
    refine G_lconst (z := 0) dX12_wet_15 rfl ?_
    refine G_ldc2 (z := 9) dX12_wet_16 kc_12_414 ?_
    exact k2 c1
set_option maxRecDepth 20000 in
set_option maxHeartbeats 1000000 in
theorem sg_X12_wet_22 {E : Nat × (Nat → Int32)} {d : Nat} {P : Option Value → Mem → Prop} {mem : Mem} {a1 : Int} {a2 : Int} {s0 : Int} (w1 : -2147483648 ≤ s0 ∧ s0 < 2147483648)
    (k1 : s0 ≠ 0 → GM E (m_X12_wet d) P 38 [.ref 169, vi a1, vi a2, vi 0, vi 0, vi (16 * a1), un] [] mem)
    (k2 : s0 = 0 → P (some (vi (-1))) mem) :
    GM E (m_X12_wet d) P 22 [.ref 169, vi a1, vi a2, un, un, un, un] [vi s0] mem := by
  refine G_if_ne (tgt := 27) dX12_wet_22 (by decide) (w1) (fun c1 => ?_) (fun c1 => ?_)
  · -- s0 ≠ 0
    refine G_iconst (z := 0) dX12_wet_27 rfl ?_
    refine G_istore_n dX12_wet_28 rfl (by decide : 3 < 7) rfl ?_
    refine G_iconst (z := 0) dX12_wet_29 rfl ?_
    refine G_istore dX12_wet_30 (by decide : 4 < 7) rfl ?_
    refine G_bipush (z := 16) dX12_wet_32 rfl ?_
    refine G_iload_n dX12_wet_34 rfl ?_
    refine G_imul dX12_wet_35 ?_
    refine G_istore dX12_wet_36 (by decide : 5 < 7) rfl ?_
    exact k1 c1
  · -- s0 = 0
    refine G_iconst (z := (-1)) dX12_wet_25 rfl ?_
    exact G_iret dX12_wet_26 rfl (Nat.zero_le _) (Nat.zero_le _) (Nat.le_refl _) ⟨rfl, k2 c1⟩
set_option maxRecDepth 20000 in
set_option maxHeartbeats 1000000 in
theorem sg_X12_wet_38 {E : Nat × (Nat → Int32)} {d : Nat} {P : Option Value → Mem → Prop} {mem : Mem} {a1 : Int} {a2 : Int} {a3 : Int} {a4 : Int} {a5 : Int} (w1 : -2147483648 ≤ a5 ∧ a5 < 2147483648) (w2 : -2147483648 ≤ (16 * (a1 + 1)) ∧ (16 * (a1 + 1)) < 2147483648) (w3 : -2147483648 ≤ a4 ∧ a4 < 2147483648) (q4 : ¬ (16 * (a1 + 1)) ≤ a5 → 0 ≤ a5 ∧ a5 < 99) (w5 : ¬ (16 * (a1 + 1)) ≤ a5 → -2147483648 ≤ (mem 180 a5) ∧ (mem 180 a5) < 2147483648) (w6 : ¬ (16 * (a1 + 1)) ≤ a5 → (mem 180 a5) ≠ 1 → -2147483648 ≤ (mem 179 4) ∧ (mem 179 4) < 2147483648) (q7 : ¬ (16 * (a1 + 1)) ≤ a5 → (mem 180 a5) = 1 → 0 ≤ a5 ∧ a5 < 96)
    (k1 : (16 * (a1 + 1)) ≤ a5 → GM E (m_X12_wet d) P 122 [.ref 169, vi a1, vi a2, vi a3, vi a4, vi a5, un] [vl a4, .ref 169] (up2 mem 169 1 0))
    (k2 : ¬ (16 * (a1 + 1)) ≤ a5 → (mem 180 a5) ≠ 1 → 0 ≤ (mem 179 4) → GM E (m_X12_wet d) P 101 [.ref 169, vi a1, vi a2, vi (a3 + 0), vi a4, vi a5, vi 0] [vi 0, vi a4] mem)
    (k3 : ¬ (16 * (a1 + 1)) ≤ a5 → (mem 180 a5) ≠ 1 → ¬ 0 ≤ (mem 179 4) → GM E (m_X12_wet d) P 101 [.ref 169, vi a1, vi a2, vi (a3 + 0), vi a4, vi a5, vi 0] [vi 1, vi a4] mem)
    (k4 : ¬ (16 * (a1 + 1)) ≤ a5 → (mem 180 a5) = 1 → GM E (m_X12_wet d) P 69 [.ref 169, vi a1, vi a2, vi a3, vi a4, vi a5, un] [vi a2, vi (mem 178 a5), .ref 169] mem) :
    GM E (m_X12_wet d) P 38 [.ref 169, vi a1, vi a2, vi a3, vi a4, vi a5, un] [] mem := by
  refine G_iload dX12_wet_38 rfl ?_
  refine G_bipush (z := 16) dX12_wet_40 rfl ?_
  refine G_iload_n dX12_wet_42 rfl ?_
  refine G_iconst (z := 1) dX12_wet_43 rfl ?_
  refine G_iadd dX12_wet_44 ?_
  refine G_imul dX12_wet_45 ?_
  refine G_icmp_ge (tgt := 113) dX12_wet_46 (by decide) (w1) (w2) (fun c1 => ?_) (fun c1 => ?_)
  · -- (16 * (a1 + 1)) ≤ a5
    refine G_aload_n dX12_wet_113 rfl ?_
    refine G_iconst (z := 0) dX12_wet_114 rfl ?_
    refine G_putI (mem2 := (up2 mem 169 1 0)) dX12_wet_115 fp_12_134 (by decide) sh_169 rfl ?_
    refine G_aload_n dX12_wet_118 rfl ?_
    refine G_iload dX12_wet_119 rfl ?_
    refine G_i2l dX12_wet_121 (w3) ?_
    exact k1 c1
  · -- ¬ (16 * (a1 + 1)) ≤ a5
    refine G_aload_n dX12_wet_49 rfl ?_
    refine G_getR (t := 180) dX12_wet_50 fl_12_42 (by decide) sh_169 rr_169_14 ?_
    refine G_iload dX12_wet_53 rfl ?_
    refine G_iald (z := (mem 180 a5)) dX12_wet_55 (by decide) sh_180 (by decide) (q4 c1).1 (q4 c1).2 rfl ?_
    refine G_iconst (z := 1) dX12_wet_56 rfl ?_
    refine G_icmp_ne (tgt := 75) dX12_wet_57 (by decide) (w5 c1) (by decide) (fun c2 => ?_) (fun c2 => ?_)
    · -- (mem 180 a5) ≠ 1
      refine G_iconst (z := 0) dX12_wet_75 rfl ?_
      refine G_istore dX12_wet_76 (by decide : 6 < 7) rfl ?_
      refine G_iload_n dX12_wet_78 rfl ?_
      refine G_iload dX12_wet_79 rfl ?_
      refine G_iadd dX12_wet_81 ?_
      refine G_istore_n dX12_wet_82 rfl (by decide : 3 < 7) rfl ?_
      refine G_iload dX12_wet_83 rfl ?_
      refine G_iload dX12_wet_85 rfl ?_
      refine G_aload_n dX12_wet_87 rfl ?_
      refine G_getR (t := 179) dX12_wet_88 fl_12_39 (by decide) sh_169 rr_169_13 ?_
      refine G_iconst (z := 4) dX12_wet_91 rfl ?_
      refine G_iald (z := (mem 179 4)) dX12_wet_92 (by decide) sh_179 (by decide) (by decide) (by decide) rfl ?_
      refine G_icmp_le (tgt := 100) dX12_wet_93 (by decide) (by decide) (w6 c1 c2) (fun c3 => ?_) (fun c3 => ?_)
      · -- 0 ≤ (mem 179 4)
        refine G_iconst (z := 0) dX12_wet_100 rfl ?_
        exact k2 c1 c2 c3
      · -- ¬ 0 ≤ (mem 179 4)
        refine G_iconst (z := 1) dX12_wet_96 rfl ?_
        refine G_goto (tgt := 101) dX12_wet_97 (by decide) ?_
        exact k3 c1 c2 c3
    · -- (mem 180 a5) = 1
      refine G_aload_n dX12_wet_60 rfl ?_
      refine G_aload_n dX12_wet_61 rfl ?_
      refine G_getR (t := 178) dX12_wet_62 fl_12_36 (by decide) sh_169 rr_169_12 ?_
      refine G_iload dX12_wet_65 rfl ?_
      refine G_iald (z := (mem 178 a5)) dX12_wet_67 (by decide) sh_178 (by decide) (q7 c1 c2).1 (q7 c1 c2).2 rfl ?_
      refine G_iload_n dX12_wet_68 rfl ?_
      exact k4 c1 c2
set_option maxRecDepth 20000 in
set_option maxHeartbeats 1000000 in
theorem sg_X12_wet_72 {E : Nat × (Nat → Int32)} {d : Nat} {P : Option Value → Mem → Prop} {mem : Mem} {a1 : Int} {a2 : Int} {a3 : Int} {a4 : Int} {a5 : Int} {s0 : Int} (w1 : -2147483648 ≤ s0 ∧ s0 < 2147483648) (w2 : -2147483648 ≤ (mem 179 4) ∧ (mem 179 4) < 2147483648)
    (k1 : s0 ≤ (mem 179 4) → GM E (m_X12_wet d) P 101 [.ref 169, vi a1, vi a2, vi (a3 + s0), vi a4, vi a5, vi s0] [vi 0, vi a4] mem)
    (k2 : ¬ s0 ≤ (mem 179 4) → GM E (m_X12_wet d) P 101 [.ref 169, vi a1, vi a2, vi (a3 + s0), vi a4, vi a5, vi s0] [vi 1, vi a4] mem) :
    GM E (m_X12_wet d) P 72 [.ref 169, vi a1, vi a2, vi a3, vi a4, vi a5, un] [vi s0] mem := by
  refine G_goto (tgt := 76) dX12_wet_72 (by decide) ?_
  refine G_istore dX12_wet_76 (by decide : 6 < 7) rfl ?_
  refine G_iload_n dX12_wet_78 rfl ?_
  refine G_iload dX12_wet_79 rfl ?_
  refine G_iadd dX12_wet_81 ?_
  refine G_istore_n dX12_wet_82 rfl (by decide : 3 < 7) rfl ?_
  refine G_iload dX12_wet_83 rfl ?_
  refine G_iload dX12_wet_85 rfl ?_
  refine G_aload_n dX12_wet_87 rfl ?_
  refine G_getR (t := 179) dX12_wet_88 fl_12_39 (by decide) sh_169 rr_169_13 ?_
  refine G_iconst (z := 4) dX12_wet_91 rfl ?_
  refine G_iald (z := (mem 179 4)) dX12_wet_92 (by decide) sh_179 (by decide) (by decide) (by decide) rfl ?_
  refine G_icmp_le (tgt := 100) dX12_wet_93 (by decide) (w1) (w2) (fun c1 => ?_) (fun c1 => ?_)
  · -- s0 ≤ (mem 179 4)
    refine G_iconst (z := 0) dX12_wet_100 rfl ?_
    exact k1 c1
  · -- ¬ s0 ≤ (mem 179 4)
    refine G_iconst (z := 1) dX12_wet_96 rfl ?_
    refine G_goto (tgt := 101) dX12_wet_97 (by decide) ?_
    exact k2 c1
set_option maxRecDepth 20000 in
set_option maxHeartbeats 1000000 in
theorem sg_X12_wet_104 {E : Nat × (Nat → Int32)} {d : Nat} {P : Option Value → Mem → Prop} {mem : Mem} {a1 : Int} {a2 : Int} {a3 : Int} {a4 : Int} {a5 : Int} {a6 : Int} {s0 : Int} {s1 : Int}
    (k1 : GM E (m_X12_wet d) P 38 [.ref 169, vi a1, vi a2, vi a3, vi (s1 + s0), vi (a5 + 1), vi a6] [] mem) :
    GM E (m_X12_wet d) P 104 [.ref 169, vi a1, vi a2, vi a3, vi a4, vi a5, vi a6] [vi s0, vi s1] mem := by
  refine G_iadd dX12_wet_104 ?_
  refine G_istore dX12_wet_105 (by decide : 4 < 7) rfl ?_
  refine G_iinc (z := (a5 + 1)) dX12_wet_107 rfl rfl (by decide : 5 < 7) rfl ?_
  refine G_goto (tgt := 38) dX12_wet_110 (by decide) ?_
  exact k1
set_option maxRecDepth 20000 in
set_option maxHeartbeats 1000000 in
theorem sg_X12_wet_125 {E : Nat × (Nat → Int32)} {d : Nat} {P : Option Value → Mem → Prop} {mem : Mem} {a1 : Int} {a2 : Int} {a3 : Int} {a4 : Int} {a5 : Int}
    (k1 : P (some (vi a3)) mem) :
    GM E (m_X12_wet d) P 125 [.ref 169, vi a1, vi a2, vi a3, vi a4, vi a5, un] [] mem := by
  refine G_iload_n dX12_wet_125 rfl ?_
  exact G_iret dX12_wet_126 rfl (Nat.zero_le _) (Nat.zero_le _) (Nat.le_refl _) ⟨rfl, k1⟩
abbrev m_X12_whose (d : Nat) : Mu := (cX12_whose, 3, RX12, (some .int), ⟨d, 0, 0, 40 * d⟩, "whose")
set_option maxRecDepth 20000 in
set_option maxHeartbeats 1000000 in
theorem sg_X12_whose_0 {E : Nat × (Nat → Int32)} {d : Nat} {P : Option Value → Mem → Prop} {mem : Mem}
    (k1 : GM E (m_X12_whose d) P 6 [.ref 169, un, un] [.ref 169] (up2 mem 169 0 0)) :
    GM E (m_X12_whose d) P 0 [.ref 169, un, un] [] mem := by
  refine G_aload_n dX12_whose_0 rfl ?_
  refine G_iconst (z := 0) dX12_whose_1 rfl ?_
  refine G_putI (mem2 := (up2 mem 169 0 0)) dX12_whose_2 fp_12_126 (by decide) sh_169 rfl ?_
  refine G_aload_n dX12_whose_5 rfl ?_
  exact k1
set_option maxRecDepth 20000 in
set_option maxHeartbeats 1000000 in
theorem sg_X12_whose_9 {E : Nat × (Nat → Int32)} {d : Nat} {P : Option Value → Mem → Prop} {mem : Mem}
    (k1 : GM E (m_X12_whose d) P 13 [.ref 169, vi 0, vi 0] [] mem) :
    GM E (m_X12_whose d) P 9 [.ref 169, un, un] [] mem := by
  refine G_iconst (z := 0) dX12_whose_9 rfl ?_
  refine G_istore_n dX12_whose_10 rfl (by decide : 1 < 3) rfl ?_
  refine G_iconst (z := 0) dX12_whose_11 rfl ?_
  refine G_istore_n dX12_whose_12 rfl (by decide : 2 < 3) rfl ?_
  exact k1
set_option maxRecDepth 20000 in
set_option maxHeartbeats 1000000 in
theorem sg_X12_whose_13 {E : Nat × (Nat → Int32)} {d : Nat} {P : Option Value → Mem → Prop} {mem : Mem} {a1 : Int} {a2 : Int} (w1 : -2147483648 ≤ a2 ∧ a2 < 2147483648) (w2 : -2147483648 ≤ (mem 169 3) ∧ (mem 169 3) < 2147483648) (q3 : ¬ (mem 169 3) ≤ a2 → 0 ≤ a2 ∧ a2 < 6) (w4 : ¬ (mem 169 3) ≤ a2 → -2147483648 ≤ (mem 203 a2) ∧ (mem 203 a2) < 2147483648)
    (k1 : (mem 169 3) ≤ a2 → GM E (m_X12_whose d) P 55 [.ref 169, vi a1, vi a2] [vi 0, vi (-1), .ref 169, .ref 169] (up2 mem 169 1 0))
    (k2 : ¬ (mem 169 3) ≤ a2 → (mem 203 a2) ≤ 0 → GM E (m_X12_whose d) P 13 [.ref 169, vi (borI a1 0), vi (a2 + 1)] [] mem)
    (k3 : ¬ (mem 169 3) ≤ a2 → ¬ (mem 203 a2) ≤ 0 → GM E (m_X12_whose d) P 13 [.ref 169, vi (borI a1 (shlI 1 a2)), vi (a2 + 1)] [] mem) :
    GM E (m_X12_whose d) P 13 [.ref 169, vi a1, vi a2] [] mem := by
  refine G_iload_n dX12_whose_13 rfl ?_
  refine G_aload_n dX12_whose_14 rfl ?_
  refine G_getI (z := (mem 169 3)) dX12_whose_15 fl_12_137 (by decide) sh_169 rfl ?_
  refine G_icmp_ge (tgt := 46) dX12_whose_18 (by decide) (w1) (w2) (fun c1 => ?_) (fun c1 => ?_)
  · -- (mem 169 3) ≤ a2
    refine G_aload_n dX12_whose_46 rfl ?_
    refine G_iconst (z := 0) dX12_whose_47 rfl ?_
    refine G_putI (mem2 := (up2 mem 169 1 0)) dX12_whose_48 fp_12_134 (by decide) sh_169 rfl ?_
    refine G_aload_n dX12_whose_51 rfl ?_
    refine G_aload_n dX12_whose_52 rfl ?_
    refine G_iconst (z := (-1)) dX12_whose_53 rfl ?_
    refine G_iconst (z := 0) dX12_whose_54 rfl ?_
    exact k1 c1
  · -- ¬ (mem 169 3) ≤ a2
    refine G_iload_n dX12_whose_21 rfl ?_
    refine G_aload_n dX12_whose_22 rfl ?_
    refine G_getR (t := 203) dX12_whose_23 fl_12_111 (by decide) sh_169 rr_169_65 ?_
    refine G_iload_n dX12_whose_26 rfl ?_
    refine G_iald (z := (mem 203 a2)) dX12_whose_27 (by decide) sh_203 (by decide) (q3 c1).1 (q3 c1).2 rfl ?_
    refine G_if_le (tgt := 37) dX12_whose_28 (by decide) (w4 c1) (fun c2 => ?_) (fun c2 => ?_)
    · -- (mem 203 a2) ≤ 0
      refine G_iconst (z := 0) dX12_whose_37 rfl ?_
      refine G_ior (z := (borI a1 0)) dX12_whose_38 (iI_inv _) ?_
      refine G_istore_n dX12_whose_39 rfl (by decide : 1 < 3) rfl ?_
      refine G_iinc (z := (a2 + 1)) dX12_whose_40 rfl rfl (by decide : 2 < 3) rfl ?_
      refine G_goto (tgt := 13) dX12_whose_43 (by decide) ?_
      exact k2 c1 c2
    · -- ¬ (mem 203 a2) ≤ 0
      refine G_iconst (z := 1) dX12_whose_31 rfl ?_
      refine G_iload_n dX12_whose_32 rfl ?_
      refine G_ishl (z := (shlI 1 a2)) dX12_whose_33 (iI_inv _) ?_
      refine G_goto (tgt := 38) dX12_whose_34 (by decide) ?_
      refine G_ior (z := (borI a1 (shlI 1 a2))) dX12_whose_38 (iI_inv _) ?_
      refine G_istore_n dX12_whose_39 rfl (by decide : 1 < 3) rfl ?_
      refine G_iinc (z := (a2 + 1)) dX12_whose_40 rfl rfl (by decide : 2 < 3) rfl ?_
      refine G_goto (tgt := 13) dX12_whose_43 (by decide) ?_
      exact k3 c1 c2
set_option maxRecDepth 20000 in
set_option maxHeartbeats 1000000 in
theorem sg_X12_whose_58 {E : Nat × (Nat → Int32)} {d : Nat} {P : Option Value → Mem → Prop} {mem : Mem} {a1 : Int} {a2 : Int} {s0 : Int}
    (k1 : GM E (m_X12_whose d) P 58 [.ref 169, vi a1, vi a2] [vi s0, .ref 169] mem) :
    GM E (m_X12_whose d) P 58 [.ref 169, vi a1, vi a2] [vi s0, .ref 169] mem := by
  exact k1
set_option maxRecDepth 20000 in
set_option maxHeartbeats 1000000 in
theorem sg_X12_whose_61 {E : Nat × (Nat → Int32)} {d : Nat} {P : Option Value → Mem → Prop} {mem : Mem} {a1 : Int} {a2 : Int} {s0 : Int} (w1 : -2147483648 ≤ s0 ∧ s0 < 2147483648)
    (k1 : GM E (m_X12_whose d) P 62 [.ref 169, vi a1, vi a2] [vl s0, .ref 169] mem) :
    GM E (m_X12_whose d) P 61 [.ref 169, vi a1, vi a2] [vi s0, .ref 169] mem := by
  refine G_i2l dX12_whose_61 (w1) ?_
  exact k1
set_option maxRecDepth 20000 in
set_option maxHeartbeats 1000000 in
theorem sg_X12_whose_65 {E : Nat × (Nat → Int32)} {d : Nat} {P : Option Value → Mem → Prop} {mem : Mem} {a1 : Int} {a2 : Int}
    (k1 : P (some (vi a1)) mem) :
    GM E (m_X12_whose d) P 65 [.ref 169, vi a1, vi a2] [] mem := by
  refine G_iload_n dX12_whose_65 rfl ?_
  exact G_iret dX12_whose_66 rfl (Nat.zero_le _) (Nat.zero_le _) (Nat.le_refl _) ⟨rfl, k1⟩
abbrev m_X12_whyNot (d : Nat) : Mu := (cX12_whyNot, 3, RX12, (some .int), ⟨d, 0, 0, 40 * d⟩, "whyNot")
set_option maxRecDepth 20000 in
set_option maxHeartbeats 1000000 in
theorem sg_X12_whyNot_0 {E : Nat × (Nat → Int32)} {d : Nat} {P : Option Value → Mem → Prop} {mem : Mem} {a1 : Int} {a2 : Int}
    (k1 : GM E (m_X12_whyNot d) P 2 [.ref 169, vi a1, vi a2] [vi a1, .ref 169] mem) :
    GM E (m_X12_whyNot d) P 0 [.ref 169, vi a1, vi a2] [] mem := by
  refine G_aload_n dX12_whyNot_0 rfl ?_
  refine G_iload_n dX12_whyNot_1 rfl ?_
  exact k1
set_option maxRecDepth 20000 in
set_option maxHeartbeats 1000000 in
theorem sg_X12_whyNot_5 {E : Nat × (Nat → Int32)} {d : Nat} {P : Option Value → Mem → Prop} {mem : Mem} {a1 : Int} {a2 : Int} {s0 : Int} (w1 : -2147483648 ≤ s0 ∧ s0 < 2147483648) (w2 : -2147483648 ≤ a2 ∧ a2 < 2147483648)
    (k1 : s0 = 0 → P (some (vi (-1))) mem)
    (k2 : ¬ s0 = 0 → GM E (m_X12_whyNot d) P 14 [.ref 169, vi a1, vi a2] [vl 2, vl 0, vl a2] mem) :
    GM E (m_X12_whyNot d) P 5 [.ref 169, vi a1, vi a2] [vi s0] mem := by
  refine G_if_eq (tgt := 20) dX12_whyNot_5 (by decide) (w1) (fun c1 => ?_) (fun c1 => ?_)
  · -- s0 = 0
    refine G_iconst (z := (-1)) dX12_whyNot_20 rfl ?_
    refine G_goto (tgt := 63) dX12_whyNot_21 (by decide) ?_
    exact G_iret dX12_whyNot_63 rfl (Nat.zero_le _) (Nat.zero_le _) (Nat.le_refl _) ⟨rfl, k1 c1⟩
  · -- ¬ s0 = 0
    refine G_iload_n dX12_whyNot_8 rfl ?_
    refine G_i2l dX12_whyNot_9 (w2) ?_
    refine G_lconst (z := 0) dX12_whyNot_10 rfl ?_
    refine G_ldc2 (z := 2) dX12_whyNot_11 kc_12_346 ?_
    exact k2 c1
set_option maxRecDepth 20000 in
set_option maxHeartbeats 1000000 in
theorem sg_X12_whyNot_17 {E : Nat × (Nat → Int32)} {d : Nat} {P : Option Value → Mem → Prop} {mem : Mem} {a1 : Int} {a2 : Int} {s0 : Int} (w1 : -2147483648 ≤ s0 ∧ s0 < 2147483648) (q2 : s0 ≠ 0 → 0 ≤ a1 ∧ a1 < 6) (w3 : s0 ≠ 0 → -2147483648 ≤ (mem 180 97) ∧ (mem 180 97) < 2147483648) (w4 : s0 ≠ 0 → -2147483648 ≤ (mem 171 a1) ∧ (mem 171 a1) < 2147483648)
    (k1 : s0 ≠ 0 → (mem 180 97) = (mem 171 a1) → GM E (m_X12_whyNot d) P 51 [.ref 169, vi a1, vi a2] [vi a1, .ref 180, .ref 169] mem)
    (k2 : s0 ≠ 0 → ¬ (mem 180 97) = (mem 171 a1) → P (some (vi (-2))) mem)
    (k3 : s0 = 0 → P (some (vi (-1))) mem) :
    GM E (m_X12_whyNot d) P 17 [.ref 169, vi a1, vi a2] [vi s0] mem := by
  refine G_if_ne (tgt := 24) dX12_whyNot_17 (by decide) (w1) (fun c1 => ?_) (fun c1 => ?_)
  · -- s0 ≠ 0
    refine G_aload_n dX12_whyNot_24 rfl ?_
    refine G_getR (t := 180) dX12_whyNot_25 fl_12_42 (by decide) sh_169 rr_169_14 ?_
    refine G_bipush (z := 97) dX12_whyNot_28 rfl ?_
    refine G_iald (z := (mem 180 97)) dX12_whyNot_30 (by decide) sh_180 (by decide) (by decide) (by decide) rfl ?_
    refine G_aload_n dX12_whyNot_31 rfl ?_
    refine G_getR (t := 171) dX12_whyNot_32 fl_12_13 (by decide) sh_169 rr_169_5 ?_
    refine G_iload_n dX12_whyNot_35 rfl ?_
    refine G_iald (z := (mem 171 a1)) dX12_whyNot_36 (by decide) sh_171 (by decide) (q2 c1).1 (q2 c1).2 rfl ?_
    refine G_icmp_eq (tgt := 45) dX12_whyNot_37 (by decide) (w3 c1) (w4 c1) (fun c2 => ?_) (fun c2 => ?_)
    · -- (mem 180 97) = (mem 171 a1)
      refine G_aload_n dX12_whyNot_45 rfl ?_
      refine G_aload_n dX12_whyNot_46 rfl ?_
      refine G_getR (t := 180) dX12_whyNot_47 fl_12_42 (by decide) sh_169 rr_169_14 ?_
      refine G_iload_n dX12_whyNot_50 rfl ?_
      exact k1 c1 c2
    · -- ¬ (mem 180 97) = (mem 171 a1)
      refine G_bipush (z := (-2)) dX12_whyNot_40 rfl ?_
      refine G_goto (tgt := 63) dX12_whyNot_42 (by decide) ?_
      exact G_iret dX12_whyNot_63 rfl (Nat.zero_le _) (Nat.zero_le _) (Nat.le_refl _) ⟨rfl, k2 c1 c2⟩
  · -- s0 = 0
    refine G_iconst (z := (-1)) dX12_whyNot_20 rfl ?_
    refine G_goto (tgt := 63) dX12_whyNot_21 (by decide) ?_
    exact G_iret dX12_whyNot_63 rfl (Nat.zero_le _) (Nat.zero_le _) (Nat.le_refl _) ⟨rfl, k3 c1⟩
set_option maxRecDepth 20000 in
set_option maxHeartbeats 1000000 in
theorem sg_X12_whyNot_54 {E : Nat × (Nat → Int32)} {d : Nat} {P : Option Value → Mem → Prop} {mem : Mem} {a1 : Int} {a2 : Int} {s0 : Int} (w1 : -2147483648 ≤ s0 ∧ s0 < 2147483648)
    (k1 : s0 = 0 → P (some (vi 0)) mem)
    (k2 : ¬ s0 = 0 → P (some (vi (-3))) mem) :
    GM E (m_X12_whyNot d) P 54 [.ref 169, vi a1, vi a2] [vi s0] mem := by
  refine G_if_eq (tgt := 62) dX12_whyNot_54 (by decide) (w1) (fun c1 => ?_) (fun c1 => ?_)
  · -- s0 = 0
    refine G_iconst (z := 0) dX12_whyNot_62 rfl ?_
    exact G_iret dX12_whyNot_63 rfl (Nat.zero_le _) (Nat.zero_le _) (Nat.le_refl _) ⟨rfl, k1 c1⟩
  · -- ¬ s0 = 0
    refine G_bipush (z := (-3)) dX12_whyNot_57 rfl ?_
    refine G_goto (tgt := 63) dX12_whyNot_59 (by decide) ?_
    exact G_iret dX12_whyNot_63 rfl (Nat.zero_le _) (Nat.zero_le _) (Nat.le_refl _) ⟨rfl, k2 c1⟩
abbrev m_X12_worked (d : Nat) : Mu := (cX12_worked, 3, RX12, (some .int), ⟨d, 0, 0, 40 * d⟩, "worked")
set_option maxRecDepth 20000 in
set_option maxHeartbeats 1000000 in
theorem sg_X12_worked_0 {E : Nat × (Nat → Int32)} {d : Nat} {P : Option Value → Mem → Prop} {mem : Mem} {a0 : Int} {a1 : Int} {a2 : Int} (w1 : -2147483648 ≤ a0 ∧ a0 < 2147483648) (w2 : -2147483648 ≤ a1 ∧ a1 < 2147483648) (w3 : -2147483648 ≤ a2 ∧ a2 < 2147483648) (z4 : ¬ a0 = 0 → ¬ a0 = 1 → ¬ a0 = 2 → ¬ a0 = 3 → ¬ a0 = 4 → ¬ a0 = 5 → a2 ≠ 0 → a2 ≠ 0)
    (k1 : a0 = 0 → a2 ≤ a1 → GM E (m_X12_worked d) P 50 [vi a0, vi a1, vi a2] [vi 0] mem)
    (k2 : a0 = 0 → ¬ a2 ≤ a1 → GM E (m_X12_worked d) P 50 [vi a0, vi a1, vi a2] [vi 1] mem)
    (k3 : ¬ a0 = 0 → a0 = 1 → a1 ≤ a2 → GM E (m_X12_worked d) P 64 [vi a0, vi a1, vi a2] [vi 0] mem)
    (k4 : ¬ a0 = 0 → a0 = 1 → ¬ a1 ≤ a2 → GM E (m_X12_worked d) P 64 [vi a0, vi a1, vi a2] [vi 1] mem)
    (k5 : ¬ a0 = 0 → ¬ a0 = 1 → a0 = 2 → a1 ≠ a2 → GM E (m_X12_worked d) P 78 [vi a0, vi a1, vi a2] [vi 0] mem)
    (k6 : ¬ a0 = 0 → ¬ a0 = 1 → a0 = 2 → a1 = a2 → GM E (m_X12_worked d) P 78 [vi a0, vi a1, vi a2] [vi 1] mem)
    (k7 : ¬ a0 = 0 → ¬ a0 = 1 → ¬ a0 = 2 → a0 = 3 → P (some (vi (a1 + a2))) mem)
    (k8 : ¬ a0 = 0 → ¬ a0 = 1 → ¬ a0 = 2 → ¬ a0 = 3 → a0 = 4 → P (some (vi (a1 - a2))) mem)
    (k9 : ¬ a0 = 0 → ¬ a0 = 1 → ¬ a0 = 2 → ¬ a0 = 3 → ¬ a0 = 4 → a0 = 5 → P (some (vi (a1 * a2))) mem)
    (k10 : ¬ a0 = 0 → ¬ a0 = 1 → ¬ a0 = 2 → ¬ a0 = 3 → ¬ a0 = 4 → ¬ a0 = 5 → a2 ≠ 0 → P (some (vi (divI a1 a2))) mem)
    (k11 : ¬ a0 = 0 → ¬ a0 = 1 → ¬ a0 = 2 → ¬ a0 = 3 → ¬ a0 = 4 → ¬ a0 = 5 → a2 = 0 → P (some (vi 0)) mem) :
    GM E (m_X12_worked d) P 0 [vi a0, vi a1, vi a2] [] mem := by
  refine G_iload_n dX12_worked_0 rfl ?_
  by_cases c1 : a0 = 0
  · refine G_tableIn (off := 39) (tgt := 40) dX12_worked_1 (w1) (by omega) (by omega) (by rw [c1]; rfl) (by decide) ?_
    refine G_iload_n dX12_worked_40 rfl ?_
    refine G_iload_n dX12_worked_41 rfl ?_
    refine G_icmp_ge (tgt := 49) dX12_worked_42 (by decide) (w2) (w3) (fun c2 => ?_) (fun c2 => ?_)
    · -- a2 ≤ a1
      refine G_iconst (z := 0) dX12_worked_49 rfl ?_
      exact k1 c1 c2
    · -- ¬ a2 ≤ a1
      refine G_iconst (z := 1) dX12_worked_45 rfl ?_
      refine G_goto (tgt := 50) dX12_worked_46 (by decide) ?_
      exact k2 c1 c2
  by_cases c3 : a0 = 1
  · refine G_tableIn (off := 53) (tgt := 54) dX12_worked_1 (w1) (by omega) (by omega) (by rw [c3]; rfl) (by decide) ?_
    refine G_iload_n dX12_worked_54 rfl ?_
    refine G_iload_n dX12_worked_55 rfl ?_
    refine G_icmp_le (tgt := 63) dX12_worked_56 (by decide) (w2) (w3) (fun c4 => ?_) (fun c4 => ?_)
    · -- a1 ≤ a2
      refine G_iconst (z := 0) dX12_worked_63 rfl ?_
      exact k3 c1 c3 c4
    · -- ¬ a1 ≤ a2
      refine G_iconst (z := 1) dX12_worked_59 rfl ?_
      refine G_goto (tgt := 64) dX12_worked_60 (by decide) ?_
      exact k4 c1 c3 c4
  by_cases c5 : a0 = 2
  · refine G_tableIn (off := 67) (tgt := 68) dX12_worked_1 (w1) (by omega) (by omega) (by rw [c5]; rfl) (by decide) ?_
    refine G_iload_n dX12_worked_68 rfl ?_
    refine G_iload_n dX12_worked_69 rfl ?_
    refine G_icmp_ne (tgt := 77) dX12_worked_70 (by decide) (w2) (w3) (fun c6 => ?_) (fun c6 => ?_)
    · -- a1 ≠ a2
      refine G_iconst (z := 0) dX12_worked_77 rfl ?_
      exact k5 c1 c3 c5 c6
    · -- a1 = a2
      refine G_iconst (z := 1) dX12_worked_73 rfl ?_
      refine G_goto (tgt := 78) dX12_worked_74 (by decide) ?_
      exact k6 c1 c3 c5 c6
  by_cases c7 : a0 = 3
  · refine G_tableIn (off := 81) (tgt := 82) dX12_worked_1 (w1) (by omega) (by omega) (by rw [c7]; rfl) (by decide) ?_
    refine G_iload_n dX12_worked_82 rfl ?_
    refine G_iload_n dX12_worked_83 rfl ?_
    refine G_iadd dX12_worked_84 ?_
    exact G_iret dX12_worked_85 rfl (Nat.zero_le _) (Nat.zero_le _) (Nat.le_refl _) ⟨rfl, k7 c1 c3 c5 c7⟩
  by_cases c8 : a0 = 4
  · refine G_tableIn (off := 85) (tgt := 86) dX12_worked_1 (w1) (by omega) (by omega) (by rw [c8]; rfl) (by decide) ?_
    refine G_iload_n dX12_worked_86 rfl ?_
    refine G_iload_n dX12_worked_87 rfl ?_
    refine G_isub dX12_worked_88 ?_
    exact G_iret dX12_worked_89 rfl (Nat.zero_le _) (Nat.zero_le _) (Nat.le_refl _) ⟨rfl, k8 c1 c3 c5 c7 c8⟩
  by_cases c9 : a0 = 5
  · refine G_tableIn (off := 89) (tgt := 90) dX12_worked_1 (w1) (by omega) (by omega) (by rw [c9]; rfl) (by decide) ?_
    refine G_iload_n dX12_worked_90 rfl ?_
    refine G_iload_n dX12_worked_91 rfl ?_
    refine G_imul dX12_worked_92 ?_
    exact G_iret dX12_worked_93 rfl (Nat.zero_le _) (Nat.zero_le _) (Nat.le_refl _) ⟨rfl, k9 c1 c3 c5 c7 c8 c9⟩
  refine G_tableOut (tgt := 94) dX12_worked_1 (w1) (by omega) (by decide) ?_
  refine G_iload_n dX12_worked_94 rfl ?_
  refine G_if_ne (tgt := 102) dX12_worked_95 (by decide) (w3) (fun c10 => ?_) (fun c10 => ?_)
  · -- a2 ≠ 0
    refine G_iload_n dX12_worked_102 rfl ?_
    refine G_iload_n dX12_worked_103 rfl ?_
    refine G_idiv (z := (divI a1 a2)) dX12_worked_104 (iI_ne0 (w3) (z4 c1 c3 c5 c7 c8 c9 c10)) (iI_inv _) ?_
    exact G_iret dX12_worked_105 rfl (Nat.zero_le _) (Nat.zero_le _) (Nat.le_refl _) ⟨rfl, k10 c1 c3 c5 c7 c8 c9 c10⟩
  · -- a2 = 0
    refine G_iconst (z := 0) dX12_worked_98 rfl ?_
    refine G_goto (tgt := 105) dX12_worked_99 (by decide) ?_
    exact G_iret dX12_worked_105 rfl (Nat.zero_le _) (Nat.zero_le _) (Nat.le_refl _) ⟨rfl, k11 c1 c3 c5 c7 c8 c9 c10⟩
set_option maxRecDepth 20000 in
set_option maxHeartbeats 1000000 in
theorem sg_X12_worked_53 {E : Nat × (Nat → Int32)} {d : Nat} {P : Option Value → Mem → Prop} {mem : Mem} {a0 : Int} {a1 : Int} {a2 : Int} {s0 : Int}
    (k1 : P (some (vi s0)) mem) :
    GM E (m_X12_worked d) P 53 [vi a0, vi a1, vi a2] [vi s0] mem := by
  exact G_iret dX12_worked_53 rfl (Nat.zero_le _) (Nat.zero_le _) (Nat.le_refl _) ⟨rfl, k1⟩
set_option maxRecDepth 20000 in
set_option maxHeartbeats 1000000 in
theorem sg_X12_worked_67 {E : Nat × (Nat → Int32)} {d : Nat} {P : Option Value → Mem → Prop} {mem : Mem} {a0 : Int} {a1 : Int} {a2 : Int} {s0 : Int}
    (k1 : P (some (vi s0)) mem) :
    GM E (m_X12_worked d) P 67 [vi a0, vi a1, vi a2] [vi s0] mem := by
  exact G_iret dX12_worked_67 rfl (Nat.zero_le _) (Nat.zero_le _) (Nat.le_refl _) ⟨rfl, k1⟩
set_option maxRecDepth 20000 in
set_option maxHeartbeats 1000000 in
theorem sg_X12_worked_81 {E : Nat × (Nat → Int32)} {d : Nat} {P : Option Value → Mem → Prop} {mem : Mem} {a0 : Int} {a1 : Int} {a2 : Int} {s0 : Int}
    (k1 : P (some (vi s0)) mem) :
    GM E (m_X12_worked d) P 81 [vi a0, vi a1, vi a2] [vi s0] mem := by
  exact G_iret dX12_worked_81 rfl (Nat.zero_le _) (Nat.zero_le _) (Nat.le_refl _) ⟨rfl, k1⟩
abbrev m_X12_wouldLoad (d : Nat) : Mu := (cX12_wouldLoad, 5, RX12, (some .int), ⟨d, 0, 0, 40 * d⟩, "wouldLoad")
set_option maxRecDepth 20000 in
set_option maxHeartbeats 1000000 in
theorem sg_X12_wouldLoad_0 {E : Nat × (Nat → Int32)} {d : Nat} {P : Option Value → Mem → Prop} {mem : Mem} {r1 : Nat} {n1 : Nat} {a2 : Int} (hl1 : r1 < 209) (hs1 : SH[r1]? = some (.inr (0, n1)))
    (k1 : GM E (m_X12_wouldLoad d) P 8 [.ref 169, .ref r1, vi a2, vi 0, vi (16 * a2)] [] mem) :
    GM E (m_X12_wouldLoad d) P 0 [.ref 169, .ref r1, vi a2, un, un] [] mem := by
  refine G_iconst (z := 0) dX12_wouldLoad_0 rfl ?_
  refine G_istore_n dX12_wouldLoad_1 rfl (by decide : 3 < 5) rfl ?_
  refine G_bipush (z := 16) dX12_wouldLoad_2 rfl ?_
  refine G_iload_n dX12_wouldLoad_4 rfl ?_
  refine G_imul dX12_wouldLoad_5 ?_
  refine G_istore dX12_wouldLoad_6 (by decide : 4 < 5) rfl ?_
  exact k1
set_option maxRecDepth 20000 in
set_option maxHeartbeats 1000000 in
theorem sg_X12_wouldLoad_8 {E : Nat × (Nat → Int32)} {d : Nat} {P : Option Value → Mem → Prop} {mem : Mem} {r1 : Nat} {n1 : Nat} {a2 : Int} {a3 : Int} {a4 : Int} (hl1 : r1 < 209) (hs1 : SH[r1]? = some (.inr (0, n1))) (w1 : -2147483648 ≤ a4 ∧ a4 < 2147483648) (w2 : -2147483648 ≤ (16 * (a2 + 1)) ∧ (16 * (a2 + 1)) < 2147483648) (q3 : ¬ (16 * (a2 + 1)) ≤ a4 → 0 ≤ a4 ∧ a4 < (n1 : Int)) (n4 : n1 < 2147483648) (w5 : ¬ (16 * (a2 + 1)) ≤ a4 → -2147483648 ≤ (mem r1 a4) ∧ (mem r1 a4) < 2147483648)
    (k1 : (16 * (a2 + 1)) ≤ a4 → P (some (vi a3)) mem)
    (k2 : ¬ (16 * (a2 + 1)) ≤ a4 → (mem r1 a4) ≠ 1 → GM E (m_X12_wouldLoad d) P 8 [.ref 169, .ref r1, vi a2, vi (a3 + 0), vi (a4 + 1)] [] mem)
    (k3 : ¬ (16 * (a2 + 1)) ≤ a4 → (mem r1 a4) = 1 → GM E (m_X12_wouldLoad d) P 31 [.ref 169, .ref r1, vi a2, vi a3, vi a4] [vi a4, .ref 169, vi a3] mem) :
    GM E (m_X12_wouldLoad d) P 8 [.ref 169, .ref r1, vi a2, vi a3, vi a4] [] mem := by
  refine G_iload dX12_wouldLoad_8 rfl ?_
  refine G_bipush (z := 16) dX12_wouldLoad_10 rfl ?_
  refine G_iload_n dX12_wouldLoad_12 rfl ?_
  refine G_iconst (z := 1) dX12_wouldLoad_13 rfl ?_
  refine G_iadd dX12_wouldLoad_14 ?_
  refine G_imul dX12_wouldLoad_15 ?_
  refine G_icmp_ge (tgt := 61) dX12_wouldLoad_16 (by decide) (w1) (w2) (fun c1 => ?_) (fun c1 => ?_)
  · -- (16 * (a2 + 1)) ≤ a4
    refine G_iload_n dX12_wouldLoad_61 rfl ?_
    exact G_iret dX12_wouldLoad_62 rfl (Nat.zero_le _) (Nat.zero_le _) (Nat.le_refl _) ⟨rfl, k1 c1⟩
  · -- ¬ (16 * (a2 + 1)) ≤ a4
    refine G_iload_n dX12_wouldLoad_19 rfl ?_
    refine G_aload_n dX12_wouldLoad_20 rfl ?_
    refine G_iload dX12_wouldLoad_21 rfl ?_
    refine G_iald (z := (mem r1 a4)) dX12_wouldLoad_23 hl1 hs1 (n4) (q3 c1).1 (q3 c1).2 rfl ?_
    refine G_iconst (z := 1) dX12_wouldLoad_24 rfl ?_
    refine G_icmp_ne (tgt := 52) dX12_wouldLoad_25 (by decide) (w5 c1) (by decide) (fun c2 => ?_) (fun c2 => ?_)
    · -- (mem r1 a4) ≠ 1
      refine G_iconst (z := 0) dX12_wouldLoad_52 rfl ?_
      refine G_iadd dX12_wouldLoad_53 ?_
      refine G_istore_n dX12_wouldLoad_54 rfl (by decide : 3 < 5) rfl ?_
      refine G_iinc (z := (a4 + 1)) dX12_wouldLoad_55 rfl rfl (by decide : 4 < 5) rfl ?_
      refine G_goto (tgt := 8) dX12_wouldLoad_58 (by decide) ?_
      exact k2 c1 c2
    · -- (mem r1 a4) = 1
      refine G_aload_n dX12_wouldLoad_28 rfl ?_
      refine G_iload dX12_wouldLoad_29 rfl ?_
      exact k3 c1 c2
set_option maxRecDepth 20000 in
set_option maxHeartbeats 1000000 in
theorem sg_X12_wouldLoad_34 {E : Nat × (Nat → Int32)} {d : Nat} {P : Option Value → Mem → Prop} {mem : Mem} {r1 : Nat} {n1 : Nat} {a2 : Int} {a3 : Int} {a4 : Int} {s0 : Int} {s1 : Int} (hl1 : r1 < 209) (hs1 : SH[r1]? = some (.inr (0, n1))) (w1 : -2147483648 ≤ s0 ∧ s0 < 2147483648) (w2 : -2147483648 ≤ (mem 179 4) ∧ (mem 179 4) < 2147483648)
    (k1 : (mem 179 4) < s0 → GM E (m_X12_wouldLoad d) P 8 [.ref 169, .ref r1, vi a2, vi (s1 + 0), vi (a4 + 1)] [] mem)
    (k2 : ¬ (mem 179 4) < s0 → GM E (m_X12_wouldLoad d) P 46 [.ref 169, .ref r1, vi a2, vi a3, vi a4] [vi a4, .ref 169, vi s1] mem) :
    GM E (m_X12_wouldLoad d) P 34 [.ref 169, .ref r1, vi a2, vi a3, vi a4] [vi s0, vi s1] mem := by
  refine G_aload_n dX12_wouldLoad_34 rfl ?_
  refine G_getR (t := 179) dX12_wouldLoad_35 fl_12_39 (by decide) sh_169 rr_169_13 ?_
  refine G_iconst (z := 4) dX12_wouldLoad_38 rfl ?_
  refine G_iald (z := (mem 179 4)) dX12_wouldLoad_39 (by decide) sh_179 (by decide) (by decide) (by decide) rfl ?_
  refine G_icmp_gt (tgt := 52) dX12_wouldLoad_40 (by decide) (w1) (w2) (fun c1 => ?_) (fun c1 => ?_)
  · -- (mem 179 4) < s0
    refine G_iconst (z := 0) dX12_wouldLoad_52 rfl ?_
    refine G_iadd dX12_wouldLoad_53 ?_
    refine G_istore_n dX12_wouldLoad_54 rfl (by decide : 3 < 5) rfl ?_
    refine G_iinc (z := (a4 + 1)) dX12_wouldLoad_55 rfl rfl (by decide : 4 < 5) rfl ?_
    refine G_goto (tgt := 8) dX12_wouldLoad_58 (by decide) ?_
    exact k1 c1
  · -- ¬ (mem 179 4) < s0
    refine G_aload_n dX12_wouldLoad_43 rfl ?_
    refine G_iload dX12_wouldLoad_44 rfl ?_
    exact k2 c1
set_option maxRecDepth 20000 in
set_option maxHeartbeats 1000000 in
theorem sg_X12_wouldLoad_49 {E : Nat × (Nat → Int32)} {d : Nat} {P : Option Value → Mem → Prop} {mem : Mem} {r1 : Nat} {n1 : Nat} {a2 : Int} {a3 : Int} {a4 : Int} {s0 : Int} {s1 : Int} (hl1 : r1 < 209) (hs1 : SH[r1]? = some (.inr (0, n1)))
    (k1 : GM E (m_X12_wouldLoad d) P 8 [.ref 169, .ref r1, vi a2, vi (s1 + s0), vi (a4 + 1)] [] mem) :
    GM E (m_X12_wouldLoad d) P 49 [.ref 169, .ref r1, vi a2, vi a3, vi a4] [vi s0, vi s1] mem := by
  refine G_goto (tgt := 53) dX12_wouldLoad_49 (by decide) ?_
  refine G_iadd dX12_wouldLoad_53 ?_
  refine G_istore_n dX12_wouldLoad_54 rfl (by decide : 3 < 5) rfl ?_
  refine G_iinc (z := (a4 + 1)) dX12_wouldLoad_55 rfl rfl (by decide : 4 < 5) rfl ?_
  refine G_goto (tgt := 8) dX12_wouldLoad_58 (by decide) ?_
  exact k1
