theorem u81_0 {d : Nat} {l1 : Int} {M : Mem} {K : KK} {Q : RR → Mem → KK → Prop} (hK : K.1 = 922) (hX : FX M)  (h : ((0 : Int) < l1 → l1 ≠ 0 ∧ Q (.inl (some (vI (Int.tmod (jand (jushr (w32 ((w32 ((M 146 1) * (1103515245 : Int))) + (12345 : Int))) (16 : Int)) (32767 : Int)) l1)))) (mset M 146 1 (w32 ((w32 ((M 146 1) * (1103515245 : Int))) + (12345 : Int)))) K) ∧ (¬ ((0 : Int) < l1) → Q (.inl (some (vI (0 : Int)))) (mset M 146 1 (w32 ((w32 ((M 146 1) * (1103515245 : Int))) + (12345 : Int)))) K)) : Wp d 81 0 [vR 146, vI l1] [] M K Q := by
  refine r_aload_n c81_0 rfl ?_
  refine r_aload_n c81_1 rfl ?_
  refine r_getIe c81_2 (oK hK o146) rfl ?_
  refine r_ldci c81_5 ?_
  refine r_imul c81_7 ?_
  refine r_sipush c81_8 ?_
  refine r_iadd c81_11 ?_
  refine r_putI c81_12 (oK hK o146) ?_
  have x1 := FX.set (v := (w32 ((w32 ((M 146 1) * (1103515245 : Int))) + (12345 : Int)))) (a := 146) (k := 1) hX (by decide +kernel)
  refine r_iload_n c81_15 rfl ?_
  refine r_ifP (P := (0 : Int) < l1) c81_16 rfl (fun hc2 => ?_) (fun hc2 => ?_)
  · replace h := h.1 hc2
    refine r_aload_n c81_23 rfl ?_
    refine r_getIe c81_24 (oK hK o146) ms_eq ?_
    refine r_bipush c81_27 ?_
    refine r_iushr c81_29 ?_
    refine r_sipush c81_30 ?_
    refine r_iand c81_33 ?_
    refine r_iload_n c81_34 rfl ?_
    obtain ⟨s3, h⟩ := h
    refine r_irem c81_35 s3 ?_
    exact r_iret c81_36 (Or.inl rfl) h
  · replace h := h.2 hc2
    refine r_iconst c81_19 ?_
    refine r_goto c81_20 ?_
    exact r_iret c81_36 (Or.inl rfl) h
theorem u80_0 {d : Nat} {l1 : Nat} {l2 : Nat} {l3 : Int} {l4 : Int} {l5 : Int} {l6 : Int} {M : Mem} {K : KK} {Q : RR → Mem → KK → Prop} (hK : K.1 = 922) (hX : FX M) (k1 : isO 922 l1 0 = true) (k2 : isO 922 l2 3 = true) (h : ∃ c1 : Mem, ∃ s2 : Mem, ((147 + 4 < l2 ∨ l2 + 4 < 147) ∧ CW c1 ∧ LK M l2 c1 s2) ∧ (∀ (M6 : Mem), FX M6 → (FrI 147 M M6 ∧ LK M6 147 c1 s2 ∧ (∀ b j, l2 ≤ b → b ≤ l2 + 4 → M6 b j = M b j)) → Wp (d + 4) 80 26 [vR 146, vR l1, vR l2, vI l3, vI l4, vI l5, vI l6, vI (0 : Int), vU] [] (mset (mset (mset M6 146 1 l3) 146 2 (0 : Int)) 146 3 (0 : Int)) K Q)) : Wp (d + 4) 80 0 [vR 146, vR l1, vR l2, vI l3, vI l4, vI l5, vI l6, vU, vU] [] M K Q := by
  refine r_aload_n c80_0 rfl ?_
  refine r_getR c80_1 (oK hK o146) (FX.get (b := 147) hX (by decide) (by decide +kernel) (by decide)) (by decide) ?_
  refine r_aload_n c80_4 rfl ?_
  obtain ⟨c1, h⟩ := h
  obtain ⟨s2, h⟩ := h
  obtain ⟨p3, h⟩ := h
  refine r_call c80_5 rfl rfl (Nat.le_of_ble_eq_true rfl) (okc_r rfl rfl (oK hK o147)) (g30 hK hX o147 k2 p3 (fun M6 x4 p5 => Bk_n ?_))
  replace h := h M6 x4 p5
  refine r_aload_n c80_8 rfl ?_
  refine r_iload_n c80_9 rfl ?_
  refine r_putI c80_10 (oK hK o146) ?_
  have x7 := FX.set (v := l3) (a := 146) (k := 1) x4 (by decide +kernel)
  refine r_aload_n c80_13 rfl ?_
  refine r_iconst c80_14 ?_
  refine r_putI c80_15 (oK hK o146) ?_
  have x8 := FX.set (v := (0 : Int)) (a := 146) (k := 2) x7 (by decide +kernel)
  refine r_aload_n c80_18 rfl ?_
  refine r_iconst c80_19 ?_
  refine r_putI c80_20 (oK hK o146) ?_
  have x9 := FX.set (v := (0 : Int)) (a := 146) (k := 3) x8 (by decide +kernel)
  refine r_iconst c80_23 ?_
  refine r_istore c80_24 (Nat.le_of_ble_eq_true rfl) ?_
  exact h
theorem u80_26 {d : Nat} {l1 : Nat} {l2 : Nat} {l3 : Int} {l4 : Int} {l5 : Int} {l6 : Int} {l7 : Int} {l8 : PV} {M : Mem} {K : KK} {Q : RR → Mem → KK → Prop} (hK : K.1 = 922) (hX : FX M) (k1 : isO 922 l1 0 = true) (k2 : isO 922 l2 3 = true) (h : (l4 ≤ l7 → Q (.inl none) M K) ∧ (¬ (l4 ≤ l7) → ∃ c2 : Mem, (CC M l1 c2 ∧ CW c2) ∧ Wm (d + 3) 81 [vR 146, vI (16 : Int)] M K (Bk (d + 3) 80 49 52 81 [vR 146, vR l1, vR l2, vI l3, vI l4, vI l5, vI l6, vI l7, vI (rainS c2 (M 147 4))] [] Q))) : Wp (d + 4) 80 26 [vR 146, vR l1, vR l2, vI l3, vI l4, vI l5, vI l6, vI l7, l8] [] M K Q := by
  refine r_iload c80_26 rfl ?_
  refine r_iload c80_28 rfl ?_
  refine r_icmpP (P := l4 ≤ l7) c80_30 rfl (fun hc1 => ?_) (fun hc1 => ?_)
  · replace h := h.1 hc1
    exact r_ret c80_142 h
  · replace h := h.2 hc1
    refine r_aload_n c80_33 rfl ?_
    refine r_aload_n c80_34 rfl ?_
    refine r_getR c80_35 (oK hK o146) (FX.get (b := 147) hX (by decide) (by decide +kernel) (by decide)) (by decide) ?_
    refine r_getIe c80_38 (oK hK o147) rfl ?_
    obtain ⟨c2, h⟩ := h
    obtain ⟨p3, h⟩ := h
    refine r_call c80_41 rfl rfl (Nat.le_of_ble_eq_true rfl) (okc_r rfl rfl (oK hK k1)) (g7 hK hX k1 p3 (Bk_v ?_))
    refine r_istore c80_44 (Nat.le_of_ble_eq_true rfl) ?_
    refine r_aload_n c80_46 rfl ?_
    refine r_bipush c80_47 ?_
    exact r_call c80_49 rfl rfl (Nat.le_of_ble_eq_true rfl) (okc_r rfl rfl (oK hK o146)) h
theorem u80_52 {d : Nat} {l1 : Nat} {l2 : Nat} {l3 : Int} {l4 : Int} {l5 : Int} {l6 : Int} {l7 : Int} {l8 : Int} {t0 : Int} {M : Mem} {K : KK} {Q : RR → Mem → KK → Prop} (hK : K.1 = 922) (hX : FX M) (k1 : isO 922 l1 0 = true) (k2 : isO 922 l2 3 = true) (h : (l5 ≤ t0 → Wm (d + 3) 81 [vR 146, vI (16 : Int)] M K (Bk (d + 3) 80 78 81 81 [vR 146, vR l1, vR l2, vI l3, vI l4, vI l5, vI l6, vI l7, vI l8] [] Q)) ∧ (¬ (l5 ≤ t0) → Wm (d + 3) 81 [vR 146, vI (10 : Int)] M K (Bk (d + 3) 80 60 63 81 [vR 146, vR l1, vR l2, vI l3, vI l4, vI l5, vI l6, vI l7, vI l8] [] Q))) : Wp (d + 4) 80 52 [vR 146, vR l1, vR l2, vI l3, vI l4, vI l5, vI l6, vI l7, vI l8] [vI t0] M K Q := by
  refine r_iload c80_52 rfl ?_
  refine r_icmpP (P := l5 ≤ t0) c80_54 rfl (fun hc1 => ?_) (fun hc1 => ?_)
  · replace h := h.1 hc1
    refine r_aload_n c80_75 rfl ?_
    refine r_bipush c80_76 ?_
    exact r_call c80_78 rfl rfl (Nat.le_of_ble_eq_true rfl) (okc_r rfl rfl (oK hK o146)) h
  · replace h := h.2 hc1
    refine r_aload_n c80_57 rfl ?_
    refine r_bipush c80_58 ?_
    exact r_call c80_60 rfl rfl (Nat.le_of_ble_eq_true rfl) (okc_r rfl rfl (oK hK o146)) h
theorem u80_63 {d : Nat} {l1 : Nat} {l2 : Nat} {l3 : Int} {l4 : Int} {l5 : Int} {l6 : Int} {l7 : Int} {l8 : Int} {t0 : Int} {M : Mem} {K : KK} {Q : RR → Mem → KK → Prop} (hK : K.1 = 922) (hX : FX M) (k1 : isO 922 l1 0 = true) (k2 : isO 922 l2 3 = true) (h : Wm (d + 3) 81 [vR 146, vI (16 : Int)] (mset M 146 3 (w32 ((M 146 3) + (1 : Int)))) K (Bk (d + 3) 80 78 81 81 [vR 146, vR l1, vR l2, vI l3, vI l4, vI l5, vI l6, vI l7, vI t0] [] Q)) : Wp (d + 4) 80 63 [vR 146, vR l1, vR l2, vI l3, vI l4, vI l5, vI l6, vI l7, vI l8] [vI t0] M K Q := by
  refine r_istore c80_63 (Nat.le_of_ble_eq_true rfl) ?_
  refine r_aload_n c80_65 rfl ?_
  refine r_dupr c80_66 ?_
  refine r_getIe c80_67 (oK hK o146) rfl ?_
  refine r_iconst c80_70 ?_
  refine r_iadd c80_71 ?_
  refine r_putI c80_72 (oK hK o146) ?_
  have x1 := FX.set (v := (w32 ((M 146 3) + (1 : Int)))) (a := 146) (k := 3) hX (by decide +kernel)
  refine r_aload_n c80_75 rfl ?_
  refine r_bipush c80_76 ?_
  exact r_call c80_78 rfl rfl (Nat.le_of_ble_eq_true rfl) (okc_r rfl rfl (oK hK o146)) h
theorem u80_81 {d : Nat} {l1 : Nat} {l2 : Nat} {l3 : Int} {l4 : Int} {l5 : Int} {l6 : Int} {l7 : Int} {l8 : Int} {t0 : Int} {M : Mem} {K : KK} {Q : RR → Mem → KK → Prop} (hK : K.1 = 922) (hX : FX M) (k1 : isO 922 l1 0 = true) (k2 : isO 922 l2 3 = true) (h : (l6 ≤ t0 → ∃ c2 : Mem, ∃ s3 : Mem, ∃ L4 : LC, ∃ l5 : Nat, (SKc M l1 147 c2 s3 ∧ LWC M l1 L4 l5 ∧ s3 4 0 < 2000) ∧ (∀ (M9 : Mem), FX M9 → (FrI 147 M M9 ∧ LK M9 147 c2 (dayS c2 L4 s3 l8)) → Wp (d + 4) 80 26 [vR 146, vR l1, vR l2, vI l3, vI l4, vI l5, vI l6, vI (w32 (l7 + 1)), vI l8] [] M9 K Q)) ∧ (¬ (l6 ≤ t0) → ((M l1 5) ≤ (0 : Int) → ∃ c11 : Mem, ∃ s12 : Mem, ∃ L13 : LC, ∃ l14 : Nat, (SKc M l1 147 c11 s12 ∧ LWC M l1 L13 l14 ∧ s12 4 0 < 2000) ∧ (∀ (M18 : Mem), FX M18 → (FrI 147 M M18 ∧ LK M18 147 c11 (dayS c11 L13 s12 l8)) → Wp (d + 4) 80 26 [vR 146, vR l1, vR l2, vI l3, vI l4, vI l5, vI l6, vI (w32 (l7 + 1)), vI l8] [] M18 K Q)) ∧ (¬ ((M l1 5) ≤ (0 : Int)) → Wm (d + 3) 81 [vR 146, vI (M l1 5)] M K (Bk (d + 3) 80 108 111 81 [vR 146, vR l1, vR l2, vI l3, vI l4, vI l5, vI l6, vI l7, vI l8] [vR l1, vR 147, vI (M 146 2), vR 146] Q)))) : Wp (d + 4) 80 81 [vR 146, vR l1, vR l2, vI l3, vI l4, vI l5, vI l6, vI l7, vI l8] [vI t0] M K Q := by
  refine r_iload c80_81 rfl ?_
  refine r_icmpP (P := l6 ≤ t0) c80_83 rfl (fun hc1 => ?_) (fun hc1 => ?_)
  · replace h := h.1 hc1
    refine r_aload_n c80_126 rfl ?_
    refine r_getR c80_127 (oK hK o146) (FX.get (b := 147) hX (by decide) (by decide +kernel) (by decide)) (by decide) ?_
    refine r_aload_n c80_130 rfl ?_
    refine r_iload c80_131 rfl ?_
    obtain ⟨c2, h⟩ := h
    obtain ⟨s3, h⟩ := h
    obtain ⟨L4, h⟩ := h
    obtain ⟨l5, h⟩ := h
    obtain ⟨p6, h⟩ := h
    refine r_call c80_133 rfl rfl (Nat.le_of_ble_eq_true rfl) (okc_r rfl rfl (oK hK o147)) (g36 hK hX o147 k1 p6 (fun M9 x7 p8 => Bk_n ?_))
    replace h := h M9 x7 p8
    refine r_iinc c80_136 rfl ?_
    refine r_goto c80_139 ?_
    exact h
  · replace h := h.2 hc1
    refine r_aload_n c80_86 rfl ?_
    refine r_getIe c80_87 (oK hK k1) rfl ?_
    refine r_ifP (P := (M l1 5) ≤ (0 : Int)) c80_90 rfl (fun hc10 => ?_) (fun hc10 => ?_)
    · replace h := h.1 hc10
      refine r_aload_n c80_126 rfl ?_
      refine r_getR c80_127 (oK hK o146) (FX.get (b := 147) hX (by decide) (by decide +kernel) (by decide)) (by decide) ?_
      refine r_aload_n c80_130 rfl ?_
      refine r_iload c80_131 rfl ?_
      obtain ⟨c11, h⟩ := h
      obtain ⟨s12, h⟩ := h
      obtain ⟨L13, h⟩ := h
      obtain ⟨l14, h⟩ := h
      obtain ⟨p15, h⟩ := h
      refine r_call c80_133 rfl rfl (Nat.le_of_ble_eq_true rfl) (okc_r rfl rfl (oK hK o147)) (g36 hK hX o147 k1 p15 (fun M18 x16 p17 => Bk_n ?_))
      replace h := h M18 x16 p17
      refine r_iinc c80_136 rfl ?_
      refine r_goto c80_139 ?_
      exact h
    · replace h := h.2 hc10
      refine r_aload_n c80_93 rfl ?_
      refine r_dupr c80_94 ?_
      refine r_getIe c80_95 (oK hK o146) rfl ?_
      refine r_aload_n c80_98 rfl ?_
      refine r_getR c80_99 (oK hK o146) (FX.get (b := 147) hX (by decide) (by decide +kernel) (by decide)) (by decide) ?_
      refine r_aload_n c80_102 rfl ?_
      refine r_aload_n c80_103 rfl ?_
      refine r_aload_n c80_104 rfl ?_
      refine r_getIe c80_105 (oK hK k1) rfl ?_
      exact r_call c80_108 rfl rfl (Nat.le_of_ble_eq_true rfl) (okc_r rfl rfl (oK hK o146)) h
theorem u80_111 {d : Nat} {l1 : Nat} {l2 : Nat} {l3 : Int} {l4 : Int} {l5 : Int} {l6 : Int} {l7 : Int} {l8 : Int} {t1 : Int} {t4 : Int} {M : Mem} {K : KK} {Q : RR → Mem → KK → Prop} (hK : K.1 = 922) (hX : FX M) (k1 : isO 922 l1 0 = true) (k2 : isO 922 l2 3 = true) (h : ∃ c1 : Mem, ∃ s2 : Mem, SKc M l1 147 c1 s2 ∧ (∀ (M6 : Mem), FX M6 → (FrI 147 M M6 ∧ LK M6 147 c1 (digS c1 s2 t4)) → (¬ (lyOn c1 s2 t4 ≠ -1) → ∃ c10 : Mem, ∃ s11 : Mem, ∃ L12 : LC, ∃ l13 : Nat, (SKc (mset M6 146 2 (w32 (t1 + (0 : Int)))) l1 147 c10 s11 ∧ LWC (mset M6 146 2 (w32 (t1 + (0 : Int)))) l1 L12 l13 ∧ s11 4 0 < 2000) ∧ (∀ (M17 : Mem), FX M17 → (FrI 147 (mset M6 146 2 (w32 (t1 + (0 : Int)))) M17 ∧ LK M17 147 c10 (dayS c10 L12 s11 l8)) → Wp (d + 4) 80 26 [vR 146, vR l1, vR l2, vI l3, vI l4, vI l5, vI l6, vI (w32 (l7 + 1)), vI l8] [] M17 K Q)) ∧ ((lyOn c1 s2 t4 ≠ -1) → ∃ c19 : Mem, ∃ s20 : Mem, ∃ L21 : LC, ∃ l22 : Nat, (SKc (mset M6 146 2 (w32 (t1 + (1 : Int)))) l1 147 c19 s20 ∧ LWC (mset M6 146 2 (w32 (t1 + (1 : Int)))) l1 L21 l22 ∧ s20 4 0 < 2000) ∧ (∀ (M26 : Mem), FX M26 → (FrI 147 (mset M6 146 2 (w32 (t1 + (1 : Int)))) M26 ∧ LK M26 147 c19 (dayS c19 L21 s20 l8)) → Wp (d + 4) 80 26 [vR 146, vR l1, vR l2, vI l3, vI l4, vI l5, vI l6, vI (w32 (l7 + 1)), vI l8] [] M26 K Q)))) : Wp (d + 4) 80 111 [vR 146, vR l1, vR l2, vI l3, vI l4, vI l5, vI l6, vI l7, vI l8] [vI t4, vR l1, vR 147, vI t1, vR 146] M K Q := by
  obtain ⟨c1, h⟩ := h
  obtain ⟨s2, h⟩ := h
  obtain ⟨p3, h⟩ := h
  refine r_call c80_111 rfl rfl (Nat.le_of_ble_eq_true rfl) (okc_r rfl rfl (oK hK o147)) (g35 hK hX o147 k1 p3 (fun M6 x4 p5 => Bk_v ?_))
  replace h := h M6 x4 p5
  refine r_ifP (P := ¬ (lyOn c1 s2 t4 ≠ -1)) c80_114 bI_eq (fun hc7 => ?_) (fun hc7 => ?_)
  · replace h := h.1 hc7
    refine r_iconst c80_121 ?_
    refine r_iadd c80_122 ?_
    refine r_putI c80_123 (oK hK o146) ?_
    have x9 := FX.set (v := (w32 (t1 + (0 : Int)))) (a := 146) (k := 2) x4 (by decide +kernel)
    refine r_aload_n c80_126 rfl ?_
    refine r_getR c80_127 (oK hK o146) (FX.get (b := 147) x9 (by decide) (by decide +kernel) (by decide)) (by decide) ?_
    refine r_aload_n c80_130 rfl ?_
    refine r_iload c80_131 rfl ?_
    obtain ⟨c10, h⟩ := h
    obtain ⟨s11, h⟩ := h
    obtain ⟨L12, h⟩ := h
    obtain ⟨l13, h⟩ := h
    obtain ⟨p14, h⟩ := h
    refine r_call c80_133 rfl rfl (Nat.le_of_ble_eq_true rfl) (okc_r rfl rfl (oK hK o147)) (g36 hK x9 o147 k1 p14 (fun M17 x15 p16 => Bk_n ?_))
    replace h := h M17 x15 p16
    refine r_iinc c80_136 rfl ?_
    refine r_goto c80_139 ?_
    exact h
  · have hc8 := Classical.not_not.mp hc7
    replace h := h.2 hc8
    refine r_iconst c80_117 ?_
    refine r_goto c80_118 ?_
    refine r_iadd c80_122 ?_
    refine r_putI c80_123 (oK hK o146) ?_
    have x18 := FX.set (v := (w32 (t1 + (1 : Int)))) (a := 146) (k := 2) x4 (by decide +kernel)
    refine r_aload_n c80_126 rfl ?_
    refine r_getR c80_127 (oK hK o146) (FX.get (b := 147) x18 (by decide) (by decide +kernel) (by decide)) (by decide) ?_
    refine r_aload_n c80_130 rfl ?_
    refine r_iload c80_131 rfl ?_
    obtain ⟨c19, h⟩ := h
    obtain ⟨s20, h⟩ := h
    obtain ⟨L21, h⟩ := h
    obtain ⟨l22, h⟩ := h
    obtain ⟨p23, h⟩ := h
    refine r_call c80_133 rfl rfl (Nat.le_of_ble_eq_true rfl) (okc_r rfl rfl (oK hK o147)) (g36 hK x18 o147 k1 p23 (fun M26 x24 p25 => Bk_n ?_))
    replace h := h M26 x24 p25
    refine r_iinc c80_136 rfl ?_
    refine r_goto c80_139 ?_
    exact h
theorem u248_0 {d : Nat} {l1 : Int} {M : Mem} {K : KK} {Q : RR → Mem → KK → Prop} (hK : K.1 = 922) (hX : FX M)  (h : l1 ≠ 0 ∧ Q (.inl (some (vI (Int.tmod (jand (jshr (w32 ((w32 ((M 439 47) * (1103515245 : Int))) + (12345 : Int))) (16 : Int)) (32767 : Int)) l1)))) (mset M 439 47 (w32 ((w32 ((M 439 47) * (1103515245 : Int))) + (12345 : Int)))) K) : Wp d 248 0 [vR 439, vI l1] [] M K Q := by
  refine r_aload_n c248_0 rfl ?_
  refine r_aload_n c248_1 rfl ?_
  refine r_getIe c248_2 (oK hK o439) rfl ?_
  refine r_ldcw c248_5 ?_
  refine r_imul c248_8 ?_
  refine r_sipush c248_9 ?_
  refine r_iadd c248_12 ?_
  refine r_putI c248_13 (oK hK o439) ?_
  have x1 := FX.set (v := (w32 ((w32 ((M 439 47) * (1103515245 : Int))) + (12345 : Int)))) (a := 439) (k := 47) hX (by decide +kernel)
  refine r_aload_n c248_16 rfl ?_
  refine r_getIe c248_17 (oK hK o439) ms_eq ?_
  refine r_bipush c248_20 ?_
  refine r_ishr c248_22 ?_
  refine r_sipush c248_23 ?_
  refine r_iand c248_26 ?_
  refine r_iload_n c248_27 rfl ?_
  obtain ⟨s2, h⟩ := h
  refine r_irem c248_28 s2 ?_
  exact r_iret c248_29 (Or.inl rfl) h
theorem u249_0 {d : Nat} {l1 : Int} {l2 : Int} {l3 : Int} {l4 : Int} {M : Mem} {K : KK} {Q : RR → Mem → KK → Prop} (hK : K.1 = 922) (hX : FX M)  (h : (isO 922 887 20 = true ∧ L27 887 ∧ isO 922 888 20 = true ∧ L27 888 ∧ 887 ≠ 888) ∧ (∀ (M4 : Mem), FX M4 → (Fr1 888 M M4 ∧ ∀ j, j < 27 → M4 888 j = M 887 j) → Wp (d + 6) 249 29 [vR 439, vI l1, vI l2, vI l3, vI l4, vI (0 : Int), vU] [] (mset (mset (mset M4 439 47 l1) 439 48 (0 : Int)) 439 49 (0 : Int)) K Q)) : Wp (d + 6) 249 0 [vR 439, vI l1, vI l2, vI l3, vI l4, vU, vU] [] M K Q := by
  refine r_aload_n c249_0 rfl ?_
  refine r_getR c249_1 (oK hK o439) (FX.get (b := 887) hX (by decide) (by decide +kernel) (by decide)) (by decide) ?_
  refine r_aload_n c249_4 rfl ?_
  refine r_getR c249_5 (oK hK o439) (FX.get (b := 888) hX (by decide) (by decide +kernel) (by decide)) (by decide) ?_
  obtain ⟨p1, h⟩ := h
  refine r_call c249_8 rfl rfl (Nat.le_of_ble_eq_true rfl) (okc_s rfl rfl rfl) (g178 hK hX p1 (fun M4 x2 p3 => Bk_n ?_))
  replace h := h M4 x2 p3
  refine r_aload_n c249_11 rfl ?_
  refine r_iload_n c249_12 rfl ?_
  refine r_putI c249_13 (oK hK o439) ?_
  have x5 := FX.set (v := l1) (a := 439) (k := 47) x2 (by decide +kernel)
  refine r_aload_n c249_16 rfl ?_
  refine r_iconst c249_17 ?_
  refine r_putI c249_18 (oK hK o439) ?_
  have x6 := FX.set (v := (0 : Int)) (a := 439) (k := 48) x5 (by decide +kernel)
  refine r_aload_n c249_21 rfl ?_
  refine r_iconst c249_22 ?_
  refine r_putI c249_23 (oK hK o439) ?_
  have x7 := FX.set (v := (0 : Int)) (a := 439) (k := 49) x6 (by decide +kernel)
  refine r_iconst c249_26 ?_
  refine r_istore c249_27 (Nat.le_of_ble_eq_true rfl) ?_
  exact h
theorem u249_29 {d : Nat} {l1 : Int} {l2 : Int} {l3 : Int} {l4 : Int} {l5 : Int} {l6 : PV} {M : Mem} {K : KK} {Q : RR → Mem → KK → Prop} (hK : K.1 = 922) (hX : FX M)  (h : (l2 ≤ l5 → Q (.inl none) M K) ∧ (¬ (l2 ≤ l5) → Wm (d + 5) 248 [vR 439, vI (16 : Int)] M K (Bk (d + 5) 249 38 41 248 [vR 439, vI l1, vI l2, vI l3, vI l4, vI l5, l6] [] Q))) : Wp (d + 6) 249 29 [vR 439, vI l1, vI l2, vI l3, vI l4, vI l5, l6] [] M K Q := by
  refine r_iload c249_29 rfl ?_
  refine r_iload_n c249_31 rfl ?_
  refine r_icmpP (P := l2 ≤ l5) c249_32 rfl (fun hc1 => ?_) (fun hc1 => ?_)
  · replace h := h.1 hc1
    exact r_ret c249_162 h
  · replace h := h.2 hc1
    refine r_aload_n c249_35 rfl ?_
    refine r_bipush c249_36 ?_
    exact r_call c249_38 rfl rfl (Nat.le_of_ble_eq_true rfl) (okc_r rfl rfl (oK hK o439)) h
theorem u249_41 {d : Nat} {l1 : Int} {l2 : Int} {l3 : Int} {l4 : Int} {l5 : Int} {l6 : PV} {t0 : Int} {M : Mem} {K : KK} {Q : RR → Mem → KK → Prop} (hK : K.1 = 922) (hX : FX M)  (h : (l3 ≤ t0 → Wm (d + 5) 248 [vR 439, vI (16 : Int)] (mset (mset M 888 26 (-1 : Int)) 439 49 (w32 ((M 439 49) + (0 : Int)))) K (Bk (d + 5) 249 96 99 248 [vR 439, vI l1, vI l2, vI l3, vI l4, vI l5, vI (0 : Int)] [] Q)) ∧ (¬ (l3 ≤ t0) → Wm (d + 5) 248 [vR 439, vI (10 : Int)] M K (Bk (d + 5) 249 66 69 248 [vR 439, vI l1, vI l2, vI l3, vI l4, vI l5, vI (1 : Int)] [vI (26 : Int), vR 888] Q))) : Wp (d + 6) 249 41 [vR 439, vI l1, vI l2, vI l3, vI l4, vI l5, l6] [vI t0] M K Q := by
  refine r_iload_n c249_41 rfl ?_
  refine r_icmpP (P := l3 ≤ t0) c249_42 rfl (fun hc1 => ?_) (fun hc1 => ?_)
  · replace h := h.1 hc1
    refine r_iconst c249_49 ?_
    refine r_istore c249_50 (Nat.le_of_ble_eq_true rfl) ?_
    refine r_aload_n c249_52 rfl ?_
    refine r_getR c249_53 (oK hK o439) (FX.get (b := 888) hX (by decide) (by decide +kernel) (by decide)) (by decide) ?_
    refine r_bipush c249_56 ?_
    refine r_iload c249_58 rfl ?_
    refine r_ifP (P := (0 : Int) = (0 : Int)) c249_60 rfl (fun hc => ?_) (fun hc => absurd (by decide) hc)
    refine r_iconst c249_72 ?_
    refine r_ias c249_73 (oK hK o888) (bd l888 (by decide)) ?_
    have x2 := FX.set (v := (-1 : Int)) (a := 888) (k := 26) hX (nfa o888 _)
    refine r_aload_n c249_74 rfl ?_
    refine r_dupr c249_75 ?_
    refine r_getIe c249_76 (oK hK o439) (ms_na (by decide)) ?_
    refine r_iload c249_79 rfl ?_
    refine r_ifP (P := (0 : Int) = (0 : Int)) c249_81 rfl (fun hc => ?_) (fun hc => absurd (by decide) hc)
    refine r_iconst c249_88 ?_
    refine r_iadd c249_89 ?_
    refine r_putI c249_90 (oK hK o439) ?_
    have x3 := FX.set (v := (w32 ((M 439 49) + (0 : Int)))) (a := 439) (k := 49) x2 (by decide +kernel)
    refine r_aload_n c249_93 rfl ?_
    refine r_bipush c249_94 ?_
    exact r_call c249_96 rfl rfl (Nat.le_of_ble_eq_true rfl) (okc_r rfl rfl (oK hK o439)) h
  · replace h := h.2 hc1
    refine r_iconst c249_45 ?_
    refine r_goto c249_46 ?_
    refine r_istore c249_50 (Nat.le_of_ble_eq_true rfl) ?_
    refine r_aload_n c249_52 rfl ?_
    refine r_getR c249_53 (oK hK o439) (FX.get (b := 888) hX (by decide) (by decide +kernel) (by decide)) (by decide) ?_
    refine r_bipush c249_56 ?_
    refine r_iload c249_58 rfl ?_
    refine r_ifP (P := (1 : Int) = (0 : Int)) c249_60 rfl (fun hc => absurd hc (by decide)) (fun hc => ?_)
    refine r_aload_n c249_63 rfl ?_
    refine r_bipush c249_64 ?_
    exact r_call c249_66 rfl rfl (Nat.le_of_ble_eq_true rfl) (okc_r rfl rfl (oK hK o439)) h
theorem u249_69 {d : Nat} {l1 : Int} {l2 : Int} {l3 : Int} {l4 : Int} {l5 : Int} {l6 : Int} {t1 : Int} {t2 : Int} {M : Mem} {K : KK} {Q : RR → Mem → KK → Prop} (hK : K.1 = 922) (hX : FX M)  (h : (0 ≤ t1 ∧ t1 < (27 : Int)) ∧ (l6 = (0 : Int) → Wm (d + 5) 248 [vR 439, vI (16 : Int)] (mset (mset M 888 (Int.toNat t1) t2) 439 49 (w32 ((M 439 49) + (0 : Int)))) K (Bk (d + 5) 249 96 99 248 [vR 439, vI l1, vI l2, vI l3, vI l4, vI l5, vI l6] [] Q)) ∧ (¬ (l6 = (0 : Int)) → Wm (d + 5) 248 [vR 439, vI (16 : Int)] (mset (mset M 888 (Int.toNat t1) t2) 439 49 (w32 ((M 439 49) + (1 : Int)))) K (Bk (d + 5) 249 96 99 248 [vR 439, vI l1, vI l2, vI l3, vI l4, vI l5, vI l6] [] Q))) : Wp (d + 6) 249 69 [vR 439, vI l1, vI l2, vI l3, vI l4, vI l5, vI l6] [vI t2, vI t1, vR 888] M K Q := by
  refine r_goto c249_69 ?_
  obtain ⟨s1, h⟩ := h
  refine r_ias c249_73 (oK hK o888) (bd l888 s1) ?_
  have x2 := FX.set (v := t2) (a := 888) (k := (Int.toNat t1)) hX (nfa o888 _)
  refine r_aload_n c249_74 rfl ?_
  refine r_dupr c249_75 ?_
  refine r_getIe c249_76 (oK hK o439) (ms_na (by decide)) ?_
  refine r_iload c249_79 rfl ?_
  refine r_ifP (P := l6 = (0 : Int)) c249_81 rfl (fun hc3 => ?_) (fun hc3 => ?_)
  · replace h := h.1 hc3
    refine r_iconst c249_88 ?_
    refine r_iadd c249_89 ?_
    refine r_putI c249_90 (oK hK o439) ?_
    have x4 := FX.set (v := (w32 ((M 439 49) + (0 : Int)))) (a := 439) (k := 49) x2 (by decide +kernel)
    refine r_aload_n c249_93 rfl ?_
    refine r_bipush c249_94 ?_
    exact r_call c249_96 rfl rfl (Nat.le_of_ble_eq_true rfl) (okc_r rfl rfl (oK hK o439)) h
  · replace h := h.2 hc3
    refine r_iconst c249_84 ?_
    refine r_goto c249_85 ?_
    refine r_iadd c249_89 ?_
    refine r_putI c249_90 (oK hK o439) ?_
    have x5 := FX.set (v := (w32 ((M 439 49) + (1 : Int)))) (a := 439) (k := 49) x2 (by decide +kernel)
    refine r_aload_n c249_93 rfl ?_
    refine r_bipush c249_94 ?_
    exact r_call c249_96 rfl rfl (Nat.le_of_ble_eq_true rfl) (okc_r rfl rfl (oK hK o439)) h
theorem u249_99 {d : Nat} {l1 : Int} {l2 : Int} {l3 : Int} {l4 : Int} {l5 : Int} {l6 : Int} {t0 : Int} {M : Mem} {K : KK} {Q : RR → Mem → KK → Prop} (hK : K.1 = 922) (hX : FX M)  (h : (l4 ≤ t0 → ∃ c2 : Mem, ∃ s3 : Mem, ∃ L4 : LC, ∃ dr5 : Int, (SM M 888 c2 s3 dr5 ∧ LM M L4 ∧ s3 4 0 < 2000) ∧ (∀ (M9 : Mem), FX M9 → (FrJ 888 M M9 ∧ LMr M9 888 c2 (dayS c2 L4 s3 (rainM c2 s3 dr5)) ∧ M9 888 26 = dr5) → Wp (d + 6) 249 29 [vR 439, vI l1, vI l2, vI l3, vI l4, vI (w32 (l5 + 1)), vI l6] [] M9 K Q)) ∧ (¬ (l4 ≤ t0) → ((M 443 0) ≤ (0 : Int) → ∃ c11 : Mem, ∃ s12 : Mem, ∃ L13 : LC, ∃ dr14 : Int, (SM M 888 c11 s12 dr14 ∧ LM M L13 ∧ s12 4 0 < 2000) ∧ (∀ (M18 : Mem), FX M18 → (FrJ 888 M M18 ∧ LMr M18 888 c11 (dayS c11 L13 s12 (rainM c11 s12 dr14)) ∧ M18 888 26 = dr14) → Wp (d + 6) 249 29 [vR 439, vI l1, vI l2, vI l3, vI l4, vI (w32 (l5 + 1)), vI l6] [] M18 K Q)) ∧ (¬ ((M 443 0) ≤ (0 : Int)) → Wm (d + 5) 248 [vR 439, vI (M 443 0)] M K (Bk (d + 5) 249 130 133 248 [vR 439, vI l1, vI l2, vI l3, vI l4, vI l5, vI l6] [vR 888, vR 439, vI (M 439 48), vR 439] Q)))) : Wp (d + 6) 249 99 [vR 439, vI l1, vI l2, vI l3, vI l4, vI l5, vI l6] [vI t0] M K Q := by
  refine r_iload c249_99 rfl ?_
  refine r_icmpP (P := l4 ≤ t0) c249_101 rfl (fun hc1 => ?_) (fun hc1 => ?_)
  · replace h := h.1 hc1
    refine r_aload_n c249_148 rfl ?_
    refine r_aload_n c249_149 rfl ?_
    refine r_getR c249_150 (oK hK o439) (FX.get (b := 888) hX (by decide) (by decide +kernel) (by decide)) (by decide) ?_
    obtain ⟨c2, h⟩ := h
    obtain ⟨s3, h⟩ := h
    obtain ⟨L4, h⟩ := h
    obtain ⟨dr5, h⟩ := h
    obtain ⟨p6, h⟩ := h
    refine r_call c249_153 rfl rfl (Nat.le_of_ble_eq_true rfl) (okc_r rfl rfl (oK hK o439)) (g198 hK hX o888 l888 p6 (fun M9 x7 p8 => Bk_n ?_))
    replace h := h M9 x7 p8
    refine r_iinc c249_156 rfl ?_
    refine r_goto c249_159 ?_
    exact h
  · replace h := h.2 hc1
    refine r_aload_n c249_104 rfl ?_
    refine r_getR c249_105 (oK hK o439) (FX.get (b := 443) hX (by decide) (by decide +kernel) (by decide)) (by decide) ?_
    refine r_iconst c249_108 ?_
    refine r_iae c249_109 (oK hK o443) (bd l443 (by decide)) rfl ?_
    refine r_ifP (P := (M 443 0) ≤ (0 : Int)) c249_110 rfl (fun hc10 => ?_) (fun hc10 => ?_)
    · replace h := h.1 hc10
      refine r_aload_n c249_148 rfl ?_
      refine r_aload_n c249_149 rfl ?_
      refine r_getR c249_150 (oK hK o439) (FX.get (b := 888) hX (by decide) (by decide +kernel) (by decide)) (by decide) ?_
      obtain ⟨c11, h⟩ := h
      obtain ⟨s12, h⟩ := h
      obtain ⟨L13, h⟩ := h
      obtain ⟨dr14, h⟩ := h
      obtain ⟨p15, h⟩ := h
      refine r_call c249_153 rfl rfl (Nat.le_of_ble_eq_true rfl) (okc_r rfl rfl (oK hK o439)) (g198 hK hX o888 l888 p15 (fun M18 x16 p17 => Bk_n ?_))
      replace h := h M18 x16 p17
      refine r_iinc c249_156 rfl ?_
      refine r_goto c249_159 ?_
      exact h
    · replace h := h.2 hc10
      refine r_aload_n c249_113 rfl ?_
      refine r_dupr c249_114 ?_
      refine r_getIe c249_115 (oK hK o439) rfl ?_
      refine r_aload_n c249_118 rfl ?_
      refine r_aload_n c249_119 rfl ?_
      refine r_getR c249_120 (oK hK o439) (FX.get (b := 888) hX (by decide) (by decide +kernel) (by decide)) (by decide) ?_
      refine r_aload_n c249_123 rfl ?_
      refine r_aload_n c249_124 rfl ?_
      refine r_getR c249_125 (oK hK o439) (FX.get (b := 443) hX (by decide) (by decide +kernel) (by decide)) (by decide) ?_
      refine r_iconst c249_128 ?_
      refine r_iae c249_129 (oK hK o443) (bd l443 (by decide)) rfl ?_
      exact r_call c249_130 rfl rfl (Nat.le_of_ble_eq_true rfl) (okc_r rfl rfl (oK hK o439)) h
theorem u249_133 {d : Nat} {l1 : Int} {l2 : Int} {l3 : Int} {l4 : Int} {l5 : Int} {l6 : Int} {t1 : Int} {t4 : Int} {M : Mem} {K : KK} {Q : RR → Mem → KK → Prop} (hK : K.1 = 922) (hX : FX M)  (h : ∃ c1 : Mem, ∃ s2 : Mem, ∃ dr3 : Int, SM M 888 c1 s2 dr3 ∧ (∀ (M7 : Mem), FX M7 → (FrJ 888 M M7 ∧ LMr M7 888 c1 (digS c1 s2 t4) ∧ M7 888 26 = dr3) → (¬ (lyOn c1 s2 t4 ≠ -1) → ∃ c11 : Mem, ∃ s12 : Mem, ∃ L13 : LC, ∃ dr14 : Int, (SM (mset M7 439 48 (w32 (t1 + (0 : Int)))) 888 c11 s12 dr14 ∧ LM (mset M7 439 48 (w32 (t1 + (0 : Int)))) L13 ∧ s12 4 0 < 2000) ∧ (∀ (M18 : Mem), FX M18 → (FrJ 888 (mset M7 439 48 (w32 (t1 + (0 : Int)))) M18 ∧ LMr M18 888 c11 (dayS c11 L13 s12 (rainM c11 s12 dr14)) ∧ M18 888 26 = dr14) → Wp (d + 6) 249 29 [vR 439, vI l1, vI l2, vI l3, vI l4, vI (w32 (l5 + 1)), vI l6] [] M18 K Q)) ∧ ((lyOn c1 s2 t4 ≠ -1) → ∃ c20 : Mem, ∃ s21 : Mem, ∃ L22 : LC, ∃ dr23 : Int, (SM (mset M7 439 48 (w32 (t1 + (1 : Int)))) 888 c20 s21 dr23 ∧ LM (mset M7 439 48 (w32 (t1 + (1 : Int)))) L22 ∧ s21 4 0 < 2000) ∧ (∀ (M27 : Mem), FX M27 → (FrJ 888 (mset M7 439 48 (w32 (t1 + (1 : Int)))) M27 ∧ LMr M27 888 c20 (dayS c20 L22 s21 (rainM c20 s21 dr23)) ∧ M27 888 26 = dr23) → Wp (d + 6) 249 29 [vR 439, vI l1, vI l2, vI l3, vI l4, vI (w32 (l5 + 1)), vI l6] [] M27 K Q)))) : Wp (d + 6) 249 133 [vR 439, vI l1, vI l2, vI l3, vI l4, vI l5, vI l6] [vI t4, vR 888, vR 439, vI t1, vR 439] M K Q := by
  obtain ⟨c1, h⟩ := h
  obtain ⟨s2, h⟩ := h
  obtain ⟨dr3, h⟩ := h
  obtain ⟨p4, h⟩ := h
  refine r_call c249_133 rfl rfl (Nat.le_of_ble_eq_true rfl) (okc_r rfl rfl (oK hK o439)) (g199 hK hX o888 l888 p4 (fun M7 x5 p6 => Bk_v ?_))
  replace h := h M7 x5 p6
  refine r_ifP (P := ¬ (lyOn c1 s2 t4 ≠ -1)) c249_136 bI_eq (fun hc8 => ?_) (fun hc8 => ?_)
  · replace h := h.1 hc8
    refine r_iconst c249_143 ?_
    refine r_iadd c249_144 ?_
    refine r_putI c249_145 (oK hK o439) ?_
    have x10 := FX.set (v := (w32 (t1 + (0 : Int)))) (a := 439) (k := 48) x5 (by decide +kernel)
    refine r_aload_n c249_148 rfl ?_
    refine r_aload_n c249_149 rfl ?_
    refine r_getR c249_150 (oK hK o439) (FX.get (b := 888) x10 (by decide) (by decide +kernel) (by decide)) (by decide) ?_
    obtain ⟨c11, h⟩ := h
    obtain ⟨s12, h⟩ := h
    obtain ⟨L13, h⟩ := h
    obtain ⟨dr14, h⟩ := h
    obtain ⟨p15, h⟩ := h
    refine r_call c249_153 rfl rfl (Nat.le_of_ble_eq_true rfl) (okc_r rfl rfl (oK hK o439)) (g198 hK x10 o888 l888 p15 (fun M18 x16 p17 => Bk_n ?_))
    replace h := h M18 x16 p17
    refine r_iinc c249_156 rfl ?_
    refine r_goto c249_159 ?_
    exact h
  · have hc9 := Classical.not_not.mp hc8
    replace h := h.2 hc9
    refine r_iconst c249_139 ?_
    refine r_goto c249_140 ?_
    refine r_iadd c249_144 ?_
    refine r_putI c249_145 (oK hK o439) ?_
    have x19 := FX.set (v := (w32 (t1 + (1 : Int)))) (a := 439) (k := 48) x5 (by decide +kernel)
    refine r_aload_n c249_148 rfl ?_
    refine r_aload_n c249_149 rfl ?_
    refine r_getR c249_150 (oK hK o439) (FX.get (b := 888) x19 (by decide) (by decide +kernel) (by decide)) (by decide) ?_
    obtain ⟨c20, h⟩ := h
    obtain ⟨s21, h⟩ := h
    obtain ⟨L22, h⟩ := h
    obtain ⟨dr23, h⟩ := h
    obtain ⟨p24, h⟩ := h
    refine r_call c249_153 rfl rfl (Nat.le_of_ble_eq_true rfl) (okc_r rfl rfl (oK hK o439)) (g198 hK x19 o888 l888 p24 (fun M27 x25 p26 => Bk_n ?_))
    replace h := h M27 x25 p26
    refine r_iinc c249_156 rfl ?_
    refine r_goto c249_159 ?_
    exact h
