theorem u80_0 {d : Nat} {l1 : Nat} {l2 : Nat} {l3 : Int} {l4 : Int} {l5 : Int} {l6 : Int} {M : Mem} {K : KK} {Q : RR → Mem → KK → Prop} (hK : K.1 = 923) (hX : FX M) (k1 : isO 923 l1 0 = true) (k2 : isO 923 l2 3 = true) (h : ∃ c1 : Mem, ∃ s2 : Mem, ((148 + 4 < l2 ∨ l2 + 4 < 148) ∧ CW c1 ∧ LK M l2 c1 s2) ∧ (∀ (M6 : Mem), FX M6 → (FrI 148 M M6 ∧ LK M6 148 c1 s2 ∧ (∀ b j, l2 ≤ b → b ≤ l2 + 4 → M6 b j = M b j)) → Wp (d + 4) 80 26 [vR 147, vR l1, vR l2, vI l3, vI l4, vI l5, vI l6, vI (0 : Int), vU] [] (mset (mset (mset M6 147 1 l3) 147 2 (0 : Int)) 147 3 (0 : Int)) K Q)) : Wp (d + 4) 80 0 [vR 147, vR l1, vR l2, vI l3, vI l4, vI l5, vI l6, vU, vU] [] M K Q := by
  refine r_aload_n c80_0 rfl ?_
  refine r_getR c80_1 (oK hK o147) (FX.get (b := 148) hX (by decide) (by decide +kernel) (by decide)) (by decide) ?_
  refine r_aload_n c80_4 rfl ?_
  obtain ⟨c1, h⟩ := h
  obtain ⟨s2, h⟩ := h
  obtain ⟨p3, h⟩ := h
  refine r_call c80_5 rfl rfl (Nat.le_of_ble_eq_true rfl) (okc_r rfl rfl (oK hK o148)) (g30 hK hX o148 k2 p3 (fun M6 x4 p5 => Bk_n ?_))
  replace h := h M6 x4 p5
  refine r_aload_n c80_8 rfl ?_
  refine r_iload_n c80_9 rfl ?_
  refine r_putI c80_10 (oK hK o147) ?_
  have x7 := FX.set (v := l3) (a := 147) (k := 1) x4 (by decide +kernel)
  refine r_aload_n c80_13 rfl ?_
  refine r_iconst c80_14 ?_
  refine r_putI c80_15 (oK hK o147) ?_
  have x8 := FX.set (v := (0 : Int)) (a := 147) (k := 2) x7 (by decide +kernel)
  refine r_aload_n c80_18 rfl ?_
  refine r_iconst c80_19 ?_
  refine r_putI c80_20 (oK hK o147) ?_
  have x9 := FX.set (v := (0 : Int)) (a := 147) (k := 3) x8 (by decide +kernel)
  refine r_iconst c80_23 ?_
  refine r_istore c80_24 (Nat.le_of_ble_eq_true rfl) ?_
  exact h
theorem u80_26 {d : Nat} {l1 : Nat} {l2 : Nat} {l3 : Int} {l4 : Int} {l5 : Int} {l6 : Int} {l7 : Int} {l8 : PV} {M : Mem} {K : KK} {Q : RR → Mem → KK → Prop} (hK : K.1 = 923) (hX : FX M) (k1 : isO 923 l1 0 = true) (k2 : isO 923 l2 3 = true) (h : (l4 ≤ l7 → Q (.inl none) M K) ∧ (¬ (l4 ≤ l7) → ∃ c2 : Mem, (CC M l1 c2 ∧ CW c2) ∧ True ∧ (∀ (M7 : Mem), FX M7 → ((∀ a j, ¬ (a = 147 ∧ j = 1) → M7 a j = M a j) ∧ M7 147 1 = seedN (M 147 1)) → (l5 ≤ (drawN (M 147 1) (16 : Int)) → Wp (d + 4) 80 75 [vR 147, vR l1, vR l2, vI l3, vI l4, vI l5, vI l6, vI l7, vI (rainS c2 (M 148 4))] [] M7 K Q) ∧ (¬ (l5 ≤ (drawN (M 147 1) (16 : Int))) → True ∧ (∀ (M12 : Mem), FX M12 → ((∀ a j, ¬ (a = 147 ∧ j = 1) → M12 a j = M7 a j) ∧ M12 147 1 = seedN (M7 147 1)) → Wp (d + 4) 80 75 [vR 147, vR l1, vR l2, vI l3, vI l4, vI l5, vI l6, vI l7, vI (drawN (M7 147 1) (10 : Int))] [] (mset M12 147 3 (w32 ((M12 147 3) + (1 : Int)))) K Q))))) : Wp (d + 4) 80 26 [vR 147, vR l1, vR l2, vI l3, vI l4, vI l5, vI l6, vI l7, l8] [] M K Q := by
  refine r_iload c80_26 rfl ?_
  refine r_iload c80_28 rfl ?_
  refine r_icmpP (P := l4 ≤ l7) c80_30 rfl (fun hc1 => ?_) (fun hc1 => ?_)
  · replace h := h.1 hc1
    exact r_ret c80_142 h
  · replace h := h.2 hc1
    refine r_aload_n c80_33 rfl ?_
    refine r_aload_n c80_34 rfl ?_
    refine r_getR c80_35 (oK hK o147) (FX.get (b := 148) hX (by decide) (by decide +kernel) (by decide)) (by decide) ?_
    refine r_getIe c80_38 (oK hK o148) rfl ?_
    obtain ⟨c2, h⟩ := h
    obtain ⟨p3, h⟩ := h
    refine r_call c80_41 rfl rfl (Nat.le_of_ble_eq_true rfl) (okc_r rfl rfl (oK hK k1)) (g7 hK hX k1 p3 (Bk_v ?_))
    refine r_istore c80_44 (Nat.le_of_ble_eq_true rfl) ?_
    refine r_aload_n c80_46 rfl ?_
    refine r_bipush c80_47 ?_
    obtain ⟨p4, h⟩ := h
    refine r_call c80_49 rfl rfl (Nat.le_of_ble_eq_true rfl) (okc_r rfl rfl (oK hK o147)) (g81z hK hX p4 (fun M7 x5 p6 => Bk_v ?_))
    replace h := h M7 x5 p6
    refine r_iload c80_52 rfl ?_
    refine r_icmpP (P := l5 ≤ (drawN (M 147 1) (16 : Int))) c80_54 rfl (fun hc8 => ?_) (fun hc8 => ?_)
    · replace h := h.1 hc8
      exact h
    · replace h := h.2 hc8
      refine r_aload_n c80_57 rfl ?_
      refine r_bipush c80_58 ?_
      obtain ⟨p9, h⟩ := h
      refine r_call c80_60 rfl rfl (Nat.le_of_ble_eq_true rfl) (okc_r rfl rfl (oK hK o147)) (g81z hK x5 p9 (fun M12 x10 p11 => Bk_v ?_))
      replace h := h M12 x10 p11
      refine r_istore c80_63 (Nat.le_of_ble_eq_true rfl) ?_
      refine r_aload_n c80_65 rfl ?_
      refine r_dupr c80_66 ?_
      refine r_getIe c80_67 (oK hK o147) rfl ?_
      refine r_iconst c80_70 ?_
      refine r_iadd c80_71 ?_
      refine r_putI c80_72 (oK hK o147) ?_
      have x13 := FX.set (v := (w32 ((M12 147 3) + (1 : Int)))) (a := 147) (k := 3) x10 (by decide +kernel)
      exact h
theorem u80_75 {d : Nat} {l1 : Nat} {l2 : Nat} {l3 : Int} {l4 : Int} {l5 : Int} {l6 : Int} {l7 : Int} {l8 : Int} {M : Mem} {K : KK} {Q : RR → Mem → KK → Prop} (hK : K.1 = 923) (hX : FX M) (k1 : isO 923 l1 0 = true) (k2 : isO 923 l2 3 = true) (h : True ∧ (∀ (M4 : Mem), FX M4 → ((∀ a j, ¬ (a = 147 ∧ j = 1) → M4 a j = M a j) ∧ M4 147 1 = seedN (M 147 1)) → (l6 ≤ (drawN (M 147 1) (16 : Int)) → ∃ c6 : Mem, ∃ s7 : Mem, ∃ L8 : LC, ∃ la9 : Nat, (SKc M4 l1 148 c6 s7 ∧ LWC M4 l1 L8 la9 ∧ s7 4 0 < 2000) ∧ (∀ (M13 : Mem), FX M13 → (FrI 148 M4 M13 ∧ LK M13 148 c6 (dayS c6 L8 s7 l8)) → Wp (d + 4) 80 26 [vR 147, vR l1, vR l2, vI l3, vI l4, vI l5, vI l6, vI (w32 (l7 + 1)), vI l8] [] M13 K Q)) ∧ (¬ (l6 ≤ (drawN (M 147 1) (16 : Int))) → ((M4 l1 5) ≤ (0 : Int) → ∃ c15 : Mem, ∃ s16 : Mem, ∃ L17 : LC, ∃ la18 : Nat, (SKc M4 l1 148 c15 s16 ∧ LWC M4 l1 L17 la18 ∧ s16 4 0 < 2000) ∧ (∀ (M22 : Mem), FX M22 → (FrI 148 M4 M22 ∧ LK M22 148 c15 (dayS c15 L17 s16 l8)) → Wp (d + 4) 80 26 [vR 147, vR l1, vR l2, vI l3, vI l4, vI l5, vI l6, vI (w32 (l7 + 1)), vI l8] [] M22 K Q)) ∧ (¬ ((M4 l1 5) ≤ (0 : Int)) → True ∧ (∀ (M26 : Mem), FX M26 → ((∀ a j, ¬ (a = 147 ∧ j = 1) → M26 a j = M4 a j) ∧ M26 147 1 = seedN (M4 147 1)) → ∃ c27 : Mem, ∃ s28 : Mem, SKc M26 l1 148 c27 s28 ∧ (∀ (M32 : Mem), FX M32 → (FrI 148 M26 M32 ∧ LK M32 148 c27 (digS c27 s28 (drawN (M4 147 1) (M4 l1 5)))) → (¬ (lyOn c27 s28 (drawN (M4 147 1) (M4 l1 5)) ≠ -1) → ∃ c36 : Mem, ∃ s37 : Mem, ∃ L38 : LC, ∃ la39 : Nat, (SKc (mset M32 147 2 (w32 ((M4 147 2) + (0 : Int)))) l1 148 c36 s37 ∧ LWC (mset M32 147 2 (w32 ((M4 147 2) + (0 : Int)))) l1 L38 la39 ∧ s37 4 0 < 2000) ∧ (∀ (M43 : Mem), FX M43 → (FrI 148 (mset M32 147 2 (w32 ((M4 147 2) + (0 : Int)))) M43 ∧ LK M43 148 c36 (dayS c36 L38 s37 l8)) → Wp (d + 4) 80 26 [vR 147, vR l1, vR l2, vI l3, vI l4, vI l5, vI l6, vI (w32 (l7 + 1)), vI l8] [] M43 K Q)) ∧ ((lyOn c27 s28 (drawN (M4 147 1) (M4 l1 5)) ≠ -1) → ∃ c45 : Mem, ∃ s46 : Mem, ∃ L47 : LC, ∃ la48 : Nat, (SKc (mset M32 147 2 (w32 ((M4 147 2) + (1 : Int)))) l1 148 c45 s46 ∧ LWC (mset M32 147 2 (w32 ((M4 147 2) + (1 : Int)))) l1 L47 la48 ∧ s46 4 0 < 2000) ∧ (∀ (M52 : Mem), FX M52 → (FrI 148 (mset M32 147 2 (w32 ((M4 147 2) + (1 : Int)))) M52 ∧ LK M52 148 c45 (dayS c45 L47 s46 l8)) → Wp (d + 4) 80 26 [vR 147, vR l1, vR l2, vI l3, vI l4, vI l5, vI l6, vI (w32 (l7 + 1)), vI l8] [] M52 K Q)))))))) : Wp (d + 4) 80 75 [vR 147, vR l1, vR l2, vI l3, vI l4, vI l5, vI l6, vI l7, vI l8] [] M K Q := by
  refine r_aload_n c80_75 rfl ?_
  refine r_bipush c80_76 ?_
  obtain ⟨p1, h⟩ := h
  refine r_call c80_78 rfl rfl (Nat.le_of_ble_eq_true rfl) (okc_r rfl rfl (oK hK o147)) (g81z hK hX p1 (fun M4 x2 p3 => Bk_v ?_))
  replace h := h M4 x2 p3
  refine r_iload c80_81 rfl ?_
  refine r_icmpP (P := l6 ≤ (drawN (M 147 1) (16 : Int))) c80_83 rfl (fun hc5 => ?_) (fun hc5 => ?_)
  · replace h := h.1 hc5
    refine r_aload_n c80_126 rfl ?_
    refine r_getR c80_127 (oK hK o147) (FX.get (b := 148) x2 (by decide) (by decide +kernel) (by decide)) (by decide) ?_
    refine r_aload_n c80_130 rfl ?_
    refine r_iload c80_131 rfl ?_
    obtain ⟨c6, h⟩ := h
    obtain ⟨s7, h⟩ := h
    obtain ⟨L8, h⟩ := h
    obtain ⟨la9, h⟩ := h
    obtain ⟨p10, h⟩ := h
    refine r_call c80_133 rfl rfl (Nat.le_of_ble_eq_true rfl) (okc_r rfl rfl (oK hK o148)) (g36 hK x2 o148 k1 p10 (fun M13 x11 p12 => Bk_n ?_))
    replace h := h M13 x11 p12
    refine r_iinc c80_136 rfl ?_
    refine r_goto c80_139 ?_
    exact h
  · replace h := h.2 hc5
    refine r_aload_n c80_86 rfl ?_
    refine r_getIe c80_87 (oK hK k1) rfl ?_
    refine r_ifP (P := (M4 l1 5) ≤ (0 : Int)) c80_90 rfl (fun hc14 => ?_) (fun hc14 => ?_)
    · replace h := h.1 hc14
      refine r_aload_n c80_126 rfl ?_
      refine r_getR c80_127 (oK hK o147) (FX.get (b := 148) x2 (by decide) (by decide +kernel) (by decide)) (by decide) ?_
      refine r_aload_n c80_130 rfl ?_
      refine r_iload c80_131 rfl ?_
      obtain ⟨c15, h⟩ := h
      obtain ⟨s16, h⟩ := h
      obtain ⟨L17, h⟩ := h
      obtain ⟨la18, h⟩ := h
      obtain ⟨p19, h⟩ := h
      refine r_call c80_133 rfl rfl (Nat.le_of_ble_eq_true rfl) (okc_r rfl rfl (oK hK o148)) (g36 hK x2 o148 k1 p19 (fun M22 x20 p21 => Bk_n ?_))
      replace h := h M22 x20 p21
      refine r_iinc c80_136 rfl ?_
      refine r_goto c80_139 ?_
      exact h
    · replace h := h.2 hc14
      refine r_aload_n c80_93 rfl ?_
      refine r_dupr c80_94 ?_
      refine r_getIe c80_95 (oK hK o147) rfl ?_
      refine r_aload_n c80_98 rfl ?_
      refine r_getR c80_99 (oK hK o147) (FX.get (b := 148) x2 (by decide) (by decide +kernel) (by decide)) (by decide) ?_
      refine r_aload_n c80_102 rfl ?_
      refine r_aload_n c80_103 rfl ?_
      refine r_aload_n c80_104 rfl ?_
      refine r_getIe c80_105 (oK hK k1) rfl ?_
      obtain ⟨p23, h⟩ := h
      refine r_call c80_108 rfl rfl (Nat.le_of_ble_eq_true rfl) (okc_r rfl rfl (oK hK o147)) (g81z hK x2 p23 (fun M26 x24 p25 => Bk_v ?_))
      replace h := h M26 x24 p25
      obtain ⟨c27, h⟩ := h
      obtain ⟨s28, h⟩ := h
      obtain ⟨p29, h⟩ := h
      refine r_call c80_111 rfl rfl (Nat.le_of_ble_eq_true rfl) (okc_r rfl rfl (oK hK o148)) (g35 hK x24 o148 k1 p29 (fun M32 x30 p31 => Bk_v ?_))
      replace h := h M32 x30 p31
      refine r_ifP (P := ¬ (lyOn c27 s28 (drawN (M4 147 1) (M4 l1 5)) ≠ -1)) c80_114 bI_eq (fun hc33 => ?_) (fun hc33 => ?_)
      · replace h := h.1 hc33
        refine r_iconst c80_121 ?_
        refine r_iadd c80_122 ?_
        refine r_putI c80_123 (oK hK o147) ?_
        have x35 := FX.set (v := (w32 ((M4 147 2) + (0 : Int)))) (a := 147) (k := 2) x30 (by decide +kernel)
        refine r_aload_n c80_126 rfl ?_
        refine r_getR c80_127 (oK hK o147) (FX.get (b := 148) x35 (by decide) (by decide +kernel) (by decide)) (by decide) ?_
        refine r_aload_n c80_130 rfl ?_
        refine r_iload c80_131 rfl ?_
        obtain ⟨c36, h⟩ := h
        obtain ⟨s37, h⟩ := h
        obtain ⟨L38, h⟩ := h
        obtain ⟨la39, h⟩ := h
        obtain ⟨p40, h⟩ := h
        refine r_call c80_133 rfl rfl (Nat.le_of_ble_eq_true rfl) (okc_r rfl rfl (oK hK o148)) (g36 hK x35 o148 k1 p40 (fun M43 x41 p42 => Bk_n ?_))
        replace h := h M43 x41 p42
        refine r_iinc c80_136 rfl ?_
        refine r_goto c80_139 ?_
        exact h
      · have hc34 := Classical.not_not.mp hc33
        replace h := h.2 hc34
        refine r_iconst c80_117 ?_
        refine r_goto c80_118 ?_
        refine r_iadd c80_122 ?_
        refine r_putI c80_123 (oK hK o147) ?_
        have x44 := FX.set (v := (w32 ((M4 147 2) + (1 : Int)))) (a := 147) (k := 2) x30 (by decide +kernel)
        refine r_aload_n c80_126 rfl ?_
        refine r_getR c80_127 (oK hK o147) (FX.get (b := 148) x44 (by decide) (by decide +kernel) (by decide)) (by decide) ?_
        refine r_aload_n c80_130 rfl ?_
        refine r_iload c80_131 rfl ?_
        obtain ⟨c45, h⟩ := h
        obtain ⟨s46, h⟩ := h
        obtain ⟨L47, h⟩ := h
        obtain ⟨la48, h⟩ := h
        obtain ⟨p49, h⟩ := h
        refine r_call c80_133 rfl rfl (Nat.le_of_ble_eq_true rfl) (okc_r rfl rfl (oK hK o148)) (g36 hK x44 o148 k1 p49 (fun M52 x50 p51 => Bk_n ?_))
        replace h := h M52 x50 p51
        refine r_iinc c80_136 rfl ?_
        refine r_goto c80_139 ?_
        exact h
theorem u249_0 {d : Nat} {l1 : Int} {l2 : Int} {l3 : Int} {l4 : Int} {M : Mem} {K : KK} {Q : RR → Mem → KK → Prop} (hK : K.1 = 923) (hX : FX M)  (h : (isO 923 888 20 = true ∧ L27 888 ∧ isO 923 889 20 = true ∧ L27 889 ∧ 888 ≠ 889) ∧ (∀ (M4 : Mem), FX M4 → (Fr1 889 M M4 ∧ ∀ j, j < 27 → M4 889 j = M 888 j) → Wp (d + 6) 249 29 [vR 440, vI l1, vI l2, vI l3, vI l4, vI (0 : Int), vU] [] (mset (mset (mset M4 440 47 l1) 440 48 (0 : Int)) 440 49 (0 : Int)) K Q)) : Wp (d + 6) 249 0 [vR 440, vI l1, vI l2, vI l3, vI l4, vU, vU] [] M K Q := by
  refine r_aload_n c249_0 rfl ?_
  refine r_getR c249_1 (oK hK o440) (FX.get (b := 888) hX (by decide) (by decide +kernel) (by decide)) (by decide) ?_
  refine r_aload_n c249_4 rfl ?_
  refine r_getR c249_5 (oK hK o440) (FX.get (b := 889) hX (by decide) (by decide +kernel) (by decide)) (by decide) ?_
  obtain ⟨p1, h⟩ := h
  refine r_call c249_8 rfl rfl (Nat.le_of_ble_eq_true rfl) (okc_s rfl rfl rfl) (g178 hK hX p1 (fun M4 x2 p3 => Bk_n ?_))
  replace h := h M4 x2 p3
  refine r_aload_n c249_11 rfl ?_
  refine r_iload_n c249_12 rfl ?_
  refine r_putI c249_13 (oK hK o440) ?_
  have x5 := FX.set (v := l1) (a := 440) (k := 47) x2 (by decide +kernel)
  refine r_aload_n c249_16 rfl ?_
  refine r_iconst c249_17 ?_
  refine r_putI c249_18 (oK hK o440) ?_
  have x6 := FX.set (v := (0 : Int)) (a := 440) (k := 48) x5 (by decide +kernel)
  refine r_aload_n c249_21 rfl ?_
  refine r_iconst c249_22 ?_
  refine r_putI c249_23 (oK hK o440) ?_
  have x7 := FX.set (v := (0 : Int)) (a := 440) (k := 49) x6 (by decide +kernel)
  refine r_iconst c249_26 ?_
  refine r_istore c249_27 (Nat.le_of_ble_eq_true rfl) ?_
  exact h
theorem u249_29 {d : Nat} {l1 : Int} {l2 : Int} {l3 : Int} {l4 : Int} {l5 : Int} {l6 : PV} {M : Mem} {K : KK} {Q : RR → Mem → KK → Prop} (hK : K.1 = 923) (hX : FX M)  (h : (l2 ≤ l5 → Q (.inl none) M K) ∧ (¬ (l2 ≤ l5) → 0 < (16 : Int) ∧ (∀ (M5 : Mem), FX M5 → ((∀ a j, ¬ (a = 440 ∧ j = 47) → M5 a j = M a j) ∧ M5 440 47 = seedN (M 440 47)) → (l3 ≤ (drawN (M 440 47) (16 : Int)) → Wp (d + 6) 249 50 [vR 440, vI l1, vI l2, vI l3, vI l4, vI l5, l6] [vI (0 : Int)] M5 K Q) ∧ (¬ (l3 ≤ (drawN (M 440 47) (16 : Int))) → Wp (d + 6) 249 50 [vR 440, vI l1, vI l2, vI l3, vI l4, vI l5, l6] [vI (1 : Int)] M5 K Q)))) : Wp (d + 6) 249 29 [vR 440, vI l1, vI l2, vI l3, vI l4, vI l5, l6] [] M K Q := by
  refine r_iload c249_29 rfl ?_
  refine r_iload_n c249_31 rfl ?_
  refine r_icmpP (P := l2 ≤ l5) c249_32 rfl (fun hc1 => ?_) (fun hc1 => ?_)
  · replace h := h.1 hc1
    exact r_ret c249_162 h
  · replace h := h.2 hc1
    refine r_aload_n c249_35 rfl ?_
    refine r_bipush c249_36 ?_
    obtain ⟨p2, h⟩ := h
    refine r_call c249_38 rfl rfl (Nat.le_of_ble_eq_true rfl) (okc_r rfl rfl (oK hK o440)) (g248 hK hX p2 (fun M5 x3 p4 => Bk_v ?_))
    replace h := h M5 x3 p4
    refine r_iload_n c249_41 rfl ?_
    refine r_icmpP (P := l3 ≤ (drawN (M 440 47) (16 : Int))) c249_42 rfl (fun hc6 => ?_) (fun hc6 => ?_)
    · replace h := h.1 hc6
      refine r_iconst c249_49 ?_
      exact h
    · replace h := h.2 hc6
      refine r_iconst c249_45 ?_
      refine r_goto c249_46 ?_
      exact h
theorem u249_50 {d : Nat} {l1 : Int} {l2 : Int} {l3 : Int} {l4 : Int} {l5 : Int} {l6 : PV} {t0 : Int} {M : Mem} {K : KK} {Q : RR → Mem → KK → Prop} (hK : K.1 = 923) (hX : FX M)  (h : (t0 = (0 : Int) → Wp (d + 6) 249 89 [vR 440, vI l1, vI l2, vI l3, vI l4, vI l5, vI t0] [vI (0 : Int), vI (M 440 49), vR 440] (mset M 889 26 (-1 : Int)) K Q) ∧ (¬ (t0 = (0 : Int)) → 0 < (10 : Int) ∧ (∀ (M6 : Mem), FX M6 → ((∀ a j, ¬ (a = 440 ∧ j = 47) → M6 a j = M a j) ∧ M6 440 47 = seedN (M 440 47)) → Wp (d + 6) 249 89 [vR 440, vI l1, vI l2, vI l3, vI l4, vI l5, vI t0] [vI (1 : Int), vI (M6 440 49), vR 440] (mset M6 889 26 (drawN (M 440 47) (10 : Int))) K Q))) : Wp (d + 6) 249 50 [vR 440, vI l1, vI l2, vI l3, vI l4, vI l5, l6] [vI t0] M K Q := by
  refine r_istore c249_50 (Nat.le_of_ble_eq_true rfl) ?_
  refine r_aload_n c249_52 rfl ?_
  refine r_getR c249_53 (oK hK o440) (FX.get (b := 889) hX (by decide) (by decide +kernel) (by decide)) (by decide) ?_
  refine r_bipush c249_56 ?_
  refine r_iload c249_58 rfl ?_
  refine r_ifP (P := t0 = (0 : Int)) c249_60 rfl (fun hc1 => ?_) (fun hc1 => ?_)
  · replace h := h.1 hc1
    refine r_iconst c249_72 ?_
    refine r_ias c249_73 (oK hK o889) (bd l889 (by decide)) ?_
    have x2 := FX.set (v := (-1 : Int)) (a := 889) (k := 26) hX (nfa o889 _)
    refine r_aload_n c249_74 rfl ?_
    refine r_dupr c249_75 ?_
    refine r_getIe c249_76 (oK hK o440) (ms_na (by decide)) ?_
    refine r_iload c249_79 rfl ?_
    refine r_ifP (P := t0 = (0 : Int)) c249_81 rfl (fun hc => ?_) (fun hc => absurd hc1 hc)
    refine r_iconst c249_88 ?_
    exact h
  · replace h := h.2 hc1
    refine r_aload_n c249_63 rfl ?_
    refine r_bipush c249_64 ?_
    obtain ⟨p3, h⟩ := h
    refine r_call c249_66 rfl rfl (Nat.le_of_ble_eq_true rfl) (okc_r rfl rfl (oK hK o440)) (g248 hK hX p3 (fun M6 x4 p5 => Bk_v ?_))
    replace h := h M6 x4 p5
    refine r_goto c249_69 ?_
    refine r_ias c249_73 (oK hK o889) (bd l889 (by decide)) ?_
    have x7 := FX.set (v := (drawN (M 440 47) (10 : Int))) (a := 889) (k := 26) x4 (nfa o889 _)
    refine r_aload_n c249_74 rfl ?_
    refine r_dupr c249_75 ?_
    refine r_getIe c249_76 (oK hK o440) (ms_na (by decide)) ?_
    refine r_iload c249_79 rfl ?_
    refine r_ifP (P := t0 = (0 : Int)) c249_81 rfl (fun hc => absurd hc hc1) (fun hc => ?_)
    refine r_iconst c249_84 ?_
    refine r_goto c249_85 ?_
    exact h
theorem u249_89 {d : Nat} {l1 : Int} {l2 : Int} {l3 : Int} {l4 : Int} {l5 : Int} {l6 : Int} {t1 : Int} {t2 : Int} {M : Mem} {K : KK} {Q : RR → Mem → KK → Prop} (hK : K.1 = 923) (hX : FX M)  (h : 0 < (16 : Int) ∧ (∀ (M5 : Mem), FX M5 → ((∀ a j, ¬ (a = 440 ∧ j = 47) → M5 a j = (mset M 440 49 (w32 (t1 + t2))) a j) ∧ M5 440 47 = seedN ((mset M 440 49 (w32 (t1 + t2))) 440 47)) → (l4 ≤ (drawN ((mset M 440 49 (w32 (t1 + t2))) 440 47) (16 : Int)) → ∃ c7 : Mem, ∃ s8 : Mem, ∃ L9 : LC, ∃ dr10 : Int, (SM M5 889 c7 s8 dr10 ∧ LM M5 L9 ∧ s8 4 0 < 2000) ∧ (∀ (M14 : Mem), FX M14 → (FrJ 889 M5 M14 ∧ LMr M14 889 c7 (dayS c7 L9 s8 (rainM c7 s8 dr10)) ∧ M14 889 26 = dr10) → Wp (d + 6) 249 29 [vR 440, vI l1, vI l2, vI l3, vI l4, vI (w32 (l5 + 1)), vI l6] [] M14 K Q)) ∧ (¬ (l4 ≤ (drawN ((mset M 440 49 (w32 (t1 + t2))) 440 47) (16 : Int))) → ((M5 444 0) ≤ (0 : Int) → ∃ c16 : Mem, ∃ s17 : Mem, ∃ L18 : LC, ∃ dr19 : Int, (SM M5 889 c16 s17 dr19 ∧ LM M5 L18 ∧ s17 4 0 < 2000) ∧ (∀ (M23 : Mem), FX M23 → (FrJ 889 M5 M23 ∧ LMr M23 889 c16 (dayS c16 L18 s17 (rainM c16 s17 dr19)) ∧ M23 889 26 = dr19) → Wp (d + 6) 249 29 [vR 440, vI l1, vI l2, vI l3, vI l4, vI (w32 (l5 + 1)), vI l6] [] M23 K Q)) ∧ (¬ ((M5 444 0) ≤ (0 : Int)) → 0 < (M5 444 0) ∧ (∀ (M27 : Mem), FX M27 → ((∀ a j, ¬ (a = 440 ∧ j = 47) → M27 a j = M5 a j) ∧ M27 440 47 = seedN (M5 440 47)) → ∃ c28 : Mem, ∃ s29 : Mem, ∃ dr30 : Int, SM M27 889 c28 s29 dr30 ∧ (∀ (M34 : Mem), FX M34 → (FrJ 889 M27 M34 ∧ LMr M34 889 c28 (digS c28 s29 (drawN (M5 440 47) (M5 444 0))) ∧ M34 889 26 = dr30) → (¬ (lyOn c28 s29 (drawN (M5 440 47) (M5 444 0)) ≠ -1) → ∃ c38 : Mem, ∃ s39 : Mem, ∃ L40 : LC, ∃ dr41 : Int, (SM (mset M34 440 48 (w32 ((M5 440 48) + (0 : Int)))) 889 c38 s39 dr41 ∧ LM (mset M34 440 48 (w32 ((M5 440 48) + (0 : Int)))) L40 ∧ s39 4 0 < 2000) ∧ (∀ (M45 : Mem), FX M45 → (FrJ 889 (mset M34 440 48 (w32 ((M5 440 48) + (0 : Int)))) M45 ∧ LMr M45 889 c38 (dayS c38 L40 s39 (rainM c38 s39 dr41)) ∧ M45 889 26 = dr41) → Wp (d + 6) 249 29 [vR 440, vI l1, vI l2, vI l3, vI l4, vI (w32 (l5 + 1)), vI l6] [] M45 K Q)) ∧ ((lyOn c28 s29 (drawN (M5 440 47) (M5 444 0)) ≠ -1) → ∃ c47 : Mem, ∃ s48 : Mem, ∃ L49 : LC, ∃ dr50 : Int, (SM (mset M34 440 48 (w32 ((M5 440 48) + (1 : Int)))) 889 c47 s48 dr50 ∧ LM (mset M34 440 48 (w32 ((M5 440 48) + (1 : Int)))) L49 ∧ s48 4 0 < 2000) ∧ (∀ (M54 : Mem), FX M54 → (FrJ 889 (mset M34 440 48 (w32 ((M5 440 48) + (1 : Int)))) M54 ∧ LMr M54 889 c47 (dayS c47 L49 s48 (rainM c47 s48 dr50)) ∧ M54 889 26 = dr50) → Wp (d + 6) 249 29 [vR 440, vI l1, vI l2, vI l3, vI l4, vI (w32 (l5 + 1)), vI l6] [] M54 K Q)))))))) : Wp (d + 6) 249 89 [vR 440, vI l1, vI l2, vI l3, vI l4, vI l5, vI l6] [vI t2, vI t1, vR 440] M K Q := by
  refine r_iadd c249_89 ?_
  refine r_putI c249_90 (oK hK o440) ?_
  have x1 := FX.set (v := (w32 (t1 + t2))) (a := 440) (k := 49) hX (by decide +kernel)
  refine r_aload_n c249_93 rfl ?_
  refine r_bipush c249_94 ?_
  obtain ⟨p2, h⟩ := h
  refine r_call c249_96 rfl rfl (Nat.le_of_ble_eq_true rfl) (okc_r rfl rfl (oK hK o440)) (g248 hK x1 p2 (fun M5 x3 p4 => Bk_v ?_))
  replace h := h M5 x3 p4
  refine r_iload c249_99 rfl ?_
  refine r_icmpP (P := l4 ≤ (drawN ((mset M 440 49 (w32 (t1 + t2))) 440 47) (16 : Int))) c249_101 rfl (fun hc6 => ?_) (fun hc6 => ?_)
  · replace h := h.1 hc6
    refine r_aload_n c249_148 rfl ?_
    refine r_aload_n c249_149 rfl ?_
    refine r_getR c249_150 (oK hK o440) (FX.get (b := 889) x3 (by decide) (by decide +kernel) (by decide)) (by decide) ?_
    obtain ⟨c7, h⟩ := h
    obtain ⟨s8, h⟩ := h
    obtain ⟨L9, h⟩ := h
    obtain ⟨dr10, h⟩ := h
    obtain ⟨p11, h⟩ := h
    refine r_call c249_153 rfl rfl (Nat.le_of_ble_eq_true rfl) (okc_r rfl rfl (oK hK o440)) (g198 hK x3 o889 l889 p11 (fun M14 x12 p13 => Bk_n ?_))
    replace h := h M14 x12 p13
    refine r_iinc c249_156 rfl ?_
    refine r_goto c249_159 ?_
    exact h
  · replace h := h.2 hc6
    refine r_aload_n c249_104 rfl ?_
    refine r_getR c249_105 (oK hK o440) (FX.get (b := 444) x3 (by decide) (by decide +kernel) (by decide)) (by decide) ?_
    refine r_iconst c249_108 ?_
    refine r_iae c249_109 (oK hK o444) (bd l444 (by decide)) rfl ?_
    refine r_ifP (P := (M5 444 0) ≤ (0 : Int)) c249_110 rfl (fun hc15 => ?_) (fun hc15 => ?_)
    · replace h := h.1 hc15
      refine r_aload_n c249_148 rfl ?_
      refine r_aload_n c249_149 rfl ?_
      refine r_getR c249_150 (oK hK o440) (FX.get (b := 889) x3 (by decide) (by decide +kernel) (by decide)) (by decide) ?_
      obtain ⟨c16, h⟩ := h
      obtain ⟨s17, h⟩ := h
      obtain ⟨L18, h⟩ := h
      obtain ⟨dr19, h⟩ := h
      obtain ⟨p20, h⟩ := h
      refine r_call c249_153 rfl rfl (Nat.le_of_ble_eq_true rfl) (okc_r rfl rfl (oK hK o440)) (g198 hK x3 o889 l889 p20 (fun M23 x21 p22 => Bk_n ?_))
      replace h := h M23 x21 p22
      refine r_iinc c249_156 rfl ?_
      refine r_goto c249_159 ?_
      exact h
    · replace h := h.2 hc15
      refine r_aload_n c249_113 rfl ?_
      refine r_dupr c249_114 ?_
      refine r_getIe c249_115 (oK hK o440) rfl ?_
      refine r_aload_n c249_118 rfl ?_
      refine r_aload_n c249_119 rfl ?_
      refine r_getR c249_120 (oK hK o440) (FX.get (b := 889) x3 (by decide) (by decide +kernel) (by decide)) (by decide) ?_
      refine r_aload_n c249_123 rfl ?_
      refine r_aload_n c249_124 rfl ?_
      refine r_getR c249_125 (oK hK o440) (FX.get (b := 444) x3 (by decide) (by decide +kernel) (by decide)) (by decide) ?_
      refine r_iconst c249_128 ?_
      refine r_iae c249_129 (oK hK o444) (bd l444 (by decide)) rfl ?_
      obtain ⟨p24, h⟩ := h
      refine r_call c249_130 rfl rfl (Nat.le_of_ble_eq_true rfl) (okc_r rfl rfl (oK hK o440)) (g248 hK x3 p24 (fun M27 x25 p26 => Bk_v ?_))
      replace h := h M27 x25 p26
      obtain ⟨c28, h⟩ := h
      obtain ⟨s29, h⟩ := h
      obtain ⟨dr30, h⟩ := h
      obtain ⟨p31, h⟩ := h
      refine r_call c249_133 rfl rfl (Nat.le_of_ble_eq_true rfl) (okc_r rfl rfl (oK hK o440)) (g199 hK x25 o889 l889 p31 (fun M34 x32 p33 => Bk_v ?_))
      replace h := h M34 x32 p33
      refine r_ifP (P := ¬ (lyOn c28 s29 (drawN (M5 440 47) (M5 444 0)) ≠ -1)) c249_136 bI_eq (fun hc35 => ?_) (fun hc35 => ?_)
      · replace h := h.1 hc35
        refine r_iconst c249_143 ?_
        refine r_iadd c249_144 ?_
        refine r_putI c249_145 (oK hK o440) ?_
        have x37 := FX.set (v := (w32 ((M5 440 48) + (0 : Int)))) (a := 440) (k := 48) x32 (by decide +kernel)
        refine r_aload_n c249_148 rfl ?_
        refine r_aload_n c249_149 rfl ?_
        refine r_getR c249_150 (oK hK o440) (FX.get (b := 889) x37 (by decide) (by decide +kernel) (by decide)) (by decide) ?_
        obtain ⟨c38, h⟩ := h
        obtain ⟨s39, h⟩ := h
        obtain ⟨L40, h⟩ := h
        obtain ⟨dr41, h⟩ := h
        obtain ⟨p42, h⟩ := h
        refine r_call c249_153 rfl rfl (Nat.le_of_ble_eq_true rfl) (okc_r rfl rfl (oK hK o440)) (g198 hK x37 o889 l889 p42 (fun M45 x43 p44 => Bk_n ?_))
        replace h := h M45 x43 p44
        refine r_iinc c249_156 rfl ?_
        refine r_goto c249_159 ?_
        exact h
      · have hc36 := Classical.not_not.mp hc35
        replace h := h.2 hc36
        refine r_iconst c249_139 ?_
        refine r_goto c249_140 ?_
        refine r_iadd c249_144 ?_
        refine r_putI c249_145 (oK hK o440) ?_
        have x46 := FX.set (v := (w32 ((M5 440 48) + (1 : Int)))) (a := 440) (k := 48) x32 (by decide +kernel)
        refine r_aload_n c249_148 rfl ?_
        refine r_aload_n c249_149 rfl ?_
        refine r_getR c249_150 (oK hK o440) (FX.get (b := 889) x46 (by decide) (by decide +kernel) (by decide)) (by decide) ?_
        obtain ⟨c47, h⟩ := h
        obtain ⟨s48, h⟩ := h
        obtain ⟨L49, h⟩ := h
        obtain ⟨dr50, h⟩ := h
        obtain ⟨p51, h⟩ := h
        refine r_call c249_153 rfl rfl (Nat.le_of_ble_eq_true rfl) (okc_r rfl rfl (oK hK o440)) (g198 hK x46 o889 l889 p51 (fun M54 x52 p53 => Bk_n ?_))
        replace h := h M54 x52 p53
        refine r_iinc c249_156 rfl ?_
        refine r_goto c249_159 ?_
        exact h
/-- a drawn day: linen, seed, moles that bit, rains drawn -/
abbrev XS : Type := Mem × Int × Nat × Nat
section SD
variable (c : Mem) (L : LC) (q m : Int)
abbrev dyW (v : Int) : Prop := drawN v 16 < q
def dyV (v : Int) : Int := if dyW q v then seedN (seedN v) else seedN v
def dyR (s : Mem) (v : Int) : Int := if dyW q v then drawN (seedN v) 10 else rainS c (s 4 0)
abbrev dyM (v : Int) : Prop := drawN v 16 < m ∧ 0 < c 0 0
def sumT (x : XS) : XS :=
  let v2 := dyV q x.2.1
  (dayS c L (if dyM c m v2 then digS c x.1 (drawN (seedN v2) (c 0 0)) else x.1) (dyR c q x.1 x.2.1),
    if dyM c m v2 then seedN (seedN v2) else seedN v2,
    x.2.2.1 + (if dyM c m v2 ∧ lyOn c x.1 (drawN (seedN v2) (c 0 0)) ≠ -1 then 1 else 0),
    x.2.2.2 + (if dyW q x.2.1 then 1 else 0))
def sumI (s : Mem) (v : Int) : Nat → XS
  | 0 => (s, v, 0, 0)
  | i + 1 => sumT c L q m (sumI s v i)
end SD
def FrS8 (M M' : Mem) : Prop := ∀ b k, ¬ scL b → ¬ (148 ≤ b ∧ b ≤ 152) → ¬ (b = 147 ∧ 1 ≤ k ∧ k ≤ 3) → M' b k = M b k
theorem FrS8.rf {M : Mem} : FrS8 M M := fun _ _ _ _ _ => rfl
theorem FrS8.tr {M M1 M2 : Mem} (h1 : FrS8 M M1) (h2 : FrS8 M1 M2) : FrS8 M M2 := fun b k p q r => (h2 b k p q r).trans (h1 b k p q r)
theorem FrI.s8 {M M' : Mem} (h : FrI 148 M M') : FrS8 M M' := fun b k p q _ => h b k p q
theorem FrS8.up {M M1 : Mem} {k : Nat} {v : Int} (h : FrS8 M M1) (hk : 1 ≤ k ∧ k ≤ 3) : FrS8 M (mset M1 147 k v) := by
  intro b' k' p q r
  unfold mset
  rw [if_neg (by rintro ⟨rfl, rfl⟩; exact r ⟨rfl, hk⟩)]
  exact h b' k' p q r
theorem fr147 {M M' : Mem} (h : ∀ a j, ¬ (a = 147 ∧ j = 1) → M' a j = M a j) : FrS8 M M' := fun b k _ _ r => h b k (by omega)
section SE
variable {c : Mem} {L : LC} {q m : Int} {s : Mem} {v : Int}
theorem digS_40 {cell : Int} : digS c s cell 4 0 = s 4 0 := by
  unfold digS; split
  · rfl
  · exact ms_na (by decide)
theorem sumI_w (hlw : LW c s) : ∀ i : Nat, s 4 0 + (i : Int) ≤ 2000 → LW c (sumI c L q m s v i).1 ∧ (sumI c L q m s v i).1 4 0 = s 4 0 + (i : Int) ∧ (sumI c L q m s v i).2.2.1 ≤ i ∧ (sumI c L q m s v i).2.2.2 ≤ i := by
  intro i
  induction i with
  | zero => intro _; exact ⟨hlw, by simp [sumI], Nat.le_refl _, Nat.le_refl _⟩
  | succ i ih =>
    intro h
    obtain ⟨w, e, b1, b2⟩ := ih (by omega)
    simp only [sumI, sumT]
    generalize sumI c L q m s v i = x at w e b1 b2 ⊢
    have w' : ∀ P [Decidable P], LW c (if P then digS c x.1 (drawN (seedN (dyV q x.2.1)) (c 0 0)) else x.1) := by
      intro P _
      split
      · exact digS_w w
      · exact w
    have e' : ∀ P [Decidable P], (if P then digS c x.1 (drawN (seedN (dyV q x.2.1)) (c 0 0)) else x.1) 4 0 = x.1 4 0 := by
      intro P _
      split
      · exact digS_40
      · rfl
    refine ⟨dayS_w (w' _) (by rw [e']; omega), ?_, ?_, ?_⟩
    · unfold dayS; simp [e']; omega
    · split <;> omega
    · split <;> omega
variable {d : Nat} {M M' : Mem} {K : KK} {Q : RR → Mem → KK → Prop} {cm a l : Nat}
theorem CC.s8 (hcm : isO 923 cm 0 = true) (hf : FrS8 M M') (h : CC M cm c) : CC M' cm c := by
  have hr := rg0 hcm
  exact ⟨fun k hk => (hf cm (5 + k) (by unfold scL; omega) (by omega) (by omega)).trans (h.1 k hk), fun b h1 h2 i hi => (hf (cm + b) i (by unfold scL; omega) (by omega) (by omega)).trans (h.2 b h1 h2 i hi)⟩
theorem LWC.s8 (hcm : isO 923 cm 0 = true) (hf : FrS8 M M') (h : LWC M cm L l) : LWC M' cm L l := by
  have hr := rg0 hcm
  have hr2 := rg2 h.2.1
  refine ⟨(hf cm 11 (by unfold scL; omega) (by omega) (by omega)).trans h.1, h.2.1, ⟨(hf l 3 (by unfold scL; omega) (by omega) (by omega)).trans h.2.2.1.1, h.2.2.1.2.1, fun i hi => (hf (l + 2) i (by unfold scL; omega) (by omega) (by omega)).trans (h.2.2.1.2.2 i hi)⟩, h.2.2.2⟩
theorem LK.s146 (hf : ∀ b j, 148 ≤ b → b ≤ 152 → M' b j = M b j) (h : LK M 148 c s) : LK M' 148 c s := h.fr (fun b j h1 h2 => hf b j h1 (by omega))
theorem g80 {days : Nat} (hK : K.1 = 923) (hX : FX M) (hcm : isO 923 cm 0 = true) (ha : isO 923 a 3 = true) (h : (148 + 4 < a ∨ a + 4 < 148) ∧ SKc M cm a c s ∧ LWC M cm L l ∧ s 4 0 + (days : Int) ≤ 2000) (k : ∀ M', FX M' → (FrS8 M M' ∧ LK M' 148 c (sumI c L q m s v days).1 ∧ LW c (sumI c L q m s v days).1 ∧ M' 147 2 = ((sumI c L q m s v days).2.2.1 : Int) ∧ M' 147 3 = ((sumI c L q m s v days).2.2.2 : Int)) → Q (.inl none) M' K) : Wm (d + 4) 80 [vR 147, vR cm, vR a, vI v, vI (days : Int), vI q, vI m] M K Q := by
  obtain ⟨hd, ⟨hc, hw, hl, hlw⟩, hL, hdays⟩ := h
  have hr0 := rg0 hcm
  have hc12 := hw.1
  have hday0 := hlw.2.1
  have loop : ∀ f i, i + f = days → ∀ M1 (lx : PV), FX M1 → FrS8 M M1 → LK M1 148 c (sumI c L q m s v i).1 → M1 147 1 = (sumI c L q m s v i).2.1 → M1 147 2 = ((sumI c L q m s v i).2.2.1 : Int) → M1 147 3 = ((sumI c L q m s v i).2.2.2 : Int) → Wp (d + 4) 80 26 [vR 147, vR cm, vR a, vI v, vI (days : Int), vI q, vI m, vI (i : Int), lx] [] M1 K Q := by
    intro f
    induction f with
    | zero =>
      intro i hi M1 lx x1 f1 l1 e1 e2 e3
      have hid : i = days := by omega
      subst hid
      refine u80_26 hK x1 hcm ha ⟨fun _ => k M1 x1 ⟨f1, l1, (sumI_w hlw i (by omega)).1, e2, e3⟩, fun h => absurd h (by omega)⟩
    | succ f ih =>
      intro i hi M1 lx x1 f1 l1 e1 e2 e3
      obtain ⟨xw, x40, b1, b2⟩ := sumI_w (L := L) (q := q) (m := m) (v := v) hlw i (by omega)
      have eS : sumI c L q m s v (i + 1) = sumT c L q m (sumI c L q m s v i) := rfl
      have ih := ih (i + 1) (by omega)
      rw [eS] at ih
      generalize sumI c L q m s v i = x at l1 e1 e2 e3 xw x40 b1 b2 ih
      have e40 := l1.2.1
      -- the rest of the day, when the rain is known
      have rest : ∀ M2, FX M2 → FrS8 M M2 → LK M2 148 c x.1 → M2 147 1 = dyV q x.2.1 → M2 147 2 = (x.2.2.1 : Int) → M2 147 3 = ((x.2.2.2 + (if dyW q x.2.1 then 1 else 0) : Nat) : Int) → Wp (d + 4) 80 75 [vR 147, vR cm, vR a, vI v, vI (days : Int), vI q, vI m, vI (i : Int), vI (dyR c q x.1 x.2.1)] [] M2 K Q := by
        intro M2 x2 f2 l2 s1 s2 s3
        refine u80_75 hK x2 hcm ha ⟨trivial, fun M4 x4 p4 => ?_⟩
        have f4 : FrS8 M M4 := f2.tr (fr147 p4.1)
        have l4 : LK M4 148 c x.1 := l2.s146 (fun b j h1 h2 => p4.1 b j (by omega))
        have e4 : M4 cm 5 = c 0 0 := (hc.s8 hcm f4).1 0 (by decide)
        have s42 : M4 147 2 = (x.2.2.1 : Int) := (p4.1 147 2 (by omega)).trans s2
        have s43 := (p4.1 147 3 (by omega)).trans s3
        have s41 := p4.2
        rw [s1] at s41 ⊢
        have noM : ¬ dyM c m (dyV q x.2.1) → ∃ c6 : Mem, ∃ s7 : Mem, ∃ L8 : LC, ∃ la9 : Nat, (SKc M4 cm 148 c6 s7 ∧ LWC M4 cm L8 la9 ∧ s7 4 0 < 2000) ∧ (∀ (M13 : Mem), FX M13 → (FrI 148 M4 M13 ∧ LK M13 148 c6 (dayS c6 L8 s7 (dyR c q x.1 x.2.1))) → Wp (d + 4) 80 26 [vR 147, vR cm, vR a, vI v, vI (days : Int), vI q, vI m, vI (w32 ((i : Int) + 1)), vI (dyR c q x.1 x.2.1)] [] M13 K Q) := by
          intro hm
          refine ⟨c, x.1, L, l, ⟨⟨hc.s8 hcm f4, hw, l4, xw⟩, hL.s8 hcm f4, by omega⟩, fun M5 x5 f5 => ?_⟩
          rw [w1 (by omega)]
          have eT : sumT c L q m x = (dayS c L x.1 (dyR c q x.1 x.2.1), seedN (dyV q x.2.1), x.2.2.1, x.2.2.2 + (if dyW q x.2.1 then 1 else 0)) := by
            simp only [sumT, if_neg hm]; rw [if_neg (fun h => hm h.1)]; rfl
          have r5 : ∀ j, M5 147 j = M4 147 j := fun j => f5.1 147 j (by unfold scL; omega) (by omega)
          refine ih M5 _ x5 (f4.tr f5.1.s8) ?_ ?_ ?_ ?_
          · rw [eT]; exact f5.2
          · rw [eT, r5]; exact s41
          · rw [eT, r5]; exact s42
          · rw [eT, r5]; exact s43
        refine ⟨fun h => noM (fun h9 => by have := h9.1; omega), fun h => ⟨fun h0 => noM (fun h9 => by have := h9.2; omega), fun h0 => ⟨trivial, fun M6 x6 p6 => ?_⟩⟩⟩
        have hm : dyM c m (dyV q x.2.1) := ⟨by omega, by omega⟩
        have f6 : FrS8 M M6 := f4.tr (fr147 p6.1)
        have l6 : LK M6 148 c x.1 := l4.s146 (fun b j h1 h2 => p6.1 b j (by omega))
        have s61 := p6.2
        rw [s41] at s61 ⊢
        rw [e4]
        refine ⟨c, x.1, ⟨hc.s8 hcm f6, hw, l6, xw⟩, fun M7 x7 f7 => ?_⟩
        have r7 : ∀ j, M7 147 j = M6 147 j := fun j => f7.1 147 j (by unfold scL; omega) (by omega)
        have s73 : M7 147 3 = ((x.2.2.2 + (if dyW q x.2.1 then 1 else 0) : Nat) : Int) := by rw [r7, p6.1 147 3 (by omega)]; exact s43
        have s71 : M7 147 1 = seedN (seedN (dyV q x.2.1)) := by rw [r7]; exact s61
        have goon : ∀ z : Nat, z = (if lyOn c x.1 (drawN (seedN (dyV q x.2.1)) (c 0 0)) ≠ -1 then 1 else 0) → ∃ c36 : Mem, ∃ s37 : Mem, ∃ L38 : LC, ∃ la39 : Nat, (SKc (mset M7 147 2 (w32 ((M4 147 2) + (z : Int)))) cm 148 c36 s37 ∧ LWC (mset M7 147 2 (w32 ((M4 147 2) + (z : Int)))) cm L38 la39 ∧ s37 4 0 < 2000) ∧ (∀ (M43 : Mem), FX M43 → (FrI 148 (mset M7 147 2 (w32 ((M4 147 2) + (z : Int)))) M43 ∧ LK M43 148 c36 (dayS c36 L38 s37 (dyR c q x.1 x.2.1))) → Wp (d + 4) 80 26 [vR 147, vR cm, vR a, vI v, vI (days : Int), vI q, vI m, vI (w32 ((i : Int) + 1)), vI (dyR c q x.1 x.2.1)] [] M43 K Q) := by
          intro z hz
          have hz1 : z ≤ 1 := by rw [hz]; split <;> omega
          have ez : w32 (M4 147 2 + (z : Int)) = ((x.2.2.1 + z : Nat) : Int) := by rw [s42, w32_id (by omega)]; omega
          rw [ez]
          have f8 : FrS8 M (mset M7 147 2 ((x.2.2.1 + z : Nat) : Int)) := (f6.tr f7.1.s8).up (by omega)
          refine ⟨c, digS c x.1 (drawN (seedN (dyV q x.2.1)) (c 0 0)), L, l, ⟨⟨hc.s8 hcm f8, hw, f7.2.s146 (fun b j h1 h2 => ms_na (by omega)), digS_w xw⟩, hL.s8 hcm f8, by rw [digS_40]; omega⟩, fun M9 x9 f9 => ?_⟩
          rw [w1 (by omega)]
          have eT : sumT c L q m x = (dayS c L (digS c x.1 (drawN (seedN (dyV q x.2.1)) (c 0 0))) (dyR c q x.1 x.2.1), seedN (seedN (dyV q x.2.1)), x.2.2.1 + z, x.2.2.2 + (if dyW q x.2.1 then 1 else 0)) := by
            simp only [sumT, if_pos hm]; rw [hz]
            congr 3
            by_cases h9 : lyOn c x.1 (drawN (seedN (dyV q x.2.1)) (c 0 0)) ≠ -1
            · rw [if_pos h9, if_pos ⟨hm, h9⟩]
            · rw [if_neg h9, if_neg (fun h => h9 h.2)]
          have r9 : ∀ j, M9 147 j = mset M7 147 2 ((x.2.2.1 + z : Nat) : Int) 147 j := fun j => f9.1 147 j (by unfold scL; omega) (by omega)
          refine ih M9 _ x9 (f8.tr f9.1.s8) ?_ ?_ ?_ ?_
          · rw [eT]; exact f9.2
          · rw [eT, r9, ms_nk (by decide)]; exact s71
          · rw [eT, r9, ms_eq]
          · rw [eT, r9, ms_nk (by decide)]; exact s73
        exact ⟨fun h9 => goon 0 (by rw [if_neg h9]), fun h9 => goon 1 (by rw [if_pos h9])⟩
      refine u80_26 hK x1 hcm ha ⟨fun h => absurd h (by omega), fun _ => ⟨c, ⟨hc.s8 hcm f1, hw⟩, trivial, fun M2 x2 p2 => ?_⟩⟩
      have f2 : FrS8 M M2 := f1.tr (fr147 p2.1)
      have l2 : LK M2 148 c x.1 := l1.s146 (fun b j h1 h2 => p2.1 b j (by omega))
      have s22 : M2 147 2 = (x.2.2.1 : Int) := (p2.1 147 2 (by omega)).trans e2
      have s23 : M2 147 3 = (x.2.2.2 : Int) := (p2.1 147 3 (by omega)).trans e3
      have s21 := p2.2
      rw [e1] at s21 ⊢
      refine ⟨fun h => ?_, fun h => ⟨trivial, fun M3 x3 p3 => ?_⟩⟩
      · have hn : ¬ dyW q x.2.1 := by unfold dyW; omega
        have eR : dyR c q x.1 x.2.1 = rainS c (M1 148 4) := by unfold dyR; rw [if_neg hn, e40]
        rw [← eR]
        refine rest M2 x2 f2 l2 ?_ s22 ?_
        · unfold dyV; rw [if_neg hn]; exact s21
        · rw [if_neg hn]; exact s23
      · have hy : dyW q x.2.1 := by unfold dyW; omega
        have eR : dyR c q x.1 x.2.1 = drawN (M2 147 1) 10 := by unfold dyR; rw [if_pos hy, s21]
        rw [← eR]
        have s33 : M3 147 3 = (x.2.2.2 : Int) := (p3.1 147 3 (by omega)).trans s23
        refine rest _ (x3.set (by decide +kernel)) ((f2.tr (fr147 p3.1)).up (by omega)) (l2.s146 (fun b j h1 h2 => (ms_na (by omega)).trans (p3.1 b j (by omega)))) ?_ ?_ ?_
        · rw [ms_nk (by decide), p3.2, s21]; unfold dyV; rw [if_pos hy]
        · rw [ms_nk (by decide), p3.1 147 2 (by omega)]; exact s22
        · rw [ms_eq, s33, w1 (by omega), if_pos hy]
  refine u80_0 hK hX hcm ha ⟨c, s, ⟨hd, hw, hl⟩, fun M1 x1 p1 => ?_⟩
  refine loop days 0 (by omega) _ _ (((x1.set (by decide +kernel)).set (by decide +kernel)).set (by decide +kernel)) (((p1.1.s8.up (by omega)).up (by omega)).up (by omega)) ?_ ?_ ?_ ?_
  · exact p1.2.1.s146 (fun b j h1 h2 => by rw [ms_na (by omega), ms_na (by omega), ms_na (by omega)])
  · rw [ms_nk (by decide), ms_nk (by decide), ms_eq]; rfl
  · rw [ms_nk (by decide), ms_eq]; rfl
  · rw [ms_eq]; rfl
theorem g80z {days : Nat} {w : Int} (hK : K.1 = 923) (hX : FX M) (hcm : isO 923 cm 0 = true) (ha : isO 923 a 3 = true) (h : w = (days : Int) ∧ (148 + 4 < a ∨ a + 4 < 148) ∧ SKc M cm a c s ∧ LWC M cm L l ∧ s 4 0 + (days : Int) ≤ 2000) (k : ∀ M', FX M' → (FrS8 M M' ∧ LK M' 148 c (sumI c L q m s v days).1 ∧ LW c (sumI c L q m s v days).1 ∧ M' 147 2 = ((sumI c L q m s v days).2.2.1 : Int) ∧ M' 147 3 = ((sumI c L q m s v days).2.2.2 : Int)) → Q (.inl none) M' K) : Wm (d + 4) 80 [vR 147, vR cm, vR a, vI v, vI w, vI q, vI m] M K Q := by
  rw [h.1]; exact g80 hK hX hcm ha h.2 k
def FrS9 (M M' : Mem) : Prop := ∀ a k, a ≠ 805 → a ≠ 806 → a ≠ 889 → ¬ (a = 440 ∧ 47 ≤ k ∧ k ≤ 49) → M' a k = M a k
theorem FrS9.rf {M : Mem} : FrS9 M M := fun _ _ _ _ _ _ => rfl
theorem FrS9.tr {M M1 M2 : Mem} (h1 : FrS9 M M1) (h2 : FrS9 M1 M2) : FrS9 M M2 := fun a k p q t u => (h2 a k p q t u).trans (h1 a k p q t u)
theorem FrJ.s9 {M M' : Mem} (h : FrJ 889 M M') : FrS9 M M' := fun a k p q t _ => h a k p q t
theorem fr440 {M M' : Mem} (h : ∀ a j, ¬ (a = 440 ∧ j = 47) → M' a j = M a j) : FrS9 M M' := fun b k _ _ _ r => h b k (by omega)
theorem FrS9.up {M M1 : Mem} {k : Nat} {v : Int} (h : FrS9 M M1) (hk : 47 ≤ k ∧ k ≤ 49) : FrS9 M (mset M1 440 k v) := by
  intro b' k' p q r t
  unfold mset
  rw [if_neg (by rintro ⟨rfl, rfl⟩; exact t ⟨rfl, hk⟩)]
  exact h b' k' p q r t
theorem FrS9.u8 {M M1 : Mem} {k : Nat} {v : Int} (h : FrS9 M M1) : FrS9 M (mset M1 889 k v) := by
  intro b' k' p q r t
  rw [ms_na r]
  exact h b' k' p q r t
theorem MCc.s9 (hw : CW c) (hf : FrS9 M M') (h : MCc M c) : MCc M' c := by
  obtain ⟨w0, w1', w2, w3, -⟩ := hw
  exact ⟨fun k hk => (hf 444 k (by omega) (by omega) (by omega) (by omega)).trans (h.1 k hk), fun i hi => (hf 446 i (by omega) (by omega) (by omega) (by omega)).trans (h.2.1 i hi), fun i hi => ⟨(hf _ 0 (by omega) (by omega) (by omega) (by omega)).trans (h.2.2.1 i hi).1, (hf _ 1 (by omega) (by omega) (by omega) (by omega)).trans (h.2.2.1 i hi).2⟩, fun i hi => (hf 448 i (by omega) (by omega) (by omega) (by omega)).trans (h.2.2.2.1 i hi), fun i hi => (hf 450 i (by omega) (by omega) (by omega) (by omega)).trans (h.2.2.2.2 i hi)⟩
theorem LM.s9 (hf : FrS9 M M') (h : LM M L) : LM M' L := by
  have h9 := h.2.1
  exact ⟨(hf 440 21 (by decide) (by decide) (by decide) (by decide)).trans h.1, h.2.1, fun i hi => ⟨(hf _ 0 (by omega) (by omega) (by omega) (by omega)).trans (h.2.2.1 i hi).1, (hf _ 1 (by omega) (by omega) (by omega) (by omega)).trans (h.2.2.1 i hi).2⟩, h.2.2.2⟩
theorem LMr.fr {r : Nat} (hn : nSt c ≤ 6) (hf : ∀ j, j < 26 → M' r j = M r j) (h : LMr M r c s) : LMr M' r c s := by
  refine ⟨fun q hq => ?_, ?_, ?_⟩
  · rw [hf _ (by omega), hf _ (by omega), hf _ (by omega), hf _ (by omega)]; exact h.1 q hq
  · rw [hf _ (by omega)]; exact h.2.1
  · rw [hf _ (by omega)]; exact h.2.2
theorem z889 : L27 889 := by unfold L27; decide +kernel
theorem o889' : isO 923 889 20 = true := by decide +kernel
theorem rainM_40 {s s' : Mem} {dr : Int} (h : s' 4 0 = s 4 0) : rainM c s' dr = rainM c s dr := by unfold rainM; rw [h]
theorem g249 {days : Nat} (hK : K.1 = 923) (hX : FX M) (h : SM M 888 c s (-1) ∧ LM M L ∧ s 4 0 + (days : Int) ≤ 2000) (k : ∀ M', FX M' → (FrS9 M M' ∧ (∃ dr, SM M' 889 c (sumI c L q m s v days).1 dr) ∧ M' 440 48 = ((sumI c L q m s v days).2.2.1 : Int) ∧ M' 440 49 = ((sumI c L q m s v days).2.2.2 : Int)) → Q (.inl none) M' K) : Wm (d + 6) 249 [vR 440, vI v, vI (days : Int), vI q, vI m] M K Q := by
  obtain ⟨⟨hc, hw, hl, hlw, -⟩, hL, hdays⟩ := h
  have hn6 := hw.n.1.2
  have hc0 := hw.1
  have hday0 := hlw.2.1
  have loop : ∀ f i, i + f = days → ∀ M1 (lx : PV), FX M1 → FrS9 M M1 → LMr M1 889 c (sumI c L q m s v i).1 → M1 440 47 = (sumI c L q m s v i).2.1 → M1 440 48 = ((sumI c L q m s v i).2.2.1 : Int) → M1 440 49 = ((sumI c L q m s v i).2.2.2 : Int) → Wp (d + 6) 249 29 [vR 440, vI v, vI (days : Int), vI q, vI m, vI (i : Int), lx] [] M1 K Q := by
    intro f
    induction f with
    | zero =>
      intro i hi M1 lx x1 f1 l1 e1 e2 e3
      have hid : i = days := by omega
      subst hid
      refine u249_29 hK x1 ⟨fun _ => k M1 x1 ⟨f1, ⟨_, hc.s9 hw f1, hw, l1, (sumI_w hlw i (by omega)).1, rfl⟩, e2, e3⟩, fun h => absurd h (by omega)⟩
    | succ f ih =>
      intro i hi M1 lx x1 f1 l1 e1 e2 e3
      obtain ⟨xw, x40, b1, b2⟩ := sumI_w (L := L) (q := q) (m := m) (v := v) hlw i (by omega)
      have eS : sumI c L q m s v (i + 1) = sumT c L q m (sumI c L q m s v i) := rfl
      have ih := ih (i + 1) (by omega)
      rw [eS] at ih
      generalize sumI c L q m s v i = x at l1 e1 e2 e3 xw x40 b1 b2 ih
      have rest : ∀ M2 (t2 : Nat) (dr l6 : Int), FX M2 → FrS9 M M2 → LMr M2 889 c x.1 → M2 889 26 = dr → rainM c x.1 dr = dyR c q x.1 x.2.1 → M2 440 47 = dyV q x.2.1 → M2 440 48 = (x.2.2.1 : Int) → M2 440 49 = (x.2.2.2 : Int) → t2 = (if dyW q x.2.1 then 1 else 0) → Wp (d + 6) 249 89 [vR 440, vI v, vI (days : Int), vI q, vI m, vI (i : Int), vI l6] [vI (t2 : Int), vI (M2 440 49), vR 440] M2 K Q := by
        intro M2 t2 dr l6 x2 f2 l2 e26 erm s1 s2 s3 ht
        have ht1 : t2 ≤ 1 := by rw [ht]; split <;> omega
        have ez : w32 (M2 440 49 + (t2 : Int)) = ((x.2.2.2 + t2 : Nat) : Int) := by rw [s3, w32_id (by omega)]; omega
        refine u249_89 hK x2 ⟨by decide, fun M4 x4 p4 => ?_⟩
        rw [ez] at p4 ⊢
        obtain ⟨p4, s41⟩ := p4
        have f4 : FrS9 M M4 := (f2.up (by omega)).tr (fr440 p4)
        have r8 : ∀ j, M4 889 j = M2 889 j := fun j => (p4 889 j (by omega)).trans (ms_na (by decide))
        have l4 : LMr M4 889 c x.1 := l2.fr hn6 (fun j _ => r8 j)
        have e4 : M4 444 0 = c 0 0 := (hc.s9 hw f4).1 0 (by decide)
        have s42 : M4 440 48 = (x.2.2.1 : Int) := (p4 440 48 (by omega)).trans ((ms_nk (by decide)).trans s2)
        have s43 : M4 440 49 = ((x.2.2.2 + t2 : Nat) : Int) := (p4 440 49 (by omega)).trans ms_eq
        rw [ms_nk (by decide), s1] at s41 ⊢
        have e426 : M4 889 26 = dr := (r8 26).trans e26
        have noM : ¬ dyM c m (dyV q x.2.1) → ∃ c7 : Mem, ∃ s8 : Mem, ∃ L9 : LC, ∃ dr10 : Int, (SM M4 889 c7 s8 dr10 ∧ LM M4 L9 ∧ s8 4 0 < 2000) ∧ (∀ (M14 : Mem), FX M14 → (FrJ 889 M4 M14 ∧ LMr M14 889 c7 (dayS c7 L9 s8 (rainM c7 s8 dr10)) ∧ M14 889 26 = dr10) → Wp (d + 6) 249 29 [vR 440, vI v, vI (days : Int), vI q, vI m, vI (w32 ((i : Int) + 1)), vI l6] [] M14 K Q) := by
          intro hm
          refine ⟨c, x.1, L, dr, ⟨⟨hc.s9 hw f4, hw, l4, xw, e426⟩, hL.s9 f4, by omega⟩, fun M5 x5 f5 => ?_⟩
          rw [w1 (by omega)]
          have eT : sumT c L q m x = (dayS c L x.1 (dyR c q x.1 x.2.1), seedN (dyV q x.2.1), x.2.2.1, x.2.2.2 + t2) := by
            simp only [sumT, if_neg hm]; rw [if_neg (fun h => hm h.1), ht]; rfl
          have r5 : ∀ j, M5 440 j = M4 440 j := fun j => f5.1 440 j (by decide) (by decide) (by decide)
          obtain ⟨f51, f52, -⟩ := f5
          rw [erm] at f52
          refine ih M5 _ x5 (f4.tr f51.s9) ?_ ?_ ?_ ?_
          · rw [eT]; exact f52
          · rw [eT, r5]; exact s41
          · rw [eT, r5]; exact s42
          · rw [eT, r5]; exact s43
        refine ⟨fun h => noM (fun h9 => by have := h9.1; omega), fun h => ⟨fun h0 => noM (fun h9 => by have := h9.2; omega), fun h0 => ⟨by omega, fun M6 x6 p6 => ?_⟩⟩⟩
        have hm : dyM c m (dyV q x.2.1) := ⟨by omega, by omega⟩
        obtain ⟨p6, s61⟩ := p6
        have f6 : FrS9 M M6 := f4.tr (fr440 p6)
        have r68 : ∀ j, M6 889 j = M4 889 j := fun j => p6 889 j (by omega)
        have l6' : LMr M6 889 c x.1 := l4.fr hn6 (fun j _ => r68 j)
        rw [s41] at s61 ⊢
        rw [e4]
        refine ⟨c, x.1, dr, ⟨hc.s9 hw f6, hw, l6', xw, (r68 26).trans e426⟩, fun M7 x7 f7 => ?_⟩
        obtain ⟨f71, f72, f73⟩ := f7
        have r7 : ∀ j, M7 440 j = M6 440 j := fun j => f71 440 j (by decide) (by decide) (by decide)
        have s73 : M7 440 49 = ((x.2.2.2 + t2 : Nat) : Int) := by rw [r7, p6 440 49 (by omega)]; exact s43
        have s71 : M7 440 47 = seedN (seedN (dyV q x.2.1)) := by rw [r7]; exact s61
        have goon : ∀ z : Nat, z = (if lyOn c x.1 (drawN (seedN (dyV q x.2.1)) (c 0 0)) ≠ -1 then 1 else 0) → ∃ c38 : Mem, ∃ s39 : Mem, ∃ L40 : LC, ∃ dr41 : Int, (SM (mset M7 440 48 (w32 ((M4 440 48) + (z : Int)))) 889 c38 s39 dr41 ∧ LM (mset M7 440 48 (w32 ((M4 440 48) + (z : Int)))) L40 ∧ s39 4 0 < 2000) ∧ (∀ (M45 : Mem), FX M45 → (FrJ 889 (mset M7 440 48 (w32 ((M4 440 48) + (z : Int)))) M45 ∧ LMr M45 889 c38 (dayS c38 L40 s39 (rainM c38 s39 dr41)) ∧ M45 889 26 = dr41) → Wp (d + 6) 249 29 [vR 440, vI v, vI (days : Int), vI q, vI m, vI (w32 ((i : Int) + 1)), vI l6] [] M45 K Q) := by
          intro z hz
          have hz1 : z ≤ 1 := by rw [hz]; split <;> omega
          have ez : w32 (M4 440 48 + (z : Int)) = ((x.2.2.1 + z : Nat) : Int) := by rw [s42, w32_id (by omega)]; omega
          rw [ez]
          have f8 : FrS9 M (mset M7 440 48 ((x.2.2.1 + z : Nat) : Int)) := (f6.tr f71.s9).up (by omega)
          refine ⟨c, digS c x.1 (drawN (seedN (dyV q x.2.1)) (c 0 0)), L, dr, ⟨⟨hc.s9 hw f8, hw, f72.fr hn6 (fun j _ => ms_na (by decide)), digS_w xw, (ms_na (by decide)).trans f73⟩, hL.s9 f8, by rw [digS_40]; omega⟩, fun M9 x9 f9 => ?_⟩
          rw [w1 (by omega)]
          have eT : sumT c L q m x = (dayS c L (digS c x.1 (drawN (seedN (dyV q x.2.1)) (c 0 0))) (dyR c q x.1 x.2.1), seedN (seedN (dyV q x.2.1)), x.2.2.1 + z, x.2.2.2 + t2) := by
            simp only [sumT, if_pos hm]; rw [hz, ht]
            congr 3
            by_cases h9 : lyOn c x.1 (drawN (seedN (dyV q x.2.1)) (c 0 0)) ≠ -1
            · rw [if_pos h9, if_pos ⟨hm, h9⟩]
            · rw [if_neg h9, if_neg (fun h => h9 h.2)]
          obtain ⟨f91, f92, -⟩ := f9
          rw [rainM_40 digS_40, erm] at f92
          have r9 : ∀ j, M9 440 j = mset M7 440 48 ((x.2.2.1 + z : Nat) : Int) 440 j := fun j => f91 440 j (by decide) (by decide) (by decide)
          refine ih M9 _ x9 (f8.tr f91.s9) ?_ ?_ ?_ ?_
          · rw [eT]; exact f92
          · rw [eT, r9, ms_nk (by decide)]; exact s71
          · rw [eT, r9, ms_eq]
          · rw [eT, r9, ms_nk (by decide)]; exact s73
        exact ⟨fun h9 => goon 0 (by rw [if_neg h9]), fun h9 => goon 1 (by rw [if_pos h9])⟩
      refine u249_29 hK x1 ⟨fun h => absurd h (by omega), fun _ => ⟨by decide, fun M2 x2 p2 => ?_⟩⟩
      obtain ⟨p2, s21⟩ := p2
      have f2 : FrS9 M M2 := f1.tr (fr440 p2)
      have l2 : LMr M2 889 c x.1 := l1.fr hn6 (fun j _ => p2 889 j (by omega))
      have s22 : M2 440 48 = (x.2.2.1 : Int) := (p2 440 48 (by omega)).trans e2
      have s23 : M2 440 49 = (x.2.2.2 : Int) := (p2 440 49 (by omega)).trans e3
      rw [e1] at s21 ⊢
      refine ⟨fun h => u249_50 hK x2 ⟨fun _ => ?_, fun h => absurd rfl h⟩, fun h => u249_50 hK x2 ⟨fun h => absurd h (by decide), fun _ => ⟨by decide, fun M3 x3 p3 => ?_⟩⟩⟩
      · have hn : ¬ dyW q x.2.1 := by unfold dyW; omega
        have := rest (mset M2 889 26 (-1)) 0 (-1) 0 (x2.set (nfa o889' _)) f2.u8 (l2.fr hn6 (fun j hj => ms_nk (by omega))) ms_eq (by unfold rainM dyR; rw [if_pos rfl, if_neg hn]) (by rw [ms_na (by decide), s21]; unfold dyV; rw [if_neg hn]) ((ms_na (by decide)).trans s22) ((ms_na (by decide)).trans s23) (by rw [if_neg hn])
        rw [ms_na (by decide)] at this
        exact this
      · have hy : dyW q x.2.1 := by unfold dyW; omega
        obtain ⟨p3, s31⟩ := p3
        have hdr := drawN_rg (s := seedN x.2.1) (b := 10) (by decide)
        have := rest (mset M3 889 26 (drawN (M2 440 47) 10)) 1 (drawN (M2 440 47) 10) 1 (x3.set (nfa o889' _)) (f2.tr (fr440 p3)).u8 (l2.fr hn6 (fun j hj => (ms_nk (by omega)).trans (p3 889 j (by omega)))) ms_eq (by unfold rainM dyR; rw [s21, if_neg (by omega), if_pos hy]) (by rw [ms_na (by decide), s31, s21]; unfold dyV; rw [if_pos hy]) ((ms_na (by decide)).trans ((p3 440 48 (by omega)).trans s22)) ((ms_na (by decide)).trans ((p3 440 49 (by omega)).trans s23)) (by rw [if_pos hy])
        rw [ms_na (by decide)] at this
        exact this
  refine u249_0 hK hX ⟨⟨o888', z888, o889', z889, by decide⟩, fun M1 x1 p1 => ?_⟩
  have f00 : FrS9 M M1 := fun a j h1 h2 h3 h4 => p1.1 a j h3
  refine loop days 0 (by omega) _ _ (((x1.set (by decide +kernel)).set (by decide +kernel)).set (by decide +kernel)) (((f00.up (by omega)).up (by omega)).up (by omega)) ?_ ?_ ?_ ?_
  · have l0 : LMr M1 889 c s := by
      refine ⟨fun z hz => ?_, ?_, ?_⟩
      · rw [p1.2 _ (by omega), p1.2 _ (by omega), p1.2 _ (by omega), p1.2 _ (by omega)]; exact hl.1 z hz
      · rw [p1.2 _ (by omega)]; exact hl.2.1
      · rw [p1.2 _ (by omega)]; exact hl.2.2
    exact l0.fr hn6 (fun j _ => by rw [ms_na (by decide), ms_na (by decide), ms_na (by decide)])
  · rw [ms_nk (by decide), ms_nk (by decide), ms_eq]; rfl
  · rw [ms_nk (by decide), ms_eq]; rfl
  · rw [ms_eq]; rfl
theorem g249z {days : Nat} {w : Int} (hK : K.1 = 923) (hX : FX M) (h : w = (days : Int) ∧ SM M 888 c s (-1) ∧ LM M L ∧ s 4 0 + (days : Int) ≤ 2000) (k : ∀ M', FX M' → (FrS9 M M' ∧ (∃ dr, SM M' 889 c (sumI c L q m s v days).1 dr) ∧ M' 440 48 = ((sumI c L q m s v days).2.2.1 : Int) ∧ M' 440 49 = ((sumI c L q m s v days).2.2.2 : Int)) → Q (.inl none) M' K) : Wm (d + 6) 249 [vR 440, vI v, vI w, vI q, vI m] M K Q := by
  rw [h.1]; exact g249 hK hX h.2 k
end SE
