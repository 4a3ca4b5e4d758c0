theorem u80_0 {d : Nat} {l1 : Nat} {l2 : Nat} {l3 : Int} {l4 : Int} {l5 : Int} {l6 : Int} {M : Mem} {K : KK} {Q : RR → Mem → KK → Prop} (hK : K.1 = 922) (hX : FX M) (k1 : isO 922 l1 0 = true) (k2 : isO 922 l2 3 = true) (h : ∃ c1 : Mem, ∃ s2 : Mem, ((147 + 4 < l2 ∨ l2 + 4 < 147) ∧ CW c1 ∧ LK M l2 c1 s2) ∧ (∀ (M6 : Mem), FX M6 → (FrI 147 M M6 ∧ LK M6 147 c1 s2 ∧ (∀ b j, l2 ≤ b → b ≤ l2 + 4 → M6 b j = M b j)) → Wp (d + 4) 80 26 [vR 146, vR l1, vR l2, vI l3, vI l4, vI l5, vI l6, vI (0 : Int), vU] [] (mset (mset (mset M6 146 1 l3) 146 2 (0 : Int)) 146 3 (0 : Int)) K Q)) : Wp (d + 4) 80 0 [vR 146, vR l1, vR l2, vI l3, vI l4, vI l5, vI l6, vU, vU] [] M K Q := by
  refine r_aload_n c80_0 rfl ?_
  refine r_getR c80_1 (oK hK o146) (FX.get (b := 147) hX (by decide) (by decide +kernel) (by decide)) (by decide) ?_
  refine r_aload_n c80_4 rfl ?_
  obtain ⟨c1, h⟩ := h
  obtain ⟨s2, h⟩ := h
  obtain ⟨p3, h⟩ := h
  refine r_call c80_5 rfl rfl (Nat.le_of_ble_eq_true rfl) (okc_r rfl rfl (oK hK o147)) (g30 hK hX o147 k2 p3 (fun M6 x4 p5 => Bk_n ?_))
  replace h := h M6 x4 p5
  refine r_aload_n c80_8 rfl ?_
  refine r_iload_n c80_9 rfl ?_
  refine r_putI c80_10 (oK hK o146) ?_
  have x7 := FX.set (v := l3) (a := 146) (k := 1) x4 (by decide +kernel)
  refine r_aload_n c80_13 rfl ?_
  refine r_iconst c80_14 ?_
  refine r_putI c80_15 (oK hK o146) ?_
  have x8 := FX.set (v := (0 : Int)) (a := 146) (k := 2) x7 (by decide +kernel)
  refine r_aload_n c80_18 rfl ?_
  refine r_iconst c80_19 ?_
  refine r_putI c80_20 (oK hK o146) ?_
  have x9 := FX.set (v := (0 : Int)) (a := 146) (k := 3) x8 (by decide +kernel)
  refine r_iconst c80_23 ?_
  refine r_istore c80_24 (Nat.le_of_ble_eq_true rfl) ?_
  exact h
theorem u80_26 {d : Nat} {l1 : Nat} {l2 : Nat} {l3 : Int} {l4 : Int} {l5 : Int} {l6 : Int} {l7 : Int} {l8 : PV} {M : Mem} {K : KK} {Q : RR → Mem → KK → Prop} (hK : K.1 = 922) (hX : FX M) (k1 : isO 922 l1 0 = true) (k2 : isO 922 l2 3 = true) (h : (l4 ≤ l7 → Q (.inl none) M K) ∧ (¬ (l4 ≤ l7) → ∃ c2 : Mem, (CC M l1 c2 ∧ CW c2) ∧ True ∧ (∀ (M7 : Mem), FX M7 → ((∀ a j, ¬ (a = 146 ∧ j = 1) → M7 a j = M a j) ∧ M7 146 1 = seedN (M 146 1)) → (l5 ≤ (drawN (M 146 1) (16 : Int)) → Wp (d + 4) 80 75 [vR 146, vR l1, vR l2, vI l3, vI l4, vI l5, vI l6, vI l7, vI (rainS c2 (M 147 4))] [] M7 K Q) ∧ (¬ (l5 ≤ (drawN (M 146 1) (16 : Int))) → True ∧ (∀ (M12 : Mem), FX M12 → ((∀ a j, ¬ (a = 146 ∧ j = 1) → M12 a j = M7 a j) ∧ M12 146 1 = seedN (M7 146 1)) → Wp (d + 4) 80 75 [vR 146, vR l1, vR l2, vI l3, vI l4, vI l5, vI l6, vI l7, vI (drawN (M7 146 1) (10 : Int))] [] (mset M12 146 3 (w32 ((M12 146 3) + (1 : Int)))) K Q))))) : Wp (d + 4) 80 26 [vR 146, vR l1, vR l2, vI l3, vI l4, vI l5, vI l6, vI l7, l8] [] M K Q := by
  refine r_iload c80_26 rfl ?_
  refine r_iload c80_28 rfl ?_
  refine r_icmpP (P := l4 ≤ l7) c80_30 rfl (fun hc1 => ?_) (fun hc1 => ?_)
  · replace h := h.1 hc1
    exact r_ret c80_142 h
  · replace h := h.2 hc1
    refine r_aload_n c80_33 rfl ?_
    refine r_aload_n c80_34 rfl ?_
    refine r_getR c80_35 (oK hK o146) (FX.get (b := 147) hX (by decide) (by decide +kernel) (by decide)) (by decide) ?_
    refine r_getIe c80_38 (oK hK o147) rfl ?_
    obtain ⟨c2, h⟩ := h
    obtain ⟨p3, h⟩ := h
    refine r_call c80_41 rfl rfl (Nat.le_of_ble_eq_true rfl) (okc_r rfl rfl (oK hK k1)) (g7 hK hX k1 p3 (Bk_v ?_))
    refine r_istore c80_44 (Nat.le_of_ble_eq_true rfl) ?_
    refine r_aload_n c80_46 rfl ?_
    refine r_bipush c80_47 ?_
    obtain ⟨p4, h⟩ := h
    refine r_call c80_49 rfl rfl (Nat.le_of_ble_eq_true rfl) (okc_r rfl rfl (oK hK o146)) (g81z hK hX p4 (fun M7 x5 p6 => Bk_v ?_))
    replace h := h M7 x5 p6
    refine r_iload c80_52 rfl ?_
    refine r_icmpP (P := l5 ≤ (drawN (M 146 1) (16 : Int))) c80_54 rfl (fun hc8 => ?_) (fun hc8 => ?_)
    · replace h := h.1 hc8
      exact h
    · replace h := h.2 hc8
      refine r_aload_n c80_57 rfl ?_
      refine r_bipush c80_58 ?_
      obtain ⟨p9, h⟩ := h
      refine r_call c80_60 rfl rfl (Nat.le_of_ble_eq_true rfl) (okc_r rfl rfl (oK hK o146)) (g81z hK x5 p9 (fun M12 x10 p11 => Bk_v ?_))
      replace h := h M12 x10 p11
      refine r_istore c80_63 (Nat.le_of_ble_eq_true rfl) ?_
      refine r_aload_n c80_65 rfl ?_
      refine r_dupr c80_66 ?_
      refine r_getIe c80_67 (oK hK o146) rfl ?_
      refine r_iconst c80_70 ?_
      refine r_iadd c80_71 ?_
      refine r_putI c80_72 (oK hK o146) ?_
      have x13 := FX.set (v := (w32 ((M12 146 3) + (1 : Int)))) (a := 146) (k := 3) x10 (by decide +kernel)
      exact h
theorem u80_75 {d : Nat} {l1 : Nat} {l2 : Nat} {l3 : Int} {l4 : Int} {l5 : Int} {l6 : Int} {l7 : Int} {l8 : Int} {M : Mem} {K : KK} {Q : RR → Mem → KK → Prop} (hK : K.1 = 922) (hX : FX M) (k1 : isO 922 l1 0 = true) (k2 : isO 922 l2 3 = true) (h : True ∧ (∀ (M4 : Mem), FX M4 → ((∀ a j, ¬ (a = 146 ∧ j = 1) → M4 a j = M a j) ∧ M4 146 1 = seedN (M 146 1)) → (l6 ≤ (drawN (M 146 1) (16 : Int)) → ∃ c6 : Mem, ∃ s7 : Mem, ∃ L8 : LC, ∃ la9 : Nat, (SKc M4 l1 147 c6 s7 ∧ LWC M4 l1 L8 la9 ∧ s7 4 0 < 2000) ∧ (∀ (M13 : Mem), FX M13 → (FrI 147 M4 M13 ∧ LK M13 147 c6 (dayS c6 L8 s7 l8)) → Wp (d + 4) 80 26 [vR 146, vR l1, vR l2, vI l3, vI l4, vI l5, vI l6, vI (w32 (l7 + 1)), vI l8] [] M13 K Q)) ∧ (¬ (l6 ≤ (drawN (M 146 1) (16 : Int))) → ((M4 l1 5) ≤ (0 : Int) → ∃ c15 : Mem, ∃ s16 : Mem, ∃ L17 : LC, ∃ la18 : Nat, (SKc M4 l1 147 c15 s16 ∧ LWC M4 l1 L17 la18 ∧ s16 4 0 < 2000) ∧ (∀ (M22 : Mem), FX M22 → (FrI 147 M4 M22 ∧ LK M22 147 c15 (dayS c15 L17 s16 l8)) → Wp (d + 4) 80 26 [vR 146, vR l1, vR l2, vI l3, vI l4, vI l5, vI l6, vI (w32 (l7 + 1)), vI l8] [] M22 K Q)) ∧ (¬ ((M4 l1 5) ≤ (0 : Int)) → True ∧ (∀ (M26 : Mem), FX M26 → ((∀ a j, ¬ (a = 146 ∧ j = 1) → M26 a j = M4 a j) ∧ M26 146 1 = seedN (M4 146 1)) → ∃ c27 : Mem, ∃ s28 : Mem, SKc M26 l1 147 c27 s28 ∧ (∀ (M32 : Mem), FX M32 → (FrI 147 M26 M32 ∧ LK M32 147 c27 (digS c27 s28 (drawN (M4 146 1) (M4 l1 5)))) → (¬ (lyOn c27 s28 (drawN (M4 146 1) (M4 l1 5)) ≠ -1) → ∃ c36 : Mem, ∃ s37 : Mem, ∃ L38 : LC, ∃ la39 : Nat, (SKc (mset M32 146 2 (w32 ((M4 146 2) + (0 : Int)))) l1 147 c36 s37 ∧ LWC (mset M32 146 2 (w32 ((M4 146 2) + (0 : Int)))) l1 L38 la39 ∧ s37 4 0 < 2000) ∧ (∀ (M43 : Mem), FX M43 → (FrI 147 (mset M32 146 2 (w32 ((M4 146 2) + (0 : Int)))) M43 ∧ LK M43 147 c36 (dayS c36 L38 s37 l8)) → Wp (d + 4) 80 26 [vR 146, vR l1, vR l2, vI l3, vI l4, vI l5, vI l6, vI (w32 (l7 + 1)), vI l8] [] M43 K Q)) ∧ ((lyOn c27 s28 (drawN (M4 146 1) (M4 l1 5)) ≠ -1) → ∃ c45 : Mem, ∃ s46 : Mem, ∃ L47 : LC, ∃ la48 : Nat, (SKc (mset M32 146 2 (w32 ((M4 146 2) + (1 : Int)))) l1 147 c45 s46 ∧ LWC (mset M32 146 2 (w32 ((M4 146 2) + (1 : Int)))) l1 L47 la48 ∧ s46 4 0 < 2000) ∧ (∀ (M52 : Mem), FX M52 → (FrI 147 (mset M32 146 2 (w32 ((M4 146 2) + (1 : Int)))) M52 ∧ LK M52 147 c45 (dayS c45 L47 s46 l8)) → Wp (d + 4) 80 26 [vR 146, vR l1, vR l2, vI l3, vI l4, vI l5, vI l6, vI (w32 (l7 + 1)), vI l8] [] M52 K Q)))))))) : Wp (d + 4) 80 75 [vR 146, vR l1, vR l2, vI l3, vI l4, vI l5, vI l6, vI l7, vI l8] [] M K Q := by
  refine r_aload_n c80_75 rfl ?_
  refine r_bipush c80_76 ?_
  obtain ⟨p1, h⟩ := h
  refine r_call c80_78 rfl rfl (Nat.le_of_ble_eq_true rfl) (okc_r rfl rfl (oK hK o146)) (g81z hK hX p1 (fun M4 x2 p3 => Bk_v ?_))
  replace h := h M4 x2 p3
  refine r_iload c80_81 rfl ?_
  refine r_icmpP (P := l6 ≤ (drawN (M 146 1) (16 : Int))) c80_83 rfl (fun hc5 => ?_) (fun hc5 => ?_)
  · replace h := h.1 hc5
    refine r_aload_n c80_126 rfl ?_
    refine r_getR c80_127 (oK hK o146) (FX.get (b := 147) x2 (by decide) (by decide +kernel) (by decide)) (by decide) ?_
    refine r_aload_n c80_130 rfl ?_
    refine r_iload c80_131 rfl ?_
    obtain ⟨c6, h⟩ := h
    obtain ⟨s7, h⟩ := h
    obtain ⟨L8, h⟩ := h
    obtain ⟨la9, h⟩ := h
    obtain ⟨p10, h⟩ := h
    refine r_call c80_133 rfl rfl (Nat.le_of_ble_eq_true rfl) (okc_r rfl rfl (oK hK o147)) (g36 hK x2 o147 k1 p10 (fun M13 x11 p12 => Bk_n ?_))
    replace h := h M13 x11 p12
    refine r_iinc c80_136 rfl ?_
    refine r_goto c80_139 ?_
    exact h
  · replace h := h.2 hc5
    refine r_aload_n c80_86 rfl ?_
    refine r_getIe c80_87 (oK hK k1) rfl ?_
    refine r_ifP (P := (M4 l1 5) ≤ (0 : Int)) c80_90 rfl (fun hc14 => ?_) (fun hc14 => ?_)
    · replace h := h.1 hc14
      refine r_aload_n c80_126 rfl ?_
      refine r_getR c80_127 (oK hK o146) (FX.get (b := 147) x2 (by decide) (by decide +kernel) (by decide)) (by decide) ?_
      refine r_aload_n c80_130 rfl ?_
      refine r_iload c80_131 rfl ?_
      obtain ⟨c15, h⟩ := h
      obtain ⟨s16, h⟩ := h
      obtain ⟨L17, h⟩ := h
      obtain ⟨la18, h⟩ := h
      obtain ⟨p19, h⟩ := h
      refine r_call c80_133 rfl rfl (Nat.le_of_ble_eq_true rfl) (okc_r rfl rfl (oK hK o147)) (g36 hK x2 o147 k1 p19 (fun M22 x20 p21 => Bk_n ?_))
      replace h := h M22 x20 p21
      refine r_iinc c80_136 rfl ?_
      refine r_goto c80_139 ?_
      exact h
    · replace h := h.2 hc14
      refine r_aload_n c80_93 rfl ?_
      refine r_dupr c80_94 ?_
      refine r_getIe c80_95 (oK hK o146) rfl ?_
      refine r_aload_n c80_98 rfl ?_
      refine r_getR c80_99 (oK hK o146) (FX.get (b := 147) x2 (by decide) (by decide +kernel) (by decide)) (by decide) ?_
      refine r_aload_n c80_102 rfl ?_
      refine r_aload_n c80_103 rfl ?_
      refine r_aload_n c80_104 rfl ?_
      refine r_getIe c80_105 (oK hK k1) rfl ?_
      obtain ⟨p23, h⟩ := h
      refine r_call c80_108 rfl rfl (Nat.le_of_ble_eq_true rfl) (okc_r rfl rfl (oK hK o146)) (g81z hK x2 p23 (fun M26 x24 p25 => Bk_v ?_))
      replace h := h M26 x24 p25
      obtain ⟨c27, h⟩ := h
      obtain ⟨s28, h⟩ := h
      obtain ⟨p29, h⟩ := h
      refine r_call c80_111 rfl rfl (Nat.le_of_ble_eq_true rfl) (okc_r rfl rfl (oK hK o147)) (g35 hK x24 o147 k1 p29 (fun M32 x30 p31 => Bk_v ?_))
      replace h := h M32 x30 p31
      refine r_ifP (P := ¬ (lyOn c27 s28 (drawN (M4 146 1) (M4 l1 5)) ≠ -1)) c80_114 bI_eq (fun hc33 => ?_) (fun hc33 => ?_)
      · replace h := h.1 hc33
        refine r_iconst c80_121 ?_
        refine r_iadd c80_122 ?_
        refine r_putI c80_123 (oK hK o146) ?_
        have x35 := FX.set (v := (w32 ((M4 146 2) + (0 : Int)))) (a := 146) (k := 2) x30 (by decide +kernel)
        refine r_aload_n c80_126 rfl ?_
        refine r_getR c80_127 (oK hK o146) (FX.get (b := 147) x35 (by decide) (by decide +kernel) (by decide)) (by decide) ?_
        refine r_aload_n c80_130 rfl ?_
        refine r_iload c80_131 rfl ?_
        obtain ⟨c36, h⟩ := h
        obtain ⟨s37, h⟩ := h
        obtain ⟨L38, h⟩ := h
        obtain ⟨la39, h⟩ := h
        obtain ⟨p40, h⟩ := h
        refine r_call c80_133 rfl rfl (Nat.le_of_ble_eq_true rfl) (okc_r rfl rfl (oK hK o147)) (g36 hK x35 o147 k1 p40 (fun M43 x41 p42 => Bk_n ?_))
        replace h := h M43 x41 p42
        refine r_iinc c80_136 rfl ?_
        refine r_goto c80_139 ?_
        exact h
      · have hc34 := Classical.not_not.mp hc33
        replace h := h.2 hc34
        refine r_iconst c80_117 ?_
        refine r_goto c80_118 ?_
        refine r_iadd c80_122 ?_
        refine r_putI c80_123 (oK hK o146) ?_
        have x44 := FX.set (v := (w32 ((M4 146 2) + (1 : Int)))) (a := 146) (k := 2) x30 (by decide +kernel)
        refine r_aload_n c80_126 rfl ?_
        refine r_getR c80_127 (oK hK o146) (FX.get (b := 147) x44 (by decide) (by decide +kernel) (by decide)) (by decide) ?_
        refine r_aload_n c80_130 rfl ?_
        refine r_iload c80_131 rfl ?_
        obtain ⟨c45, h⟩ := h
        obtain ⟨s46, h⟩ := h
        obtain ⟨L47, h⟩ := h
        obtain ⟨la48, h⟩ := h
        obtain ⟨p49, h⟩ := h
        refine r_call c80_133 rfl rfl (Nat.le_of_ble_eq_true rfl) (okc_r rfl rfl (oK hK o147)) (g36 hK x44 o147 k1 p49 (fun M52 x50 p51 => Bk_n ?_))
        replace h := h M52 x50 p51
        refine r_iinc c80_136 rfl ?_
        refine r_goto c80_139 ?_
        exact h
theorem u249_0 {d : Nat} {l1 : Int} {l2 : Int} {l3 : Int} {l4 : Int} {M : Mem} {K : KK} {Q : RR → Mem → KK → Prop} (hK : K.1 = 922) (hX : FX M)  (h : (isO 922 887 20 = true ∧ L27 887 ∧ isO 922 888 20 = true ∧ L27 888 ∧ 887 ≠ 888) ∧ (∀ (M4 : Mem), FX M4 → (Fr1 888 M M4 ∧ ∀ j, j < 27 → M4 888 j = M 887 j) → Wp (d + 6) 249 29 [vR 439, vI l1, vI l2, vI l3, vI l4, vI (0 : Int), vU] [] (mset (mset (mset M4 439 47 l1) 439 48 (0 : Int)) 439 49 (0 : Int)) K Q)) : Wp (d + 6) 249 0 [vR 439, vI l1, vI l2, vI l3, vI l4, vU, vU] [] M K Q := by
  refine r_aload_n c249_0 rfl ?_
  refine r_getR c249_1 (oK hK o439) (FX.get (b := 887) hX (by decide) (by decide +kernel) (by decide)) (by decide) ?_
  refine r_aload_n c249_4 rfl ?_
  refine r_getR c249_5 (oK hK o439) (FX.get (b := 888) hX (by decide) (by decide +kernel) (by decide)) (by decide) ?_
  obtain ⟨p1, h⟩ := h
  refine r_call c249_8 rfl rfl (Nat.le_of_ble_eq_true rfl) (okc_s rfl rfl rfl) (g178 hK hX p1 (fun M4 x2 p3 => Bk_n ?_))
  replace h := h M4 x2 p3
  refine r_aload_n c249_11 rfl ?_
  refine r_iload_n c249_12 rfl ?_
  refine r_putI c249_13 (oK hK o439) ?_
  have x5 := FX.set (v := l1) (a := 439) (k := 47) x2 (by decide +kernel)
  refine r_aload_n c249_16 rfl ?_
  refine r_iconst c249_17 ?_
  refine r_putI c249_18 (oK hK o439) ?_
  have x6 := FX.set (v := (0 : Int)) (a := 439) (k := 48) x5 (by decide +kernel)
  refine r_aload_n c249_21 rfl ?_
  refine r_iconst c249_22 ?_
  refine r_putI c249_23 (oK hK o439) ?_
  have x7 := FX.set (v := (0 : Int)) (a := 439) (k := 49) x6 (by decide +kernel)
  refine r_iconst c249_26 ?_
  refine r_istore c249_27 (Nat.le_of_ble_eq_true rfl) ?_
  exact h
theorem u249_29 {d : Nat} {l1 : Int} {l2 : Int} {l3 : Int} {l4 : Int} {l5 : Int} {l6 : PV} {M : Mem} {K : KK} {Q : RR → Mem → KK → Prop} (hK : K.1 = 922) (hX : FX M)  (h : (l2 ≤ l5 → Q (.inl none) M K) ∧ (¬ (l2 ≤ l5) → 0 < (16 : Int) ∧ (∀ (M5 : Mem), FX M5 → ((∀ a j, ¬ (a = 439 ∧ j = 47) → M5 a j = M a j) ∧ M5 439 47 = seedN (M 439 47)) → (l3 ≤ (drawN (M 439 47) (16 : Int)) → Wp (d + 6) 249 50 [vR 439, vI l1, vI l2, vI l3, vI l4, vI l5, l6] [vI (0 : Int)] M5 K Q) ∧ (¬ (l3 ≤ (drawN (M 439 47) (16 : Int))) → Wp (d + 6) 249 50 [vR 439, vI l1, vI l2, vI l3, vI l4, vI l5, l6] [vI (1 : Int)] M5 K Q)))) : Wp (d + 6) 249 29 [vR 439, vI l1, vI l2, vI l3, vI l4, vI l5, l6] [] M K Q := by
  refine r_iload c249_29 rfl ?_
  refine r_iload_n c249_31 rfl ?_
  refine r_icmpP (P := l2 ≤ l5) c249_32 rfl (fun hc1 => ?_) (fun hc1 => ?_)
  · replace h := h.1 hc1
    exact r_ret c249_162 h
  · replace h := h.2 hc1
    refine r_aload_n c249_35 rfl ?_
    refine r_bipush c249_36 ?_
    obtain ⟨p2, h⟩ := h
    refine r_call c249_38 rfl rfl (Nat.le_of_ble_eq_true rfl) (okc_r rfl rfl (oK hK o439)) (g248 hK hX p2 (fun M5 x3 p4 => Bk_v ?_))
    replace h := h M5 x3 p4
    refine r_iload_n c249_41 rfl ?_
    refine r_icmpP (P := l3 ≤ (drawN (M 439 47) (16 : Int))) c249_42 rfl (fun hc6 => ?_) (fun hc6 => ?_)
    · replace h := h.1 hc6
      refine r_iconst c249_49 ?_
      exact h
    · replace h := h.2 hc6
      refine r_iconst c249_45 ?_
      refine r_goto c249_46 ?_
      exact h
theorem u249_50 {d : Nat} {l1 : Int} {l2 : Int} {l3 : Int} {l4 : Int} {l5 : Int} {l6 : PV} {t0 : Int} {M : Mem} {K : KK} {Q : RR → Mem → KK → Prop} (hK : K.1 = 922) (hX : FX M)  (h : (t0 = (0 : Int) → Wp (d + 6) 249 89 [vR 439, vI l1, vI l2, vI l3, vI l4, vI l5, vI t0] [vI (0 : Int), vI (M 439 49), vR 439] (mset M 888 26 (-1 : Int)) K Q) ∧ (¬ (t0 = (0 : Int)) → 0 < (10 : Int) ∧ (∀ (M6 : Mem), FX M6 → ((∀ a j, ¬ (a = 439 ∧ j = 47) → M6 a j = M a j) ∧ M6 439 47 = seedN (M 439 47)) → Wp (d + 6) 249 89 [vR 439, vI l1, vI l2, vI l3, vI l4, vI l5, vI t0] [vI (1 : Int), vI (M6 439 49), vR 439] (mset M6 888 26 (drawN (M 439 47) (10 : Int))) K Q))) : Wp (d + 6) 249 50 [vR 439, vI l1, vI l2, vI l3, vI l4, vI l5, l6] [vI t0] M K Q := by
  refine r_istore c249_50 (Nat.le_of_ble_eq_true rfl) ?_
  refine r_aload_n c249_52 rfl ?_
  refine r_getR c249_53 (oK hK o439) (FX.get (b := 888) hX (by decide) (by decide +kernel) (by decide)) (by decide) ?_
  refine r_bipush c249_56 ?_
  refine r_iload c249_58 rfl ?_
  refine r_ifP (P := t0 = (0 : Int)) c249_60 rfl (fun hc1 => ?_) (fun hc1 => ?_)
  · replace h := h.1 hc1
    refine r_iconst c249_72 ?_
    refine r_ias c249_73 (oK hK o888) (bd l888 (by decide)) ?_
    have x2 := FX.set (v := (-1 : Int)) (a := 888) (k := 26) hX (nfa o888 _)
    refine r_aload_n c249_74 rfl ?_
    refine r_dupr c249_75 ?_
    refine r_getIe c249_76 (oK hK o439) (ms_na (by decide)) ?_
    refine r_iload c249_79 rfl ?_
    refine r_ifP (P := t0 = (0 : Int)) c249_81 rfl (fun hc => ?_) (fun hc => absurd hc1 hc)
    refine r_iconst c249_88 ?_
    exact h
  · replace h := h.2 hc1
    refine r_aload_n c249_63 rfl ?_
    refine r_bipush c249_64 ?_
    obtain ⟨p3, h⟩ := h
    refine r_call c249_66 rfl rfl (Nat.le_of_ble_eq_true rfl) (okc_r rfl rfl (oK hK o439)) (g248 hK hX p3 (fun M6 x4 p5 => Bk_v ?_))
    replace h := h M6 x4 p5
    refine r_goto c249_69 ?_
    refine r_ias c249_73 (oK hK o888) (bd l888 (by decide)) ?_
    have x7 := FX.set (v := (drawN (M 439 47) (10 : Int))) (a := 888) (k := 26) x4 (nfa o888 _)
    refine r_aload_n c249_74 rfl ?_
    refine r_dupr c249_75 ?_
    refine r_getIe c249_76 (oK hK o439) (ms_na (by decide)) ?_
    refine r_iload c249_79 rfl ?_
    refine r_ifP (P := t0 = (0 : Int)) c249_81 rfl (fun hc => absurd hc hc1) (fun hc => ?_)
    refine r_iconst c249_84 ?_
    refine r_goto c249_85 ?_
    exact h
theorem u249_89 {d : Nat} {l1 : Int} {l2 : Int} {l3 : Int} {l4 : Int} {l5 : Int} {l6 : Int} {t1 : Int} {t2 : Int} {M : Mem} {K : KK} {Q : RR → Mem → KK → Prop} (hK : K.1 = 922) (hX : FX M)  (h : 0 < (16 : Int) ∧ (∀ (M5 : Mem), FX M5 → ((∀ a j, ¬ (a = 439 ∧ j = 47) → M5 a j = (mset M 439 49 (w32 (t1 + t2))) a j) ∧ M5 439 47 = seedN ((mset M 439 49 (w32 (t1 + t2))) 439 47)) → (l4 ≤ (drawN ((mset M 439 49 (w32 (t1 + t2))) 439 47) (16 : Int)) → ∃ c7 : Mem, ∃ s8 : Mem, ∃ L9 : LC, ∃ dr10 : Int, (SM M5 888 c7 s8 dr10 ∧ LM M5 L9 ∧ s8 4 0 < 2000) ∧ (∀ (M14 : Mem), FX M14 → (FrJ 888 M5 M14 ∧ LMr M14 888 c7 (dayS c7 L9 s8 (rainM c7 s8 dr10)) ∧ M14 888 26 = dr10) → Wp (d + 6) 249 29 [vR 439, vI l1, vI l2, vI l3, vI l4, vI (w32 (l5 + 1)), vI l6] [] M14 K Q)) ∧ (¬ (l4 ≤ (drawN ((mset M 439 49 (w32 (t1 + t2))) 439 47) (16 : Int))) → ((M5 443 0) ≤ (0 : Int) → ∃ c16 : Mem, ∃ s17 : Mem, ∃ L18 : LC, ∃ dr19 : Int, (SM M5 888 c16 s17 dr19 ∧ LM M5 L18 ∧ s17 4 0 < 2000) ∧ (∀ (M23 : Mem), FX M23 → (FrJ 888 M5 M23 ∧ LMr M23 888 c16 (dayS c16 L18 s17 (rainM c16 s17 dr19)) ∧ M23 888 26 = dr19) → Wp (d + 6) 249 29 [vR 439, vI l1, vI l2, vI l3, vI l4, vI (w32 (l5 + 1)), vI l6] [] M23 K Q)) ∧ (¬ ((M5 443 0) ≤ (0 : Int)) → 0 < (M5 443 0) ∧ (∀ (M27 : Mem), FX M27 → ((∀ a j, ¬ (a = 439 ∧ j = 47) → M27 a j = M5 a j) ∧ M27 439 47 = seedN (M5 439 47)) → ∃ c28 : Mem, ∃ s29 : Mem, ∃ dr30 : Int, SM M27 888 c28 s29 dr30 ∧ (∀ (M34 : Mem), FX M34 → (FrJ 888 M27 M34 ∧ LMr M34 888 c28 (digS c28 s29 (drawN (M5 439 47) (M5 443 0))) ∧ M34 888 26 = dr30) → (¬ (lyOn c28 s29 (drawN (M5 439 47) (M5 443 0)) ≠ -1) → ∃ c38 : Mem, ∃ s39 : Mem, ∃ L40 : LC, ∃ dr41 : Int, (SM (mset M34 439 48 (w32 ((M5 439 48) + (0 : Int)))) 888 c38 s39 dr41 ∧ LM (mset M34 439 48 (w32 ((M5 439 48) + (0 : Int)))) L40 ∧ s39 4 0 < 2000) ∧ (∀ (M45 : Mem), FX M45 → (FrJ 888 (mset M34 439 48 (w32 ((M5 439 48) + (0 : Int)))) M45 ∧ LMr M45 888 c38 (dayS c38 L40 s39 (rainM c38 s39 dr41)) ∧ M45 888 26 = dr41) → Wp (d + 6) 249 29 [vR 439, vI l1, vI l2, vI l3, vI l4, vI (w32 (l5 + 1)), vI l6] [] M45 K Q)) ∧ ((lyOn c28 s29 (drawN (M5 439 47) (M5 443 0)) ≠ -1) → ∃ c47 : Mem, ∃ s48 : Mem, ∃ L49 : LC, ∃ dr50 : Int, (SM (mset M34 439 48 (w32 ((M5 439 48) + (1 : Int)))) 888 c47 s48 dr50 ∧ LM (mset M34 439 48 (w32 ((M5 439 48) + (1 : Int)))) L49 ∧ s48 4 0 < 2000) ∧ (∀ (M54 : Mem), FX M54 → (FrJ 888 (mset M34 439 48 (w32 ((M5 439 48) + (1 : Int)))) M54 ∧ LMr M54 888 c47 (dayS c47 L49 s48 (rainM c47 s48 dr50)) ∧ M54 888 26 = dr50) → Wp (d + 6) 249 29 [vR 439, vI l1, vI l2, vI l3, vI l4, vI (w32 (l5 + 1)), vI l6] [] M54 K Q)))))))) : Wp (d + 6) 249 89 [vR 439, vI l1, vI l2, vI l3, vI l4, vI l5, vI l6] [vI t2, vI t1, vR 439] M K Q := by
  refine r_iadd c249_89 ?_
  refine r_putI c249_90 (oK hK o439) ?_
  have x1 := FX.set (v := (w32 (t1 + t2))) (a := 439) (k := 49) hX (by decide +kernel)
  refine r_aload_n c249_93 rfl ?_
  refine r_bipush c249_94 ?_
  obtain ⟨p2, h⟩ := h
  refine r_call c249_96 rfl rfl (Nat.le_of_ble_eq_true rfl) (okc_r rfl rfl (oK hK o439)) (g248 hK x1 p2 (fun M5 x3 p4 => Bk_v ?_))
  replace h := h M5 x3 p4
  refine r_iload c249_99 rfl ?_
  refine r_icmpP (P := l4 ≤ (drawN ((mset M 439 49 (w32 (t1 + t2))) 439 47) (16 : Int))) c249_101 rfl (fun hc6 => ?_) (fun hc6 => ?_)
  · replace h := h.1 hc6
    refine r_aload_n c249_148 rfl ?_
    refine r_aload_n c249_149 rfl ?_
    refine r_getR c249_150 (oK hK o439) (FX.get (b := 888) x3 (by decide) (by decide +kernel) (by decide)) (by decide) ?_
    obtain ⟨c7, h⟩ := h
    obtain ⟨s8, h⟩ := h
    obtain ⟨L9, h⟩ := h
    obtain ⟨dr10, h⟩ := h
    obtain ⟨p11, h⟩ := h
    refine r_call c249_153 rfl rfl (Nat.le_of_ble_eq_true rfl) (okc_r rfl rfl (oK hK o439)) (g198 hK x3 o888 l888 p11 (fun M14 x12 p13 => Bk_n ?_))
    replace h := h M14 x12 p13
    refine r_iinc c249_156 rfl ?_
    refine r_goto c249_159 ?_
    exact h
  · replace h := h.2 hc6
    refine r_aload_n c249_104 rfl ?_
    refine r_getR c249_105 (oK hK o439) (FX.get (b := 443) x3 (by decide) (by decide +kernel) (by decide)) (by decide) ?_
    refine r_iconst c249_108 ?_
    refine r_iae c249_109 (oK hK o443) (bd l443 (by decide)) rfl ?_
    refine r_ifP (P := (M5 443 0) ≤ (0 : Int)) c249_110 rfl (fun hc15 => ?_) (fun hc15 => ?_)
    · replace h := h.1 hc15
      refine r_aload_n c249_148 rfl ?_
      refine r_aload_n c249_149 rfl ?_
      refine r_getR c249_150 (oK hK o439) (FX.get (b := 888) x3 (by decide) (by decide +kernel) (by decide)) (by decide) ?_
      obtain ⟨c16, h⟩ := h
      obtain ⟨s17, h⟩ := h
      obtain ⟨L18, h⟩ := h
      obtain ⟨dr19, h⟩ := h
      obtain ⟨p20, h⟩ := h
      refine r_call c249_153 rfl rfl (Nat.le_of_ble_eq_true rfl) (okc_r rfl rfl (oK hK o439)) (g198 hK x3 o888 l888 p20 (fun M23 x21 p22 => Bk_n ?_))
      replace h := h M23 x21 p22
      refine r_iinc c249_156 rfl ?_
      refine r_goto c249_159 ?_
      exact h
    · replace h := h.2 hc15
      refine r_aload_n c249_113 rfl ?_
      refine r_dupr c249_114 ?_
      refine r_getIe c249_115 (oK hK o439) rfl ?_
      refine r_aload_n c249_118 rfl ?_
      refine r_aload_n c249_119 rfl ?_
      refine r_getR c249_120 (oK hK o439) (FX.get (b := 888) x3 (by decide) (by decide +kernel) (by decide)) (by decide) ?_
      refine r_aload_n c249_123 rfl ?_
      refine r_aload_n c249_124 rfl ?_
      refine r_getR c249_125 (oK hK o439) (FX.get (b := 443) x3 (by decide) (by decide +kernel) (by decide)) (by decide) ?_
      refine r_iconst c249_128 ?_
      refine r_iae c249_129 (oK hK o443) (bd l443 (by decide)) rfl ?_
      obtain ⟨p24, h⟩ := h
      refine r_call c249_130 rfl rfl (Nat.le_of_ble_eq_true rfl) (okc_r rfl rfl (oK hK o439)) (g248 hK x3 p24 (fun M27 x25 p26 => Bk_v ?_))
      replace h := h M27 x25 p26
      obtain ⟨c28, h⟩ := h
      obtain ⟨s29, h⟩ := h
      obtain ⟨dr30, h⟩ := h
      obtain ⟨p31, h⟩ := h
      refine r_call c249_133 rfl rfl (Nat.le_of_ble_eq_true rfl) (okc_r rfl rfl (oK hK o439)) (g199 hK x25 o888 l888 p31 (fun M34 x32 p33 => Bk_v ?_))
      replace h := h M34 x32 p33
      refine r_ifP (P := ¬ (lyOn c28 s29 (drawN (M5 439 47) (M5 443 0)) ≠ -1)) c249_136 bI_eq (fun hc35 => ?_) (fun hc35 => ?_)
      · replace h := h.1 hc35
        refine r_iconst c249_143 ?_
        refine r_iadd c249_144 ?_
        refine r_putI c249_145 (oK hK o439) ?_
        have x37 := FX.set (v := (w32 ((M5 439 48) + (0 : Int)))) (a := 439) (k := 48) x32 (by decide +kernel)
        refine r_aload_n c249_148 rfl ?_
        refine r_aload_n c249_149 rfl ?_
        refine r_getR c249_150 (oK hK o439) (FX.get (b := 888) x37 (by decide) (by decide +kernel) (by decide)) (by decide) ?_
        obtain ⟨c38, h⟩ := h
        obtain ⟨s39, h⟩ := h
        obtain ⟨L40, h⟩ := h
        obtain ⟨dr41, h⟩ := h
        obtain ⟨p42, h⟩ := h
        refine r_call c249_153 rfl rfl (Nat.le_of_ble_eq_true rfl) (okc_r rfl rfl (oK hK o439)) (g198 hK x37 o888 l888 p42 (fun M45 x43 p44 => Bk_n ?_))
        replace h := h M45 x43 p44
        refine r_iinc c249_156 rfl ?_
        refine r_goto c249_159 ?_
        exact h
      · have hc36 := Classical.not_not.mp hc35
        replace h := h.2 hc36
        refine r_iconst c249_139 ?_
        refine r_goto c249_140 ?_
        refine r_iadd c249_144 ?_
        refine r_putI c249_145 (oK hK o439) ?_
        have x46 := FX.set (v := (w32 ((M5 439 48) + (1 : Int)))) (a := 439) (k := 48) x32 (by decide +kernel)
        refine r_aload_n c249_148 rfl ?_
        refine r_aload_n c249_149 rfl ?_
        refine r_getR c249_150 (oK hK o439) (FX.get (b := 888) x46 (by decide) (by decide +kernel) (by decide)) (by decide) ?_
        obtain ⟨c47, h⟩ := h
        obtain ⟨s48, h⟩ := h
        obtain ⟨L49, h⟩ := h
        obtain ⟨dr50, h⟩ := h
        obtain ⟨p51, h⟩ := h
        refine r_call c249_153 rfl rfl (Nat.le_of_ble_eq_true rfl) (okc_r rfl rfl (oK hK o439)) (g198 hK x46 o888 l888 p51 (fun M54 x52 p53 => Bk_n ?_))
        replace h := h M54 x52 p53
        refine r_iinc c249_156 rfl ?_
        refine r_goto c249_159 ?_
        exact h
