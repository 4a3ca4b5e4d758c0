theorem u53_0 {d : Nat} {l1 : Nat} {l2 : Nat} {l3 : Int} {M : Mem} {K : KK} {Q : RR → Mem → KK → Prop} (hK : K.1 = 923) (hX : FX M) (k1 : isO 923 l1 0 = true) (k2 : isO 923 l2 3 = true) (h : Wp (d + 3) 53 3 [vR 134, vR l1, vR l2, vI l3, vI (0 : Int)] [] M K Q) : Wp (d + 3) 53 0 [vR 134, vR l1, vR l2, vI l3, vU] [] M K Q := by
  refine r_iconst c53_0 ?_
  refine r_istore c53_1 (Nat.le_of_ble_eq_true rfl) ?_
  exact h
theorem u53_3 {d : Nat} {l1 : Nat} {l2 : Nat} {l3 : Int} {l4 : Int} {M : Mem} {K : KK} {Q : RR → Mem → KK → Prop} (hK : K.1 = 923) (hX : FX M) (k1 : isO 923 l1 0 = true) (k2 : isO 923 l2 3 = true) (h : (0 ≤ l3 ∧ l3 < (6 : Int)) ∧ ((M l1 5) < (w32 (l4 + (M (l1 + 2) (Int.toNat l3)))) → Q (.inl none) M K) ∧ (¬ ((M l1 5) < (w32 (l4 + (M (l1 + 2) (Int.toNat l3))))) → ∃ c3 : Mem, ∃ s4 : Mem, ∃ L5 : LC, ∃ la6 : Nat, ∃ p7 : Nat, (l3 = (p7 : Int) ∧ SKc M l1 l2 c3 s4 ∧ LWC M l1 L5 la6 ∧ p7 < nSt c3 ∧ (l4 = -1 ∨ (0 ≤ l4 ∧ l4 + c3 2 p7 ≤ c3 0 0))) ∧ (∀ (M11 : Mem), FX M11 → FrW M M11 → (0 ≤ l3 ∧ l3 < (6 : Int)) ∧ (0 ≤ l4 ∧ l4 < (12 : Int)) ∧ Wp (d + 3) 53 3 [vR 134, vR l1, vR l2, vI l3, vI (w32 (l4 + 1))] [] (mset M11 137 (Int.toNat l4) (jmin (whD c3 s4 L5 p7 l4) (M11 (l2 + 1) (Int.toNat l3)))) K Q))) : Wp (d + 3) 53 3 [vR 134, vR l1, vR l2, vI l3, vI l4] [] M K Q := by
  refine r_iload c53_3 rfl ?_
  refine r_aload_n c53_5 rfl ?_
  refine r_getR c53_6 (oK hK k1) (fx0_1 hX k1) (by omega) ?_
  refine r_iload_n c53_9 rfl ?_
  obtain ⟨s1, h⟩ := h
  refine r_iae c53_10 (oK hK (q0_1 k1)) (bd (z0_1 k1) s1) rfl ?_
  refine r_iadd c53_11 ?_
  refine r_aload_n c53_12 rfl ?_
  refine r_getIe c53_13 (oK hK k1) rfl ?_
  refine r_icmpP (P := (M l1 5) < (w32 (l4 + (M (l1 + 2) (Int.toNat l3))))) c53_16 rfl (fun hc2 => ?_) (fun hc2 => ?_)
  · replace h := h.1 hc2
    exact r_ret c53_49 h
  · replace h := h.2 hc2
    refine r_aload_n c53_19 rfl ?_
    refine r_getR c53_20 (oK hK o134) (FX.get (b := 137) hX (by decide) (by decide +kernel) (by decide)) (by decide) ?_
    refine r_iload c53_23 rfl ?_
    refine r_aload_n c53_25 rfl ?_
    refine r_aload_n c53_26 rfl ?_
    refine r_iload_n c53_27 rfl ?_
    refine r_iload c53_28 rfl ?_
    obtain ⟨c3, h⟩ := h
    obtain ⟨s4, h⟩ := h
    obtain ⟨L5, h⟩ := h
    obtain ⟨la6, h⟩ := h
    obtain ⟨p7, h⟩ := h
    obtain ⟨p8, h⟩ := h
    refine r_call c53_30 rfl rfl (Nat.le_of_ble_eq_true rfl) (okc_r rfl rfl (oK hK k2)) (g45 hK hX k2 k1 p8 (fun M11 x9 p10 => Bk_v ?_))
    replace h := h M11 x9 p10
    refine r_aload_n c53_33 rfl ?_
    refine r_getR c53_34 (oK hK k2) (fx3_0 x9 k2) (by omega) ?_
    refine r_iload_n c53_37 rfl ?_
    obtain ⟨s12, h⟩ := h
    refine r_iae c53_38 (oK hK (q3_0 k2)) (bd (z3_0 k2) s12) rfl ?_
    refine r_min c53_39 (Nat.le_of_ble_eq_true rfl) ?_
    obtain ⟨s13, h⟩ := h
    refine r_ias c53_42 (oK hK o137) (bd l137 s13) ?_
    have x14 := FX.set (v := (jmin (whD c3 s4 L5 p7 l4) (M11 (l2 + 1) (Int.toNat l3)))) (a := 137) (k := (Int.toNat l4)) x9 (nfa o137 _)
    refine r_iinc c53_43 rfl ?_
    refine r_goto c53_46 ?_
    exact h
theorem u54_0 {d : Nat} {l1 : Nat} {l2 : Int} {l3 : Int} {M : Mem} {K : KK} {Q : RR → Mem → KK → Prop} (hK : K.1 = 923) (hX : FX M) (k1 : isO 923 l1 0 = true) (h : Wp (d + 1) 54 3 [vR 134, vR l1, vI l2, vI l3, vI (0 : Int)] [] M K Q) : Wp (d + 1) 54 0 [vR 134, vR l1, vI l2, vI l3, vU] [] M K Q := by
  refine r_iconst c54_0 ?_
  refine r_istore c54_1 (Nat.le_of_ble_eq_true rfl) ?_
  exact h
theorem u54_3 {d : Nat} {l1 : Nat} {l2 : Int} {l3 : Int} {l4 : Int} {M : Mem} {K : KK} {Q : RR → Mem → KK → Prop} (hK : K.1 = 923) (hX : FX M) (k1 : isO 923 l1 0 = true) (h : ((jshl (1 : Int) (M l1 5)) ≤ l4 → Q (.inl none) M K) ∧ (¬ ((jshl (1 : Int) (M l1 5)) ≤ l4) → Wm d 289 [vI l4] M K (Bk d 54 16 19 289 [vR 134, vR l1, vI l2, vI l3, vI l4] [] Q))) : Wp (d + 1) 54 3 [vR 134, vR l1, vI l2, vI l3, vI l4] [] M K Q := by
  refine r_iload c54_3 rfl ?_
  refine r_iconst c54_5 ?_
  refine r_aload_n c54_6 rfl ?_
  refine r_getIe c54_7 (oK hK k1) rfl ?_
  refine r_ishl c54_10 ?_
  refine r_icmpP (P := (jshl (1 : Int) (M l1 5)) ≤ l4) c54_11 rfl (fun hc1 => ?_) (fun hc1 => ?_)
  · replace h := h.1 hc1
    exact r_ret c54_37 h
  · replace h := h.2 hc1
    refine r_iload c54_14 rfl ?_
    exact r_call c54_16 rfl rfl (Nat.le_of_ble_eq_true rfl) (okc_s rfl rfl rfl) h
theorem u54_19 {d : Nat} {l1 : Nat} {l2 : Int} {l3 : Int} {l4 : Int} {t0 : Int} {M : Mem} {K : KK} {Q : RR → Mem → KK → Prop} (hK : K.1 = 923) (hX : FX M) (k1 : isO 923 l1 0 = true) (h : (l3 < t0 → Wp (d + 1) 54 31 [vR 134, vR l1, vI l2, vI l3, vI l4] [] M K Q) ∧ (¬ (l3 < t0) → Wm d 55 [vR 134, vR l1, vI l2, vI l4] M K (Bk d 54 28 31 55 [vR 134, vR l1, vI l2, vI l3, vI l4] [] Q))) : Wp (d + 1) 54 19 [vR 134, vR l1, vI l2, vI l3, vI l4] [vI t0] M K Q := by
  refine r_iload_n c54_19 rfl ?_
  refine r_icmpP (P := l3 < t0) c54_20 rfl (fun hc1 => ?_) (fun hc1 => ?_)
  · replace h := h.1 hc1
    exact h
  · replace h := h.2 hc1
    refine r_aload_n c54_23 rfl ?_
    refine r_aload_n c54_24 rfl ?_
    refine r_iload_n c54_25 rfl ?_
    refine r_iload c54_26 rfl ?_
    exact r_call c54_28 rfl rfl (Nat.le_of_ble_eq_true rfl) (okc_r rfl rfl (oK hK o134)) h
theorem u54_31 {d : Nat} {l1 : Nat} {l2 : Int} {l3 : Int} {l4 : Int} {M : Mem} {K : KK} {Q : RR → Mem → KK → Prop} (hK : K.1 = 923) (hX : FX M) (k1 : isO 923 l1 0 = true) (h : Wp (d + 1) 54 3 [vR 134, vR l1, vI l2, vI l3, vI (w32 (l4 + 1))] [] M K Q) : Wp (d + 1) 54 31 [vR 134, vR l1, vI l2, vI l3, vI l4] [] M K Q := by
  refine r_iinc c54_31 rfl ?_
  refine r_goto c54_34 ?_
  exact h
theorem u55_0 {d : Nat} {l1 : Nat} {l2 : Int} {l3 : Int} {M : Mem} {K : KK} {Q : RR → Mem → KK → Prop} (hK : K.1 = 923) (hX : FX M) (k1 : isO 923 l1 0 = true) (h : (0 ≤ l2 ∧ l2 < (6 : Int)) ∧ ((0 ≤ (0 : Int) ∧ 0 ≤ (M (l1 + 2) (Int.toNat l2))) ∧ (0 : Int) + (M (l1 + 2) (Int.toNat l2)) ≤ 12) ∧ (0 ≤ l2 ∧ l2 < (6 : Int)) ∧ Wp (d + 1) 55 29 [vR 134, vR l1, vI l2, vI l3, vI (rowB (0 : Int).toNat (M (l1 + 2) (Int.toNat l2)).toNat : Int), vI (15 : Int), vI (w32 ((M l1 5) - (M (l1 + 2) (Int.toNat l2)))), vU] [] M K Q) : Wp (d + 1) 55 0 [vR 134, vR l1, vI l2, vI l3, vU, vU, vU, vU] [] M K Q := by
  refine r_iconst c55_0 ?_
  refine r_aload_n c55_1 rfl ?_
  refine r_getR c55_2 (oK hK k1) (fx0_1 hX k1) (by omega) ?_
  refine r_iload_n c55_5 rfl ?_
  obtain ⟨s1, h⟩ := h
  refine r_iae c55_6 (oK hK (q0_1 k1)) (bd (z0_1 k1) s1) rfl ?_
  obtain ⟨p2, h⟩ := h
  refine r_call c55_7 rfl rfl (Nat.le_of_ble_eq_true rfl) (okc_s rfl rfl rfl) (g144 hK hX p2 (Bk_v ?_))
  refine r_istore c55_10 (Nat.le_of_ble_eq_true rfl) ?_
  refine r_bipush c55_12 ?_
  refine r_istore c55_14 (Nat.le_of_ble_eq_true rfl) ?_
  refine r_aload_n c55_16 rfl ?_
  refine r_getIe c55_17 (oK hK k1) rfl ?_
  refine r_aload_n c55_20 rfl ?_
  refine r_getR c55_21 (oK hK k1) (fx0_1 hX k1) (by omega) ?_
  refine r_iload_n c55_24 rfl ?_
  obtain ⟨s3, h⟩ := h
  refine r_iae c55_25 (oK hK (q0_1 k1)) (bd (z0_1 k1) s3) rfl ?_
  refine r_isub c55_26 ?_
  refine r_istore c55_27 (Nat.le_of_ble_eq_true rfl) ?_
  exact h
theorem u55_29 {d : Nat} {l1 : Nat} {l2 : Int} {l3 : Int} {l4 : Int} {l5 : Int} {l6 : Int} {l7 : PV} {M : Mem} {K : KK} {Q : RR → Mem → KK → Prop} (hK : K.1 = 923) (hX : FX M) (k1 : isO 923 l1 0 = true) (h : (l6 < (0 : Int) → (0 ≤ l3 ∧ l3 < (4096 : Int)) ∧ (0 ≤ l3 ∧ l3 < (4096 : Int)) ∧ Q (.inl none) (mset M 136 (Int.toNat l3) (jor (jand (M 136 (Int.toNat l3)) (jxor (jshl (15 : Int) (w32 ((4 : Int) * l2))) (-1 : Int))) (jshl l5 (w32 ((4 : Int) * l2))))) K) ∧ (¬ (l6 < (0 : Int)) → (¬ (jand l3 (jshl l4 l6)) = (0 : Int) → Wp (d + 1) 55 49 [vR 134, vR l1, vI l2, vI l3, vI l4, vI l5, vI l6, l7] [vI (0 : Int)] M K Q) ∧ ((jand l3 (jshl l4 l6)) = (0 : Int) → Wp (d + 1) 55 49 [vR 134, vR l1, vI l2, vI l3, vI l4, vI l5, vI l6, l7] [vI (1 : Int)] M K Q))) : Wp (d + 1) 55 29 [vR 134, vR l1, vI l2, vI l3, vI l4, vI l5, vI l6, l7] [] M K Q := by
  refine r_iload c55_29 rfl ?_
  refine r_ifP (P := l6 < (0 : Int)) c55_31 rfl (fun hc1 => ?_) (fun hc1 => ?_)
  · replace h := h.1 hc1
    refine r_aload_n c55_121 rfl ?_
    refine r_getR c55_122 (oK hK o134) (FX.get (b := 136) hX (by decide) (by decide +kernel) (by decide)) (by decide) ?_
    refine r_iload_n c55_125 rfl ?_
    refine r_aload_n c55_126 rfl ?_
    refine r_getR c55_127 (oK hK o134) (FX.get (b := 136) hX (by decide) (by decide +kernel) (by decide)) (by decide) ?_
    refine r_iload_n c55_130 rfl ?_
    obtain ⟨s2, h⟩ := h
    refine r_iae c55_131 (oK hK o136) (bd l136 s2) rfl ?_
    refine r_bipush c55_132 ?_
    refine r_iconst c55_134 ?_
    refine r_iload_n c55_135 rfl ?_
    refine r_imul c55_136 ?_
    refine r_ishl c55_137 ?_
    refine r_iconst c55_138 ?_
    refine r_ixor c55_139 ?_
    refine r_iand c55_140 ?_
    refine r_iload c55_141 rfl ?_
    refine r_iconst c55_143 ?_
    refine r_iload_n c55_144 rfl ?_
    refine r_imul c55_145 ?_
    refine r_ishl c55_146 ?_
    refine r_ior c55_147 ?_
    obtain ⟨s3, h⟩ := h
    refine r_ias c55_148 (oK hK o136) (bd l136 s3) ?_
    have x4 := FX.set (v := (jor (jand (M 136 (Int.toNat l3)) (jxor (jshl (15 : Int) (w32 ((4 : Int) * l2))) (-1 : Int))) (jshl l5 (w32 ((4 : Int) * l2))))) (a := 136) (k := (Int.toNat l3)) hX (nfa o136 _)
    exact r_ret c55_149 h
  · replace h := h.2 hc1
    refine r_iload_n c55_34 rfl ?_
    refine r_iload c55_35 rfl ?_
    refine r_iload c55_37 rfl ?_
    refine r_ishl c55_39 ?_
    refine r_iand c55_40 ?_
    refine r_ifP (P := ¬ (jand l3 (jshl l4 l6)) = (0 : Int)) c55_41 rfl (fun hc5 => ?_) (fun hc5 => ?_)
    · replace h := h.1 hc5
      refine r_iconst c55_48 ?_
      exact h
    · have hc6 := Classical.not_not.mp hc5
      replace h := h.2 hc6
      refine r_iconst c55_44 ?_
      refine r_goto c55_45 ?_
      exact h
theorem u55_49 {d : Nat} {l1 : Nat} {l2 : Int} {l3 : Int} {l4 : Int} {l5 : Int} {l6 : Int} {l7 : PV} {t0 : Int} {M : Mem} {K : KK} {Q : RR → Mem → KK → Prop} (hK : K.1 = 923) (hX : FX M) (k1 : isO 923 l1 0 = true) (h : (t0 = (0 : Int) → Wp (d + 1) 55 29 [vR 134, vR l1, vI l2, vI l3, vI l4, vI l5, vI (w32 (l6 + (-1))), vI t0] [] M K Q) ∧ (¬ (t0 = (0 : Int)) → (0 ≤ l6 ∧ l6 < (12 : Int)) ∧ (0 ≤ (jor l3 (jshl l4 l6)) ∧ (jor l3 (jshl l4 l6)) < (4096 : Int)) ∧ (0 ≤ l3 ∧ l3 < (4096 : Int)) ∧ ((w32 ((M 137 (Int.toNat l6)) + (M 135 (Int.toNat (jor l3 (jshl l4 l6)))))) < (M 135 (Int.toNat l3)) → Wp (d + 1) 55 29 [vR 134, vR l1, vI l2, vI l3, vI l4, vI l5, vI (w32 (l6 + (-1))), vI t0] [] M K Q) ∧ (¬ ((w32 ((M 137 (Int.toNat l6)) + (M 135 (Int.toNat (jor l3 (jshl l4 l6)))))) < (M 135 (Int.toNat l3))) → (0 ≤ l6 ∧ l6 < (12 : Int)) ∧ (0 ≤ (jor l3 (jshl l4 l6)) ∧ (jor l3 (jshl l4 l6)) < (4096 : Int)) ∧ (0 ≤ l3 ∧ l3 < (4096 : Int)) ∧ Wp (d + 1) 55 29 [vR 134, vR l1, vI l2, vI l3, vI l4, vI l6, vI (w32 (l6 + (-1))), vI t0] [] (mset M 135 (Int.toNat l3) (w32 ((M 137 (Int.toNat l6)) + (M 135 (Int.toNat (jor l3 (jshl l4 l6))))))) K Q))) : Wp (d + 1) 55 49 [vR 134, vR l1, vI l2, vI l3, vI l4, vI l5, vI l6, l7] [vI t0] M K Q := by
  refine r_istore c55_49 (Nat.le_of_ble_eq_true rfl) ?_
  refine r_iload c55_51 rfl ?_
  refine r_ifP (P := t0 = (0 : Int)) c55_53 rfl (fun hc1 => ?_) (fun hc1 => ?_)
  · replace h := h.1 hc1
    refine r_iinc c55_115 rfl ?_
    refine r_goto c55_118 ?_
    exact h
  · replace h := h.2 hc1
    refine r_aload_n c55_56 rfl ?_
    refine r_getR c55_57 (oK hK o134) (FX.get (b := 137) hX (by decide) (by decide +kernel) (by decide)) (by decide) ?_
    refine r_iload c55_60 rfl ?_
    obtain ⟨s2, h⟩ := h
    refine r_iae c55_62 (oK hK o137) (bd l137 s2) rfl ?_
    refine r_aload_n c55_63 rfl ?_
    refine r_getR c55_64 (oK hK o134) (FX.get (b := 135) hX (by decide) (by decide +kernel) (by decide)) (by decide) ?_
    refine r_iload_n c55_67 rfl ?_
    refine r_iload c55_68 rfl ?_
    refine r_iload c55_70 rfl ?_
    refine r_ishl c55_72 ?_
    refine r_ior c55_73 ?_
    obtain ⟨s3, h⟩ := h
    refine r_iae c55_74 (oK hK o135) (bd l135 s3) rfl ?_
    refine r_iadd c55_75 ?_
    refine r_aload_n c55_76 rfl ?_
    refine r_getR c55_77 (oK hK o134) (FX.get (b := 135) hX (by decide) (by decide +kernel) (by decide)) (by decide) ?_
    refine r_iload_n c55_80 rfl ?_
    obtain ⟨s4, h⟩ := h
    refine r_iae c55_81 (oK hK o135) (bd l135 s4) rfl ?_
    refine r_icmpP (P := (w32 ((M 137 (Int.toNat l6)) + (M 135 (Int.toNat (jor l3 (jshl l4 l6)))))) < (M 135 (Int.toNat l3))) c55_82 rfl (fun hc5 => ?_) (fun hc5 => ?_)
    · replace h := h.1 hc5
      refine r_iinc c55_115 rfl ?_
      refine r_goto c55_118 ?_
      exact h
    · replace h := h.2 hc5
      refine r_aload_n c55_85 rfl ?_
      refine r_getR c55_86 (oK hK o134) (FX.get (b := 135) hX (by decide) (by decide +kernel) (by decide)) (by decide) ?_
      refine r_iload_n c55_89 rfl ?_
      refine r_aload_n c55_90 rfl ?_
      refine r_getR c55_91 (oK hK o134) (FX.get (b := 137) hX (by decide) (by decide +kernel) (by decide)) (by decide) ?_
      refine r_iload c55_94 rfl ?_
      obtain ⟨s6, h⟩ := h
      refine r_iae c55_96 (oK hK o137) (bd l137 s6) rfl ?_
      refine r_aload_n c55_97 rfl ?_
      refine r_getR c55_98 (oK hK o134) (FX.get (b := 135) hX (by decide) (by decide +kernel) (by decide)) (by decide) ?_
      refine r_iload_n c55_101 rfl ?_
      refine r_iload c55_102 rfl ?_
      refine r_iload c55_104 rfl ?_
      refine r_ishl c55_106 ?_
      refine r_ior c55_107 ?_
      obtain ⟨s7, h⟩ := h
      refine r_iae c55_108 (oK hK o135) (bd l135 s7) rfl ?_
      refine r_iadd c55_109 ?_
      obtain ⟨s8, h⟩ := h
      refine r_ias c55_110 (oK hK o135) (bd l135 s8) ?_
      have x9 := FX.set (v := (w32 ((M 137 (Int.toNat l6)) + (M 135 (Int.toNat (jor l3 (jshl l4 l6))))))) (a := 135) (k := (Int.toNat l3)) hX (nfa o135 _)
      refine r_iload c55_111 rfl ?_
      refine r_istore c55_113 (Nat.le_of_ble_eq_true rfl) ?_
      refine r_iinc c55_115 rfl ?_
      refine r_goto c55_118 ?_
      exact h
theorem u57_0 {d : Nat} {l1 : Nat} {l2 : Int} {M : Mem} {K : KK} {Q : RR → Mem → KK → Prop} (hK : K.1 = 923) (hX : FX M) (k1 : isO 923 l1 0 = true) (h : Wp (d + 1) 57 5 [vR 134, vR l1, vI l2, vI (0 : Int), vI (0 : Int), vU] [] M K Q) : Wp (d + 1) 57 0 [vR 134, vR l1, vI l2, vU, vU, vU] [] M K Q := by
  refine r_iconst c57_0 ?_
  refine r_istore_n c57_1 (Nat.le_of_ble_eq_true rfl) ?_
  refine r_iconst c57_2 ?_
  refine r_istore c57_3 (Nat.le_of_ble_eq_true rfl) ?_
  exact h
theorem u57_5 {d : Nat} {l1 : Nat} {l2 : Int} {l3 : Int} {l4 : Int} {l5 : PV} {M : Mem} {K : KK} {Q : RR → Mem → KK → Prop} (hK : K.1 = 923) (hX : FX M) (k1 : isO 923 l1 0 = true) (h : ((M l1 6) ≤ l4 → Q (.inl none) M K) ∧ (¬ ((M l1 6) ≤ l4) → (¬ (jand (jshr l2 l4) (1 : Int)) = (1 : Int) → Wp (d + 1) 57 43 [vR 134, vR l1, vI l2, vI l3, vI l4, l5] [vI (15 : Int)] M K Q) ∧ ((jand (jshr l2 l4) (1 : Int)) = (1 : Int) → (0 ≤ l3 ∧ l3 < (4096 : Int)) ∧ Wp (d + 1) 57 43 [vR 134, vR l1, vI l2, vI l3, vI l4, l5] [vI (jand (jshr (M 136 (Int.toNat l3)) (w32 ((4 : Int) * l4))) (15 : Int))] M K Q))) : Wp (d + 1) 57 5 [vR 134, vR l1, vI l2, vI l3, vI l4, l5] [] M K Q := by
  refine r_iload c57_5 rfl ?_
  refine r_aload_n c57_7 rfl ?_
  refine r_getIe c57_8 (oK hK k1) rfl ?_
  refine r_icmpP (P := (M l1 6) ≤ l4) c57_11 rfl (fun hc1 => ?_) (fun hc1 => ?_)
  · replace h := h.1 hc1
    exact r_ret c57_97 h
  · replace h := h.2 hc1
    refine r_iload_n c57_14 rfl ?_
    refine r_iload c57_15 rfl ?_
    refine r_ishr c57_17 ?_
    refine r_iconst c57_18 ?_
    refine r_iand c57_19 ?_
    refine r_iconst c57_20 ?_
    refine r_icmpP (P := ¬ (jand (jshr l2 l4) (1 : Int)) = (1 : Int)) c57_21 rfl (fun hc2 => ?_) (fun hc2 => ?_)
    · replace h := h.1 hc2
      refine r_bipush c57_41 ?_
      exact h
    · have hc3 := Classical.not_not.mp hc2
      replace h := h.2 hc3
      refine r_aload_n c57_24 rfl ?_
      refine r_getR c57_25 (oK hK o134) (FX.get (b := 136) hX (by decide) (by decide +kernel) (by decide)) (by decide) ?_
      refine r_iload_n c57_28 rfl ?_
      obtain ⟨s4, h⟩ := h
      refine r_iae c57_29 (oK hK o136) (bd l136 s4) rfl ?_
      refine r_iconst c57_30 ?_
      refine r_iload c57_31 rfl ?_
      refine r_imul c57_33 ?_
      refine r_ishr c57_34 ?_
      refine r_bipush c57_35 ?_
      refine r_iand c57_37 ?_
      refine r_goto c57_38 ?_
      exact h
theorem u57_43 {d : Nat} {l1 : Nat} {l2 : Int} {l3 : Int} {l4 : Int} {l5 : PV} {t0 : Int} {M : Mem} {K : KK} {Q : RR → Mem → KK → Prop} (hK : K.1 = 923) (hX : FX M) (k1 : isO 923 l1 0 = true) (h : (¬ t0 = (15 : Int) → (0 ≤ l4 ∧ l4 < (6 : Int)) ∧ (0 ≤ l4 ∧ l4 < (6 : Int)) ∧ ((0 ≤ t0 ∧ 0 ≤ (M (l1 + 2) (Int.toNat l4))) ∧ t0 + (M (l1 + 2) (Int.toNat l4)) ≤ 12) ∧ Wp (d + 1) 57 5 [vR 134, vR l1, vI l2, vI (jor l3 (rowB t0.toNat (M (l1 + 2) (Int.toNat l4)).toNat : Int)), vI (w32 (l4 + 1)), vI t0] [] (mset M 138 (Int.toNat l4) t0) K Q) ∧ (t0 = (15 : Int) → (0 ≤ l4 ∧ l4 < (6 : Int)) ∧ Wp (d + 1) 57 5 [vR 134, vR l1, vI l2, vI (jor l3 (0 : Int)), vI (w32 (l4 + 1)), vI t0] [] (mset M 138 (Int.toNat l4) (-1 : Int)) K Q)) : Wp (d + 1) 57 43 [vR 134, vR l1, vI l2, vI l3, vI l4, l5] [vI t0] M K Q := by
  refine r_istore c57_43 (Nat.le_of_ble_eq_true rfl) ?_
  refine r_aload_n c57_45 rfl ?_
  refine r_getR c57_46 (oK hK o134) (FX.get (b := 138) hX (by decide) (by decide +kernel) (by decide)) (by decide) ?_
  refine r_iload c57_49 rfl ?_
  refine r_iload c57_51 rfl ?_
  refine r_bipush c57_53 ?_
  refine r_icmpP (P := ¬ t0 = (15 : Int)) c57_55 rfl (fun hc1 => ?_) (fun hc1 => ?_)
  · replace h := h.1 hc1
    refine r_iload c57_62 rfl ?_
    obtain ⟨s3, h⟩ := h
    refine r_ias c57_64 (oK hK o138) (bd l138 s3) ?_
    have x4 := FX.set (v := t0) (a := 138) (k := (Int.toNat l4)) hX (nfa o138 _)
    refine r_iload_n c57_65 rfl ?_
    refine r_iload c57_66 rfl ?_
    refine r_bipush c57_68 ?_
    refine r_icmpP (P := ¬ t0 = (15 : Int)) c57_70 rfl (fun hc => ?_) (fun hc => absurd hc1 hc)
    refine r_iload c57_77 rfl ?_
    refine r_aload_n c57_79 rfl ?_
    refine r_getR c57_80 (oK hK k1) (fx0_1 x4 k1) (by omega) ?_
    refine r_iload c57_83 rfl ?_
    obtain ⟨s5, h⟩ := h
    refine r_iae c57_85 (oK hK (q0_1 k1)) (bd (z0_1 k1) s5) (ms_na (by have := rg0 k1; omega)) ?_
    obtain ⟨p6, h⟩ := h
    refine r_call c57_86 rfl rfl (Nat.le_of_ble_eq_true rfl) (okc_s rfl rfl rfl) (g144 hK x4 p6 (Bk_v ?_))
    refine r_ior c57_89 ?_
    refine r_istore_n c57_90 (Nat.le_of_ble_eq_true rfl) ?_
    refine r_iinc c57_91 rfl ?_
    refine r_goto c57_94 ?_
    exact h
  · have hc2 := Classical.not_not.mp hc1
    replace h := h.2 hc2
    refine r_iconst c57_58 ?_
    refine r_goto c57_59 ?_
    obtain ⟨s7, h⟩ := h
    refine r_ias c57_64 (oK hK o138) (bd l138 s7) ?_
    have x8 := FX.set (v := (-1 : Int)) (a := 138) (k := (Int.toNat l4)) hX (nfa o138 _)
    refine r_iload_n c57_65 rfl ?_
    refine r_iload c57_66 rfl ?_
    refine r_bipush c57_68 ?_
    refine r_icmpP (P := ¬ t0 = (15 : Int)) c57_70 rfl (fun hc => absurd hc2 hc) (fun hc => ?_)
    refine r_iconst c57_73 ?_
    refine r_goto c57_74 ?_
    refine r_ior c57_89 ?_
    refine r_istore_n c57_90 (Nat.le_of_ble_eq_true rfl) ?_
    refine r_iinc c57_91 rfl ?_
    refine r_goto c57_94 ?_
    exact h
theorem u52_0 {d : Nat} {l1 : Nat} {l2 : Nat} {l3 : Int} {M : Mem} {K : KK} {Q : RR → Mem → KK → Prop} (hK : K.1 = 923) (hX : FX M) (k1 : isO 923 l1 0 = true) (k2 : isO 923 l2 3 = true) (h : Wp (d + 1) 52 3 [vR 134, vR l1, vR l2, vI l3, vI (0 : Int)] [] M K Q) : Wp (d + 1) 52 0 [vR 134, vR l1, vR l2, vI l3, vU] [] M K Q := by
  refine r_iconst c52_0 ?_
  refine r_istore c52_1 (Nat.le_of_ble_eq_true rfl) ?_
  exact h
theorem u52_3 {d : Nat} {l1 : Nat} {l2 : Nat} {l3 : Int} {l4 : Int} {M : Mem} {K : KK} {Q : RR → Mem → KK → Prop} (hK : K.1 = 923) (hX : FX M) (k1 : isO 923 l1 0 = true) (k2 : isO 923 l2 3 = true) (h : ((4096 : Int) ≤ l4 → Wp (d + 1) 52 33 [vR 134, vR l1, vR l2, vI l3, vI (w32 ((M l1 6) - (1 : Int)))] [] M K Q) ∧ (¬ ((4096 : Int) ≤ l4) → (0 ≤ l4 ∧ l4 < (4096 : Int)) ∧ Wp (d + 1) 52 3 [vR 134, vR l1, vR l2, vI l3, vI (w32 (l4 + 1))] [] (mset M 135 (Int.toNat l4) (0 : Int)) K Q)) : Wp (d + 1) 52 3 [vR 134, vR l1, vR l2, vI l3, vI l4] [] M K Q := by
  refine r_iload c52_3 rfl ?_
  refine r_sipush c52_5 ?_
  refine r_icmpP (P := (4096 : Int) ≤ l4) c52_8 rfl (fun hc1 => ?_) (fun hc1 => ?_)
  · replace h := h.1 hc1
    refine r_aload_n c52_25 rfl ?_
    refine r_getIe c52_26 (oK hK k1) rfl ?_
    refine r_iconst c52_29 ?_
    refine r_isub c52_30 ?_
    refine r_istore c52_31 (Nat.le_of_ble_eq_true rfl) ?_
    exact h
  · replace h := h.2 hc1
    refine r_aload_n c52_11 rfl ?_
    refine r_getR c52_12 (oK hK o134) (FX.get (b := 135) hX (by decide) (by decide +kernel) (by decide)) (by decide) ?_
    refine r_iload c52_15 rfl ?_
    refine r_iconst c52_17 ?_
    obtain ⟨s2, h⟩ := h
    refine r_ias c52_18 (oK hK o135) (bd l135 s2) ?_
    have x3 := FX.set (v := (0 : Int)) (a := 135) (k := (Int.toNat l4)) hX (nfa o135 _)
    refine r_iinc c52_19 rfl ?_
    refine r_goto c52_22 ?_
    exact h
theorem u52_33 {d : Nat} {l1 : Nat} {l2 : Nat} {l3 : Int} {l4 : Int} {M : Mem} {K : KK} {Q : RR → Mem → KK → Prop} (hK : K.1 = 923) (hX : FX M) (k1 : isO 923 l1 0 = true) (k2 : isO 923 l2 3 = true) (h : (l4 < (0 : Int) → Wm d 57 [vR 134, vR l1, vI l3] M K (Bk d 52 84 87 57 [vR 134, vR l1, vR l2, vI l3, vI l4] [] Q)) ∧ (¬ (l4 < (0 : Int)) → (¬ (jand (jshr l3 l4) (1 : Int)) = (1 : Int) → Wp (d + 1) 52 75 [vR 134, vR l1, vR l2, vI l3, vI l4] [] M K Q) ∧ ((jand (jshr l3 l4) (1 : Int)) = (1 : Int) → Wm d 53 [vR 134, vR l1, vR l2, vI l4] M K (Bk d 52 53 56 53 [vR 134, vR l1, vR l2, vI l3, vI l4] [] Q)))) : Wp (d + 1) 52 33 [vR 134, vR l1, vR l2, vI l3, vI l4] [] M K Q := by
  refine r_iload c52_33 rfl ?_
  refine r_ifP (P := l4 < (0 : Int)) c52_35 rfl (fun hc1 => ?_) (fun hc1 => ?_)
  · replace h := h.1 hc1
    refine r_aload_n c52_81 rfl ?_
    refine r_aload_n c52_82 rfl ?_
    refine r_iload_n c52_83 rfl ?_
    exact r_call c52_84 rfl rfl (Nat.le_of_ble_eq_true rfl) (okc_r rfl rfl (oK hK o134)) h
  · replace h := h.2 hc1
    refine r_iload_n c52_38 rfl ?_
    refine r_iload c52_39 rfl ?_
    refine r_ishr c52_41 ?_
    refine r_iconst c52_42 ?_
    refine r_iand c52_43 ?_
    refine r_iconst c52_44 ?_
    refine r_icmpP (P := ¬ (jand (jshr l3 l4) (1 : Int)) = (1 : Int)) c52_45 rfl (fun hc2 => ?_) (fun hc2 => ?_)
    · replace h := h.1 hc2
      exact h
    · have hc3 := Classical.not_not.mp hc2
      replace h := h.2 hc3
      refine r_aload_n c52_48 rfl ?_
      refine r_aload_n c52_49 rfl ?_
      refine r_aload_n c52_50 rfl ?_
      refine r_iload c52_51 rfl ?_
      exact r_call c52_53 rfl rfl (Nat.le_of_ble_eq_true rfl) (okc_r rfl rfl (oK hK o134)) h
theorem u52_56 {d : Nat} {l1 : Nat} {l2 : Nat} {l3 : Int} {l4 : Int} {M : Mem} {K : KK} {Q : RR → Mem → KK → Prop} (hK : K.1 = 923) (hX : FX M) (k1 : isO 923 l1 0 = true) (k2 : isO 923 l2 3 = true) (h : ∃ c1 : Mem, ∃ z2 : Nat, ((jand l3 (w32 ((jshl (1 : Int) l4) - (1 : Int)))) = (z2 : Int) ∧ CC M l1 c1 ∧ CW c1 ∧ z2 < 2147483648) ∧ Wm d 54 [vR 134, vR l1, vI l4, vI (yardS c1 z2)] M K (Bk d 52 72 75 54 [vR 134, vR l1, vR l2, vI l3, vI l4] [] Q)) : Wp (d + 1) 52 56 [vR 134, vR l1, vR l2, vI l3, vI l4] [] M K Q := by
  refine r_aload_n c52_56 rfl ?_
  refine r_aload_n c52_57 rfl ?_
  refine r_iload c52_58 rfl ?_
  refine r_aload_n c52_60 rfl ?_
  refine r_iload_n c52_61 rfl ?_
  refine r_iconst c52_62 ?_
  refine r_iload c52_63 rfl ?_
  refine r_ishl c52_65 ?_
  refine r_iconst c52_66 ?_
  refine r_isub c52_67 ?_
  refine r_iand c52_68 ?_
  obtain ⟨c1, h⟩ := h
  obtain ⟨z2, h⟩ := h
  obtain ⟨p3, h⟩ := h
  refine r_call c52_69 rfl rfl (Nat.le_of_ble_eq_true rfl) (okc_r rfl rfl (oK hK k1)) (g9z hK hX k1 p3 (Bk_v ?_))
  exact r_call c52_72 rfl rfl (Nat.le_of_ble_eq_true rfl) (okc_r rfl rfl (oK hK o134)) h
theorem u52_75 {d : Nat} {l1 : Nat} {l2 : Nat} {l3 : Int} {l4 : Int} {M : Mem} {K : KK} {Q : RR → Mem → KK → Prop} (hK : K.1 = 923) (hX : FX M) (k1 : isO 923 l1 0 = true) (k2 : isO 923 l2 3 = true) (h : Wp (d + 1) 52 33 [vR 134, vR l1, vR l2, vI l3, vI (w32 (l4 + (-1)))] [] M K Q) : Wp (d + 1) 52 75 [vR 134, vR l1, vR l2, vI l3, vI l4] [] M K Q := by
  refine r_iinc c52_75 rfl ?_
  refine r_goto c52_78 ?_
  exact h
theorem u52_87 {d : Nat} {l1 : Nat} {l2 : Nat} {l3 : Int} {l4 : Int} {M : Mem} {K : KK} {Q : RR → Mem → KK → Prop} (hK : K.1 = 923) (hX : FX M) (k1 : isO 923 l1 0 = true) (k2 : isO 923 l2 3 = true) (h : Q (.inl (some (vI (M 135 0)))) M K) : Wp (d + 1) 52 87 [vR 134, vR l1, vR l2, vI l3, vI l4] [] M K Q := by
  refine r_aload_n c52_87 rfl ?_
  refine r_getR c52_88 (oK hK o134) (FX.get (b := 135) hX (by decide) (by decide +kernel) (by decide)) (by decide) ?_
  refine r_iconst c52_91 ?_
  refine r_iae c52_92 (oK hK o135) (bd l135 (by decide)) rfl ?_
  exact r_iret c52_93 (Or.inl rfl) h
/-! strips laid so that most is gone: the class -/
section CP
variable {d : Nat} {M M' : Mem} {K : KK} {Q : RR → Mem → KK → Prop} {cm a l p : Nat} {c s : Mem} {L : LC} {T S : Nat}
theorem pk_o : (isO 923 135 20 = true ∧ ln 135 = 4096) ∧ (isO 923 136 20 = true ∧ ln 136 = 4096) ∧ (isO 923 137 20 = true ∧ ln 137 = 12) ∧ (isO 923 138 20 = true ∧ ln 138 = 6) := by decide +kernel
/-- only the packing's rows and the law's scratch have changed -/
def FrPk (M M' : Mem) : Prop := ∀ b k, ¬ scL b → ¬ (135 ≤ b ∧ b ≤ 138) → M' b k = M b k
theorem FrPk.rf : FrPk M M := fun _ _ _ _ => rfl
theorem FrPk.tr {M1 M2 : Mem} (h1 : FrPk M M1) (h2 : FrPk M1 M2) : FrPk M M2 := fun b k p q => (h2 b k p q).trans (h1 b k p q)
theorem FrPk.mem {b k : Nat} {v : Int} (hb : 135 ≤ b ∧ b ≤ 138) : FrPk M (mset M b k v) := fun b' k' _ h2 => ms_na (fun e => h2 (e ▸ hb))
theorem FrW.pk (h : FrW M M') : FrPk M M' := fun b k p _ => h b k p
theorem FrPk.qc (h : FrPk M M') : FrQc M M' := ⟨fun b k p => h b k (fun e => p (Or.inl e)) (fun e => p (Or.inr (Or.inr (by omega)))), fun h9 => h9.of (h _ _ (by unfold scL; omega) (by omega)) (h _ _ (by unfold scL; omega) (by omega))⟩
theorem SKc.pk (hcm : isO 923 cm 0 = true) (ha : isO 923 a 3 = true) (hd : a + 4 < 134 ∨ 138 < a) (hf : FrPk M M') (hs : SKc M cm a c s) : SKc M' cm a c s := by
  have hg0 := rg0 hcm
  have hg3 := rg3 ha
  refine ⟨⟨fun k hk => (hf _ _ (by unfold scL; omega) (by omega)).trans (hs.1.1 k hk), fun b h1 h2 i hi => (hf _ _ (by unfold scL; omega) (by omega)).trans (hs.1.2 b h1 h2 i hi)⟩, hs.2.1, hs.2.2.1.fr (fun b j h1 h2 => hf b j (by unfold scL; omega) (by omega)), hs.2.2.2⟩
theorem LWC.pk (hcm : isO 923 cm 0 = true) (hf : FrPk M M') (hL : LWC M cm L l) : LWC M' cm L l := by
  have hg0 := rg0 hcm
  have hg2 := rg2 hL.2.1
  exact ⟨(hf _ _ (by unfold scL; omega) (by omega)).trans hL.1, hL.2.1, ⟨(hf _ _ (by unfold scL; omega) (by omega)).trans hL.2.2.1.1, hL.2.2.1.2.1, fun i hi => (hf _ _ (by unfold scL; omega) (by omega)).trans (hL.2.2.1.2.2 i hi)⟩, hL.2.2.2⟩
/-- the yards and cells that the loops read -/
def YC (M : Mem) (cm : Nat) (c : Mem) : Prop := M cm 5 = (nCe c : Int) ∧ M cm 6 = (nSt c : Int) ∧ nCe c ≤ 12 ∧ nSt c ≤ 6 ∧ ∀ p, p < nSt c → M (cm + 2) p = (yN c p : Int) ∧ 1 ≤ yN c p ∧ yN c p ≤ 6
theorem SKc.yc (hs : SKc M cm a c s) : YC M cm c := by
  have hg := hs.1.g hs.2.1
  have h0 := hs.2.1.1
  have h1 := hs.2.1.2.1
  refine ⟨hg.1, hg.2.1, by unfold nCe; omega, by unfold nSt; omega, fun p hp => ?_⟩
  have hp' : (p : Int) < c 0 1 := by unfold nSt at hp; omega
  have hy := hs.2.1.y hp
  have e := hs.1.a2 hp'
  unfold yN; omega
theorem YC.fr (hcm : isO 923 cm 0 = true) (hf : FrPk M M') (h : YC M cm c) : YC M' cm c := by
  have hg0 := rg0 hcm
  exact ⟨(hf _ _ (by unfold scL; omega) (by omega)).trans h.1, (hf _ _ (by unfold scL; omega) (by omega)).trans h.2.1, h.2.2.1, h.2.2.2.1, fun p hp => ⟨(hf _ _ (by unfold scL; omega) (by omega)).trans (h.2.2.2.2 p hp).1, (h.2.2.2.2 p hp).2⟩⟩
theorem m15 (j : Nat) : (15#32).getLsbD j = decide (j < 4) := by
  by_cases h : j < 32
  · exact (by decide : ∀ j : Fin 32, (15#32).getLsbD j.val = decide (j.val < 4)) ⟨j, h⟩
  · rw [BitVec.getLsbD_of_ge _ _ (by omega), decide_eq_false (by omega)]
theorem grp_bv {v c : BitVec 32} {p q : Nat} (hp : p < 6) (hq : q < 6) (hc : ∀ i, 4 ≤ i → c.getLsbD i = false) : ((v &&& ~~~(15#32 <<< (4 * p))) ||| (c <<< (4 * p))).sshiftRight (4 * q) &&& 15#32 = if q = p then c else v.sshiftRight (4 * q) &&& 15#32 := by
  have sr : ∀ (u : BitVec 32) i, i < 4 → (u.sshiftRight (4 * q)).getLsbD i = u.getLsbD (4 * q + i) := by
    intro u i hi
    rw [BitVec.getLsbD_sshiftRight, if_pos (by omega), decide_eq_false (by omega), Bool.not_false, Bool.true_and]
  apply BitVec.eq_of_getLsbD_eq
  intro i hi
  by_cases h4 : i < 4
  · rw [BitVec.getLsbD_and, m15, decide_eq_true h4, Bool.and_true, sr _ i h4, BitVec.getLsbD_or, BitVec.getLsbD_and, BitVec.getLsbD_not, BitVec.getLsbD_shiftLeft, BitVec.getLsbD_shiftLeft, m15, decide_eq_true (show 4 * q + i < 32 by omega), Bool.true_and, Bool.true_and]
    by_cases hqp : q = p
    · subst hqp
      rw [if_pos rfl, show 4 * q + i - 4 * q = i by omega, decide_eq_true h4, decide_eq_false (show ¬ 4 * q + i < 4 * q by omega)]
      simp
    · rw [if_neg hqp, BitVec.getLsbD_and, m15, decide_eq_true h4, Bool.and_true, sr _ i h4]
      by_cases hlt : q < p
      · rw [decide_eq_true (show 4 * q + i < 4 * p by omega)]
        simp
      · rw [decide_eq_false (show ¬ 4 * q + i < 4 * p by omega), decide_eq_false (show ¬ 4 * q + i - 4 * p < 4 by omega), hc _ (by omega)]
        simp
  · rw [BitVec.getLsbD_and, m15, decide_eq_false h4, Bool.and_false]
    split
    · exact (hc i (by omega)).symm
    · rw [BitVec.getLsbD_and, m15, decide_eq_false h4, Bool.and_false]
theorem jshl_b {a : Int} {k : Nat} (hk : k < 32) : jshl a (k : Int) = (BitVec.ofInt 32 a <<< k).toInt := by
  show (Int32.ofInt a <<< (Int32.ofInt (k : Int) &&& 31)).toBitVec.toInt = _
  rw [Int32.toBitVec_shiftLeft, BitVec.shiftLeft_eq', sh_n hk]
  rfl
theorem jshr_b {a : Int} {k : Nat} (hk : k < 32) : jshr a (k : Int) = ((BitVec.ofInt 32 a).sshiftRight k).toInt := by
  show (Int32.ofInt a >>> (Int32.ofInt (k : Int) &&& 31)).toBitVec.toInt = _
  rw [Int32.toBitVec_shiftRight]
  show ((BitVec.ofInt 32 a).sshiftRight ((Int32.ofInt (k : Int) &&& 31).toBitVec.smod 32).toNat).toInt = _
  rw [sh_n hk]
/-- a strip's choice among those of a set, and where it is put -/
def grp (x : Int) (q : Nat) : Int := jand (jshr x (w32 ((4 : Int) * (q : Int)))) 15
def stg (x : Int) (p : Nat) (ch : Int) : Int := jor (jand x (jxor (jshl 15 (w32 ((4 : Int) * (p : Int)))) (-1))) (jshl ch (w32 ((4 : Int) * (p : Int))))
theorem w4 {p : Nat} (h : p < 6) : w32 ((4 : Int) * (p : Int)) = ((4 * p : Nat) : Int) := by rw [w32_id (by omega)]; omega
theorem grp_stg {x ch : Int} {p q : Nat} (hp : p < 6) (hq : q < 6) (hc : 0 ≤ ch ∧ ch ≤ 15) : grp (stg x p ch) q = if q = p then ch else grp x q := by
  obtain ⟨n, rfl⟩ : ∃ n : Nat, ch = (n : Int) := ⟨ch.toNat, by omega⟩
  have hn : n ≤ 15 := by omega
  unfold grp stg
  rw [w4 hp, w4 hq, jshl_b (by omega), jshl_b (by omega), jshr_b (by omega), jshr_b (by omega)]
  have e1 : jxor ((BitVec.ofInt 32 15 <<< (4 * p)).toInt) (-1) = (~~~(15#32 <<< (4 * p))).toInt := by
    show (BitVec.ofInt 32 ((BitVec.ofInt 32 15 <<< (4 * p)).toInt) ^^^ BitVec.ofInt 32 (-1)).toInt = _
    rw [BitVec.ofInt_toInt, show BitVec.ofInt 32 (-1) = BitVec.allOnes 32 by decide, BitVec.xor_allOnes]
    rfl
  have e2 : jor (jand x (~~~(15#32 <<< (4 * p))).toInt) ((BitVec.ofInt 32 (n : Int) <<< (4 * p)).toInt) = ((BitVec.ofInt 32 x &&& ~~~(15#32 <<< (4 * p))) ||| (BitVec.ofInt 32 (n : Int) <<< (4 * p))).toInt := by
    show (BitVec.ofInt 32 (BitVec.ofInt 32 x &&& BitVec.ofInt 32 ((~~~(15#32 <<< (4 * p))).toInt)).toInt ||| BitVec.ofInt 32 ((BitVec.ofInt 32 (n : Int) <<< (4 * p)).toInt)).toInt = _
    rw [BitVec.ofInt_toInt, BitVec.ofInt_toInt, BitVec.ofInt_toInt]
  rw [e1, e2, jand_bv, jand_bv, BitVec.ofInt_toInt, BitVec.ofInt_toInt, BitVec.ofInt_toInt, show BitVec.ofInt 32 15 = 15#32 by decide, grp_bv hp hq (fun i hi => ?_)]
  · split
    · rw [bv_i (by rw [bv_n (by omega)]; omega), bv_n (by omega)]
    · rfl
  · rw [← BitVec.testBit_toNat, bv_n (by omega)]
    exact Nat.testBit_lt_two_pow (Nat.lt_of_lt_of_le (show n < 2 ^ 4 by omega) (Nat.pow_le_pow_right (by decide) hi))
theorem g53 (hK : K.1 = 923) (hX : FX M) (hcm : isO 923 cm 0 = true) (ha : isO 923 a 3 = true) (hd : a + 4 < 134 ∨ 138 < a) (hs : SKc M cm a c s) (hL : LWC M cm L l) (hp : p < nSt c)
    (k : ∀ M', FX M' → FrPk M M' → (∀ b j, ¬ scL b → b ≠ 137 → M' b j = M b j) → (∀ x, x + yN c p ≤ nCe c → M' 137 x = pkE c s L p x) → Q (.inl none) M' K) : Wm (d + 3) 53 [vR 134, vR cm, vR a, vI (p : Int)] M K Q := by
  have hy := hs.yc
  obtain ⟨y5, y6, yc12, yn6, yy⟩ := hy
  have yp := yy p hp
  have hg3 := rg3 ha
  have hg0 := rg0 hcm
  refine u53_0 hK hX hcm ha ?_
  have loop : ∀ f x, x + f = nCe c + 1 - yN c p → ∀ M1, FX M1 → (∀ b j, ¬ scL b → b ≠ 137 → M1 b j = M b j) → (∀ j, j < x → M1 137 j = pkE c s L p j) → Wp (d + 3) 53 3 [vR 134, vR cm, vR a, vI (p : Int), vI (x : Int)] [] M1 K Q := by
    intro f
    induction f with
    | zero =>
      intro x hx M1 x1 f1 w1'
      have fp : FrPk M M1 := fun b j h1 h2 => f1 b j h1 (by omega)
      have yq := hs.yc.fr hcm fp
      have e2 := (yq.2.2.2.2 p hp).1
      refine u53_3 hK x1 hcm ha ⟨by omega, fun _ => k M1 x1 fp f1 (fun j hj => w1' j (by omega)), fun h => absurd ?_ h⟩
      rw [yq.1, Int.toNat_natCast, e2, w32_id (by omega)]; omega
    | succ f ih =>
      intro x hx M1 x1 f1 w1'
      have fp : FrPk M M1 := fun b j h1 h2 => f1 b j h1 (by omega)
      have yq := hs.yc.fr hcm fp
      have e2 := (yq.2.2.2.2 p hp).1
      have hc2 : c 2 p = (yN c p : Int) := by
        have := hs.2.1.y hp
        unfold yN; omega
      have hc0 : c 0 0 = (nCe c : Int) := by have := hs.2.1.1; unfold nCe; omega
      refine u53_3 hK x1 hcm ha ⟨by omega, fun h => absurd h ?_, fun _ => ⟨c, s, L, l, p, ⟨rfl, hs.pk hcm ha hd fp, hL.pk hcm fp, hp, Or.inr (by omega)⟩, fun M2 x2 f2 => ?_⟩⟩
      · rw [yq.1, Int.toNat_natCast, e2, w32_id (by omega)]; omega
      · have fp2 := fp.tr f2.pk
        have e1 : M2 (a + 1) (Int.toNat (p : Int)) = s 1 p := by rw [Int.toNat_natCast, fp2 _ _ (by unfold scL; omega) (by omega)]; exact (hs.2.2.1.1 p hp).2.1
        rw [e1, Int.toNat_natCast, w1 (i := x) (by omega), jmin_eq]
        refine ⟨by omega, by omega, ih (x + 1) (by omega) _ (x2.set (nfa pk_o.2.2.1.1 _)) (fun b j h1 h2 => (ms_na h2).trans ((f2 b j h1).trans (f1 b j h1 h2))) (fun j hj => ?_)⟩
        by_cases hjx : j = x
        · subst hjx; rw [ms_eq]; unfold pkE; omega
        · rw [ms_nk (by omega), f2 _ _ (by unfold scL; omega)]; exact w1' j (by omega)
  exact loop (nCe c + 1 - yN c p) 0 (Nat.zero_add _) M hX (fun _ _ _ _ => rfl) (fun j hj => absurd hj (by omega))
theorem row_sh {x y : Nat} (h : x + y ≤ 12) : jshl (rowB 0 y : Int) (x : Int) = (rowB x y : Int) := by
  have e : rowB 0 y * 2 ^ x = rowB x y := by unfold rowB; rw [Nat.pow_zero, Nat.mul_one]
  have := rowB_lt (x := x) (m := y) (b := 12) (by omega)
  rw [jshl_n (by omega) (by rw [e]; omega), e]
theorem jand_0 {S r : Nat} (h1 : S < 4096) (h2 : r < 4096) : jand (S : Int) (r : Int) = 0 ↔ S &&& r = 0 := by
  rw [jand_n (by omega) (by omega)]; omega
/-- what the rows hold: the best, a strip's worth, the choices -/
def RowV (M c s : Mem) (L : LC) (T p : Nat) : Prop := ∀ S, S < 2 ^ nCe c → (pcn 12 S : Int) ≤ yA c T p → M 135 S = pkV c s L T p S
def GoneV (M c s : Mem) (L : LC) (p : Nat) : Prop := ∀ x, x + yN c p ≤ nCe c → M 137 x = pkE c s L p x
def pkCd (c s : Mem) (L : LC) (T p S : Nat) : Int := if pkOn c s L T p S then ((pkC c s L T p S 13).2 : Int) else 15
def ChV (M c s : Mem) (L : LC) (T p : Nat) : Prop := ∀ S, S < 2 ^ nCe c → (pcn 12 S : Int) ≤ yA c T p → grp (M 136 S) p = pkCd c s L T p S
theorem yA_s {c : Mem} {T p : Nat} : yA c T (p + 1) = yA c T p + (if T.testBit p = true then c 2 p else 0) := by
  show yA c T p + bitI T p * c 2 p = _
  unfold bitI; split <;> omega
theorem p12 {n : Nat} (h : n ≤ 12) : 2 ^ n ≤ 4096 := by
  have : 2 ^ n ≤ 2 ^ 12 := Nat.pow_le_pow_right (by decide) h
  have e : 2 ^ 12 = 4096 := by decide
  omega
theorem nx_ok {x : Nat} (hw : CW c) (hp : p < nSt c) (hT : T.testBit p = true) (hS : S < 2 ^ nCe c) (hpc : (pcn 12 S : Int) ≤ yA c T p) (hx : x + yN c p ≤ nCe c) : (S ||| rowB x (yN c p)) < 2 ^ nCe c ∧ (pcn 12 (S ||| rowB x (yN c p)) : Int) ≤ yA c T (p + 1) := by
  have hn := hw.n
  have hy := hw.y hp
  have r1 := rowB_lt (x := x) (m := yN c p) (b := nCe c) hx
  have r2 := pc_row x (by omega) (yN c p) (by unfold yN; omega) (by omega)
  have r3 := pc_or 12 S (rowB x (yN c p))
  refine ⟨Nat.or_lt_two_pow hS r1, ?_⟩
  rw [yA_s, if_pos hT]
  have : c 2 p = (yN c p : Int) := by unfold yN; omega
  omega
/-- the cells from f on are weighed, t of them all: the best of them and V, and the least cell of the best -/
def PkI (g : Nat → Int) (V : Int) (t f : Nat) (b ch : Int) : Prop := (∀ j, f ≤ j → j < t → g j ≤ b) ∧ ((ch = 15 ∧ b = V ∧ ∀ j, f ≤ j → j < t → g j < V) ∨ (∃ j0 : Nat, ch = (j0 : Int) ∧ f ≤ j0 ∧ j0 < t ∧ g j0 = b ∧ V ≤ b ∧ ∀ j, f ≤ j → j < j0 → g j < b))
section PI
variable {g : Nat → Int} {V b ch : Int} {t f : Nat}
theorem PkI.ge (h : PkI g V t f b ch) : V ≤ b := by
  rcases h.2 with ⟨-, h2, -⟩ | ⟨j0, -, -, -, -, h5, -⟩
  · omega
  · exact h5
theorem PkI.keep (h : PkI g V t (f + 1) b ch) (hg : g f < b) : PkI g V t f b ch := by
  refine ⟨fun j h1 h2 => ?_, ?_⟩
  · by_cases e : j = f
    · subst e; omega
    · exact h.1 j (by omega) h2
  · rcases h.2 with ⟨q1, q2, q3⟩ | ⟨j0, q1, q2, q3, q4, q5, q6⟩
    · refine Or.inl ⟨q1, q2, fun j h1 h2 => ?_⟩
      by_cases e : j = f
      · subst e; omega
      · exact q3 j (by omega) h2
    · refine Or.inr ⟨j0, q1, by omega, q3, q4, q5, fun j h1 h2 => ?_⟩
      by_cases e : j = f
      · subst e; exact hg
      · exact q6 j (by omega) h2
theorem PkI.take (h : PkI g V t (f + 1) b ch) (hf : f < t) (hg : b ≤ g f) : PkI g V t f (g f) (f : Int) := by
  have hv := h.ge
  refine ⟨fun j h1 h2 => ?_, Or.inr ⟨f, rfl, Nat.le_refl _, hf, rfl, by omega, fun j h1 h2 => by omega⟩⟩
  by_cases e : j = f
  · subst e; exact Int.le_refl _
  · have := h.1 j (by omega) h2
    omega
end PI
theorem pk_out {i : Nat} (h : nCe c + 1 - yN c p ≤ i) : pkg c s L T p S (pkV c s L T (p + 1)) i = -1 := by
  unfold pkg; rw [if_neg (fun h9 => by omega)]
theorem PkI_end {b ch : Int} (hs : LW c s) (hN : nSt c ≤ 6) (hC : nCe c ≤ 12) (hp : p < nSt c) (hI : PkI (pkg c s L T p S (pkV c s L T (p + 1))) (pkV c s L T (p + 1) S) (nCe c + 1 - yN c p) 0 b ch) : b = pkV c s L T p S ∧ ch = pkCd c s L T p S := by
  obtain ⟨h1, h2⟩ := pkC_first (L := L) (T := T) (S := S) hs hN hp 13
  have v0 := pkV_rg (L := L) (T := T) (p := p + 1) (S := S) hs hN
  have sV := pkV_s (s := s) (L := L) (T := T) (S := S) hp
  rcases hI.2 with ⟨q1, q2, q3⟩ | ⟨j0, q1, q2, q3, q4, q5, q6⟩
  · have hoff : (pkC c s L T p S 13).1 = -1 ∨ (pkC c s L T p S 13).1 < pkV c s L T (p + 1) S := by
      by_cases h : (pkC c s L T p S 13).1 = -1
      · exact Or.inl h
      · right
        obtain ⟨u, w, -⟩ := h2 h
        by_cases hj : (pkC c s L T p S 13).2 < nCe c + 1 - yN c p
        · have := q3 _ (Nat.zero_le _) hj
          omega
        · have := pk_out (s := s) (L := L) (T := T) (S := S) (p := p) (c := c) (i := (pkC c s L T p S 13).2) (by omega)
          omega
    have hno : ¬ pkOn c s L T p S := fun h => by
      rcases hoff with h9 | h9
      · exact h.1 h9
      · have := h.2; omega
    refine ⟨by omega, ?_⟩
    unfold pkCd; rw [if_neg hno]; exact q1
  · have c1 := h1 j0 (by omega)
    have hne : (pkC c s L T p S 13).1 ≠ -1 := by omega
    obtain ⟨u, w, v⟩ := h2 hne
    have hin : (pkC c s L T p S 13).2 < nCe c + 1 - yN c p := by
      by_cases hj : (pkC c s L T p S 13).2 < nCe c + 1 - yN c p
      · exact hj
      · have := pk_out (s := s) (L := L) (T := T) (S := S) (p := p) (c := c) (i := (pkC c s L T p S 13).2) (by omega)
        omega
    have c2 := hI.1 _ (Nat.zero_le _) hin
    have e1 : (pkC c s L T p S 13).1 = b := by omega
    have e2 : (pkC c s L T p S 13).2 = j0 := by
      rcases Nat.lt_trichotomy (pkC c s L T p S 13).2 j0 with h | h | h
      · have := q6 _ (Nat.zero_le _) h
        omega
      · exact h
      · exact absurd (by omega) (v j0 h)
    refine ⟨by omega, ?_⟩
    unfold pkCd; rw [if_pos ⟨hne, by omega⟩, e2]; exact q1
theorem row_ne {x m S : Nat} (hm : 1 ≤ m) (h : S &&& rowB x m = 0) : S ||| rowB x m ≠ S := by
  intro h9
  have h0 : 0 < rowB x m := by
    unfold rowB
    have h1 : 2 ^ 1 ≤ 2 ^ m := Nat.pow_le_pow_right (by decide) hm
    have h2 : 2 ^ 1 = 2 := by decide
    exact Nat.mul_pos (by omega) (Nat.two_pow_pos x)
  have e : (S ||| rowB x m) &&& rowB x m = rowB x m := by
    rw [Nat.and_or_distrib_right, Nat.and_self, h, Nat.zero_or]
  rw [h9, h] at e
  omega
theorem g55 (hK : K.1 = 923) (hX : FX M) (hcm : isO 923 cm 0 = true) (hw : CW c) (hs : LW c s) (hy : YC M cm c) (hp : p < nSt c) (hT : T.testBit p = true) (hS : S < 2 ^ nCe c) (hpc : (pcn 12 S : Int) ≤ yA c T p) (hR : ∀ S', S ≤ S' → S' < 2 ^ nCe c → (pcn 12 S' : Int) ≤ yA c T (p + 1) → M 135 S' = pkV c s L T (p + 1) S') (hG : GoneV M c s L p)
    (k : ∀ M', FX M' → (∀ b j, ¬ (b = 135 ∧ j = S) → ¬ (b = 136 ∧ j = S) → M' b j = M b j) → M' 135 S = pkV c s L T p S → M' 136 S = stg (M 136 S) p (pkCd c s L T p S) → Q (.inl none) M' K) : Wm (d + 1) 55 [vR 134, vR cm, vI (p : Int), vI (S : Int)] M K Q := by
  have hg0 := rg0 hcm
  obtain ⟨y5, y6, yc12, yn6, yy⟩ := hy
  obtain ⟨e2, ya, yb⟩ := yy p hp
  have hS2 : S < 4096 := Nat.lt_of_lt_of_le hS (p12 yc12)
  have hyA : yA c T p ≤ yA c T (p + 1) := by rw [yA_s, if_pos hT]; have := hw.y hp; omega
  have hV1 := hR S (Nat.le_refl _) hS (by omega)
  have v1 := pkV_rg (L := L) (T := T) (p := p + 1) (S := S) hs yn6
  refine u55_0 hK hX hcm ?_
  rw [Int.toNat_natCast, e2, Int.toNat_natCast, y5]
  refine ⟨by omega, by omega, by omega, ?_⟩
  rw [w32_id (by omega)]
  have loop : ∀ f, f ≤ nCe c + 1 - yN c p → ∀ (l6 : Int), (0 < f → l6 = (f : Int) - 1) → (f = 0 → l6 < 0) → ∀ (l7 : PV) (b ch : Int) (M1 : Mem), FX M1 → (∀ b' j, ¬ (b' = 135 ∧ j = S) → M1 b' j = M b' j) → M1 135 S = b → PkI (pkg c s L T p S (pkV c s L T (p + 1))) (pkV c s L T (p + 1) S) (nCe c + 1 - yN c p) f b ch → Wp (d + 1) 55 29 [vR 134, vR cm, vI (p : Int), vI (S : Int), vI (rowB 0 (yN c p) : Int), vI ch, vI l6, l7] [] M1 K Q := by
    intro f
    induction f with
    | zero =>
      intro _ l6 _ h0 l7 b ch M1 x1 f1 hb hI
      refine u55_29 hK x1 hcm ⟨fun _ => ?_, fun h9 => absurd (h0 rfl) h9⟩
      obtain ⟨n1, n2⟩ := PkI_end hs yn6 yc12 hp hI
      refine ⟨by omega, by omega, ?_⟩
      rw [Int.toNat_natCast, f1 136 S (by omega)]
      have fr : ∀ (v : Int) (b' j : Nat), ¬ (b' = 136 ∧ j = S) → mset M1 136 S v b' j = M1 b' j := fun v b' j h => by unfold mset; rw [if_neg h]
      refine k _ (x1.set (nfa pk_o.2.1.1 _)) (fun b' j q1 q2 => (fr _ b' j q2).trans (f1 b' j q1)) ?_ ?_
      · rw [fr _ _ _ (by omega), hb, n1]
      · rw [ms_eq, ← n2]; rfl
    | succ f ih =>
      intro hf l6 h1 _ l7 b ch M1 x1 f1 hb hI
      have hl : l6 = (f : Int) := by have := h1 (by omega); omega
      subst hl
      have hx' : f + yN c p ≤ nCe c := by omega
      have rl := rowB_lt (x := f) (m := yN c p) (b := 12) (by omega)
      have hge := hI.ge
      have keep : pkg c s L T p S (pkV c s L T (p + 1)) f < b → ∀ l7' : PV, Wp (d + 1) 55 29 [vR 134, vR cm, vI (p : Int), vI (S : Int), vI (rowB 0 (yN c p) : Int), vI ch, vI (w32 ((f : Int) + (-1))), l7'] [] M1 K Q := fun hg l7' => by
        rw [w32_id (by omega)]
        exact ih (by omega) _ (fun h => by omega) (fun h => by omega) l7' b ch M1 x1 f1 hb (hI.keep hg)
      refine u55_29 hK x1 hcm ⟨fun h9 => absurd h9 (by omega), fun _ => ?_⟩
      rw [row_sh (by omega), jand_0 hS2 rl]
      refine ⟨fun h => ?_, fun h => ?_⟩
      · have e : pkg c s L T p S (pkV c s L T (p + 1)) f = -1 := by unfold pkg; rw [if_neg (fun h9 => h h9.2.2)]
        exact u55_49 hK x1 hcm ⟨fun _ => keep (by omega) _, fun h9 => absurd rfl h9⟩
      · refine u55_49 hK x1 hcm ⟨fun h9 => absurd h9 (by decide), fun _ => ?_⟩
        obtain ⟨o1, o2⟩ := nx_ok hw hp hT hS hpc hx'
        have o3 : S ||| rowB f (yN c p) < 4096 := Nat.lt_of_lt_of_le o1 (p12 yc12)
        have o4 := row_ne ya h
        have eg : pkE c s L p f + pkV c s L T (p + 1) (S ||| rowB f (yN c p)) = pkg c s L T p S (pkV c s L T (p + 1)) f := by unfold pkg; rw [if_pos ⟨hT, hx', h⟩]
        have r1 := pkE_rg (L := L) hs hp f
        have r2 := pkV_rg (L := L) (T := T) (p := p + 1) (S := S ||| rowB f (yN c p)) hs yn6
        have eG : M1 137 f = pkE c s L p f := (f1 _ _ (by omega)).trans (hG f hx')
        have eV : M1 135 (S ||| rowB f (yN c p)) = pkV c s L T (p + 1) (S ||| rowB f (yN c p)) := (f1 _ _ (fun h9 => o4 h9.2)).trans (hR _ Nat.left_le_or o1 o2)
        rw [row_sh (by omega), jor_n (by omega) (by omega), Int.toNat_natCast, Int.toNat_natCast, Int.toNat_natCast, eG, eV, hb, w32_id (z := pkE c s L p f + _) (by omega), eg]
        refine ⟨by omega, by omega, by omega, fun hlt => keep hlt _, fun hnl => ⟨by omega, by omega, by omega, ?_⟩⟩
        rw [w32_id (z := (f : Int) + -1) (by omega)]
        refine ih (by omega) _ (fun h => by omega) (fun h => by omega) _ (pkg c s L T p S (pkV c s L T (p + 1)) f) (f : Int) _ (x1.set (nfa pk_o.1.1 _)) (fun b' j h => ?_) ms_eq (hI.take (by omega) (by omega))
        have e : mset M1 135 S (pkg c s L T p S (pkV c s L T (p + 1)) f) b' j = M1 b' j := by unfold mset; rw [if_neg h]
        exact e.trans (f1 b' j h)
  refine loop (nCe c + 1 - yN c p) (Nat.le_refl _) _ (fun h => by omega) (fun h => by omega) vU _ 15 M hX (fun _ _ _ => rfl) hV1 ⟨fun j h1 h2 => absurd h1 (by omega), Or.inl ⟨rfl, rfl, fun j h1 h2 => absurd h1 (by omega)⟩⟩
end CP
