theorem u53_0 {d : Nat} {l1 : Nat} {l2 : Nat} {l3 : Int} {M : Mem} {K : KK} {Q : RR → Mem → KK → Prop} (hK : K.1 = 922) (hX : FX M) (k1 : isO 922 l1 0 = true) (k2 : isO 922 l2 3 = true) (h : Wp (d + 3) 53 3 [vR 134, vR l1, vR l2, vI l3, vI (0 : Int), vU] [] M K Q) : Wp (d + 3) 53 0 [vR 134, vR l1, vR l2, vI l3, vU, vU] [] M K Q := by
  refine r_iconst c53_0 ?_
  refine r_istore c53_1 (Nat.le_of_ble_eq_true rfl) ?_
  exact h
theorem u53_3 {d : Nat} {l1 : Nat} {l2 : Nat} {l3 : Int} {l4 : Int} {l5 : PV} {M : Mem} {K : KK} {Q : RR → Mem → KK → Prop} (hK : K.1 = 922) (hX : FX M) (k1 : isO 922 l1 0 = true) (k2 : isO 922 l2 3 = true) (h : (0 ≤ l3 ∧ l3 < (6 : Int)) ∧ ((M l1 5) < (w32 (l4 + (M (l1 + 2) (Int.toNat l3)))) → Q (.inl none) M K) ∧ (¬ ((M l1 5) < (w32 (l4 + (M (l1 + 2) (Int.toNat l3))))) → ∃ c3 : Mem, ∃ s4 : Mem, ∃ L5 : LC, ∃ la6 : Nat, ∃ p7 : Nat, (l3 = (p7 : Int) ∧ SKc M l1 l2 c3 s4 ∧ LWC M l1 L5 la6 ∧ p7 < nSt c3 ∧ (l4 = -1 ∨ (0 ≤ l4 ∧ l4 + c3 2 p7 ≤ c3 0 0))) ∧ (∀ (M11 : Mem), FX M11 → FrW M M11 → (0 ≤ l3 ∧ l3 < (6 : Int)) ∧ (0 ≤ (w32 ((w32 (l3 * (12 : Int))) + l4)) ∧ (w32 ((w32 (l3 * (12 : Int))) + l4)) < (72 : Int)) ∧ Wp (d + 3) 53 3 [vR 134, vR l1, vR l2, vI l3, vI (w32 (l4 + 1)), vI (whD c3 s4 L5 p7 l4)] [] (mset M11 136 (Int.toNat (w32 ((w32 (l3 * (12 : Int))) + l4))) (jmin (whD c3 s4 L5 p7 l4) (M11 (l2 + 1) (Int.toNat l3)))) K Q))) : Wp (d + 3) 53 3 [vR 134, vR l1, vR l2, vI l3, vI l4, l5] [] M K Q := by
  refine r_iload c53_3 rfl ?_
  refine r_aload_n c53_5 rfl ?_
  refine r_getR c53_6 (oK hK k1) (fx0_1 hX k1) (by omega) ?_
  refine r_iload_n c53_9 rfl ?_
  obtain ⟨s1, h⟩ := h
  refine r_iae c53_10 (oK hK (q0_1 k1)) (bd (z0_1 k1) s1) rfl ?_
  refine r_iadd c53_11 ?_
  refine r_aload_n c53_12 rfl ?_
  refine r_getIe c53_13 (oK hK k1) rfl ?_
  refine r_icmpP (P := (M l1 5) < (w32 (l4 + (M (l1 + 2) (Int.toNat l3))))) c53_16 rfl (fun hc2 => ?_) (fun hc2 => ?_)
  · replace h := h.1 hc2
    exact r_ret c53_58 h
  · replace h := h.2 hc2
    refine r_aload_n c53_19 rfl ?_
    refine r_aload_n c53_20 rfl ?_
    refine r_iload_n c53_21 rfl ?_
    refine r_iload c53_22 rfl ?_
    obtain ⟨c3, h⟩ := h
    obtain ⟨s4, h⟩ := h
    obtain ⟨L5, h⟩ := h
    obtain ⟨la6, h⟩ := h
    obtain ⟨p7, h⟩ := h
    obtain ⟨p8, h⟩ := h
    refine r_call c53_24 rfl rfl (Nat.le_of_ble_eq_true rfl) (okc_r rfl rfl (oK hK k2)) (g45 hK hX k2 k1 p8 (fun M11 x9 p10 => Bk_v ?_))
    replace h := h M11 x9 p10
    refine r_istore c53_27 (Nat.le_of_ble_eq_true rfl) ?_
    refine r_aload_n c53_29 rfl ?_
    refine r_getR c53_30 (oK hK o134) (FX.get (b := 136) x9 (by decide) (by decide +kernel) (by decide)) (by decide) ?_
    refine r_iload_n c53_33 rfl ?_
    refine r_bipush c53_34 ?_
    refine r_imul c53_36 ?_
    refine r_iload c53_37 rfl ?_
    refine r_iadd c53_39 ?_
    refine r_iload c53_40 rfl ?_
    refine r_aload_n c53_42 rfl ?_
    refine r_getR c53_43 (oK hK k2) (fx3_0 x9 k2) (by omega) ?_
    refine r_iload_n c53_46 rfl ?_
    obtain ⟨s12, h⟩ := h
    refine r_iae c53_47 (oK hK (q3_0 k2)) (bd (z3_0 k2) s12) rfl ?_
    refine r_min c53_48 (Nat.le_of_ble_eq_true rfl) ?_
    obtain ⟨s13, h⟩ := h
    refine r_ias c53_51 (oK hK o136) (bd l136 s13) ?_
    have x14 := FX.set (v := (jmin (whD c3 s4 L5 p7 l4) (M11 (l2 + 1) (Int.toNat l3)))) (a := 136) (k := (Int.toNat (w32 ((w32 (l3 * (12 : Int))) + l4)))) x9 (nfa o136 _)
    refine r_iinc c53_52 rfl ?_
    refine r_goto c53_55 ?_
    exact h
theorem u54_0 {d : Nat} {l1 : Nat} {l2 : Int} {l3 : Int} {l4 : Int} {M : Mem} {K : KK} {Q : RR → Mem → KK → Prop} (hK : K.1 = 922) (hX : FX M) (k1 : isO 922 l1 0 = true) (h : Wp (d + 1) 54 3 [vR 134, vR l1, vI l2, vI l3, vI l4, vI (0 : Int)] [] M K Q) : Wp (d + 1) 54 0 [vR 134, vR l1, vI l2, vI l3, vI l4, vU] [] M K Q := by
  refine r_iconst c54_0 ?_
  refine r_istore c54_1 (Nat.le_of_ble_eq_true rfl) ?_
  exact h
theorem u54_3 {d : Nat} {l1 : Nat} {l2 : Int} {l3 : Int} {l4 : Int} {l5 : Int} {M : Mem} {K : KK} {Q : RR → Mem → KK → Prop} (hK : K.1 = 922) (hX : FX M) (k1 : isO 922 l1 0 = true) (h : ((jshl (1 : Int) (M l1 5)) ≤ l5 → Q (.inl none) M K) ∧ (¬ ((jshl (1 : Int) (M l1 5)) ≤ l5) → Wm d 289 [vI l5] M K (Bk d 54 16 19 289 [vR 134, vR l1, vI l2, vI l3, vI l4, vI l5] [] Q))) : Wp (d + 1) 54 3 [vR 134, vR l1, vI l2, vI l3, vI l4, vI l5] [] M K Q := by
  refine r_iload c54_3 rfl ?_
  refine r_iconst c54_5 ?_
  refine r_aload_n c54_6 rfl ?_
  refine r_getIe c54_7 (oK hK k1) rfl ?_
  refine r_ishl c54_10 ?_
  refine r_icmpP (P := (jshl (1 : Int) (M l1 5)) ≤ l5) c54_11 rfl (fun hc1 => ?_) (fun hc1 => ?_)
  · replace h := h.1 hc1
    exact r_ret c54_73 h
  · replace h := h.2 hc1
    refine r_iload c54_14 rfl ?_
    exact r_call c54_16 rfl rfl (Nat.le_of_ble_eq_true rfl) (okc_s rfl rfl rfl) h
theorem u54_19 {d : Nat} {l1 : Nat} {l2 : Int} {l3 : Int} {l4 : Int} {l5 : Int} {t0 : Int} {M : Mem} {K : KK} {Q : RR → Mem → KK → Prop} (hK : K.1 = 922) (hX : FX M) (k1 : isO 922 l1 0 = true) (h : (l4 < t0 → Wp (d + 1) 54 3 [vR 134, vR l1, vI l2, vI l3, vI l4, vI (w32 (l5 + 1))] [] M K Q) ∧ (¬ (l4 < t0) → (l3 = (0 : Int) → (0 ≤ (w32 ((w32 ((w32 (l2 + (1 : Int))) * (4096 : Int))) + l5)) ∧ (w32 ((w32 ((w32 (l2 + (1 : Int))) * (4096 : Int))) + l5)) < (28672 : Int)) ∧ (0 ≤ (w32 ((w32 (l2 * (4096 : Int))) + l5)) ∧ (w32 ((w32 (l2 * (4096 : Int))) + l5)) < (28672 : Int)) ∧ Wp (d + 1) 54 3 [vR 134, vR l1, vI l2, vI l3, vI l4, vI (w32 (l5 + 1))] [] (mset M 135 (Int.toNat (w32 ((w32 (l2 * (4096 : Int))) + l5))) (M 135 (Int.toNat (w32 ((w32 ((w32 (l2 + (1 : Int))) * (4096 : Int))) + l5))))) K Q) ∧ (¬ (l3 = (0 : Int)) → Wm d 55 [vR 134, vR l1, vI l2, vI l5] M K (Bk d 54 45 48 55 [vR 134, vR l1, vI l2, vI l3, vI l4, vI l5] [vI (w32 ((w32 (l2 * (4096 : Int))) + l5)), vR 135] Q)))) : Wp (d + 1) 54 19 [vR 134, vR l1, vI l2, vI l3, vI l4, vI l5] [vI t0] M K Q := by
  refine r_iload c54_19 rfl ?_
  refine r_icmpP (P := l4 < t0) c54_21 rfl (fun hc1 => ?_) (fun hc1 => ?_)
  · replace h := h.1 hc1
    refine r_iinc c54_67 rfl ?_
    refine r_goto c54_70 ?_
    exact h
  · replace h := h.2 hc1
    refine r_aload_n c54_24 rfl ?_
    refine r_getR c54_25 (oK hK o134) (FX.get (b := 135) hX (by decide) (by decide +kernel) (by decide)) (by decide) ?_
    refine r_iload_n c54_28 rfl ?_
    refine r_sipush c54_29 ?_
    refine r_imul c54_32 ?_
    refine r_iload c54_33 rfl ?_
    refine r_iadd c54_35 ?_
    refine r_iload_n c54_36 rfl ?_
    refine r_ifP (P := l3 = (0 : Int)) c54_37 rfl (fun hc2 => ?_) (fun hc2 => ?_)
    · replace h := h.1 hc2
      refine r_aload_n c54_51 rfl ?_
      refine r_getR c54_52 (oK hK o134) (FX.get (b := 135) hX (by decide) (by decide +kernel) (by decide)) (by decide) ?_
      refine r_iload_n c54_55 rfl ?_
      refine r_iconst c54_56 ?_
      refine r_iadd c54_57 ?_
      refine r_sipush c54_58 ?_
      refine r_imul c54_61 ?_
      refine r_iload c54_62 rfl ?_
      refine r_iadd c54_64 ?_
      obtain ⟨s3, h⟩ := h
      refine r_iae c54_65 (oK hK o135) (bd l135 s3) rfl ?_
      obtain ⟨s4, h⟩ := h
      refine r_ias c54_66 (oK hK o135) (bd l135 s4) ?_
      have x5 := FX.set (v := (M 135 (Int.toNat (w32 ((w32 ((w32 (l2 + (1 : Int))) * (4096 : Int))) + l5))))) (a := 135) (k := (Int.toNat (w32 ((w32 (l2 * (4096 : Int))) + l5)))) hX (nfa o135 _)
      refine r_iinc c54_67 rfl ?_
      refine r_goto c54_70 ?_
      exact h
    · replace h := h.2 hc2
      refine r_aload_n c54_40 rfl ?_
      refine r_aload_n c54_41 rfl ?_
      refine r_iload_n c54_42 rfl ?_
      refine r_iload c54_43 rfl ?_
      exact r_call c54_45 rfl rfl (Nat.le_of_ble_eq_true rfl) (okc_r rfl rfl (oK hK o134)) h
theorem u54_48 {d : Nat} {l1 : Nat} {l2 : Int} {l3 : Int} {l4 : Int} {l5 : Int} {t1 : Int} {t2 : Int} {M : Mem} {K : KK} {Q : RR → Mem → KK → Prop} (hK : K.1 = 922) (hX : FX M) (k1 : isO 922 l1 0 = true) (h : (0 ≤ t1 ∧ t1 < (28672 : Int)) ∧ Wp (d + 1) 54 3 [vR 134, vR l1, vI l2, vI l3, vI l4, vI (w32 (l5 + 1))] [] (mset M 135 (Int.toNat t1) t2) K Q) : Wp (d + 1) 54 48 [vR 134, vR l1, vI l2, vI l3, vI l4, vI l5] [vI t2, vI t1, vR 135] M K Q := by
  refine r_goto c54_48 ?_
  obtain ⟨s1, h⟩ := h
  refine r_ias c54_66 (oK hK o135) (bd l135 s1) ?_
  have x2 := FX.set (v := t2) (a := 135) (k := (Int.toNat t1)) hX (nfa o135 _)
  refine r_iinc c54_67 rfl ?_
  refine r_goto c54_70 ?_
  exact h
theorem u55_0 {d : Nat} {l1 : Nat} {l2 : Int} {l3 : Int} {M : Mem} {K : KK} {Q : RR → Mem → KK → Prop} (hK : K.1 = 922) (hX : FX M) (k1 : isO 922 l1 0 = true) (h : (0 ≤ (w32 ((w32 ((w32 (l2 + (1 : Int))) * (4096 : Int))) + l3)) ∧ (w32 ((w32 ((w32 (l2 + (1 : Int))) * (4096 : Int))) + l3)) < (28672 : Int)) ∧ (0 ≤ l2 ∧ l2 < (6 : Int)) ∧ ((0 ≤ (0 : Int) ∧ 0 ≤ (M (l1 + 2) (Int.toNat l2))) ∧ (0 : Int) + (M (l1 + 2) (Int.toNat l2)) ≤ 12) ∧ Wp (d + 1) 55 31 [vR 134, vR l1, vI l2, vI l3, vI (M 135 (Int.toNat (w32 ((w32 ((w32 (l2 + (1 : Int))) * (4096 : Int))) + l3)))), vI (rowB (0 : Int).toNat (M (l1 + 2) (Int.toNat l2)).toNat : Int), vI (0 : Int)] [] M K Q) : Wp (d + 1) 55 0 [vR 134, vR l1, vI l2, vI l3, vU, vU, vU] [] M K Q := by
  refine r_aload_n c55_0 rfl ?_
  refine r_getR c55_1 (oK hK o134) (FX.get (b := 135) hX (by decide) (by decide +kernel) (by decide)) (by decide) ?_
  refine r_iload_n c55_4 rfl ?_
  refine r_iconst c55_5 ?_
  refine r_iadd c55_6 ?_
  refine r_sipush c55_7 ?_
  refine r_imul c55_10 ?_
  refine r_iload_n c55_11 rfl ?_
  refine r_iadd c55_12 ?_
  obtain ⟨s1, h⟩ := h
  refine r_iae c55_13 (oK hK o135) (bd l135 s1) rfl ?_
  refine r_istore c55_14 (Nat.le_of_ble_eq_true rfl) ?_
  refine r_iconst c55_16 ?_
  refine r_aload_n c55_17 rfl ?_
  refine r_getR c55_18 (oK hK k1) (fx0_1 hX k1) (by omega) ?_
  refine r_iload_n c55_21 rfl ?_
  obtain ⟨s2, h⟩ := h
  refine r_iae c55_22 (oK hK (q0_1 k1)) (bd (z0_1 k1) s2) rfl ?_
  obtain ⟨p3, h⟩ := h
  refine r_call c55_23 rfl rfl (Nat.le_of_ble_eq_true rfl) (okc_s rfl rfl rfl) (g144 hK hX p3 (Bk_v ?_))
  refine r_istore c55_26 (Nat.le_of_ble_eq_true rfl) ?_
  refine r_iconst c55_28 ?_
  refine r_istore c55_29 (Nat.le_of_ble_eq_true rfl) ?_
  exact h
theorem u55_31 {d : Nat} {l1 : Nat} {l2 : Int} {l3 : Int} {l4 : Int} {l5 : Int} {l6 : Int} {M : Mem} {K : KK} {Q : RR → Mem → KK → Prop} (hK : K.1 = 922) (hX : FX M) (k1 : isO 922 l1 0 = true) (h : (0 ≤ l2 ∧ l2 < (6 : Int)) ∧ ((M l1 5) < (w32 (l6 + (M (l1 + 2) (Int.toNat l2)))) → Q (.inl (some (vI l4))) M K) ∧ (¬ ((M l1 5) < (w32 (l6 + (M (l1 + 2) (Int.toNat l2))))) → (¬ (jand l3 (jshl l5 l6)) = (0 : Int) → Wp (d + 1) 55 31 [vR 134, vR l1, vI l2, vI l3, vI l4, vI l5, vI (w32 (l6 + 1))] [] M K Q) ∧ ((jand l3 (jshl l5 l6)) = (0 : Int) → Wm d 56 [vR 134, vI l2, vI l6, vI (jor l3 (jshl l5 l6))] M K (Bk d 55 70 73 56 [vR 134, vR l1, vI l2, vI l3, vI l4, vI l5, vI l6] [vI l4] Q)))) : Wp (d + 1) 55 31 [vR 134, vR l1, vI l2, vI l3, vI l4, vI l5, vI l6] [] M K Q := by
  refine r_iload c55_31 rfl ?_
  refine r_aload_n c55_33 rfl ?_
  refine r_getR c55_34 (oK hK k1) (fx0_1 hX k1) (by omega) ?_
  refine r_iload_n c55_37 rfl ?_
  obtain ⟨s1, h⟩ := h
  refine r_iae c55_38 (oK hK (q0_1 k1)) (bd (z0_1 k1) s1) rfl ?_
  refine r_iadd c55_39 ?_
  refine r_aload_n c55_40 rfl ?_
  refine r_getIe c55_41 (oK hK k1) rfl ?_
  refine r_icmpP (P := (M l1 5) < (w32 (l6 + (M (l1 + 2) (Int.toNat l2))))) c55_44 rfl (fun hc2 => ?_) (fun hc2 => ?_)
  · replace h := h.1 hc2
    refine r_iload c55_84 rfl ?_
    exact r_iret c55_86 (Or.inl rfl) h
  · replace h := h.2 hc2
    refine r_iload_n c55_47 rfl ?_
    refine r_iload c55_48 rfl ?_
    refine r_iload c55_50 rfl ?_
    refine r_ishl c55_52 ?_
    refine r_iand c55_53 ?_
    refine r_ifP (P := ¬ (jand l3 (jshl l5 l6)) = (0 : Int)) c55_54 rfl (fun hc3 => ?_) (fun hc3 => ?_)
    · replace h := h.1 hc3
      refine r_iinc c55_78 rfl ?_
      refine r_goto c55_81 ?_
      exact h
    · have hc4 := Classical.not_not.mp hc3
      replace h := h.2 hc4
      refine r_iload c55_57 rfl ?_
      refine r_aload_n c55_59 rfl ?_
      refine r_iload_n c55_60 rfl ?_
      refine r_iload c55_61 rfl ?_
      refine r_iload_n c55_63 rfl ?_
      refine r_iload c55_64 rfl ?_
      refine r_iload c55_66 rfl ?_
      refine r_ishl c55_68 ?_
      refine r_ior c55_69 ?_
      exact r_call c55_70 rfl rfl (Nat.le_of_ble_eq_true rfl) (okc_r rfl rfl (oK hK o134)) h
theorem u55_73 {d : Nat} {l1 : Nat} {l2 : Int} {l3 : Int} {l4 : Int} {l5 : Int} {l6 : Int} {t0 : Int} {t1 : Int} {M : Mem} {K : KK} {Q : RR → Mem → KK → Prop} (hK : K.1 = 922) (hX : FX M) (k1 : isO 922 l1 0 = true) (h : Wp (d + 1) 55 31 [vR 134, vR l1, vI l2, vI l3, vI (jmax t0 t1), vI l5, vI (w32 (l6 + 1))] [] M K Q) : Wp (d + 1) 55 73 [vR 134, vR l1, vI l2, vI l3, vI l4, vI l5, vI l6] [vI t1, vI t0] M K Q := by
  refine r_max c55_73 (Nat.le_of_ble_eq_true rfl) ?_
  refine r_istore c55_76 (Nat.le_of_ble_eq_true rfl) ?_
  refine r_iinc c55_78 rfl ?_
  refine r_goto c55_81 ?_
  exact h
theorem u56_0 {d : Nat} {l1 : Int} {l2 : Int} {l3 : Int} {M : Mem} {K : KK} {Q : RR → Mem → KK → Prop} (hK : K.1 = 922) (hX : FX M)  (h : (0 ≤ (w32 ((w32 (l1 * (12 : Int))) + l2)) ∧ (w32 ((w32 (l1 * (12 : Int))) + l2)) < (72 : Int)) ∧ (0 ≤ (w32 ((w32 ((w32 (l1 + (1 : Int))) * (4096 : Int))) + l3)) ∧ (w32 ((w32 ((w32 (l1 + (1 : Int))) * (4096 : Int))) + l3)) < (28672 : Int)) ∧ Q (.inl (some (vI (w32 ((M 136 (Int.toNat (w32 ((w32 (l1 * (12 : Int))) + l2)))) + (M 135 (Int.toNat (w32 ((w32 ((w32 (l1 + (1 : Int))) * (4096 : Int))) + l3))))))))) M K) : Wp d 56 0 [vR 134, vI l1, vI l2, vI l3] [] M K Q := by
  refine r_aload_n c56_0 rfl ?_
  refine r_getR c56_1 (oK hK o134) (FX.get (b := 136) hX (by decide) (by decide +kernel) (by decide)) (by decide) ?_
  refine r_iload_n c56_4 rfl ?_
  refine r_bipush c56_5 ?_
  refine r_imul c56_7 ?_
  refine r_iload_n c56_8 rfl ?_
  refine r_iadd c56_9 ?_
  obtain ⟨s1, h⟩ := h
  refine r_iae c56_10 (oK hK o136) (bd l136 s1) rfl ?_
  refine r_aload_n c56_11 rfl ?_
  refine r_getR c56_12 (oK hK o134) (FX.get (b := 135) hX (by decide) (by decide +kernel) (by decide)) (by decide) ?_
  refine r_iload_n c56_15 rfl ?_
  refine r_iconst c56_16 ?_
  refine r_iadd c56_17 ?_
  refine r_sipush c56_18 ?_
  refine r_imul c56_21 ?_
  refine r_iload_n c56_22 rfl ?_
  refine r_iadd c56_23 ?_
  obtain ⟨s2, h⟩ := h
  refine r_iae c56_24 (oK hK o135) (bd l135 s2) rfl ?_
  refine r_iadd c56_25 ?_
  exact r_iret c56_26 (Or.inl rfl) h
theorem u57_0 {d : Nat} {l1 : Nat} {l2 : Int} {M : Mem} {K : KK} {Q : RR → Mem → KK → Prop} (hK : K.1 = 922) (hX : FX M) (k1 : isO 922 l1 0 = true) (h : Wp (d + 1) 57 5 [vR 134, vR l1, vI l2, vI (0 : Int), vI (0 : Int)] [] M K Q) : Wp (d + 1) 57 0 [vR 134, vR l1, vI l2, vU, vU] [] M K Q := by
  refine r_iconst c57_0 ?_
  refine r_istore_n c57_1 (Nat.le_of_ble_eq_true rfl) ?_
  refine r_iconst c57_2 ?_
  refine r_istore c57_3 (Nat.le_of_ble_eq_true rfl) ?_
  exact h
theorem u57_5 {d : Nat} {l1 : Nat} {l2 : Int} {l3 : Int} {l4 : Int} {M : Mem} {K : KK} {Q : RR → Mem → KK → Prop} (hK : K.1 = 922) (hX : FX M) (k1 : isO 922 l1 0 = true) (h : ((M l1 6) ≤ l4 → Q (.inl none) M K) ∧ (¬ ((M l1 6) ≤ l4) → (¬ (jand (jshr l2 l4) (1 : Int)) = (1 : Int) → (0 ≤ l4 ∧ l4 < (6 : Int)) ∧ (0 ≤ l4 ∧ l4 < (6 : Int)) ∧ Wp (d + 1) 57 5 [vR 134, vR l1, vI l2, vI (jor l3 (0 : Int)), vI (w32 (l4 + 1))] [] (mset M 137 (Int.toNat l4) (-1 : Int)) K Q) ∧ ((jand (jshr l2 l4) (1 : Int)) = (1 : Int) → Wm d 58 [vR 134, vR l1, vI l4, vI l3] M K (Bk d 57 35 38 58 [vR 134, vR l1, vI l2, vI l3, vI l4] [vI l4, vR 137] Q)))) : Wp (d + 1) 57 5 [vR 134, vR l1, vI l2, vI l3, vI l4] [] M K Q := by
  refine r_iload c57_5 rfl ?_
  refine r_aload_n c57_7 rfl ?_
  refine r_getIe c57_8 (oK hK k1) rfl ?_
  refine r_icmpP (P := (M l1 6) ≤ l4) c57_11 rfl (fun hc1 => ?_) (fun hc1 => ?_)
  · replace h := h.1 hc1
    exact r_ret c57_84 h
  · replace h := h.2 hc1
    refine r_aload_n c57_14 rfl ?_
    refine r_getR c57_15 (oK hK o134) (FX.get (b := 137) hX (by decide) (by decide +kernel) (by decide)) (by decide) ?_
    refine r_iload c57_18 rfl ?_
    refine r_iload_n c57_20 rfl ?_
    refine r_iload c57_21 rfl ?_
    refine r_ishr c57_23 ?_
    refine r_iconst c57_24 ?_
    refine r_iand c57_25 ?_
    refine r_iconst c57_26 ?_
    refine r_icmpP (P := ¬ (jand (jshr l2 l4) (1 : Int)) = (1 : Int)) c57_27 rfl (fun hc2 => ?_) (fun hc2 => ?_)
    · replace h := h.1 hc2
      refine r_iconst c57_41 ?_
      obtain ⟨s4, h⟩ := h
      refine r_ias c57_42 (oK hK o137) (bd l137 s4) ?_
      have x5 := FX.set (v := (-1 : Int)) (a := 137) (k := (Int.toNat l4)) hX (nfa o137 _)
      refine r_iload_n c57_43 rfl ?_
      refine r_aload_n c57_44 rfl ?_
      refine r_getR c57_45 (oK hK o134) (FX.get (b := 137) x5 (by decide) (by decide +kernel) (by decide)) (by decide) ?_
      refine r_iload c57_48 rfl ?_
      obtain ⟨s6, h⟩ := h
      refine r_iae c57_50 (oK hK o137) (bd l137 s6) ms_eq ?_
      refine r_iconst c57_51 ?_
      refine r_icmpP (P := ¬ (-1 : Int) = (-1 : Int)) c57_52 rfl (fun hc => absurd hc (by decide)) (fun hc => ?_)
      refine r_iconst c57_55 ?_
      refine r_goto c57_56 ?_
      refine r_ior c57_76 ?_
      refine r_istore_n c57_77 (Nat.le_of_ble_eq_true rfl) ?_
      refine r_iinc c57_78 rfl ?_
      refine r_goto c57_81 ?_
      exact h
    · have hc3 := Classical.not_not.mp hc2
      replace h := h.2 hc3
      refine r_aload_n c57_30 rfl ?_
      refine r_aload_n c57_31 rfl ?_
      refine r_iload c57_32 rfl ?_
      refine r_iload_n c57_34 rfl ?_
      exact r_call c57_35 rfl rfl (Nat.le_of_ble_eq_true rfl) (okc_r rfl rfl (oK hK o134)) h
theorem u57_38 {d : Nat} {l1 : Nat} {l2 : Int} {l3 : Int} {l4 : Int} {t1 : Int} {t2 : Int} {M : Mem} {K : KK} {Q : RR → Mem → KK → Prop} (hK : K.1 = 922) (hX : FX M) (k1 : isO 922 l1 0 = true) (h : (0 ≤ t1 ∧ t1 < (6 : Int)) ∧ (0 ≤ l4 ∧ l4 < (6 : Int)) ∧ (¬ ((mset M 137 (Int.toNat t1) t2) 137 (Int.toNat l4)) = (-1 : Int) → (0 ≤ l4 ∧ l4 < (6 : Int)) ∧ (0 ≤ l4 ∧ l4 < (6 : Int)) ∧ ((0 ≤ ((mset M 137 (Int.toNat t1) t2) 137 (Int.toNat l4)) ∧ 0 ≤ (M (l1 + 2) (Int.toNat l4))) ∧ ((mset M 137 (Int.toNat t1) t2) 137 (Int.toNat l4)) + (M (l1 + 2) (Int.toNat l4)) ≤ 12) ∧ Wp (d + 1) 57 5 [vR 134, vR l1, vI l2, vI (jor l3 (rowB ((mset M 137 (Int.toNat t1) t2) 137 (Int.toNat l4)).toNat (M (l1 + 2) (Int.toNat l4)).toNat : Int)), vI (w32 (l4 + 1))] [] (mset M 137 (Int.toNat t1) t2) K Q) ∧ (((mset M 137 (Int.toNat t1) t2) 137 (Int.toNat l4)) = (-1 : Int) → Wp (d + 1) 57 5 [vR 134, vR l1, vI l2, vI (jor l3 (0 : Int)), vI (w32 (l4 + 1))] [] (mset M 137 (Int.toNat t1) t2) K Q)) : Wp (d + 1) 57 38 [vR 134, vR l1, vI l2, vI l3, vI l4] [vI t2, vI t1, vR 137] M K Q := by
  refine r_goto c57_38 ?_
  obtain ⟨s1, h⟩ := h
  refine r_ias c57_42 (oK hK o137) (bd l137 s1) ?_
  have x2 := FX.set (v := t2) (a := 137) (k := (Int.toNat t1)) hX (nfa o137 _)
  refine r_iload_n c57_43 rfl ?_
  refine r_aload_n c57_44 rfl ?_
  refine r_getR c57_45 (oK hK o134) (FX.get (b := 137) x2 (by decide) (by decide +kernel) (by decide)) (by decide) ?_
  refine r_iload c57_48 rfl ?_
  obtain ⟨s3, h⟩ := h
  refine r_iae c57_50 (oK hK o137) (bd l137 s3) rfl ?_
  refine r_iconst c57_51 ?_
  refine r_icmpP (P := ¬ ((mset M 137 (Int.toNat t1) t2) 137 (Int.toNat l4)) = (-1 : Int)) c57_52 rfl (fun hc4 => ?_) (fun hc4 => ?_)
  · replace h := h.1 hc4
    refine r_aload_n c57_59 rfl ?_
    refine r_getR c57_60 (oK hK o134) (FX.get (b := 137) x2 (by decide) (by decide +kernel) (by decide)) (by decide) ?_
    refine r_iload c57_63 rfl ?_
    obtain ⟨s6, h⟩ := h
    refine r_iae c57_65 (oK hK o137) (bd l137 s6) rfl ?_
    refine r_aload_n c57_66 rfl ?_
    refine r_getR c57_67 (oK hK k1) (fx0_1 x2 k1) (by omega) ?_
    refine r_iload c57_70 rfl ?_
    obtain ⟨s7, h⟩ := h
    refine r_iae c57_72 (oK hK (q0_1 k1)) (bd (z0_1 k1) s7) (ms_na (by have := rg0 k1; omega)) ?_
    obtain ⟨p8, h⟩ := h
    refine r_call c57_73 rfl rfl (Nat.le_of_ble_eq_true rfl) (okc_s rfl rfl rfl) (g144 hK x2 p8 (Bk_v ?_))
    refine r_ior c57_76 ?_
    refine r_istore_n c57_77 (Nat.le_of_ble_eq_true rfl) ?_
    refine r_iinc c57_78 rfl ?_
    refine r_goto c57_81 ?_
    exact h
  · have hc5 := Classical.not_not.mp hc4
    replace h := h.2 hc5
    refine r_iconst c57_55 ?_
    refine r_goto c57_56 ?_
    refine r_ior c57_76 ?_
    refine r_istore_n c57_77 (Nat.le_of_ble_eq_true rfl) ?_
    refine r_iinc c57_78 rfl ?_
    refine r_goto c57_81 ?_
    exact h
theorem u58_0 {d : Nat} {l1 : Nat} {l2 : Int} {l3 : Int} {M : Mem} {K : KK} {Q : RR → Mem → KK → Prop} (hK : K.1 = 922) (hX : FX M) (k1 : isO 922 l1 0 = true) (h : (0 ≤ l2 ∧ l2 < (6 : Int)) ∧ ((0 ≤ (0 : Int) ∧ 0 ≤ (M (l1 + 2) (Int.toNat l2))) ∧ (0 : Int) + (M (l1 + 2) (Int.toNat l2)) ≤ 12) ∧ Wp (d + 1) 58 15 [vR 134, vR l1, vI l2, vI l3, vI (rowB (0 : Int).toNat (M (l1 + 2) (Int.toNat l2)).toNat : Int), vI (0 : Int), vU] [] M K Q) : Wp (d + 1) 58 0 [vR 134, vR l1, vI l2, vI l3, vU, vU, vU] [] M K Q := by
  refine r_iconst c58_0 ?_
  refine r_aload_n c58_1 rfl ?_
  refine r_getR c58_2 (oK hK k1) (fx0_1 hX k1) (by omega) ?_
  refine r_iload_n c58_5 rfl ?_
  obtain ⟨s1, h⟩ := h
  refine r_iae c58_6 (oK hK (q0_1 k1)) (bd (z0_1 k1) s1) rfl ?_
  obtain ⟨p2, h⟩ := h
  refine r_call c58_7 rfl rfl (Nat.le_of_ble_eq_true rfl) (okc_s rfl rfl rfl) (g144 hK hX p2 (Bk_v ?_))
  refine r_istore c58_10 (Nat.le_of_ble_eq_true rfl) ?_
  refine r_iconst c58_12 ?_
  refine r_istore c58_13 (Nat.le_of_ble_eq_true rfl) ?_
  exact h
theorem u58_15 {d : Nat} {l1 : Nat} {l2 : Int} {l3 : Int} {l4 : Int} {l5 : Int} {l6 : PV} {M : Mem} {K : KK} {Q : RR → Mem → KK → Prop} (hK : K.1 = 922) (hX : FX M) (k1 : isO 922 l1 0 = true) (h : (0 ≤ l2 ∧ l2 < (6 : Int)) ∧ ((M l1 5) < (w32 (l5 + (M (l1 + 2) (Int.toNat l2)))) → Q (.inl (some (vI (-1 : Int)))) M K) ∧ (¬ ((M l1 5) < (w32 (l5 + (M (l1 + 2) (Int.toNat l2))))) → (¬ (jand l3 (jshl l4 l5)) = (0 : Int) → Wp (d + 1) 58 15 [vR 134, vR l1, vI l2, vI l3, vI l4, vI (w32 (l5 + 1)), vI (0 : Int)] [] M K Q) ∧ ((jand l3 (jshl l4 l5)) = (0 : Int) → Wm d 56 [vR 134, vI l2, vI l5, vI (jor l3 (jshl l4 l5))] M K (Bk d 58 64 67 56 [vR 134, vR l1, vI l2, vI l3, vI l4, vI l5, vI (1 : Int)] [] Q)))) : Wp (d + 1) 58 15 [vR 134, vR l1, vI l2, vI l3, vI l4, vI l5, l6] [] M K Q := by
  refine r_iload c58_15 rfl ?_
  refine r_aload_n c58_17 rfl ?_
  refine r_getR c58_18 (oK hK k1) (fx0_1 hX k1) (by omega) ?_
  refine r_iload_n c58_21 rfl ?_
  obtain ⟨s1, h⟩ := h
  refine r_iae c58_22 (oK hK (q0_1 k1)) (bd (z0_1 k1) s1) rfl ?_
  refine r_iadd c58_23 ?_
  refine r_aload_n c58_24 rfl ?_
  refine r_getIe c58_25 (oK hK k1) rfl ?_
  refine r_icmpP (P := (M l1 5) < (w32 (l5 + (M (l1 + 2) (Int.toNat l2))))) c58_28 rfl (fun hc2 => ?_) (fun hc2 => ?_)
  · replace h := h.1 hc2
    refine r_iconst c58_91 ?_
    exact r_iret c58_92 (Or.inl rfl) h
  · replace h := h.2 hc2
    refine r_iload_n c58_31 rfl ?_
    refine r_iload c58_32 rfl ?_
    refine r_iload c58_34 rfl ?_
    refine r_ishl c58_36 ?_
    refine r_iand c58_37 ?_
    refine r_ifP (P := ¬ (jand l3 (jshl l4 l5)) = (0 : Int)) c58_38 rfl (fun hc3 => ?_) (fun hc3 => ?_)
    · replace h := h.1 hc3
      refine r_iconst c58_45 ?_
      refine r_istore c58_46 (Nat.le_of_ble_eq_true rfl) ?_
      refine r_iload c58_48 rfl ?_
      refine r_ifP (P := (0 : Int) = (0 : Int)) c58_50 rfl (fun hc => ?_) (fun hc => absurd (by decide) hc)
      refine r_iinc c58_85 rfl ?_
      refine r_goto c58_88 ?_
      exact h
    · have hc4 := Classical.not_not.mp hc3
      replace h := h.2 hc4
      refine r_iconst c58_41 ?_
      refine r_goto c58_42 ?_
      refine r_istore c58_46 (Nat.le_of_ble_eq_true rfl) ?_
      refine r_iload c58_48 rfl ?_
      refine r_ifP (P := (1 : Int) = (0 : Int)) c58_50 rfl (fun hc => absurd hc (by decide)) (fun hc => ?_)
      refine r_aload_n c58_53 rfl ?_
      refine r_iload_n c58_54 rfl ?_
      refine r_iload c58_55 rfl ?_
      refine r_iload_n c58_57 rfl ?_
      refine r_iload c58_58 rfl ?_
      refine r_iload c58_60 rfl ?_
      refine r_ishl c58_62 ?_
      refine r_ior c58_63 ?_
      exact r_call c58_64 rfl rfl (Nat.le_of_ble_eq_true rfl) (okc_r rfl rfl (oK hK o134)) h
theorem u58_67 {d : Nat} {l1 : Nat} {l2 : Int} {l3 : Int} {l4 : Int} {l5 : Int} {l6 : Int} {t0 : Int} {M : Mem} {K : KK} {Q : RR → Mem → KK → Prop} (hK : K.1 = 922) (hX : FX M) (k1 : isO 922 l1 0 = true) (h : (0 ≤ (w32 ((w32 (l2 * (4096 : Int))) + l3)) ∧ (w32 ((w32 (l2 * (4096 : Int))) + l3)) < (28672 : Int)) ∧ (¬ t0 = (M 135 (Int.toNat (w32 ((w32 (l2 * (4096 : Int))) + l3)))) → Wp (d + 1) 58 15 [vR 134, vR l1, vI l2, vI l3, vI l4, vI (w32 (l5 + 1)), vI l6] [] M K Q) ∧ (t0 = (M 135 (Int.toNat (w32 ((w32 (l2 * (4096 : Int))) + l3)))) → Q (.inl (some (vI l5))) M K)) : Wp (d + 1) 58 67 [vR 134, vR l1, vI l2, vI l3, vI l4, vI l5, vI l6] [vI t0] M K Q := by
  refine r_aload_n c58_67 rfl ?_
  refine r_getR c58_68 (oK hK o134) (FX.get (b := 135) hX (by decide) (by decide +kernel) (by decide)) (by decide) ?_
  refine r_iload_n c58_71 rfl ?_
  refine r_sipush c58_72 ?_
  refine r_imul c58_75 ?_
  refine r_iload_n c58_76 rfl ?_
  refine r_iadd c58_77 ?_
  obtain ⟨s1, h⟩ := h
  refine r_iae c58_78 (oK hK o135) (bd l135 s1) rfl ?_
  refine r_icmpP (P := ¬ t0 = (M 135 (Int.toNat (w32 ((w32 (l2 * (4096 : Int))) + l3))))) c58_79 rfl (fun hc2 => ?_) (fun hc2 => ?_)
  · replace h := h.1 hc2
    refine r_iinc c58_85 rfl ?_
    refine r_goto c58_88 ?_
    exact h
  · have hc3 := Classical.not_not.mp hc2
    replace h := h.2 hc3
    refine r_iload c58_82 rfl ?_
    exact r_iret c58_84 (Or.inl rfl) h
theorem u52_0 {d : Nat} {l1 : Nat} {l2 : Nat} {l3 : Int} {M : Mem} {K : KK} {Q : RR → Mem → KK → Prop} (hK : K.1 = 922) (hX : FX M) (k1 : isO 922 l1 0 = true) (k2 : isO 922 l2 3 = true) (h : Wp (d + 1) 52 3 [vR 134, vR l1, vR l2, vI l3, vI (0 : Int), vU] [] M K Q) : Wp (d + 1) 52 0 [vR 134, vR l1, vR l2, vI l3, vU, vU] [] M K Q := by
  refine r_iconst c52_0 ?_
  refine r_istore c52_1 (Nat.le_of_ble_eq_true rfl) ?_
  exact h
theorem u52_3 {d : Nat} {l1 : Nat} {l2 : Nat} {l3 : Int} {l4 : Int} {M : Mem} {K : KK} {Q : RR → Mem → KK → Prop} (hK : K.1 = 922) (hX : FX M) (k1 : isO 922 l1 0 = true) (k2 : isO 922 l2 3 = true) (h : ((4096 : Int) ≤ l4 → Wp (d + 1) 52 42 [vR 134, vR l1, vR l2, vI l3, vI (w32 ((M l1 6) - (1 : Int))), vU] [] M K Q) ∧ (¬ ((4096 : Int) ≤ l4) → (0 ≤ (w32 ((w32 ((M l1 6) * (4096 : Int))) + l4)) ∧ (w32 ((w32 ((M l1 6) * (4096 : Int))) + l4)) < (28672 : Int)) ∧ Wp (d + 1) 52 3 [vR 134, vR l1, vR l2, vI l3, vI (w32 (l4 + 1)), vU] [] (mset M 135 (Int.toNat (w32 ((w32 ((M l1 6) * (4096 : Int))) + l4))) (0 : Int)) K Q)) : Wp (d + 1) 52 3 [vR 134, vR l1, vR l2, vI l3, vI l4, vU] [] M K Q := by
  refine r_iload c52_3 rfl ?_
  refine r_sipush c52_5 ?_
  refine r_icmpP (P := (4096 : Int) ≤ l4) c52_8 rfl (fun hc1 => ?_) (fun hc1 => ?_)
  · replace h := h.1 hc1
    refine r_aload_n c52_34 rfl ?_
    refine r_getIe c52_35 (oK hK k1) rfl ?_
    refine r_iconst c52_38 ?_
    refine r_isub c52_39 ?_
    refine r_istore c52_40 (Nat.le_of_ble_eq_true rfl) ?_
    exact h
  · replace h := h.2 hc1
    refine r_aload_n c52_11 rfl ?_
    refine r_getR c52_12 (oK hK o134) (FX.get (b := 135) hX (by decide) (by decide +kernel) (by decide)) (by decide) ?_
    refine r_aload_n c52_15 rfl ?_
    refine r_getIe c52_16 (oK hK k1) rfl ?_
    refine r_sipush c52_19 ?_
    refine r_imul c52_22 ?_
    refine r_iload c52_23 rfl ?_
    refine r_iadd c52_25 ?_
    refine r_iconst c52_26 ?_
    obtain ⟨s2, h⟩ := h
    refine r_ias c52_27 (oK hK o135) (bd l135 s2) ?_
    have x3 := FX.set (v := (0 : Int)) (a := 135) (k := (Int.toNat (w32 ((w32 ((M l1 6) * (4096 : Int))) + l4)))) hX (nfa o135 _)
    refine r_iinc c52_28 rfl ?_
    refine r_goto c52_31 ?_
    exact h
theorem u52_42 {d : Nat} {l1 : Nat} {l2 : Nat} {l3 : Int} {l4 : Int} {l5 : PV} {M : Mem} {K : KK} {Q : RR → Mem → KK → Prop} (hK : K.1 = 922) (hX : FX M) (k1 : isO 922 l1 0 = true) (k2 : isO 922 l2 3 = true) (h : (l4 < (0 : Int) → Wm d 57 [vR 134, vR l1, vI l3] M K (Bk d 52 107 110 57 [vR 134, vR l1, vR l2, vI l3, vI l4, l5] [] Q)) ∧ (¬ (l4 < (0 : Int)) → (¬ (jand (jshr l3 l4) (1 : Int)) = (1 : Int) → Wp (d + 1) 52 77 [vR 134, vR l1, vR l2, vI l3, vI l4, vI (0 : Int)] [] M K Q) ∧ ((jand (jshr l3 l4) (1 : Int)) = (1 : Int) → Wm d 53 [vR 134, vR l1, vR l2, vI l4] M K (Bk d 52 74 77 53 [vR 134, vR l1, vR l2, vI l3, vI l4, vI (1 : Int)] [] Q)))) : Wp (d + 1) 52 42 [vR 134, vR l1, vR l2, vI l3, vI l4, l5] [] M K Q := by
  refine r_iload c52_42 rfl ?_
  refine r_ifP (P := l4 < (0 : Int)) c52_44 rfl (fun hc1 => ?_) (fun hc1 => ?_)
  · replace h := h.1 hc1
    refine r_aload_n c52_104 rfl ?_
    refine r_aload_n c52_105 rfl ?_
    refine r_iload_n c52_106 rfl ?_
    exact r_call c52_107 rfl rfl (Nat.le_of_ble_eq_true rfl) (okc_r rfl rfl (oK hK o134)) h
  · replace h := h.2 hc1
    refine r_iload_n c52_47 rfl ?_
    refine r_iload c52_48 rfl ?_
    refine r_ishr c52_50 ?_
    refine r_iconst c52_51 ?_
    refine r_iand c52_52 ?_
    refine r_iconst c52_53 ?_
    refine r_icmpP (P := ¬ (jand (jshr l3 l4) (1 : Int)) = (1 : Int)) c52_54 rfl (fun hc2 => ?_) (fun hc2 => ?_)
    · replace h := h.1 hc2
      refine r_iconst c52_61 ?_
      refine r_istore c52_62 (Nat.le_of_ble_eq_true rfl) ?_
      refine r_iload c52_64 rfl ?_
      refine r_ifP (P := (0 : Int) = (0 : Int)) c52_66 rfl (fun hc => ?_) (fun hc => absurd (by decide) hc)
      exact h
    · have hc3 := Classical.not_not.mp hc2
      replace h := h.2 hc3
      refine r_iconst c52_57 ?_
      refine r_goto c52_58 ?_
      refine r_istore c52_62 (Nat.le_of_ble_eq_true rfl) ?_
      refine r_iload c52_64 rfl ?_
      refine r_ifP (P := (1 : Int) = (0 : Int)) c52_66 rfl (fun hc => absurd hc (by decide)) (fun hc => ?_)
      refine r_aload_n c52_69 rfl ?_
      refine r_aload_n c52_70 rfl ?_
      refine r_aload_n c52_71 rfl ?_
      refine r_iload c52_72 rfl ?_
      exact r_call c52_74 rfl rfl (Nat.le_of_ble_eq_true rfl) (okc_r rfl rfl (oK hK o134)) h
theorem u52_77 {d : Nat} {l1 : Nat} {l2 : Nat} {l3 : Int} {l4 : Int} {l5 : Int} {M : Mem} {K : KK} {Q : RR → Mem → KK → Prop} (hK : K.1 = 922) (hX : FX M) (k1 : isO 922 l1 0 = true) (k2 : isO 922 l2 3 = true) (h : ∃ c1 : Mem, ∃ z2 : Nat, ((jand l3 (w32 ((jshl (1 : Int) l4) - (1 : Int)))) = (z2 : Int) ∧ CC M l1 c1 ∧ CW c1 ∧ z2 < 2147483648) ∧ Wm d 54 [vR 134, vR l1, vI l4, vI l5, vI (yardS c1 z2)] M K (Bk d 52 95 98 54 [vR 134, vR l1, vR l2, vI l3, vI l4, vI l5] [] Q)) : Wp (d + 1) 52 77 [vR 134, vR l1, vR l2, vI l3, vI l4, vI l5] [] M K Q := by
  refine r_aload_n c52_77 rfl ?_
  refine r_aload_n c52_78 rfl ?_
  refine r_iload c52_79 rfl ?_
  refine r_iload c52_81 rfl ?_
  refine r_aload_n c52_83 rfl ?_
  refine r_iload_n c52_84 rfl ?_
  refine r_iconst c52_85 ?_
  refine r_iload c52_86 rfl ?_
  refine r_ishl c52_88 ?_
  refine r_iconst c52_89 ?_
  refine r_isub c52_90 ?_
  refine r_iand c52_91 ?_
  obtain ⟨c1, h⟩ := h
  obtain ⟨z2, h⟩ := h
  obtain ⟨p3, h⟩ := h
  refine r_call c52_92 rfl rfl (Nat.le_of_ble_eq_true rfl) (okc_r rfl rfl (oK hK k1)) (g9z hK hX k1 p3 (Bk_v ?_))
  exact r_call c52_95 rfl rfl (Nat.le_of_ble_eq_true rfl) (okc_r rfl rfl (oK hK o134)) h
theorem u52_98 {d : Nat} {l1 : Nat} {l2 : Nat} {l3 : Int} {l4 : Int} {l5 : Int} {M : Mem} {K : KK} {Q : RR → Mem → KK → Prop} (hK : K.1 = 922) (hX : FX M) (k1 : isO 922 l1 0 = true) (k2 : isO 922 l2 3 = true) (h : Wp (d + 1) 52 42 [vR 134, vR l1, vR l2, vI l3, vI (w32 (l4 + (-1))), vI l5] [] M K Q) : Wp (d + 1) 52 98 [vR 134, vR l1, vR l2, vI l3, vI l4, vI l5] [] M K Q := by
  refine r_iinc c52_98 rfl ?_
  refine r_goto c52_101 ?_
  exact h
theorem u52_110 {d : Nat} {l1 : Nat} {l2 : Nat} {l3 : Int} {l4 : Int} {l5 : PV} {M : Mem} {K : KK} {Q : RR → Mem → KK → Prop} (hK : K.1 = 922) (hX : FX M) (k1 : isO 922 l1 0 = true) (k2 : isO 922 l2 3 = true) (h : Q (.inl (some (vI (M 135 0)))) M K) : Wp (d + 1) 52 110 [vR 134, vR l1, vR l2, vI l3, vI l4, l5] [] M K Q := by
  refine r_aload_n c52_110 rfl ?_
  refine r_getR c52_111 (oK hK o134) (FX.get (b := 135) hX (by decide) (by decide +kernel) (by decide)) (by decide) ?_
  refine r_iconst c52_114 ?_
  refine r_iae c52_115 (oK hK o135) (bd l135 (by decide)) rfl ?_
  exact r_iret c52_116 (Or.inl rfl) h
/-! strips laid so that most is gone: the class -/
section CP
variable {d : Nat} {M M' : Mem} {K : KK} {Q : RR → Mem → KK → Prop} {cm a l p : Nat} {c s : Mem} {L : LC} {T S : Nat}
theorem pk_o : (isO 922 135 20 = true ∧ ln 135 = 28672) ∧ (isO 922 136 20 = true ∧ ln 136 = 72) ∧ (isO 922 137 20 = true ∧ ln 137 = 6) := by decide +kernel
theorem ip12 {p x : Nat} (h : p < 6 ∧ x < 13) : w32 (w32 ((p : Int) * 12) + (x : Int)) = ((p * 12 + x : Nat) : Int) := by rw [w32_id (z := (p : Int) * 12) (by omega), w32_id (by omega)]; omega
theorem ip40 {p S : Nat} (h : p < 7 ∧ S < 4096) : w32 (w32 ((p : Int) * 4096) + (S : Int)) = ((p * 4096 + S : Nat) : Int) := by rw [w32_id (z := (p : Int) * 4096) (by omega), w32_id (by omega)]; omega
theorem ip41 {p S : Nat} (h : p < 6 ∧ S < 4096) : w32 (w32 (w32 ((p : Int) + 1) * 4096) + (S : Int)) = (((p + 1) * 4096 + S : Nat) : Int) := by rw [w1 (by omega), w32_id (z := ((p + 1 : Nat) : Int) * 4096) (by omega), w32_id (by omega)]; omega
/-- only the packing's rows and the law's scratch have changed -/
def FrPk (M M' : Mem) : Prop := ∀ b k, ¬ scL b → ¬ (135 ≤ b ∧ b ≤ 137) → M' b k = M b k
theorem FrPk.rf : FrPk M M := fun _ _ _ _ => rfl
theorem FrPk.tr {M1 M2 : Mem} (h1 : FrPk M M1) (h2 : FrPk M1 M2) : FrPk M M2 := fun b k p q => (h2 b k p q).trans (h1 b k p q)
theorem FrPk.mem {b k : Nat} {v : Int} (hb : 135 ≤ b ∧ b ≤ 137) : FrPk M (mset M b k v) := fun b' k' _ h2 => ms_na (fun e => h2 (e ▸ hb))
theorem FrW.pk (h : FrW M M') : FrPk M M' := fun b k p _ => h b k p
theorem FrPk.qc (h : FrPk M M') : FrQc M M' := ⟨fun b k p => h b k (fun e => p (Or.inl e)) (fun e => p (Or.inr (Or.inr (by omega)))), fun h9 => h9.of (h _ _ (by unfold scL; omega) (by omega)) (h _ _ (by unfold scL; omega) (by omega))⟩
theorem SKc.pk (hcm : isO 922 cm 0 = true) (ha : isO 922 a 3 = true) (hd : a + 4 < 134 ∨ 137 < a) (hf : FrPk M M') (hs : SKc M cm a c s) : SKc M' cm a c s := by
  have hg0 := rg0 hcm
  have hg3 := rg3 ha
  refine ⟨⟨fun k hk => (hf _ _ (by unfold scL; omega) (by omega)).trans (hs.1.1 k hk), fun b h1 h2 i hi => (hf _ _ (by unfold scL; omega) (by omega)).trans (hs.1.2 b h1 h2 i hi)⟩, hs.2.1, hs.2.2.1.fr (fun b j h1 h2 => hf b j (by unfold scL; omega) (by omega)), hs.2.2.2⟩
theorem LWC.pk (hcm : isO 922 cm 0 = true) (hf : FrPk M M') (hL : LWC M cm L l) : LWC M' cm L l := by
  have hg0 := rg0 hcm
  have hg2 := rg2 hL.2.1
  exact ⟨(hf _ _ (by unfold scL; omega) (by omega)).trans hL.1, hL.2.1, ⟨(hf _ _ (by unfold scL; omega) (by omega)).trans hL.2.2.1.1, hL.2.2.1.2.1, fun i hi => (hf _ _ (by unfold scL; omega) (by omega)).trans (hL.2.2.1.2.2 i hi)⟩, hL.2.2.2⟩
/-- the yards and cells that the loops read -/
def YC (M : Mem) (cm : Nat) (c : Mem) : Prop := M cm 5 = (nCe c : Int) ∧ M cm 6 = (nSt c : Int) ∧ nCe c ≤ 12 ∧ nSt c ≤ 6 ∧ ∀ p, p < nSt c → M (cm + 2) p = (yN c p : Int) ∧ 1 ≤ yN c p ∧ yN c p ≤ 6
theorem SKc.yc (hs : SKc M cm a c s) : YC M cm c := by
  have hg := hs.1.g hs.2.1
  have h0 := hs.2.1.1
  have h1 := hs.2.1.2.1
  refine ⟨hg.1, hg.2.1, by unfold nCe; omega, by unfold nSt; omega, fun p hp => ?_⟩
  have hp' : (p : Int) < c 0 1 := by unfold nSt at hp; omega
  have hy := hs.2.1.y hp
  have e := hs.1.a2 hp'
  unfold yN; omega
theorem YC.fr (hcm : isO 922 cm 0 = true) (hf : FrPk M M') (h : YC M cm c) : YC M' cm c := by
  have hg0 := rg0 hcm
  exact ⟨(hf _ _ (by unfold scL; omega) (by omega)).trans h.1, (hf _ _ (by unfold scL; omega) (by omega)).trans h.2.1, h.2.2.1, h.2.2.2.1, fun p hp => ⟨(hf _ _ (by unfold scL; omega) (by omega)).trans (h.2.2.2.2 p hp).1, (h.2.2.2.2 p hp).2⟩⟩
theorem g53 (hK : K.1 = 922) (hX : FX M) (hcm : isO 922 cm 0 = true) (ha : isO 922 a 3 = true) (hd : a + 4 < 134 ∨ 137 < a) (hs : SKc M cm a c s) (hL : LWC M cm L l) (hp : p < nSt c)
    (k : ∀ M', FX M' → FrPk M M' → (∀ b j, ¬ scL b → ¬ (b = 136 ∧ p * 12 ≤ j ∧ j < (p + 1) * 12) → M' b j = M b j) → (∀ x, x + yN c p ≤ nCe c → M' 136 (p * 12 + x) = pkE c s L p x) → Q (.inl none) M' K) : Wm (d + 3) 53 [vR 134, vR cm, vR a, vI (p : Int)] M K Q := by
  have hy := hs.yc
  obtain ⟨y5, y6, yc12, yn6, yy⟩ := hy
  have yp := yy p hp
  have hg3 := rg3 ha
  have hg0 := rg0 hcm
  refine u53_0 hK hX hcm ha ?_
  have loop : ∀ f x, x + f = nCe c + 1 - yN c p → ∀ (v : PV) M1, FX M1 → (∀ b j, ¬ scL b → ¬ (b = 136 ∧ p * 12 ≤ j ∧ j < (p + 1) * 12) → M1 b j = M b j) → (∀ j, j < x → M1 136 (p * 12 + j) = pkE c s L p j) → Wp (d + 3) 53 3 [vR 134, vR cm, vR a, vI (p : Int), vI (x : Int), v] [] M1 K Q := by
    intro f
    induction f with
    | zero =>
      intro x hx v M1 x1 f1 w1'
      have fp : FrPk M M1 := fun b j h1 h2 => f1 b j h1 (by omega)
      have yq := hs.yc.fr hcm fp
      have e2 := (yq.2.2.2.2 p hp).1
      refine u53_3 hK x1 hcm ha ⟨by omega, fun _ => k M1 x1 fp f1 (fun j hj => w1' j (by omega)), fun h => absurd ?_ h⟩
      rw [yq.1, Int.toNat_natCast, e2, w32_id (by omega)]; omega
    | succ f ih =>
      intro x hx v M1 x1 f1 w1'
      have fp : FrPk M M1 := fun b j h1 h2 => f1 b j h1 (by omega)
      have yq := hs.yc.fr hcm fp
      have e2 := (yq.2.2.2.2 p hp).1
      have hc2 : c 2 p = (yN c p : Int) := by
        have := hs.2.1.y hp
        unfold yN; omega
      have hc0 : c 0 0 = (nCe c : Int) := by have := hs.2.1.1; unfold nCe; omega
      refine u53_3 hK x1 hcm ha ⟨by omega, fun h => absurd h ?_, fun _ => ⟨c, s, L, l, p, ⟨rfl, hs.pk hcm ha hd fp, hL.pk hcm fp, hp, Or.inr (by omega)⟩, fun M2 x2 f2 => ?_⟩⟩
      · rw [yq.1, Int.toNat_natCast, e2, w32_id (by omega)]; omega
      · have fp2 := fp.tr f2.pk
        have e1 : M2 (a + 1) (Int.toNat (p : Int)) = s 1 p := by rw [Int.toNat_natCast, fp2 _ _ (by unfold scL; omega) (by omega)]; exact (hs.2.2.1.1 p hp).2.1
        rw [e1, ip12 (by omega), Int.toNat_natCast, w1 (i := x) (by omega), jmin_eq]
        refine ⟨by omega, by omega, ih (x + 1) (by omega) _ _ (x2.set (nfa pk_o.2.1.1 _)) (fun b j h1 h2 => (show mset M2 136 (p * 12 + x) (min (whD c s L p (x : Int)) (s 1 p)) b j = M2 b j by unfold mset; rw [if_neg (fun h9 => h2 (by omega))]).trans ((f2 b j h1).trans (f1 b j h1 h2))) (fun j hj => ?_)⟩
        by_cases hjx : j = x
        · subst hjx; rw [ms_eq]; unfold pkE; omega
        · rw [ms_nk (by omega), f2 _ _ (by unfold scL; omega)]; exact w1' j (by omega)
  exact loop (nCe c + 1 - yN c p) 0 (Nat.zero_add _) vU M hX (fun _ _ _ _ => rfl) (fun j hj => absurd hj (by omega))
theorem g56 {x S' : Nat} {E V : Int} (hK : K.1 = 922) (hX : FX M) (hp : p < 6) (hx : x < 12) (hS : S' < 4096) (hE : M 136 (p * 12 + x) = E) (hV : M 135 ((p + 1) * 4096 + S') = V) (hr : (0 ≤ E ∧ E ≤ 1000) ∧ (0 ≤ V ∧ V ≤ 1000)) (k : Q (.inl (some (vI (E + V)))) M K) : Wm d 56 [vR 134, vI (p : Int), vI (x : Int), vI (S' : Int)] M K Q := by
  refine u56_0 hK hX ?_
  rw [ip12 (by omega), ip41 (by omega), Int.toNat_natCast, Int.toNat_natCast, hE, hV, w32_id (by omega)]
  exact ⟨by omega, by omega, k⟩
theorem row_sh {x y : Nat} (h : x + y ≤ 12) : jshl (rowB 0 y : Int) (x : Int) = (rowB x y : Int) := by
  have e : rowB 0 y * 2 ^ x = rowB x y := by unfold rowB; rw [Nat.pow_zero, Nat.mul_one]
  have := rowB_lt (x := x) (m := y) (b := 12) (by omega)
  rw [jshl_n (by omega) (by rw [e]; omega), e]
theorem jand_0 {S r : Nat} (h1 : S < 4096) (h2 : r < 4096) : jand (S : Int) (r : Int) = 0 ↔ S &&& r = 0 := by
  rw [jand_n (by omega) (by omega)]; omega
/-- what the rows hold -/
def RowV (M c s : Mem) (L : LC) (T p : Nat) : Prop := ∀ S, S < 4096 → (p = nSt c ∨ (S < 2 ^ nCe c ∧ (pcn 12 S : Int) ≤ yA c T p)) → M 135 (p * 4096 + S) = pkV c s L T p S
def GoneV (M c s : Mem) (L : LC) (p : Nat) : Prop := ∀ x, x + yN c p ≤ nCe c → M 136 (p * 12 + x) = pkE c s L p x
theorem yA_s {c : Mem} {T p : Nat} : yA c T (p + 1) = yA c T p + (if T.testBit p = true then c 2 p else 0) := by
  show yA c T p + bitI T p * c 2 p = _
  unfold bitI; split <;> omega
theorem p12 {n : Nat} (h : n ≤ 12) : 2 ^ n ≤ 4096 := by
  have : 2 ^ n ≤ 2 ^ 12 := Nat.pow_le_pow_right (by decide) h
  have e : 2 ^ 12 = 4096 := by decide
  omega
theorem nx_ok {x : Nat} (hw : CW c) (hp : p < nSt c) (hT : T.testBit p = true) (hS : S < 2 ^ nCe c) (hpc : (pcn 12 S : Int) ≤ yA c T p) (hx : x + yN c p ≤ nCe c) : (S ||| rowB x (yN c p)) < 2 ^ nCe c ∧ (pcn 12 (S ||| rowB x (yN c p)) : Int) ≤ yA c T (p + 1) := by
  have hn := hw.n
  have hy := hw.y hp
  have r1 := rowB_lt (x := x) (m := yN c p) (b := nCe c) hx
  have r2 := pc_row x (by omega) (yN c p) (by unfold yN; omega) (by omega)
  have r3 := pc_or 12 S (rowB x (yN c p))
  refine ⟨Nat.or_lt_two_pow hS r1, ?_⟩
  rw [yA_s, if_pos hT]
  have : c 2 p = (yN c p : Int) := by unfold yN; omega
  omega
theorem g55 (hK : K.1 = 922) (hX : FX M) (hcm : isO 922 cm 0 = true) (hw : CW c) (hs : LW c s) (hy : YC M cm c) (hp : p < nSt c) (hT : T.testBit p = true) (hS : S < 2 ^ nCe c) (hpc : (pcn 12 S : Int) ≤ yA c T p) (hR : RowV M c s L T (p + 1)) (hG : GoneV M c s L p) (k : Q (.inl (some (vI (pkV c s L T p S)))) M K) : Wm (d + 1) 55 [vR 134, vR cm, vI (p : Int), vI (S : Int)] M K Q := by
  obtain ⟨y5, y6, yc12, yn6, yy⟩ := hy
  obtain ⟨e2, ya, yb⟩ := yy p hp
  have hS2 : S < 4096 := Nat.lt_of_lt_of_le hS (p12 yc12)
  have hyA : yA c T p ≤ yA c T (p + 1) := by rw [yA_s, if_pos hT]; have := hw.y hp; omega
  have hV1 := hR S hS2 (Or.inr ⟨hS, by omega⟩)
  have v1 := pkV_rg (L := L) (T := T) (p := p + 1) (S := S) hs yn6
  refine u55_0 hK hX hcm ?_
  rw [Int.toNat_natCast, e2, Int.toNat_natCast]
  rw [ip41 (by omega), Int.toNat_natCast, hV1]
  refine ⟨by omega, by omega, by omega, ?_⟩
  have loop : ∀ f x, x + f = nCe c + 1 - yN c p → Wp (d + 1) 55 31 [vR 134, vR cm, vI (p : Int), vI (S : Int), vI (max (pkV c s L T (p + 1) S) (pkC c s L T p S x).1), vI (rowB 0 (yN c p) : Int), vI (x : Int)] [] M K Q := by
    intro f
    induction f with
    | zero =>
      intro x hx
      refine u55_31 hK hX hcm ⟨by omega, fun _ => ?_, fun h => absurd ?_ h⟩
      · rw [← pkC_stop (k := x) (Or.inl (by omega)) (by omega), ← pkV_s hp]; exact k
      · rw [y5, Int.toNat_natCast, e2, w32_id (by omega)]; omega
    | succ f ih =>
      intro x hx
      have hx' : x + yN c p ≤ nCe c := by omega
      have rl := rowB_lt (x := x) (m := yN c p) (b := 12) (by omega)
      have nx := ih (x + 1) (by omega)
      have cs := pkC_s (c := c) (s := s) (L := L) (T := T) (p := p) (S := S) (k := x)
      have crg := pkC_rg (L := L) (T := T) (S := S) hs yn6 hp x
      refine u55_31 hK hX hcm ⟨by omega, fun h => absurd h ?_, fun _ => ?_⟩
      · rw [y5, Int.toNat_natCast, e2, w32_id (by omega)]; omega
      · rw [row_sh (by omega), w1 (by omega), jand_0 hS2 rl]
        refine ⟨fun h => ?_, fun h => ?_⟩
        · have e : pkg c s L T p S (pkV c s L T (p + 1)) x = -1 := by unfold pkg; rw [if_neg (fun h9 => h h9.2.2)]
          rw [cs, if_neg (fun h9 => h9.1 e)] at nx
          exact nx
        · obtain ⟨o1, o2⟩ := nx_ok hw hp hT hS hpc hx'
          have o3 : S ||| rowB x (yN c p) < 4096 := Nat.lt_of_lt_of_le o1 (p12 yc12)
          have eg : pkE c s L p x + pkV c s L T (p + 1) (S ||| rowB x (yN c p)) = pkg c s L T p S (pkV c s L T (p + 1)) x := by unfold pkg; rw [if_pos ⟨hT, hx', h⟩]
          have r1 := pkE_rg (L := L) hs hp x
          have r2 := pkV_rg (L := L) (T := T) (p := p + 1) (S := S ||| rowB x (yN c p)) hs yn6
          rw [jor_n (by omega) (by omega)]
          refine g56 hK hX (by omega) (by omega) o3 (hG x hx') (hR _ o3 (Or.inr ⟨o1, o2⟩)) ⟨by omega, by omega⟩ (Bk_v (u55_73 hK hX hcm ?_))
          rw [eg, jmax_eq, w1 (by omega)]
          have en : max (max (pkV c s L T (p + 1) S) (pkC c s L T p S x).1) (pkg c s L T p S (pkV c s L T (p + 1)) x) = max (pkV c s L T (p + 1) S) (pkC c s L T p S (x + 1)).1 := by
            rw [cs]
            split
            · dsimp only; omega
            · omega
          rw [en]; exact nx
  have e0 : max (pkV c s L T (p + 1) S) (pkC c s L T p S 0).1 = pkV c s L T (p + 1) S := by show max _ (-1 : Int) = _; omega
  have := loop (nCe c + 1 - yN c p) 0 (Nat.zero_add _)
  rw [e0] at this; exact this
theorem g58 (hK : K.1 = 922) (hX : FX M) (hcm : isO 922 cm 0 = true) (hw : CW c) (hs : LW c s) (hy : YC M cm c) (hp : p < nSt c) (hT : T.testBit p = true) (hS : S < 2 ^ nCe c) (hpc : (pcn 12 S : Int) ≤ yA c T p) (hR : RowV M c s L T (p + 1)) (hR0 : RowV M c s L T p) (hG : GoneV M c s L p) (k : Q (.inl (some (vI (pkX c s L T p S)))) M K) : Wm (d + 1) 58 [vR 134, vR cm, vI (p : Int), vI (S : Int)] M K Q := by
  obtain ⟨y5, y6, yc12, yn6, yy⟩ := hy
  obtain ⟨e2, ya, yb⟩ := yy p hp
  have hS2 : S < 4096 := Nat.lt_of_lt_of_le hS (p12 yc12)
  have hV := hR0 S hS2 (Or.inr ⟨hS, hpc⟩)
  have v0 := pkV_rg (L := L) (T := T) (p := p) (S := S) hs yn6
  have v1 := pkV_rg (L := L) (T := T) (p := p + 1) (S := S) hs yn6
  have vs := pkV_s (s := s) (L := L) (T := T) (S := S) hp
  obtain ⟨ca, cb⟩ := pkC_first (L := L) (T := T) (S := S) hs yn6 hp 13
  refine u58_0 hK hX hcm ?_
  rw [Int.toNat_natCast, e2, Int.toNat_natCast]
  refine ⟨by omega, by omega, ?_⟩
  have loop : ∀ f x, x + f = nCe c + 1 - yN c p → (∀ i, i < x → pkg c s L T p S (pkV c s L T (p + 1)) i ≠ pkV c s L T p S) → ∀ v : PV, Wp (d + 1) 58 15 [vR 134, vR cm, vI (p : Int), vI (S : Int), vI (rowB 0 (yN c p) : Int), vI (x : Int), v] [] M K Q := by
    intro f
    induction f with
    | zero =>
      intro x hx hno v
      refine u58_15 hK hX hcm ⟨by omega, fun _ => ?_, fun h => absurd ?_ h⟩
      · have : pkX c s L T p S = -1 := by
          unfold pkX
          rw [if_neg (fun h => ?_)]
          obtain ⟨u, w, -⟩ := cb h.1
          have h3 : pkg c s L T p S (pkV c s L T (p + 1)) (pkC c s L T p S 13).2 = pkV c s L T p S := by rw [u, vs]; have := h.2; omega
          by_cases h4 : (pkC c s L T p S 13).2 < x
          · exact hno _ h4 h3
          · have h5 : pkg c s L T p S (pkV c s L T (p + 1)) (pkC c s L T p S 13).2 = -1 := by unfold pkg; rw [if_neg (fun h9 => by have := h9.2.1; omega)]
            omega
        rw [this] at k; exact k
      · rw [y5, Int.toNat_natCast, e2, w32_id (by omega)]; omega
    | succ f ih =>
      intro x hx hno v
      have hx' : x + yN c p ≤ nCe c := by omega
      have rl := rowB_lt (x := x) (m := yN c p) (b := 12) (by omega)
      have nx : pkg c s L T p S (pkV c s L T (p + 1)) x ≠ pkV c s L T p S → ∀ v, Wp (d + 1) 58 15 [vR 134, vR cm, vI (p : Int), vI (S : Int), vI (rowB 0 (yN c p) : Int), vI ((x + 1 : Nat) : Int), v] [] M K Q := fun h9 => ih (x + 1) (by omega) (fun i hi => by
        by_cases hix : i = x
        · subst hix; exact h9
        · exact hno i (by omega))
      refine u58_15 hK hX hcm ⟨by omega, fun h => absurd h ?_, fun _ => ?_⟩
      · rw [y5, Int.toNat_natCast, e2, w32_id (by omega)]; omega
      · rw [row_sh (by omega), w1 (by omega), jand_0 hS2 rl]
        refine ⟨fun h => ?_, fun h => ?_⟩
        · have e : pkg c s L T p S (pkV c s L T (p + 1)) x = -1 := by unfold pkg; rw [if_neg (fun h9 => h h9.2.2)]
          exact nx (by omega) _
        · obtain ⟨o1, o2⟩ := nx_ok hw hp hT hS hpc hx'
          have o3 : S ||| rowB x (yN c p) < 4096 := Nat.lt_of_lt_of_le o1 (p12 yc12)
          have eg : pkE c s L p x + pkV c s L T (p + 1) (S ||| rowB x (yN c p)) = pkg c s L T p S (pkV c s L T (p + 1)) x := by unfold pkg; rw [if_pos ⟨hT, hx', h⟩]
          have r1 := pkE_rg (L := L) hs hp x
          have r2 := pkV_rg (L := L) (T := T) (p := p + 1) (S := S ||| rowB x (yN c p)) hs yn6
          rw [jor_n (by omega) (by omega)]
          refine g56 hK hX (by omega) (by omega) o3 (hG x hx') (hR _ o3 (Or.inr ⟨o1, o2⟩)) ⟨by omega, by omega⟩ (Bk_v (u58_67 hK hX hcm ?_))
          rw [ip40 (by omega), Int.toNat_natCast, hV, w1 (i := x) (by omega)]
          refine ⟨by omega, fun h8 => nx (by omega) _, fun h8 => ?_⟩
          have h9 : pkg c s L T p S (pkV c s L T (p + 1)) x = pkV c s L T p S := by omega
          have c1 := ca x (by omega)
          have hon : pkOn c s L T p S := ⟨by omega, by omega⟩
          obtain ⟨u, w, t⟩ := cb hon.1
          have e5 : (pkC c s L T p S 13).1 = pkV c s L T p S := by have := hon.2; omega
          have e6 : (pkC c s L T p S 13).2 = x := by
            rcases Nat.lt_trichotomy (pkC c s L T p S 13).2 x with h7 | h7 | h7
            · exact absurd (by rw [u, e5]) (hno _ h7)
            · exact h7
            · exact absurd (by rw [h9, e5]) (t x h7)
          have : pkX c s L T p S = (x : Int) := by unfold pkX; rw [if_pos hon, e6]
          rw [this] at k; exact k
  exact loop (nCe c + 1 - yN c p) 0 (Nat.zero_add _) (fun i hi => absurd hi (by omega)) vU
end CP
