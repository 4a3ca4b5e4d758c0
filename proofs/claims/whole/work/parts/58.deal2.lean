theorem u15_0 {d : Nat} {l1 : Nat} {l2 : Nat} {l3 : Int} {M : Mem} {K : KK} {Q : RR → Mem → KK → Prop} (hK : K.1 = 923) (hX : FX M) (k1 : isO 923 l1 0 = true) (k2 : isO 923 l2 3 = true) (h : (0 ≤ l3 ∧ l3 < (6 : Int)) ∧ (¬ ((mset M 142 0 (0 : Int)) (l2 + 2) (Int.toNat l3)) = (-1 : Int) → (0 ≤ l3 ∧ l3 < (6 : Int)) ∧ ∃ c6 : Mem, ∃ s7 : Mem, ∃ L8 : LC, ∃ la9 : Nat, ∃ p10 : Nat, (l3 = (p10 : Int) ∧ SKc (mset M 142 0 (0 : Int)) l1 l2 c6 s7 ∧ LWC (mset M 142 0 (0 : Int)) l1 L8 la9 ∧ p10 < nSt c6 ∧ (((mset M 142 0 (0 : Int)) (l2 + 2) (Int.toNat l3)) = -1 ∨ (0 ≤ ((mset M 142 0 (0 : Int)) (l2 + 2) (Int.toNat l3)) ∧ ((mset M 142 0 (0 : Int)) (l2 + 2) (Int.toNat l3)) + c6 2 p10 ≤ c6 0 0))) ∧ (∀ (M14 : Mem), FX M14 → (Fr1 (la9 + 1) (mset M 142 0 (0 : Int)) M14 ∧ ∀ j, j < 8 → M14 (la9 + 1) j = fcts (sunS c6 ((mset M 142 0 (0 : Int)) (l2 + 2) (Int.toNat l3)) (c6 2 p10)) (c6 2 p10) (s7 1 p10) (rainS c6 (s7 4 0)) 0 0 (s7 4 0) ((mset M 142 0 (0 : Int)) (l2 + 2) (Int.toNat l3)) j) → isO 923 la9 2 = true ∧ (0 ≤ l3 ∧ l3 < (6 : Int)) ∧ (0 ≤ l3 ∧ l3 < (6 : Int)) ∧ Wp (d + 2) 15 57 [vR 139, vR l1, vR l2, vI l3, vR (la9 + 1), vI (w32 ((9 : Int) - (M14 (l2 + 3) (Int.toNat l3)))), vI (0 : Int)] [] (mset M14 (la9 + 1) 5 (M14 (l2 + 4) (Int.toNat l3))) K Q)) ∧ (((mset M 142 0 (0 : Int)) (l2 + 2) (Int.toNat l3)) = (-1 : Int) → Q (.inl (some (vI (0 : Int)))) (mset M 142 0 (0 : Int)) K)) : Wp (d + 2) 15 0 [vR 139, vR l1, vR l2, vI l3, vU, vU, vU] [] M K Q := by
  refine r_aload_n c15_0 rfl ?_
  refine r_getR c15_1 (oK hK o139) (FX.get (b := 142) hX (by decide) (by decide +kernel) (by decide)) (by decide) ?_
  refine r_iconst c15_4 ?_
  refine r_iconst c15_5 ?_
  refine r_ias c15_6 (oK hK o142) (bd l142 (by decide)) ?_
  have x1 := FX.set (v := (0 : Int)) (a := 142) (k := 0) hX (nfa o142 _)
  refine r_aload_n c15_7 rfl ?_
  refine r_getR c15_8 (oK hK k2) (fx3_1 x1 k2) (by omega) ?_
  refine r_iload_n c15_11 rfl ?_
  obtain ⟨s2, h⟩ := h
  refine r_iae c15_12 (oK hK (q3_1 k2)) (bd (z3_1 k2) s2) rfl ?_
  refine r_iconst c15_13 ?_
  refine r_icmpP (P := ¬ ((mset M 142 0 (0 : Int)) (l2 + 2) (Int.toNat l3)) = (-1 : Int)) c15_14 rfl (fun hc3 => ?_) (fun hc3 => ?_)
  · replace h := h.1 hc3
    refine r_aload_n c15_19 rfl ?_
    refine r_aload_n c15_20 rfl ?_
    refine r_iload_n c15_21 rfl ?_
    refine r_aload_n c15_22 rfl ?_
    refine r_getR c15_23 (oK hK k2) (fx3_1 x1 k2) (by omega) ?_
    refine r_iload_n c15_26 rfl ?_
    obtain ⟨s5, h⟩ := h
    refine r_iae c15_27 (oK hK (q3_1 k2)) (bd (z3_1 k2) s5) rfl ?_
    obtain ⟨c6, h⟩ := h
    obtain ⟨s7, h⟩ := h
    obtain ⟨L8, h⟩ := h
    obtain ⟨la9, h⟩ := h
    obtain ⟨p10, h⟩ := h
    obtain ⟨p11, h⟩ := h
    refine r_call c15_28 rfl rfl (Nat.le_of_ble_eq_true rfl) (okc_r rfl rfl (oK hK k2)) (g46 hK x1 k2 k1 p11 (fun M14 x12 p13 => Bk_v ?_))
    replace h := h M14 x12 p13
    obtain ⟨kl15, h⟩ := h
    refine r_astore c15_31 (Nat.le_of_ble_eq_true rfl) ?_
    refine r_aload c15_33 rfl ?_
    refine r_iconst c15_35 ?_
    refine r_aload_n c15_36 rfl ?_
    refine r_getR c15_37 (oK hK k2) (fx3_3 x12 k2) (by omega) ?_
    refine r_iload_n c15_40 rfl ?_
    obtain ⟨s16, h⟩ := h
    refine r_iae c15_41 (oK hK (q3_3 k2)) (bd (z3_3 k2) s16) rfl ?_
    refine r_ias c15_42 (oK hK (q2_0 kl15)) (bd (z2_0 kl15) (by decide)) ?_
    have x17 := FX.set (v := (M14 (l2 + 4) (Int.toNat l3))) (a := (la9 + 1)) (k := 5) x12 (nfa (q2_0 kl15) _)
    refine r_bipush c15_43 ?_
    refine r_aload_n c15_45 rfl ?_
    refine r_getR c15_46 (oK hK k2) (fx3_2 x17 k2) (by omega) ?_
    refine r_iload_n c15_49 rfl ?_
    obtain ⟨s18, h⟩ := h
    refine r_iae c15_50 (oK hK (q3_2 k2)) (bd (z3_2 k2) s18) (ms_na (by have := rg3 k2; have := rg2 kl15; omega)) ?_
    refine r_isub c15_51 ?_
    refine r_istore c15_52 (Nat.le_of_ble_eq_true rfl) ?_
    refine r_iconst c15_54 ?_
    refine r_istore c15_55 (Nat.le_of_ble_eq_true rfl) ?_
    exact h
  · have hc4 := Classical.not_not.mp hc3
    replace h := h.2 hc4
    refine r_iconst c15_17 ?_
    exact r_iret c15_18 (Or.inl rfl) h
theorem u15_57 {d : Nat} {l1 : Nat} {l2 : Nat} {l3 : Int} {l4 : Nat} {l5 : Int} {l6 : Int} {M : Mem} {K : KK} {Q : RR → Mem → KK → Prop} (hK : K.1 = 923) (hX : FX M) (k1 : isO 923 l1 0 = true) (k2 : isO 923 l2 3 = true) (h : (l5 < l6 → Q (.inl (some (vI l5))) M K) ∧ (¬ (l5 < l6) → (0 ≤ l3 ∧ l3 < (6 : Int)) ∧ isO 923 l4 20 = true ∧ (0 ≤ (4 : Int) ∧ (4 : Int) < (ln l4 : Int)) ∧ ∃ b6 : Nat, ((mset M l4 4 (w32 ((M (l2 + 3) (Int.toNat l3)) + l6))) l1 11) = (b6 : Int) ∧ isO 923 b6 2 = true ∧ ∃ L9 : LC, (CR (mset M l4 4 (w32 ((M (l2 + 3) (Int.toNat l3)) + l6))) b6 L9 ∧ Vd L9 0 1) ∧ (∀ (M13 : Mem), FX M13 → FrK b6 (mset M l4 4 (w32 ((M (l2 + 3) (Int.toNat l3)) + l6))) M13 → (0 ≤ l3 ∧ l3 < (6 : Int)) ∧ (0 ≤ l6 ∧ l6 < (10 : Int)) ∧ Wp (d + 2) 15 57 [vR 139, vR l1, vR l2, vI l3, vR l4, vI l5, vI (w32 (l6 + 1))] [] (mset M13 142 (Int.toNat l6) (jmin (clmp ((evA ((mset M l4 4 (w32 ((M (l2 + 3) (Int.toNat l3)) + l6))) (b6 + 1)) L9).2 0)) (M13 (l2 + 1) (Int.toNat l3)))) K Q))) : Wp (d + 2) 15 57 [vR 139, vR l1, vR l2, vI l3, vR l4, vI l5, vI l6] [] M K Q := by
  refine r_iload c15_57 rfl ?_
  refine r_iload c15_59 rfl ?_
  refine r_icmpP (P := l5 < l6) c15_61 rfl (fun hc1 => ?_) (fun hc1 => ?_)
  · replace h := h.1 hc1
    refine r_iload c15_106 rfl ?_
    exact r_iret c15_108 (Or.inl rfl) h
  · replace h := h.2 hc1
    refine r_aload c15_64 rfl ?_
    refine r_iconst c15_66 ?_
    refine r_aload_n c15_67 rfl ?_
    refine r_getR c15_68 (oK hK k2) (fx3_2 hX k2) (by omega) ?_
    refine r_iload_n c15_71 rfl ?_
    obtain ⟨s2, h⟩ := h
    refine r_iae c15_72 (oK hK (q3_2 k2)) (bd (z3_2 k2) s2) rfl ?_
    refine r_iload c15_73 rfl ?_
    refine r_iadd c15_75 ?_
    obtain ⟨o3, h⟩ := h
    obtain ⟨s4, h⟩ := h
    refine r_ias c15_76 (oK hK o3) s4 ?_
    have x5 := FX.set (v := (w32 ((M (l2 + 3) (Int.toNat l3)) + l6))) (a := l4) (k := 4) hX (nfa o3 _)
    refine r_aload_n c15_77 rfl ?_
    refine r_getR c15_78 (oK hK o139) (FX.get (b := 142) x5 (by decide) (by decide +kernel) (by decide)) (by decide) ?_
    refine r_iload c15_81 rfl ?_
    refine r_aload_n c15_83 rfl ?_
    obtain ⟨b6, h⟩ := h
    obtain ⟨e7, h⟩ := h
    obtain ⟨k8, h⟩ := h
    refine r_getR c15_84 (oK hK k1) e7 (by have := (isO_d k8).1; omega) ?_
    obtain ⟨L9, h⟩ := h
    obtain ⟨p10, h⟩ := h
    refine r_call c15_87 rfl rfl (Nat.le_of_ble_eq_true rfl) (okc_r rfl rfl (oK hK k8)) (g26 hK x5 k8 p10 (fun M13 x11 p12 => Bk_v ?_))
    replace h := h M13 x11 p12
    refine r_aload_n c15_90 rfl ?_
    refine r_getR c15_91 (oK hK k2) (fx3_0 x11 k2) (by omega) ?_
    refine r_iload_n c15_94 rfl ?_
    obtain ⟨s14, h⟩ := h
    refine r_iae c15_95 (oK hK (q3_0 k2)) (bd (z3_0 k2) s14) rfl ?_
    refine r_min c15_96 (Nat.le_of_ble_eq_true rfl) ?_
    obtain ⟨s15, h⟩ := h
    refine r_ias c15_99 (oK hK o142) (bd l142 s15) ?_
    have x16 := FX.set (v := (jmin (clmp ((evA ((mset M l4 4 (w32 ((M (l2 + 3) (Int.toNat l3)) + l6))) (b6 + 1)) L9).2 0)) (M13 (l2 + 1) (Int.toNat l3)))) (a := 142) (k := (Int.toNat l6)) x11 (nfa o142 _)
    refine r_iinc c15_100 rfl ?_
    refine r_goto c15_103 ?_
    exact h
theorem u14_0 {d : Nat} {l1 : Nat} {l2 : Nat} {l3 : Int} {M : Mem} {K : KK} {Q : RR → Mem → KK → Prop} (hK : K.1 = 923) (hX : FX M) (k1 : isO 923 l1 0 = true) (k2 : isO 923 l2 3 = true) (h : Wp (d + 1) 14 3 [vR 139, vR l1, vR l2, vI l3, vI (0 : Int), vU, vU] [] M K Q) : Wp (d + 1) 14 0 [vR 139, vR l1, vR l2, vI l3, vU, vU, vU] [] M K Q := by
  refine r_iconst c14_0 ?_
  refine r_istore c14_1 (Nat.le_of_ble_eq_true rfl) ?_
  exact h
theorem u14_3 {d : Nat} {l1 : Nat} {l2 : Nat} {l3 : Int} {l4 : Int} {M : Mem} {K : KK} {Q : RR → Mem → KK → Prop} (hK : K.1 = 923) (hX : FX M) (k1 : isO 923 l1 0 = true) (k2 : isO 923 l2 3 = true) (h : ((21 : Int) ≤ l4 → Wp (d + 1) 14 49 [vR 139, vR l1, vR l2, vI l3, vI (w32 ((M l1 6) - (1 : Int))), vU, vU] [] M K Q) ∧ (¬ ((21 : Int) ≤ l4) → (¬ l4 = (0 : Int) → (0 ≤ (w32 ((w32 ((M l1 6) * (21 : Int))) + l4)) ∧ (w32 ((w32 ((M l1 6) * (21 : Int))) + l4)) < (147 : Int)) ∧ Wp (d + 1) 14 3 [vR 139, vR l1, vR l2, vI l3, vI (w32 (l4 + 1)), vU, vU] [] (mset M 140 (Int.toNat (w32 ((w32 ((M l1 6) * (21 : Int))) + l4))) (-1 : Int)) K Q) ∧ (l4 = (0 : Int) → (0 ≤ (w32 ((w32 ((M l1 6) * (21 : Int))) + l4)) ∧ (w32 ((w32 ((M l1 6) * (21 : Int))) + l4)) < (147 : Int)) ∧ Wp (d + 1) 14 3 [vR 139, vR l1, vR l2, vI l3, vI (w32 (l4 + 1)), vU, vU] [] (mset M 140 (Int.toNat (w32 ((w32 ((M l1 6) * (21 : Int))) + l4))) (0 : Int)) K Q))) : Wp (d + 1) 14 3 [vR 139, vR l1, vR l2, vI l3, vI l4, vU, vU] [] M K Q := by
  refine r_iload c14_3 rfl ?_
  refine r_bipush c14_5 ?_
  refine r_icmpP (P := (21 : Int) ≤ l4) c14_7 rfl (fun hc1 => ?_) (fun hc1 => ?_)
  · replace h := h.1 hc1
    refine r_aload_n c14_41 rfl ?_
    refine r_getIe c14_42 (oK hK k1) rfl ?_
    refine r_iconst c14_45 ?_
    refine r_isub c14_46 ?_
    refine r_istore c14_47 (Nat.le_of_ble_eq_true rfl) ?_
    exact h
  · replace h := h.2 hc1
    refine r_aload_n c14_10 rfl ?_
    refine r_getR c14_11 (oK hK o139) (FX.get (b := 140) hX (by decide) (by decide +kernel) (by decide)) (by decide) ?_
    refine r_aload_n c14_14 rfl ?_
    refine r_getIe c14_15 (oK hK k1) rfl ?_
    refine r_bipush c14_18 ?_
    refine r_imul c14_20 ?_
    refine r_iload c14_21 rfl ?_
    refine r_iadd c14_23 ?_
    refine r_iload c14_24 rfl ?_
    refine r_ifP (P := ¬ l4 = (0 : Int)) c14_26 rfl (fun hc2 => ?_) (fun hc2 => ?_)
    · replace h := h.1 hc2
      refine r_iconst c14_33 ?_
      obtain ⟨s4, h⟩ := h
      refine r_ias c14_34 (oK hK o140) (bd l140 s4) ?_
      have x5 := FX.set (v := (-1 : Int)) (a := 140) (k := (Int.toNat (w32 ((w32 ((M l1 6) * (21 : Int))) + l4)))) hX (nfa o140 _)
      refine r_iinc c14_35 rfl ?_
      refine r_goto c14_38 ?_
      exact h
    · have hc3 := Classical.not_not.mp hc2
      replace h := h.2 hc3
      refine r_iconst c14_29 ?_
      refine r_goto c14_30 ?_
      obtain ⟨s6, h⟩ := h
      refine r_ias c14_34 (oK hK o140) (bd l140 s6) ?_
      have x7 := FX.set (v := (0 : Int)) (a := 140) (k := (Int.toNat (w32 ((w32 ((M l1 6) * (21 : Int))) + l4)))) hX (nfa o140 _)
      refine r_iinc c14_35 rfl ?_
      refine r_goto c14_38 ?_
      exact h
theorem u14_49 {d : Nat} {l1 : Nat} {l2 : Nat} {l3 : Int} {l4 : Int} {l5 : PV} {l6 : PV} {M : Mem} {K : KK} {Q : RR → Mem → KK → Prop} (hK : K.1 = 923) (hX : FX M) (k1 : isO 923 l1 0 = true) (k2 : isO 923 l2 3 = true) (h : (l4 < (0 : Int) → Wp (d + 1) 14 106 [vR 139, vR l1, vR l2, vI l3, vI l3, vI (0 : Int), l6] [] M K Q) ∧ (¬ (l4 < (0 : Int)) → Wm d 15 [vR 139, vR l1, vR l2, vI l4] M K (Bk d 14 59 62 15 [vR 139, vR l1, vR l2, vI l3, vI l4, l5, l6] [] Q))) : Wp (d + 1) 14 49 [vR 139, vR l1, vR l2, vI l3, vI l4, l5, l6] [] M K Q := by
  refine r_iload c14_49 rfl ?_
  refine r_ifP (P := l4 < (0 : Int)) c14_51 rfl (fun hc1 => ?_) (fun hc1 => ?_)
  · replace h := h.1 hc1
    refine r_iload_n c14_100 rfl ?_
    refine r_istore c14_101 (Nat.le_of_ble_eq_true rfl) ?_
    refine r_iconst c14_103 ?_
    refine r_istore c14_104 (Nat.le_of_ble_eq_true rfl) ?_
    exact h
  · replace h := h.2 hc1
    refine r_aload_n c14_54 rfl ?_
    refine r_aload_n c14_55 rfl ?_
    refine r_aload_n c14_56 rfl ?_
    refine r_iload c14_57 rfl ?_
    exact r_call c14_59 rfl rfl (Nat.le_of_ble_eq_true rfl) (okc_r rfl rfl (oK hK o139)) h
theorem u14_62 {d : Nat} {l1 : Nat} {l2 : Nat} {l3 : Int} {l4 : Int} {l5 : PV} {l6 : PV} {t0 : Int} {M : Mem} {K : KK} {Q : RR → Mem → KK → Prop} (hK : K.1 = 923) (hX : FX M) (k1 : isO 923 l1 0 = true) (k2 : isO 923 l2 3 = true) (h : Wp (d + 1) 14 67 [vR 139, vR l1, vR l2, vI l3, vI l4, vI t0, vI (0 : Int)] [] M K Q) : Wp (d + 1) 14 62 [vR 139, vR l1, vR l2, vI l3, vI l4, l5, l6] [vI t0] M K Q := by
  refine r_istore c14_62 (Nat.le_of_ble_eq_true rfl) ?_
  refine r_iconst c14_64 ?_
  refine r_istore c14_65 (Nat.le_of_ble_eq_true rfl) ?_
  exact h
theorem u14_67 {d : Nat} {l1 : Nat} {l2 : Nat} {l3 : Int} {l4 : Int} {l5 : Int} {l6 : Int} {M : Mem} {K : KK} {Q : RR → Mem → KK → Prop} (hK : K.1 = 923) (hX : FX M) (k1 : isO 923 l1 0 = true) (k2 : isO 923 l2 3 = true) (h : (l3 < l6 → Wp (d + 1) 14 49 [vR 139, vR l1, vR l2, vI l3, vI (w32 (l4 + (-1))), vI l5, vI l6] [] M K Q) ∧ (¬ (l3 < l6) → Wm d 16 [vR 139, vI l4, vI l6, vI (jmin l5 l6)] M K (Bk d 14 85 88 16 [vR 139, vR l1, vR l2, vI l3, vI l4, vI l5, vI l6] [] Q))) : Wp (d + 1) 14 67 [vR 139, vR l1, vR l2, vI l3, vI l4, vI l5, vI l6] [] M K Q := by
  refine r_iload c14_67 rfl ?_
  refine r_iload_n c14_69 rfl ?_
  refine r_icmpP (P := l3 < l6) c14_70 rfl (fun hc1 => ?_) (fun hc1 => ?_)
  · replace h := h.1 hc1
    refine r_iinc c14_94 rfl ?_
    refine r_goto c14_97 ?_
    exact h
  · replace h := h.2 hc1
    refine r_aload_n c14_73 rfl ?_
    refine r_iload c14_74 rfl ?_
    refine r_iload c14_76 rfl ?_
    refine r_iload c14_78 rfl ?_
    refine r_iload c14_80 rfl ?_
    refine r_min c14_82 (Nat.le_of_ble_eq_true rfl) ?_
    exact r_call c14_85 rfl rfl (Nat.le_of_ble_eq_true rfl) (okc_r rfl rfl (oK hK o139)) h
theorem u14_88 {d : Nat} {l1 : Nat} {l2 : Nat} {l3 : Int} {l4 : Int} {l5 : Int} {l6 : Int} {M : Mem} {K : KK} {Q : RR → Mem → KK → Prop} (hK : K.1 = 923) (hX : FX M) (k1 : isO 923 l1 0 = true) (k2 : isO 923 l2 3 = true) (h : Wp (d + 1) 14 67 [vR 139, vR l1, vR l2, vI l3, vI l4, vI l5, vI (w32 (l6 + 1))] [] M K Q) : Wp (d + 1) 14 88 [vR 139, vR l1, vR l2, vI l3, vI l4, vI l5, vI l6] [] M K Q := by
  refine r_iinc c14_88 rfl ?_
  refine r_goto c14_91 ?_
  exact h
theorem u14_106 {d : Nat} {l1 : Nat} {l2 : Nat} {l3 : Int} {l4 : Int} {l5 : Int} {l6 : PV} {M : Mem} {K : KK} {Q : RR → Mem → KK → Prop} (hK : K.1 = 923) (hX : FX M) (k1 : isO 923 l1 0 = true) (k2 : isO 923 l2 3 = true) (h : ((M l1 6) ≤ l5 → (0 ≤ l3 ∧ l3 < (147 : Int)) ∧ Q (.inl (some (vI (M 140 (Int.toNat l3))))) M K) ∧ (¬ ((M l1 6) ≤ l5) → (0 ≤ (w32 ((w32 (l5 * (21 : Int))) + l4)) ∧ (w32 ((w32 (l5 * (21 : Int))) + l4)) < (126 : Int)) ∧ (0 ≤ l5 ∧ l5 < (6 : Int)) ∧ (0 ≤ l5 ∧ l5 < (6 : Int)) ∧ Wp (d + 1) 14 106 [vR 139, vR l1, vR l2, vI l3, vI (w32 (l4 - (M 141 (Int.toNat (w32 ((w32 (l5 * (21 : Int))) + l4)))))), vI (w32 (l5 + 1)), l6] [] (mset M 143 (Int.toNat l5) (M 141 (Int.toNat (w32 ((w32 (l5 * (21 : Int))) + l4))))) K Q)) : Wp (d + 1) 14 106 [vR 139, vR l1, vR l2, vI l3, vI l4, vI l5, l6] [] M K Q := by
  refine r_iload c14_106 rfl ?_
  refine r_aload_n c14_108 rfl ?_
  refine r_getIe c14_109 (oK hK k1) rfl ?_
  refine r_icmpP (P := (M l1 6) ≤ l5) c14_112 rfl (fun hc1 => ?_) (fun hc1 => ?_)
  · replace h := h.1 hc1
    refine r_aload_n c14_153 rfl ?_
    refine r_getR c14_154 (oK hK o139) (FX.get (b := 140) hX (by decide) (by decide +kernel) (by decide)) (by decide) ?_
    refine r_iload_n c14_157 rfl ?_
    obtain ⟨s2, h⟩ := h
    refine r_iae c14_158 (oK hK o140) (bd l140 s2) rfl ?_
    exact r_iret c14_159 (Or.inl rfl) h
  · replace h := h.2 hc1
    refine r_aload_n c14_115 rfl ?_
    refine r_getR c14_116 (oK hK o139) (FX.get (b := 143) hX (by decide) (by decide +kernel) (by decide)) (by decide) ?_
    refine r_iload c14_119 rfl ?_
    refine r_aload_n c14_121 rfl ?_
    refine r_getR c14_122 (oK hK o139) (FX.get (b := 141) hX (by decide) (by decide +kernel) (by decide)) (by decide) ?_
    refine r_iload c14_125 rfl ?_
    refine r_bipush c14_127 ?_
    refine r_imul c14_129 ?_
    refine r_iload c14_130 rfl ?_
    refine r_iadd c14_132 ?_
    obtain ⟨s3, h⟩ := h
    refine r_iae c14_133 (oK hK o141) (bd l141 s3) rfl ?_
    obtain ⟨s4, h⟩ := h
    refine r_ias c14_134 (oK hK o143) (bd l143 s4) ?_
    have x5 := FX.set (v := (M 141 (Int.toNat (w32 ((w32 (l5 * (21 : Int))) + l4))))) (a := 143) (k := (Int.toNat l5)) hX (nfa o143 _)
    refine r_iload c14_135 rfl ?_
    refine r_aload_n c14_137 rfl ?_
    refine r_getR c14_138 (oK hK o139) (FX.get (b := 143) x5 (by decide) (by decide +kernel) (by decide)) (by decide) ?_
    refine r_iload c14_141 rfl ?_
    obtain ⟨s6, h⟩ := h
    refine r_iae c14_143 (oK hK o143) (bd l143 s6) ms_eq ?_
    refine r_isub c14_144 ?_
    refine r_istore c14_145 (Nat.le_of_ble_eq_true rfl) ?_
    refine r_iinc c14_147 rfl ?_
    refine r_goto c14_150 ?_
    exact h
/-! wettings dealt out: the class -/
section CD
variable {d : Nat} {M M' : Mem} {K : KK} {Q : RR → Mem → KK → Prop} {cm a l p : Nat} {c s : Mem} {L : LC}
def FrDw (M M' : Mem) : Prop := ∀ b k, ¬ scL b → b ≠ 142 → M' b k = M b k
theorem FrDw.dl (h : FrDw M M') : FrDl M M' := fun b k p q => h b k p (by omega)
theorem g15 (hK : K.1 = 923) (hX : FX M) (hcm : isO 923 cm 0 = true) (ha : isO 923 a 3 = true) (hd : a + 4 < 139 ∨ 143 < a) (hs : SKc M cm a c s) (hL : LWC M cm L l) (hp : p < nSt c)
    (k : ∀ M', FX M' → FrDw M M' → (∀ k, k ≤ dlM s p → M' 142 k = dlG c s L p k) → Q (.inl (some (vI (dlM s p : Int)))) M' K) : Wm (d + 2) 15 [vR 139, vR cm, vR a, vI (p : Int)] M K Q := by
  have hg0 := rg0 hcm
  have hg3 := rg3 ha
  have hg2 := rg2 hL.2.1
  have hn6 := hs.2.1.2.1
  have hp6 : p < 6 := by unfold nSt at hp; omega
  have hlp := hs.2.2.2.1 p hp
  have f1 : FrDl M (mset M 142 0 0) := FrDl.mem (by omega)
  have x1 := hX.set (a := 142) (k := 0) (v := 0) (nfa dl_o.2.2.1.1 _)
  have hs1 := hs.dl hcm ha hd f1
  have hL1 := hL.dl hcm f1
  have e0 : (mset M 142 0 (0 : Int)) (a + 2) (Int.toNat (p : Int)) = s 0 p := by rw [Int.toNat_natCast]; exact (hs1.2.2.1.1 p hp).1
  refine u15_0 hK hX hcm ha ⟨by omega, fun h => ⟨by omega, c, s, L, l, p, ⟨rfl, hs1, hL1, hp, by rw [e0]; exact hlp.1⟩, fun M2 x2 p2 => ⟨hL.2.1, by omega, by omega, ?_⟩⟩, fun h => ?_⟩
  · rw [e0] at h p2
    obtain ⟨f2, hfc⟩ := p2
    have g2 : ∀ b j, b ≠ l + 1 → b ≠ 142 → M2 b j = M b j := fun b j h1 h2 => (f2 b j h1).trans (ms_na h2)
    have e3 : M2 (a + 3) (Int.toNat (p : Int)) = s 2 p := by rw [Int.toNat_natCast, g2 _ _ (by omega) (by omega)]; exact (hs.2.2.1.1 p hp).2.2.1
    have e4 : M2 (a + 4) (Int.toNat (p : Int)) = s 3 p := by rw [Int.toNat_natCast, g2 _ _ (by omega) (by omega)]; exact (hs.2.2.1.1 p hp).2.2.2
    rw [e3, e4, w32_id (by omega)]
    have em : dlM s p = (9 - s 2 p).toNat := by unfold dlM; rw [if_neg h]
    have e9 : (9 : Int) - s 2 p = (dlM s p : Int) := by omega
    rw [e9]
    have hm9 := dlM_le hs.2.2.2 hp
    have loop : ∀ f i, i + f = dlM s p + 1 → ∀ M3, FX M3 → FrDw M M3 → (∀ j, j < 8 → j ≠ 4 → M3 (l + 1) j = fcts (sunS c (s 0 p) (c 2 p)) (c 2 p) (s 1 p) (rainS c (s 4 0)) 0 (s 3 p) (s 4 0) (s 0 p) j) → (∀ k, k < i → M3 142 k = dlG c s L p k) → Wp (d + 2) 15 57 [vR 139, vR cm, vR a, vI (p : Int), vR (l + 1), vI (dlM s p : Int), vI (i : Int)] [] M3 K Q := by
      intro f
      induction f with
      | zero =>
        intro i hi M3 x3 f3 hfc3 w3
        exact u15_57 hK x3 hcm ha ⟨fun _ => k M3 x3 f3 (fun k hk => w3 k (by omega)), fun h => absurd h (by omega)⟩
      | succ f ih =>
        intro i hi M3 x3 f3 hfc3 w3
        have hq2 := q2_0 hL.2.1
        have e3' : M3 (a + 3) (Int.toNat (p : Int)) = s 2 p := by rw [Int.toNat_natCast, f3 _ _ (by unfold scL; omega) (by omega)]; exact (hs.2.2.1.1 p hp).2.2.1
        have l8 : ln (l + 1) = 8 := by rcases hg2 with rfl | rfl | rfl <;> decide +kernel
        refine u15_57 hK x3 hcm ha ⟨fun h => absurd h (by omega), fun _ => ⟨by omega, hq2, by rw [l8]; omega, l, ?_, hL.2.1, eff L, ⟨?_, hL.2.2.2⟩, fun M4 x4 f4 => ⟨by omega, by omega, ?_⟩⟩⟩
        · rw [ms_na (by omega), f3 _ _ (by unfold scL; omega) (by omega)]; exact hL.1
        · have hc := hL.2.2.1
          exact ⟨by rw [ms_na (by omega), f3 _ _ (by unfold scL; omega) (by omega)]; exact hc.1, hc.2.1, fun i hi => by rw [ms_na (by omega), f3 _ _ (by unfold scL; omega) (by omega)]; exact hc.2.2 i hi⟩
        · have g4 : FrDw M M4 := fun b j h1 h2 => (f4 b j (by unfold scL at h1; omega)).trans ((ms_na (by unfold scL at h1; omega)).trans (f3 b j h1 h2))
          have e1' : M4 (a + 1) (Int.toNat (p : Int)) = s 1 p := by rw [Int.toNat_natCast, g4 _ _ (by unfold scL; omega) (by omega)]; exact (hs.2.2.1.1 p hp).2.1
          have e : clmp ((evA ((mset M3 (l + 1) 4 (w32 (M3 (a + 3) (Int.toNat (p : Int)) + (i : Int)))) (l + 1)) (eff L)).2 0) = whB c L p (s 0 p) (s 1 p) (rainS c (s 4 0)) (s 2 p + (i : Int)) (s 3 p) (s 4 0) := by
            show wh _ L = wh _ L
            refine wh_c (fun j hj => ?_) hL.2.2.2
            rw [e3', w32_id (by omega)]
            by_cases h4 : j = 4
            · subst h4; rw [ms_eq]; rfl
            · rw [ms_nk h4, hfc3 j hj h4]
              rcases (show j = 0 ∨ j = 1 ∨ j = 2 ∨ j = 3 ∨ j = 5 ∨ j = 6 ∨ j = 7 by omega) with rfl | rfl | rfl | rfl | rfl | rfl | rfl <;> rfl
          rw [e, e1', jmin_eq, w1 (by omega), Int.toNat_natCast]
          have ev : min (whB c L p (s 0 p) (s 1 p) (rainS c (s 4 0)) (s 2 p + (i : Int)) (s 3 p) (s 4 0)) (s 1 p) = dlG c s L p i := by
            unfold dlG; rw [if_neg h, if_pos (by omega)]; omega
          rw [ev]
          refine ih (i + 1) (by omega) _ (x4.set (nfa dl_o.2.2.1.1 _)) (fun b j h1 h2 => (ms_na h2).trans (g4 b j h1 h2)) (fun j hj h4 => ?_) (fun k hk => ?_)
          · rw [ms_na (by omega), f4 _ _ (by omega), ms_nk h4]; exact hfc3 j hj h4
          · by_cases hki : k = i
            · subst hki; rw [ms_eq]
            · rw [ms_nk hki, f4 _ _ (by omega), ms_na (by omega)]; exact w3 k (by omega)
    refine loop (dlM s p + 1) 0 (by omega) _ (x2.set (nfa (q2_0 hL.2.1) _)) (fun b j h1 h2 => ?_) (fun j hj h4 => ?_) (fun k hk => absurd hk (by omega))
    · rw [ms_na (by unfold scL at h1; omega)]; exact g2 b j (by unfold scL at h1; omega) h2
    · by_cases h5 : j = 5
      · subst h5; rw [ms_eq]; rfl
      · rw [ms_nk h5, hfc j hj]
        rcases (show j = 0 ∨ j = 1 ∨ j = 2 ∨ j = 3 ∨ j = 6 ∨ j = 7 by omega) with rfl | rfl | rfl | rfl | rfl | rfl <;> rfl
  · rw [e0] at h
    have em : dlM s p = 0 := by unfold dlM; rw [if_pos h]
    have := k _ x1 (fun b j h1 h2 => ms_na h2) (fun k hk => ?_)
    · rw [em] at this; exact this
    · have : k = 0 := by omega
      subst this
      rw [ms_eq]; unfold dlG; rw [if_pos h, if_pos rfl]
theorem fd_cut (hs : LW c s) (hp : p < nSt c) {D : Nat → Int} {m : Nat} : fdS (gdS c s L p) D m (min (dlM s p) m + 1) = fdS (gdS c s L p) D m (m + 1) := by
  by_cases h : dlM s p ≤ m
  · rw [Nat.min_eq_left h]
    have := fdS_stop (g := gdS c s L p) (D := D) (m := m) (t := dlM s p + 1) (fun k hk => by unfold gdS; rw [if_pos hp]; exact dlG_hi hs hp k hk) (m - dlM s p)
    rw [show dlM s p + 1 + (m - dlM s p) = m + 1 by omega] at this
    exact this.symm
  · rw [Nat.min_eq_right (by omega)]
theorem g14 {n : Nat} (hK : K.1 = 923) (hX : FX M) (hcm : isO 923 cm 0 = true) (ha : isO 923 a 3 = true) (hd : a + 4 < 139 ∨ 143 < a) (hs : SKc M cm a c s) (hL : LWC M cm L l) (hn : n ≤ 20)
    (k : ∀ M', FX M' → FrDl M M' → (∀ p, p < nSt c → M' 143 p = (cR (gdS c s L) (nSt c) p (lfS (gdS c s L) (nSt c) n p) : Int)) → Q (.inl (some (vI (dR (gdS c s L) (nSt c) 0 n)))) M' K) : Wm (d + 3) 14 [vR 139, vR cm, vR a, vI (n : Int)] M K Q := by
  have hn6 := hs.2.1.2.1
  have hN : nSt c ≤ 6 := by unfold nSt; omega
  have hg0 := rg0 hcm
  have eN : ∀ M1, FrDl M M1 → M1 cm 6 = (nSt c : Int) := fun M1 f1 => ((hs.dl hcm ha hd f1).1.g hs.2.1).2.1
  have gr := gdS_rg (L := L) hs.2.2.2
  refine u14_0 hK hX hcm ha ?_
  -- what is dealt
  have give : ∀ f p, p + f = nSt c → ∀ (v : PV) M1, FX M1 → FrDl M M1 → (∀ p m, p < nSt c → m ≤ n → M1 141 (p * 21 + m) = (cR (gdS c s L) (nSt c) p m : Int)) → M1 140 n = dR (gdS c s L) (nSt c) 0 n → (∀ j, j < p → M1 143 j = (cR (gdS c s L) (nSt c) j (lfS (gdS c s L) (nSt c) n j) : Int)) → Wp (d + 3) 14 106 [vR 139, vR cm, vR a, vI (n : Int), vI (lfS (gdS c s L) (nSt c) n p : Int), vI (p : Int), v] [] M1 K Q := by
    intro f
    induction f with
    | zero =>
      intro p hp v M1 x1 f1 hC hB w1'
      have hpn : p = nSt c := by omega
      subst hpn
      refine u14_106 hK x1 hcm ha ⟨fun _ => ⟨by omega, ?_⟩, fun h => absurd (by rw [eN M1 f1]; omega) h⟩
      rw [Int.toNat_natCast, hB]
      exact k M1 x1 f1 w1'
    | succ f ih =>
      intro p hp v M1 x1 f1 hC hB w1'
      have hl := lfS_le (g := gdS c s L) (N := nSt c) (n := n) p
      have e : w32 (w32 ((p : Int) * 21) + (lfS (gdS c s L) (nSt c) n p : Int)) = ((p * 21 + lfS (gdS c s L) (nSt c) n p : Nat) : Int) := by
        rw [w32_id (z := (p : Int) * 21) (by omega), w32_id (by omega)]; omega
      have hcl := cR_le (g := gdS c s L) (N := nSt c) (p := p) (m := lfS (gdS c s L) (nSt c) n p)
      refine u14_106 hK x1 hcm ha ⟨fun h => absurd h (by rw [eN M1 f1]; omega), fun _ => ?_⟩
      rw [e, Int.toNat_natCast, hC p _ (by omega) hl, w1 (by omega), Int.toNat_natCast, w32_id (by omega)]
      refine ⟨by omega, by omega, by omega, ?_⟩
      have e2 : (lfS (gdS c s L) (nSt c) n p : Int) - (cR (gdS c s L) (nSt c) p (lfS (gdS c s L) (nSt c) n p) : Int) = (lfS (gdS c s L) (nSt c) n (p + 1) : Int) := by
        simp only [lfS]; omega
      rw [e2]
      refine ih (p + 1) (by omega) _ _ (x1.set (nfa dl_o.2.2.2.1 _)) (f1.tr (FrDl.mem (by omega))) (fun p m h1 h2 => (ms_na (by decide)).trans (hC p m h1 h2)) ((ms_na (by decide)).trans hB) (fun j hj => ?_)
      by_cases hjp : j = p
      · subst hjp; rw [ms_eq]
      · rw [ms_nk hjp]; exact w1' j (by omega)
  -- row by row
  have rows : ∀ f p, p = f → p ≤ nSt c → ∀ (v v' : PV) M1, FX M1 → FrDl M M1 → (∀ i m, p ≤ i → i ≤ nSt c → m ≤ n → M1 140 (i * 21 + m) = dR (gdS c s L) (nSt c) i m) → (∀ i m, p ≤ i → i < nSt c → m ≤ n → M1 141 (i * 21 + m) = (cR (gdS c s L) (nSt c) i m : Int)) → Wp (d + 3) 14 49 [vR 139, vR cm, vR a, vI (n : Int), vI ((p : Int) - 1), v, v'] [] M1 K Q := by
    intro f
    induction f with
    | zero =>
      intro p hp hpN v v' M1 x1 f1 hB hC
      subst hp
      refine u14_49 hK x1 hcm ha ⟨fun _ => ?_, fun h => absurd (by omega) h⟩
      refine give (nSt c) 0 (by omega) v' M1 x1 f1 (fun i m h1 h2 => hC i m (by omega) h1 h2) ?_ (fun j hj => absurd hj (by omega))
      have := hB 0 n (by omega) (by omega) (by omega)
      rw [show 0 * 21 + n = n by omega] at this; exact this
    | succ f ih =>
      intro p hp hpN v v' M1 x1 f1 hB hC
      obtain ⟨q, rfl⟩ : ∃ q, p = q + 1 := ⟨p - 1, by omega⟩
      have eq1 : ((q + 1 : Nat) : Int) - 1 = (q : Int) := by omega
      rw [eq1]
      have hqN : q < nSt c := by omega
      refine u14_49 hK x1 hcm ha ⟨fun h => absurd h (by omega), fun _ => ?_⟩
      refine g15 (d := d) hK x1 hcm ha hd (hs.dl hcm ha hd f1) (hL.dl hcm f1) hqN (fun M2 x2 f2 w2 => Bk_v ?_)
      refine u14_62 hK x2 hcm ha ?_
      have f2' := f1.tr f2.dl
      have cell : ∀ fm m, m + fm = n + 1 → ∀ M3, FX M3 → FrDl M M3 → (∀ j, M3 142 j = M2 142 j) → (∀ i m, q + 1 ≤ i → i ≤ nSt c → m ≤ n → M3 140 (i * 21 + m) = dR (gdS c s L) (nSt c) i m) → (∀ i m, q + 1 ≤ i → i < nSt c → m ≤ n → M3 141 (i * 21 + m) = (cR (gdS c s L) (nSt c) i m : Int)) → (∀ j, j < m → M3 140 (q * 21 + j) = dR (gdS c s L) (nSt c) q j ∧ M3 141 (q * 21 + j) = (cR (gdS c s L) (nSt c) q j : Int)) → Wp (d + 3) 14 67 [vR 139, vR cm, vR a, vI (n : Int), vI (q : Int), vI (dlM s q : Int), vI (m : Int)] [] M3 K Q := by
        intro fm
        induction fm with
        | zero =>
          intro m hm M3 x3 f3 g3 hB3 hC3 hq3
          refine u14_67 hK x3 hcm ha ⟨fun _ => ?_, fun h => absurd (by omega) h⟩
          rw [w32_id (z := (q : Int) + -1) (by omega), show (q : Int) + -1 = (q : Int) - 1 by omega]
          refine ih q (by omega) (by omega) _ _ M3 x3 f3 (fun i m' h1 h2 h3 => ?_) (fun i m' h1 h2 h3 => ?_)
          · by_cases hiq : i = q
            · subst hiq; exact (hq3 m' (by omega)).1
            · exact hB3 i m' (by omega) h2 h3
          · by_cases hiq : i = q
            · subst hiq; exact (hq3 m' (by omega)).2
            · exact hC3 i m' (by omega) h2 h3
        | succ fm ihm =>
          intro m hm M3 x3 f3 g3 hB3 hC3 hq3
          refine u14_67 hK x3 hcm ha ⟨fun h => absurd h (by omega), fun _ => ?_⟩
          have hm9 := dlM_le hs.2.2.2 hqN
          have ej : jmin (dlM s q : Int) (m : Int) = ((min (dlM s q) m : Nat) : Int) := by rw [jmin_eq]; omega
          rw [ej]
          refine g16 (G := gdS c s L q) (D := dR (gdS c s L) (nSt c) (q + 1)) hK x3 (by omega) (by omega) ⟨by omega, by omega⟩ (fun k hk => ?_) (fun j hj => ?_) (fun x4 => Bk_n ?_)
          · have e5 : gdS c s L q k = dlG c s L q k := by unfold gdS; rw [if_pos hqN]
            rw [g3, w2 k (by omega), e5]
            exact ⟨rfl, dlG_lo hs.2.2.2 hqN k (by omega)⟩
          · exact ⟨hB3 (q + 1) j (by omega) (by omega) (by omega), dR_rg hN gr j⟩
          · rw [fd_cut hs.2.2.2 hqN] at x4 ⊢
            refine u14_88 hK x4 hcm ha ?_
            rw [w1 (by omega)]
            refine ihm (m + 1) (by omega) _ x4 ((f3.tr (FrDl.mem (by omega))).tr (FrDl.mem (by omega))) (fun j => ?_) (fun i m' h1 h2 h3 => ?_) (fun i m' h1 h2 h3 => ?_) (fun j hj => ?_)
            · rw [ms_na (by decide), ms_na (by decide)]; exact g3 j
            · rw [ms_na (by decide), ms_nk (by omega)]; exact hB3 i m' h1 h2 h3
            · rw [ms_nk (by omega), ms_na (by decide)]; exact hC3 i m' h1 h2 h3
            · by_cases hjm : j = m
              · subst hjm
                rw [ms_na (by decide), ms_eq, ms_eq]
                exact ⟨(dR_s hqN j).symm, rfl⟩
              · rw [ms_na (by decide), ms_nk (by omega), ms_nk (by omega), ms_na (by decide)]
                exact hq3 j (by omega)
      refine cell (n + 1) 0 (by omega) M2 x2 f2' (fun _ => rfl) (fun i m h1 h2 h3 => ?_) (fun i m h1 h2 h3 => ?_) (fun j hj => absurd hj (by omega))
      · rw [f2 _ _ (by unfold scL; omega) (by decide)]; exact hB i m h1 h2 h3
      · rw [f2 _ _ (by unfold scL; omega) (by decide)]; exact hC i m h1 h2 h3
  -- the row behind the last
  have loop : ∀ f i, i + f = 21 → ∀ M1, FX M1 → FrDl M M1 → (∀ m, m < i → M1 140 (nSt c * 21 + m) = if m = 0 then 0 else -1) → Wp (d + 3) 14 3 [vR 139, vR cm, vR a, vI (n : Int), vI (i : Int), vU, vU] [] M1 K Q := by
    intro f
    induction f with
    | zero =>
      intro i hi M1 x1 f1 w1'
      refine u14_3 hK x1 hcm ha ⟨fun _ => ?_, fun h => absurd (by omega) h⟩
      rw [eN M1 f1, w32_id (by omega)]
      refine rows (nSt c) (nSt c) rfl (Nat.le_refl _) vU vU M1 x1 f1 (fun i' m h1 h2 h3 => ?_) (fun i' m h1 h2 h3 => absurd h1 (by omega))
      have : i' = nSt c := by omega
      subst this
      rw [w1' m (by omega), dR_N]
    | succ f ih =>
      intro i hi M1 x1 f1 w1'
      have e : w32 (w32 (M1 cm 6 * 21) + (i : Int)) = ((nSt c * 21 + i : Nat) : Int) := by
        rw [eN M1 f1, w32_id (z := (nSt c : Int) * 21) (by omega), w32_id (by omega)]; omega
      have stepM : ∀ v : Int, v = (if i = 0 then 0 else -1) → Wp (d + 3) 14 3 [vR 139, vR cm, vR a, vI (n : Int), vI (w32 ((i : Int) + 1)), vU, vU] [] (mset M1 140 (Int.toNat (((nSt c * 21 + i : Nat) : Int))) v) K Q := by
        intro v hv
        rw [w1 (by omega), Int.toNat_natCast]
        refine ih (i + 1) (by omega) _ (x1.set (nfa dl_o.1.1 _)) (f1.tr (FrDl.mem (by omega))) (fun m hm => ?_)
        by_cases hmi : m = i
        · subst hmi; rw [ms_eq]; exact hv
        · rw [ms_nk (by omega)]; exact w1' m (by omega)
      refine u14_3 hK x1 hcm ha ⟨fun h => absurd h (by omega), fun _ => ?_⟩
      rw [e]
      exact ⟨fun h => ⟨by omega, stepM (-1) (by rw [if_neg (by omega)])⟩, fun h => ⟨by omega, stepM 0 (by rw [if_pos (by omega)])⟩⟩
  exact loop 21 0 rfl M hX FrDl.rf (fun m hm => absurd hm (by omega))
end CD
