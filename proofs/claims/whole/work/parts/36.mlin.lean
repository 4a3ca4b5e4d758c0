/-! the model's strips -/
theorem u193_0 {d : Nat} {l1 : Nat} {M : Mem} {K : KK} {Q : RR → Mem → KK → Prop} (hK : K.1 = 923) (hX : FX M) (k1 : isO 923 l1 20 = true) (z1 : ln l1 = 27) (h : ((M l1 26) = (-1 : Int) → (¬ (M 444 3) = (0 : Int) → (M 444 3) ≠ 0 ∧ (0 ≤ (Int.tmod (M l1 24) (M 444 3)) ∧ (Int.tmod (M l1 24) (M 444 3)) < (7 : Int)) ∧ Q (.inl (some (vI (M 450 (Int.toNat (Int.tmod (M l1 24) (M 444 3))))))) M K) ∧ ((M 444 3) = (0 : Int) → Q (.inl (some (vI (0 : Int)))) M K)) ∧ (¬ ((M l1 26) = (-1 : Int)) → Q (.inl (some (vI (M l1 26)))) M K)) : Wp d 193 0 [vR 440, vR l1] [] M K Q := by
  refine r_aload_n c193_0 rfl ?_
  refine r_bipush c193_1 ?_
  refine r_iae c193_3 (oK hK k1) (bd z1 (by decide)) rfl ?_
  refine r_iconst c193_4 ?_
  refine r_icmpP (P := (M l1 26) = (-1 : Int)) c193_5 rfl (fun hc1 => ?_) (fun hc1 => ?_)
  · replace h := h.1 hc1
    refine r_aload_n c193_15 rfl ?_
    refine r_getR c193_16 (oK hK o440) (FX.get (b := 444) hX (by decide) (by decide +kernel) (by decide)) (by decide) ?_
    refine r_iconst c193_19 ?_
    refine r_iae c193_20 (oK hK o444) (bd l444 (by decide)) rfl ?_
    refine r_ifP (P := ¬ (M 444 3) = (0 : Int)) c193_21 rfl (fun hc2 => ?_) (fun hc2 => ?_)
    · replace h := h.1 hc2
      refine r_aload_n c193_28 rfl ?_
      refine r_getR c193_29 (oK hK o440) (FX.get (b := 450) hX (by decide) (by decide +kernel) (by decide)) (by decide) ?_
      refine r_aload_n c193_32 rfl ?_
      refine r_bipush c193_33 ?_
      refine r_iae c193_35 (oK hK k1) (bd z1 (by decide)) rfl ?_
      refine r_aload_n c193_36 rfl ?_
      refine r_getR c193_37 (oK hK o440) (FX.get (b := 444) hX (by decide) (by decide +kernel) (by decide)) (by decide) ?_
      refine r_iconst c193_40 ?_
      refine r_iae c193_41 (oK hK o444) (bd l444 (by decide)) rfl ?_
      obtain ⟨s4, h⟩ := h
      refine r_irem c193_42 s4 ?_
      obtain ⟨s5, h⟩ := h
      refine r_iae c193_43 (oK hK o450) (bd l450 s5) rfl ?_
      exact r_iret c193_44 (Or.inl rfl) h
    · have hc3 := Classical.not_not.mp hc2
      replace h := h.2 hc3
      refine r_iconst c193_24 ?_
      refine r_goto c193_25 ?_
      exact r_iret c193_44 (Or.inl rfl) h
  · replace h := h.2 hc1
    refine r_aload_n c193_8 rfl ?_
    refine r_bipush c193_9 ?_
    refine r_iae c193_11 (oK hK k1) (bd z1 (by decide)) rfl ?_
    refine r_goto c193_12 ?_
    exact r_iret c193_44 (Or.inl rfl) h
theorem u194_0 {d : Nat} {l1 : Int} {l2 : Int} {l3 : Int} {l4 : Int} {l5 : Int} {l6 : Int} {l7 : Int} {M : Mem} {K : KK} {Q : RR → Mem → KK → Prop} (hK : K.1 = 923) (hX : FX M)  (h : Wp (d + 3) 194 6 [vR 440, vI l1, vI l2, vI l3, vI l4, vI l5, vI l6, vI l7, vI (0 : Int), vI l2] [] M K Q) : Wp (d + 3) 194 0 [vR 440, vI l1, vI l2, vI l3, vI l4, vI l5, vI l6, vI l7, vU, vU] [] M K Q := by
  refine r_iconst c194_0 ?_
  refine r_istore c194_1 (Nat.le_of_ble_eq_true rfl) ?_
  refine r_iload_n c194_3 rfl ?_
  refine r_istore c194_4 (Nat.le_of_ble_eq_true rfl) ?_
  exact h
theorem u194_6 {d : Nat} {l1 : Int} {l2 : Int} {l3 : Int} {l4 : Int} {l5 : Int} {l6 : Int} {l7 : Int} {l8 : Int} {l9 : Int} {M : Mem} {K : KK} {Q : RR → Mem → KK → Prop} (hK : K.1 = 923) (hX : FX M)  (h : (0 ≤ l1 ∧ l1 < (6 : Int)) ∧ ((w32 (l2 + (M (459 + Int.toNat l1) 0))) ≤ l9 → (0 ≤ l1 ∧ l1 < (6 : Int)) ∧ ∃ L12 : LC, (LM (mset (mset (mset (mset (mset (mset (mset (mset M 806 0 l8) 806 1 (M (459 + Int.toNat l1) 0)) 806 2 l3) 806 3 l4) 806 4 l5) 806 5 l6) 806 6 l7) 806 7 l2) L12 ∧ 1 ≤ (mset (mset (mset (mset (mset (mset (mset (mset M 806 0 l8) 806 1 (M (459 + Int.toNat l1) 0)) 806 2 l3) 806 3 l4) 806 4 l5) 806 5 l6) 806 6 l7) 806 7 l2) 806 1) ∧ (∀ (M16 : Mem), FX M16 → Fr1 805 (mset (mset (mset (mset (mset (mset (mset (mset M 806 0 l8) 806 1 (M (459 + Int.toNat l1) 0)) 806 2 l3) 806 3 l4) 806 4 l5) 806 5 l6) 806 6 l7) 806 7 l2) M16 → Q (.inl (some (vI (wh ((mset (mset (mset (mset (mset (mset (mset (mset M 806 0 l8) 806 1 (M (459 + Int.toNat l1) 0)) 806 2 l3) 806 3 l4) 806 4 l5) 806 5 l6) 806 6 l7) 806 7 l2) 806) L12)))) M16 K)) ∧ (¬ ((w32 (l2 + (M (459 + Int.toNat l1) 0))) ≤ l9) → (0 ≤ l9 ∧ l9 < (12 : Int)) ∧ Wp (d + 3) 194 6 [vR 440, vI l1, vI l2, vI l3, vI l4, vI l5, vI l6, vI l7, vI (w32 (l8 + (M 446 (Int.toNat l9)))), vI (w32 (l9 + 1))] [] M K Q)) : Wp (d + 3) 194 6 [vR 440, vI l1, vI l2, vI l3, vI l4, vI l5, vI l6, vI l7, vI l8, vI l9] [] M K Q := by
  refine r_iload c194_6 rfl ?_
  refine r_iload_n c194_8 rfl ?_
  refine r_aload_n c194_9 rfl ?_
  refine r_getR c194_10 (oK hK o440) (FX.get (b := 458) hX (by decide) (by decide +kernel) (by decide)) (by decide) ?_
  refine r_iload_n c194_13 rfl ?_
  obtain ⟨s1, h⟩ := h
  refine r_aa c194_14 (mrw o458 hK) (bd l458 s1) (rf458 hX s1) (by omega) ?_
  refine r_iconst c194_15 ?_
  refine r_iae c194_16 (oK hK (ro458 s1)) (bd (rz458 s1) (by decide)) rfl ?_
  refine r_iadd c194_17 ?_
  refine r_icmpP (P := (w32 (l2 + (M (459 + Int.toNat l1) 0))) ≤ l9) c194_18 rfl (fun hc2 => ?_) (fun hc2 => ?_)
  · replace h := h.1 hc2
    refine r_aload_n c194_39 rfl ?_
    refine r_getR c194_40 (oK hK o440) (FX.get (b := 806) hX (by decide) (by decide +kernel) (by decide)) (by decide) ?_
    refine r_iconst c194_43 ?_
    refine r_iload c194_44 rfl ?_
    refine r_ias c194_46 (oK hK o806) (bd l806 (by decide)) ?_
    have x3 := FX.set (v := l8) (a := 806) (k := 0) hX (nfa o806 _)
    refine r_aload_n c194_47 rfl ?_
    refine r_getR c194_48 (oK hK o440) (FX.get (b := 806) x3 (by decide) (by decide +kernel) (by decide)) (by decide) ?_
    refine r_iconst c194_51 ?_
    refine r_aload_n c194_52 rfl ?_
    refine r_getR c194_53 (oK hK o440) (FX.get (b := 458) x3 (by decide) (by decide +kernel) (by decide)) (by decide) ?_
    refine r_iload_n c194_56 rfl ?_
    obtain ⟨s4, h⟩ := h
    refine r_aa c194_57 (mrw o458 hK) (bd l458 s4) (rf458 x3 s4) (by omega) ?_
    refine r_iconst c194_58 ?_
    refine r_iae c194_59 (oK hK (ro458 s4)) (bd (rz458 s4) (by decide)) (ms_na (by omega)) ?_
    refine r_ias c194_60 (oK hK o806) (bd l806 (by decide)) ?_
    have x5 := FX.set (v := (M (459 + Int.toNat l1) 0)) (a := 806) (k := 1) x3 (nfa o806 _)
    refine r_aload_n c194_61 rfl ?_
    refine r_getR c194_62 (oK hK o440) (FX.get (b := 806) x5 (by decide) (by decide +kernel) (by decide)) (by decide) ?_
    refine r_iconst c194_65 ?_
    refine r_iload_n c194_66 rfl ?_
    refine r_ias c194_67 (oK hK o806) (bd l806 (by decide)) ?_
    have x6 := FX.set (v := l3) (a := 806) (k := 2) x5 (nfa o806 _)
    refine r_aload_n c194_68 rfl ?_
    refine r_getR c194_69 (oK hK o440) (FX.get (b := 806) x6 (by decide) (by decide +kernel) (by decide)) (by decide) ?_
    refine r_iconst c194_72 ?_
    refine r_iload c194_73 rfl ?_
    refine r_ias c194_75 (oK hK o806) (bd l806 (by decide)) ?_
    have x7 := FX.set (v := l4) (a := 806) (k := 3) x6 (nfa o806 _)
    refine r_aload_n c194_76 rfl ?_
    refine r_getR c194_77 (oK hK o440) (FX.get (b := 806) x7 (by decide) (by decide +kernel) (by decide)) (by decide) ?_
    refine r_iconst c194_80 ?_
    refine r_iload c194_81 rfl ?_
    refine r_ias c194_83 (oK hK o806) (bd l806 (by decide)) ?_
    have x8 := FX.set (v := l5) (a := 806) (k := 4) x7 (nfa o806 _)
    refine r_aload_n c194_84 rfl ?_
    refine r_getR c194_85 (oK hK o440) (FX.get (b := 806) x8 (by decide) (by decide +kernel) (by decide)) (by decide) ?_
    refine r_iconst c194_88 ?_
    refine r_iload c194_89 rfl ?_
    refine r_ias c194_91 (oK hK o806) (bd l806 (by decide)) ?_
    have x9 := FX.set (v := l6) (a := 806) (k := 5) x8 (nfa o806 _)
    refine r_aload_n c194_92 rfl ?_
    refine r_getR c194_93 (oK hK o440) (FX.get (b := 806) x9 (by decide) (by decide +kernel) (by decide)) (by decide) ?_
    refine r_bipush c194_96 ?_
    refine r_iload c194_98 rfl ?_
    refine r_ias c194_100 (oK hK o806) (bd l806 (by decide)) ?_
    have x10 := FX.set (v := l7) (a := 806) (k := 6) x9 (nfa o806 _)
    refine r_aload_n c194_101 rfl ?_
    refine r_getR c194_102 (oK hK o440) (FX.get (b := 806) x10 (by decide) (by decide +kernel) (by decide)) (by decide) ?_
    refine r_bipush c194_105 ?_
    refine r_iload_n c194_107 rfl ?_
    refine r_ias c194_108 (oK hK o806) (bd l806 (by decide)) ?_
    have x11 := FX.set (v := l2) (a := 806) (k := 7) x10 (nfa o806 _)
    refine r_aload_n c194_109 rfl ?_
    obtain ⟨L12, h⟩ := h
    obtain ⟨p13, h⟩ := h
    refine r_call c194_110 rfl rfl (Nat.le_of_ble_eq_true rfl) (okc_r rfl rfl (oK hK o440)) (g188 hK x11 p13 (fun M16 x14 p15 => Bk_v ?_))
    replace h := h M16 x14 p15
    exact r_iret c194_113 (Or.inl rfl) h
  · replace h := h.2 hc2
    refine r_iload c194_21 rfl ?_
    refine r_aload_n c194_23 rfl ?_
    refine r_getR c194_24 (oK hK o440) (FX.get (b := 446) hX (by decide) (by decide +kernel) (by decide)) (by decide) ?_
    refine r_iload c194_27 rfl ?_
    obtain ⟨s17, h⟩ := h
    refine r_iae c194_29 (oK hK o446) (bd l446 s17) rfl ?_
    refine r_iadd c194_30 ?_
    refine r_istore c194_31 (Nat.le_of_ble_eq_true rfl) ?_
    refine r_iinc c194_33 rfl ?_
    refine r_goto c194_36 ?_
    exact h
theorem u196_0 {d : Nat} {l1 : Nat} {l2 : Int} {M : Mem} {K : KK} {Q : RR → Mem → KK → Prop} (hK : K.1 = 923) (hX : FX M) (k1 : isO 923 l1 20 = true) (z1 : ln l1 = 27) (h : Wp (d + 1) 196 2 [vR 440, vR l1, vI l2, vI (0 : Int)] [] M K Q) : Wp (d + 1) 196 0 [vR 440, vR l1, vI l2, vU] [] M K Q := by
  refine r_iconst c196_0 ?_
  refine r_istore_n c196_1 (Nat.le_of_ble_eq_true rfl) ?_
  exact h
theorem u196_2 {d : Nat} {l1 : Nat} {l2 : Int} {l3 : Int} {M : Mem} {K : KK} {Q : RR → Mem → KK → Prop} (hK : K.1 = 923) (hX : FX M) (k1 : isO 923 l1 20 = true) (z1 : ln l1 = 27) (h : ((M 444 1) ≤ l3 → Q (.inl (some (vI (-1 : Int)))) M K) ∧ (¬ ((M 444 1) ≤ l3) → (0 ≤ (w32 ((0 : Int) + l3)) ∧ (w32 ((0 : Int) + l3)) < (27 : Int)) ∧ ((M l1 (Int.toNat (w32 ((0 : Int) + l3)))) = (-1 : Int) → Wp (d + 1) 196 2 [vR 440, vR l1, vI l2, vI (w32 (l3 + 1))] [] M K Q) ∧ (¬ ((M l1 (Int.toNat (w32 ((0 : Int) + l3)))) = (-1 : Int)) → (0 ≤ (w32 ((0 : Int) + l3)) ∧ (w32 ((0 : Int) + l3)) < (27 : Int)) ∧ (0 ≤ (w32 ((0 : Int) + l3)) ∧ (w32 ((0 : Int) + l3)) < (27 : Int)) ∧ (0 ≤ l3 ∧ l3 < (6 : Int)) ∧ (¬ ((M l1 (Int.toNat (w32 ((0 : Int) + l3)))) ≤ l2 ∧ l2 ≤ (w32 ((w32 ((M l1 (Int.toNat (w32 ((0 : Int) + l3)))) + (M (459 + Int.toNat l3) 0))) - (1 : Int)))) → Wp (d + 1) 196 2 [vR 440, vR l1, vI l2, vI (w32 (l3 + 1))] [] M K Q) ∧ (((M l1 (Int.toNat (w32 ((0 : Int) + l3)))) ≤ l2 ∧ l2 ≤ (w32 ((w32 ((M l1 (Int.toNat (w32 ((0 : Int) + l3)))) + (M (459 + Int.toNat l3) 0))) - (1 : Int)))) → Q (.inl (some (vI l3))) M K)))) : Wp (d + 1) 196 2 [vR 440, vR l1, vI l2, vI l3] [] M K Q := by
  refine r_iload_n c196_2 rfl ?_
  refine r_aload_n c196_3 rfl ?_
  refine r_getR c196_4 (oK hK o440) (FX.get (b := 444) hX (by decide) (by decide +kernel) (by decide)) (by decide) ?_
  refine r_iconst c196_7 ?_
  refine r_iae c196_8 (oK hK o444) (bd l444 (by decide)) rfl ?_
  refine r_icmpP (P := (M 444 1) ≤ l3) c196_9 rfl (fun hc1 => ?_) (fun hc1 => ?_)
  · replace h := h.1 hc1
    refine r_iconst c196_57 ?_
    exact r_iret c196_58 (Or.inl rfl) h
  · replace h := h.2 hc1
    refine r_aload_n c196_12 rfl ?_
    refine r_iconst c196_13 ?_
    refine r_iload_n c196_14 rfl ?_
    refine r_iadd c196_15 ?_
    obtain ⟨s2, h⟩ := h
    refine r_iae c196_16 (oK hK k1) (bd z1 s2) rfl ?_
    refine r_iconst c196_17 ?_
    refine r_icmpP (P := (M l1 (Int.toNat (w32 ((0 : Int) + l3)))) = (-1 : Int)) c196_18 rfl (fun hc3 => ?_) (fun hc3 => ?_)
    · replace h := h.1 hc3
      refine r_iinc c196_51 rfl ?_
      refine r_goto c196_54 ?_
      exact h
    · replace h := h.2 hc3
      refine r_iload_n c196_21 rfl ?_
      refine r_aload_n c196_22 rfl ?_
      refine r_iconst c196_23 ?_
      refine r_iload_n c196_24 rfl ?_
      refine r_iadd c196_25 ?_
      obtain ⟨s4, h⟩ := h
      refine r_iae c196_26 (oK hK k1) (bd z1 s4) rfl ?_
      refine r_aload_n c196_27 rfl ?_
      refine r_iconst c196_28 ?_
      refine r_iload_n c196_29 rfl ?_
      refine r_iadd c196_30 ?_
      obtain ⟨s5, h⟩ := h
      refine r_iae c196_31 (oK hK k1) (bd z1 s5) rfl ?_
      refine r_aload_n c196_32 rfl ?_
      refine r_getR c196_33 (oK hK o440) (FX.get (b := 458) hX (by decide) (by decide +kernel) (by decide)) (by decide) ?_
      refine r_iload_n c196_36 rfl ?_
      obtain ⟨s6, h⟩ := h
      refine r_aa c196_37 (mrw o458 hK) (bd l458 s6) (rf458 hX s6) (by omega) ?_
      refine r_iconst c196_38 ?_
      refine r_iae c196_39 (oK hK (ro458 s6)) (bd (rz458 s6) (by decide)) rfl ?_
      refine r_iadd c196_40 ?_
      refine r_iconst c196_41 ?_
      refine r_isub c196_42 ?_
      refine r_call c196_43 rfl rfl (Nat.le_of_ble_eq_true rfl) (okc_s rfl rfl rfl) (g153 hK hX  (Bk_v ?_))
      refine r_ifP (P := ¬ ((M l1 (Int.toNat (w32 ((0 : Int) + l3)))) ≤ l2 ∧ l2 ≤ (w32 ((w32 ((M l1 (Int.toNat (w32 ((0 : Int) + l3)))) + (M (459 + Int.toNat l3) 0))) - (1 : Int))))) c196_46 bI_eq (fun hc7 => ?_) (fun hc7 => ?_)
      · replace h := h.1 hc7
        refine r_iinc c196_51 rfl ?_
        refine r_goto c196_54 ?_
        exact h
      · have hc8 := Classical.not_not.mp hc7
        replace h := h.2 hc8
        refine r_iload_n c196_49 rfl ?_
        exact r_iret c196_50 (Or.inl rfl) h
theorem u204_0 {d : Nat} {l1 : Nat} {M : Mem} {K : KK} {Q : RR → Mem → KK → Prop} (hK : K.1 = 923) (hX : FX M) (k1 : isO 923 l1 20 = true) (z1 : ln l1 = 27) (h : Wp d 204 4 [vR 440, vR l1, vI (0 : Int), vI (0 : Int)] [] M K Q) : Wp d 204 0 [vR 440, vR l1, vU, vU] [] M K Q := by
  refine r_iconst c204_0 ?_
  refine r_istore_n c204_1 (Nat.le_of_ble_eq_true rfl) ?_
  refine r_iconst c204_2 ?_
  refine r_istore_n c204_3 (Nat.le_of_ble_eq_true rfl) ?_
  exact h
theorem u204_4 {d : Nat} {l1 : Nat} {l2 : Int} {l3 : Int} {M : Mem} {K : KK} {Q : RR → Mem → KK → Prop} (hK : K.1 = 923) (hX : FX M) (k1 : isO 923 l1 20 = true) (z1 : ln l1 = 27) (h : ((M 444 1) ≤ l3 → Q (.inl (some (vI l2))) M K) ∧ (¬ ((M 444 1) ≤ l3) → (0 ≤ (w32 ((6 : Int) + l3)) ∧ (w32 ((6 : Int) + l3)) < (27 : Int)) ∧ Wp d 204 4 [vR 440, vR l1, vI (w32 (l2 + (M l1 (Int.toNat (w32 ((6 : Int) + l3)))))), vI (w32 (l3 + 1))] [] M K Q)) : Wp d 204 4 [vR 440, vR l1, vI l2, vI l3] [] M K Q := by
  refine r_iload_n c204_4 rfl ?_
  refine r_aload_n c204_5 rfl ?_
  refine r_getR c204_6 (oK hK o440) (FX.get (b := 444) hX (by decide) (by decide +kernel) (by decide)) (by decide) ?_
  refine r_iconst c204_9 ?_
  refine r_iae c204_10 (oK hK o444) (bd l444 (by decide)) rfl ?_
  refine r_icmpP (P := (M 444 1) ≤ l3) c204_11 rfl (fun hc1 => ?_) (fun hc1 => ?_)
  · replace h := h.1 hc1
    refine r_iload_n c204_29 rfl ?_
    exact r_iret c204_30 (Or.inl rfl) h
  · replace h := h.2 hc1
    refine r_iload_n c204_14 rfl ?_
    refine r_aload_n c204_15 rfl ?_
    refine r_bipush c204_16 ?_
    refine r_iload_n c204_18 rfl ?_
    refine r_iadd c204_19 ?_
    obtain ⟨s2, h⟩ := h
    refine r_iae c204_20 (oK hK k1) (bd z1 s2) rfl ?_
    refine r_iadd c204_21 ?_
    refine r_istore_n c204_22 (Nat.le_of_ble_eq_true rfl) ?_
    refine r_iinc c204_23 rfl ?_
    refine r_goto c204_26 ?_
    exact h
theorem u205_0 {d : Nat} {l1 : Nat} {M : Mem} {K : KK} {Q : RR → Mem → KK → Prop} (hK : K.1 = 923) (hX : FX M) (k1 : isO 923 l1 20 = true) (z1 : ln l1 = 27) (h : Wp d 205 4 [vR 440, vR l1, vI (0 : Int), vI (0 : Int)] [] M K Q) : Wp d 205 0 [vR 440, vR l1, vU, vU] [] M K Q := by
  refine r_iconst c205_0 ?_
  refine r_istore_n c205_1 (Nat.le_of_ble_eq_true rfl) ?_
  refine r_iconst c205_2 ?_
  refine r_istore_n c205_3 (Nat.le_of_ble_eq_true rfl) ?_
  exact h
theorem u205_4 {d : Nat} {l1 : Nat} {l2 : Int} {l3 : Int} {M : Mem} {K : KK} {Q : RR → Mem → KK → Prop} (hK : K.1 = 923) (hX : FX M) (k1 : isO 923 l1 20 = true) (z1 : ln l1 = 27) (h : ((M 444 1) ≤ l3 → Q (.inl (some (vI l2))) M K) ∧ (¬ ((M 444 1) ≤ l3) → (0 ≤ (w32 ((6 : Int) + l3)) ∧ (w32 ((6 : Int) + l3)) < (27 : Int)) ∧ (¬ (M l1 (Int.toNat (w32 ((6 : Int) + l3)))) = (0 : Int) → Wp d 205 4 [vR 440, vR l1, vI (jor l2 (0 : Int)), vI (w32 (l3 + 1))] [] M K Q) ∧ ((M l1 (Int.toNat (w32 ((6 : Int) + l3)))) = (0 : Int) → Wp d 205 4 [vR 440, vR l1, vI (jor l2 (jshl (1 : Int) l3)), vI (w32 (l3 + 1))] [] M K Q))) : Wp d 205 4 [vR 440, vR l1, vI l2, vI l3] [] M K Q := by
  refine r_iload_n c205_4 rfl ?_
  refine r_aload_n c205_5 rfl ?_
  refine r_getR c205_6 (oK hK o440) (FX.get (b := 444) hX (by decide) (by decide +kernel) (by decide)) (by decide) ?_
  refine r_iconst c205_9 ?_
  refine r_iae c205_10 (oK hK o444) (bd l444 (by decide)) rfl ?_
  refine r_icmpP (P := (M 444 1) ≤ l3) c205_11 rfl (fun hc1 => ?_) (fun hc1 => ?_)
  · replace h := h.1 hc1
    refine r_iload_n c205_39 rfl ?_
    exact r_iret c205_40 (Or.inl rfl) h
  · replace h := h.2 hc1
    refine r_iload_n c205_14 rfl ?_
    refine r_aload_n c205_15 rfl ?_
    refine r_bipush c205_16 ?_
    refine r_iload_n c205_18 rfl ?_
    refine r_iadd c205_19 ?_
    obtain ⟨s2, h⟩ := h
    refine r_iae c205_20 (oK hK k1) (bd z1 s2) rfl ?_
    refine r_ifP (P := ¬ (M l1 (Int.toNat (w32 ((6 : Int) + l3)))) = (0 : Int)) c205_21 rfl (fun hc3 => ?_) (fun hc3 => ?_)
    · replace h := h.1 hc3
      refine r_iconst c205_30 ?_
      refine r_ior c205_31 ?_
      refine r_istore_n c205_32 (Nat.le_of_ble_eq_true rfl) ?_
      refine r_iinc c205_33 rfl ?_
      refine r_goto c205_36 ?_
      exact h
    · have hc4 := Classical.not_not.mp hc3
      replace h := h.2 hc4
      refine r_iconst c205_24 ?_
      refine r_iload_n c205_25 rfl ?_
      refine r_ishl c205_26 ?_
      refine r_goto c205_27 ?_
      refine r_ior c205_31 ?_
      refine r_istore_n c205_32 (Nat.le_of_ble_eq_true rfl) ?_
      refine r_iinc c205_33 rfl ?_
      refine r_goto c205_36 ?_
      exact h
def rainM (c s : Mem) (dr : Int) : Int := if dr = -1 then rainS c (s 4 0) else dr
/-- only the model's facts and stack have changed -/
def FrV (M M' : Mem) : Prop := ∀ a k, a ≠ 805 → a ≠ 806 → M' a k = M a k
theorem FrV.rf {M : Mem} : FrV M M := fun _ _ _ _ => rfl
theorem FrV.tr {M M1 M2 : Mem} (h1 : FrV M M1) (h2 : FrV M1 M2) : FrV M M2 := fun a k p q => (h2 a k p q).trans (h1 a k p q)
theorem FrV.fx {M M' : Mem} (h : FrV M M') (hX : FX M) : FX M' := hX.fr (fun a k hk => h a k (by rintro rfl; have := nfa o805 k; omega) (by rintro rfl; have := nfa o806 k; omega))
/-- a row of the model's linen -/
def L27 (r : Nat) : Prop := ln r = 27
theorem ne27 {r : Nat} (h : L27 r) : r ≠ 805 ∧ r ≠ 806 := ⟨by rintro rfl; unfold L27 at h; rw [l805] at h; omega, by rintro rfl; unfold L27 at h; rw [l806] at h; omega⟩
section ML
variable {d : Nat} {M M' : Mem} {K : KK} {Q : RR → Mem → KK → Prop} {r p : Nat} {c s : Mem} {L : LC} {dr : Int}
theorem MCc.v (hw : CW c) (hf : FrV M M') (h : MCc M c) : MCc M' c := by
  obtain ⟨w0, w1', w2, w3, -⟩ := hw
  exact ⟨fun k hk => (hf 444 k (by omega) (by omega)).trans (h.1 k hk), fun i hi => (hf 446 i (by omega) (by omega)).trans (h.2.1 i hi), fun i hi => ⟨(hf _ 0 (by omega) (by omega)).trans (h.2.2.1 i hi).1, (hf _ 1 (by omega) (by omega)).trans (h.2.2.1 i hi).2⟩, fun i hi => (hf 448 i (by omega) (by omega)).trans (h.2.2.2.1 i hi), fun i hi => (hf 450 i (by omega) (by omega)).trans (h.2.2.2.2 i hi)⟩
theorem LMr.v (hr : L27 r) (hf : FrV M M') (h : LMr M r c s) : LMr M' r c s := by
  have := ne27 hr
  have e : ∀ k, M' r k = M r k := fun k => hf r k this.1 this.2
  unfold LMr at h ⊢
  simp only [e]; exact h
theorem SM.v (hr : L27 r) (hf : FrV M M') (h : SM M r c s dr) : SM M' r c s dr := ⟨h.1.v h.2.1 hf, h.2.1, h.2.2.1.v hr hf, h.2.2.2.1, (hf r 26 (ne27 hr).1 (ne27 hr).2).trans h.2.2.2.2⟩
theorem LM.v (hf : FrV M M') (h : LM M L) : LM M' L := ⟨(hf 440 21 (by decide) (by decide)).trans h.1, h.2.1, fun i hi => by
  have h9 := h.2.1
  exact ⟨(hf _ 0 (by omega) (by omega)).trans (h.2.2.1 i hi).1, (hf _ 1 (by omega) (by omega)).trans (h.2.2.1 i hi).2⟩, h.2.2.2⟩
theorem LM.vd (h : LM M L) : Vd (eff L) 0 1 := by
  rcases h.2.2.2 with rfl | h
  · exact Vd_PL
  · have hne : L ≠ [] := by rintro rfl; simp [Vd] at h
    unfold eff; rw [if_neg hne]; exact h
theorem MCc.g (h : MCc M c) (hw : CW c) : M 444 0 = (nCe c : Int) ∧ M 444 1 = (nSt c : Int) ∧ M 444 2 = (nDe c : Int) ∧ M 444 3 = c 0 3 ∧ M 444 4 = c 0 4 ∧ M 444 5 = c 0 5 :=
  ⟨(h.1 0 (by decide)).trans hw.n.2.1.1, (h.1 1 (by decide)).trans hw.n.1.1, (h.1 2 (by decide)).trans hw.n.2.2.1, h.1 3 (by decide), h.1 4 (by decide), h.1 5 (by decide)⟩
theorem g193 (hK : K.1 = 923) (hX : FX M) (hr : isO 923 r 20 = true) (hz : L27 r) (h : SM M r c s dr) (k : Q (.inl (some (vI (rainM c s dr)))) M K) : Wm d 193 [vR 440, vR r] M K Q := by
  obtain ⟨hc, hw, hl, hlw, hd⟩ := h
  have e3 : M 444 3 = c 0 3 := hc.1 3 (by decide)
  have ed : M r 24 = s 4 0 := hl.2.1
  obtain ⟨-, hdy, -⟩ := hlw
  obtain ⟨-, -, -, h3, -⟩ := hw
  unfold rainM rainS at k
  refine u193_0 hK hX hr hz ⟨fun h => ?_, fun h => ?_⟩
  · rw [hd] at h
    rw [if_pos h] at k
    refine ⟨fun h0 => ⟨h0, ?_, ?_⟩, fun h0 => ?_⟩
    · have := Int.tmod_nonneg (c 0 3) (show 0 ≤ s 4 0 by omega)
      have := Int.tmod_lt_of_pos (s 4 0) (show 0 < c 0 3 by omega)
      rw [e3, ed]; omega
    · have h1 := Int.tmod_nonneg (c 0 3) (show 0 ≤ s 4 0 by omega)
      have h2 := Int.tmod_lt_of_pos (s 4 0) (show 0 < c 0 3 by omega)
      rw [if_neg (by omega)] at k
      rw [e3, ed, hc.2.2.2.2 _ (by omega)]; exact k
    · rwa [if_pos (by omega)] at k
  · rw [hd] at h ⊢
    rwa [if_neg h] at k
theorem g194 {v x g rain wet milk dy : Int} (hK : K.1 = 923) (hX : FX M) (h : v = (p : Int) ∧ MCc M c ∧ CW c ∧ LM M L ∧ p < nSt c ∧ 0 ≤ x ∧ x + c 2 p ≤ c 0 0) (k : ∀ M', FX M' → FrV M M' → Q (.inl (some (vI (whB c L p x g rain wet milk dy)))) M' K) : Wm (d + 3) 194 [vR 440, vI v, vI x, vI g, vI rain, vI wet, vI milk, vI dy] M K Q := by
  obtain ⟨rfl, hc, hw, hL, hp, hx0, hx1⟩ := h
  have hn := hw.n.1
  have hn0 := hw.n.2.1
  have hy := hw.y hp
  obtain ⟨x, rfl⟩ : ∃ x' : Nat, x = (x' : Int) := ⟨x.toNat, by omega⟩
  have ey : M (459 + Int.toNat (p : Int)) 0 = c 2 p := by rw [Int.toNat_natCast]; exact (hc.2.2.1 p (by omega)).1
  have ew : w32 ((x : Int) + c 2 p) = (x : Int) + c 2 p := w32_id (by omega)
  refine u194_0 hK hX ?_
  have loop : ∀ f i, i + f = (c 2 p).toNat → Wp (d + 3) 194 6 [vR 440, vI (p : Int), vI (x : Int), vI g, vI rain, vI wet, vI milk, vI dy, vI (sumF (fun j => c 1 (x + j)) i), vI ((x + i : Nat) : Int)] [] M K Q := by
    intro f
    induction f with
    | zero =>
      intro i hi
      have : i = (c 2 p).toNat := by omega
      subst this
      refine u194_6 hK hX ⟨by omega, fun _ => ⟨by omega, L, ?_⟩, fun h => ?_⟩
      · have f5 : FrV M (mset (mset (mset (mset (mset (mset (mset (mset M 806 0 (sumF (fun j => c 1 (x + j)) (c 2 p).toNat)) 806 1 (c 2 p)) 806 2 g) 806 3 rain) 806 4 wet) 806 5 milk) 806 6 dy) 806 7 (x : Int)) := by
          intro a k' h1 h2
          simp only [mset]
          rw [if_neg (by omega), if_neg (by omega), if_neg (by omega), if_neg (by omega), if_neg (by omega), if_neg (by omega), if_neg (by omega), if_neg (by omega)]
        rw [ey]
        refine ⟨⟨hL.v f5, ?_⟩, fun M1 x1 f1 => ?_⟩
        · rw [ms_nk (by decide), ms_nk (by decide), ms_nk (by decide), ms_nk (by decide), ms_nk (by decide), ms_nk (by decide), ms_eq]; omega
        · have kk := k M1 x1 (f5.tr (fun a k' h1 _ => f1 a k' h1))
          have e : wh ((mset (mset (mset (mset (mset (mset (mset (mset M 806 0 (sumF (fun j => c 1 (x + j)) (c 2 p).toNat)) 806 1 (c 2 p)) 806 2 g) 806 3 rain) 806 4 wet) 806 5 milk) 806 6 dy) 806 7 (x : Int)) 806) L = whB c L p (x : Int) g rain wet milk dy := by
            refine wh_c (fun j hj => ?_) hL.vd
            have es : sunS c (x : Int) (c 2 p) = sumF (fun j => c 1 (x + j)) (c 2 p).toNat := by unfold sunS; rw [if_neg (by omega), Int.toNat_natCast]
            rw [es]
            rcases (show j = 0 ∨ j = 1 ∨ j = 2 ∨ j = 3 ∨ j = 4 ∨ j = 5 ∨ j = 6 ∨ j = 7 by omega) with rfl | rfl | rfl | rfl | rfl | rfl | rfl | rfl <;> simp [mset, fcts]
          rw [e]; exact kk
      · rw [ey, ew] at h; omega
    | succ f ih =>
      intro i hi
      have hb := sumF_bd (f := fun j => c 1 (x + j)) (b := 9) (by decide) i (fun j hj => hw.su (by omega))
      have hs := hw.su (p := x + i) (by omega)
      refine u194_6 hK hX ⟨by omega, fun h => ?_, fun h => ⟨by omega, ?_⟩⟩
      · rw [ey, ew] at h; omega
      · rw [Int.toNat_natCast, hc.2.1 _ (by omega), w32_id (by omega), w1 (by omega)]
        exact ih (i + 1) (by omega)
  exact loop (c 2 p).toNat 0 (by omega)
theorem e0p {p : Nat} {k : Nat} (h : p < 100) (hk : k < 100) : w32 ((k : Int) + (p : Int)) = ((k + p : Nat) : Int) := by rw [w32_id (by omega)]; omega
theorem e0q {p : Nat} (h : p < 100) : w32 (0 + (p : Int)) = (p : Int) ∧ w32 (6 + (p : Int)) = ((6 + p : Nat) : Int) ∧ w32 (12 + (p : Int)) = ((12 + p : Nat) : Int) ∧ w32 (18 + (p : Int)) = ((18 + p : Nat) : Int) := by
  refine ⟨?_, ?_, ?_, ?_⟩ <;> rw [w32_id (by omega)] <;> omega
theorem g196 {cell : Int} (hK : K.1 = 923) (hX : FX M) (hr : isO 923 r 20 = true) (hz : L27 r) (h : SM M r c s dr) (k : Q (.inl (some (vI (lyOn c s cell)))) M K) : Wm (d + 1) 196 [vR 440, vR r, vI cell] M K Q := by
  obtain ⟨hc, hw, hl, hlw, -⟩ := h
  obtain ⟨-, e6, -⟩ := hc.g hw
  have hn := hw.n.1
  have hn0 := hw.n.2.1
  refine u196_0 hK hX hr hz ?_
  have loop : ∀ f i, i + f = nSt c → lyOn c s cell = fsR (onP c s cell) f i → Wp (d + 1) 196 2 [vR 440, vR r, vI cell, vI (i : Int)] [] M K Q := by
    intro f
    induction f with
    | zero =>
      intro i hi he
      rw [he] at k
      exact u196_2 hK hX hr hz ⟨fun _ => k, fun h => by omega⟩
    | succ f ih =>
      intro i hi he
      obtain ⟨f1, -⟩ := hl.1 i (by omega)
      have hy := hw.y (p := i) (by omega)
      obtain ⟨hxr, -⟩ := hlw.1 i (by omega)
      have b1 : ¬ M 444 1 ≤ (i : Int) := by omega
      have b2 : 0 ≤ (i : Int) ∧ (i : Int) < 6 := by omega
      have b3 : 0 ≤ w32 (0 + (i : Int)) ∧ w32 (0 + (i : Int)) < 27 := by rw [w32_id (by omega)]; omega
      have ei := (e0q (p := i) (by omega)).1
      have ea : M r (Int.toNat (w32 (0 + (i : Int)))) = s 0 i := by rw [ei, Int.toNat_natCast]; exact f1
      have ey : M (459 + Int.toNat (i : Int)) 0 = c 2 i := by rw [Int.toNat_natCast]; exact (hc.2.2.1 i (by omega)).1
      have es : w32 (w32 (s 0 i + c 2 i) - 1) = s 0 i + c 2 i - 1 := by rw [w32_id (z := s 0 i + c 2 i) (by omega), w32_id (by omega)]
      simp only [fsR] at he
      have no : ¬ onP c s cell i = true → Wp (d + 1) 196 2 [vR 440, vR r, vI cell, vI (w32 ((i : Int) + 1))] [] M K Q := by
        intro h
        rw [if_neg h] at he
        rw [w1 (show i < 2147483647 by have := b2.2; clear ey ea es ei he; omega)]
        exact ih (i + 1) (by omega) he
      rw [onP_iff] at no
      refine u196_2 hK hX hr hz ⟨fun h => absurd h b1, fun _ => ⟨b3, fun h => ?_, fun h => ⟨b3, b3, b2, fun h2 => ?_, fun h2 => ?_⟩⟩⟩
      · rw [ea] at h; exact no (fun q => q.1 h)
      · rw [ea, ey, es] at h2; exact no (fun q => h2 ⟨q.2.1, by have := q.2.2; clear ea ey es ei he e6 hn hn0; omega⟩)
      · rw [ea, ey, es] at h2
        rw [ea] at h
        rw [if_pos (onP_iff.mpr ⟨h, h2.1, by have := h2.2; clear ea ey es ei he e6 hn hn0; omega⟩)] at he
        rw [he] at k; exact k
  exact loop (nSt c) 0 (by omega) rfl
theorem g204 (hK : K.1 = 923) (hX : FX M) (hr : isO 923 r 20 = true) (hz : L27 r) (h : SM M r c s dr) (k : Q (.inl (some (vI (greyS c s)))) M K) : Wm d 204 [vR 440, vR r] M K Q := by
  obtain ⟨hc, hw, hl, hlw, -⟩ := h
  obtain ⟨-, e6, -⟩ := hc.g hw
  have hn := hw.n.1
  refine u204_0 hK hX hr hz ?_
  have loop : ∀ f i, i + f = nSt c → Wp d 204 4 [vR 440, vR r, vI (sumF (s 1) i), vI (i : Int)] [] M K Q := by
    intro f
    induction f with
    | zero =>
      intro i hi
      have : i = nSt c := by omega
      subst this
      exact u204_4 hK hX hr hz ⟨fun _ => k, fun h => by omega⟩
    | succ f ih =>
      intro i hi
      obtain ⟨-, f1, -⟩ := hl.1 i (by omega)
      have hb := sumF_bd (f := s 1) (b := 99) (by decide) i (fun j hj => (hlw.1 j (by omega)).2.1)
      have hi2 := (hlw.1 i (by omega)).2.1
      have ei := (e0q (p := i) (by omega)).2.1
      refine u204_4 hK hX hr hz ⟨fun h => by omega, fun _ => ⟨by omega, ?_⟩⟩
      rw [ei, Int.toNat_natCast, f1, w32_id (by omega), w1 (by omega)]
      exact ih (i + 1) (by omega)
  exact loop (nSt c) 0 (by omega)
theorem g205 (hK : K.1 = 923) (hX : FX M) (hr : isO 923 r 20 = true) (hz : L27 r) (h : SM M r c s dr) (k : Q (.inl (some (vI (whiteS c s : Int)))) M K) : Wm d 205 [vR 440, vR r] M K Q := by
  obtain ⟨hc, hw, hl, hlw, -⟩ := h
  obtain ⟨-, e6, -⟩ := hc.g hw
  have hn := hw.n.1
  refine u205_0 hK hX hr hz ?_
  have loop : ∀ f i, i + f = nSt c → Wp d 205 4 [vR 440, vR r, vI (bitsF (fun p => decide (s 1 p = 0)) i : Int), vI (i : Int)] [] M K Q := by
    intro f
    induction f with
    | zero =>
      intro i hi
      have : i = nSt c := by omega
      subst this
      exact u205_4 hK hX hr hz ⟨fun _ => k, fun h => by omega⟩
    | succ f ih =>
      intro i hi
      obtain ⟨-, f1, -⟩ := hl.1 i (by omega)
      have hb := bitsF_lt (P := fun p => decide (s 1 p = 0)) i
      have hb2 : 2 ^ i ≤ 2 ^ 6 := Nat.pow_le_pow_right (by decide) (by omega)
      have q1 : i < 31 := by omega
      have q2 : bitsF (fun p => decide (s 1 p = 0)) i < 2147483648 := by omega
      have q3 : 2 ^ i < 2147483648 := by omega
      have q4 : i < 2147483647 := by omega
      have b1 : ¬ M 444 1 ≤ (i : Int) := by omega
      have b3 : 0 ≤ w32 (6 + (i : Int)) ∧ w32 (6 + (i : Int)) < 27 := by rw [w32_id (by omega)]; omega
      have ei := (e0q (p := i) (by omega)).2.1
      have ih' := ih (i + 1) (by omega)
      simp only [bitsF] at ih'
      refine u205_4 hK hX hr hz ⟨fun h => absurd h b1, fun _ => ⟨b3, fun h => ?_, fun h => ?_⟩⟩
      · rw [ei, Int.toNat_natCast, f1] at h
        rw [jor_0 q2, w1 q4]
        rw [if_neg (by simpa using h), Nat.or_zero] at ih'; exact ih'
      · rw [ei, Int.toNat_natCast, f1] at h
        rw [jshl_1 q1, jor_n q2 q3, w1 q4]
        rw [if_pos (by simpa using h)] at ih'; exact ih'
  exact loop (nSt c) 0 (by omega)
end ML
