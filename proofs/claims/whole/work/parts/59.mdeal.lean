theorem u152_0 {d : Nat} {l1 : Int} {l2 : Int} {l3 : Int} {M : Mem} {K : KK} {Q : RR → Mem → KK → Prop} (hK : K.1 = 923) (hX : FX M)  (h : (l1 = (0 : Int) → ((M 440 0) = (0 : Int) → Q (.inl (some (vI (0 : Int)))) M K) ∧ (¬ ((M 440 0) = (0 : Int)) → Q (.inl (some (vI (1 : Int)))) M K)) ∧ (¬ (l1 = (0 : Int)) → (¬ (M 440 0) = (0 : Int) → Q (.inl (some (vI (1 : Int)))) M K) ∧ ((M 440 0) = (0 : Int) → (0 ≤ l3 ∧ l3 < (2 : Int)) ∧ (0 ≤ l3 ∧ l3 < (2 : Int)) ∧ (l2 = (0 : Int) → Q (.inl (some (vI (0 : Int)))) (mset (mset M 440 0 l2) 442 (Int.toNat l3) (w32 ((M 442 (Int.toNat l3)) + (1 : Int)))) K) ∧ (¬ (l2 = (0 : Int)) → Q (.inl (some (vI (1 : Int)))) (mset (mset M 440 0 l2) 442 (Int.toNat l3) (w32 ((M 442 (Int.toNat l3)) + (1 : Int)))) K)))) : Wp d 152 0 [vR 440, vI l1, vI l2, vI l3] [] M K Q := by
  refine r_iload_n c152_0 rfl ?_
  refine r_ifP (P := l1 = (0 : Int)) c152_1 rfl (fun hc1 => ?_) (fun hc1 => ?_)
  · replace h := h.1 hc1
    refine r_aload_n c152_26 rfl ?_
    refine r_getIe c152_27 (oK hK o440) rfl ?_
    refine r_ifP (P := (M 440 0) = (0 : Int)) c152_30 rfl (fun hc2 => ?_) (fun hc2 => ?_)
    · replace h := h.1 hc2
      refine r_iconst c152_37 ?_
      exact r_iret c152_38 (by decide) h
    · replace h := h.2 hc2
      refine r_iconst c152_33 ?_
      refine r_goto c152_34 ?_
      exact r_iret c152_38 (by decide) h
  · replace h := h.2 hc1
    refine r_aload_n c152_4 rfl ?_
    refine r_getIe c152_5 (oK hK o440) rfl ?_
    refine r_ifP (P := ¬ (M 440 0) = (0 : Int)) c152_8 rfl (fun hc3 => ?_) (fun hc3 => ?_)
    · replace h := h.1 hc3
      refine r_aload_n c152_26 rfl ?_
      refine r_getIe c152_27 (oK hK o440) rfl ?_
      refine r_ifP (P := (M 440 0) = (0 : Int)) c152_30 rfl (fun hc => absurd hc hc3) (fun hc => ?_)
      refine r_iconst c152_33 ?_
      refine r_goto c152_34 ?_
      exact r_iret c152_38 (by decide) h
    · have hc4 := Classical.not_not.mp hc3
      replace h := h.2 hc4
      refine r_aload_n c152_11 rfl ?_
      refine r_iload_n c152_12 rfl ?_
      refine r_putI c152_13 (oK hK o440) ?_
      have x5 := FX.set (v := l2) (a := 440) (k := 0) hX (by decide +kernel)
      refine r_aload_n c152_16 rfl ?_
      refine r_getR c152_17 (oK hK o440) (FX.get (b := 442) x5 (by decide) (by decide +kernel) (by decide)) (by decide) ?_
      refine r_iload_n c152_20 rfl ?_
      refine r_dup2 c152_21 ?_
      obtain ⟨s6, h⟩ := h
      refine r_iae c152_22 (oK hK o442) (bd l442 s6) (ms_na (by decide)) ?_
      refine r_iconst c152_23 ?_
      refine r_iadd c152_24 ?_
      obtain ⟨s7, h⟩ := h
      refine r_ias c152_25 (oK hK o442) (bd l442 s7) ?_
      have x8 := FX.set (v := (w32 ((M 442 (Int.toNat l3)) + (1 : Int)))) (a := 442) (k := (Int.toNat l3)) x5 (nfa o442 _)
      refine r_aload_n c152_26 rfl ?_
      refine r_getIe c152_27 (oK hK o440) (Eq.trans (ms_na (by decide)) ms_eq) ?_
      refine r_ifP (P := l2 = (0 : Int)) c152_30 rfl (fun hc9 => ?_) (fun hc9 => ?_)
      · replace h := h.1 hc9
        refine r_iconst c152_37 ?_
        exact r_iret c152_38 (by decide) h
      · replace h := h.2 hc9
        refine r_iconst c152_33 ?_
        refine r_goto c152_34 ?_
        exact r_iret c152_38 (by decide) h
theorem u222_0 {d : Nat} {l1 : Int} {l2 : Int} {M : Mem} {K : KK} {Q : RR → Mem → KK → Prop} (hK : K.1 = 923) (hX : FX M)  (h : (0 ≤ (w32 ((0 : Int) + l1)) ∧ (w32 ((0 : Int) + l1)) < (27 : Int)) ∧ (¬ (M 888 (Int.toNat (w32 ((0 : Int) + l1)))) = (-1 : Int) → (0 ≤ (w32 ((12 : Int) + l1)) ∧ (w32 ((12 : Int) + l1)) < (27 : Int)) ∧ ((w32 ((M 888 (Int.toNat (w32 ((12 : Int) + l1)))) + l2)) ≤ (9 : Int) → (0 ≤ (w32 ((6 : Int) + l1)) ∧ (w32 ((6 : Int) + l1)) < (27 : Int)) ∧ (0 ≤ (w32 ((0 : Int) + l1)) ∧ (w32 ((0 : Int) + l1)) < (27 : Int)) ∧ (0 ≤ (w32 ((6 : Int) + l1)) ∧ (w32 ((6 : Int) + l1)) < (27 : Int)) ∧ ∃ c9 : Mem, ∃ s10 : Mem, ∃ dr11 : Int, SM M 888 c9 s10 dr11 ∧ (0 ≤ (w32 ((12 : Int) + l1)) ∧ (w32 ((12 : Int) + l1)) < (27 : Int)) ∧ (0 ≤ (w32 ((18 : Int) + l1)) ∧ (w32 ((18 : Int) + l1)) < (27 : Int)) ∧ ∃ c15 : Mem, ∃ L16 : LC, ∃ p17 : Nat, (l1 = (p17 : Int) ∧ MCc M c15 ∧ CW c15 ∧ LM M L16 ∧ p17 < nSt c15 ∧ 0 ≤ (M 888 (Int.toNat (w32 ((0 : Int) + l1)))) ∧ (M 888 (Int.toNat (w32 ((0 : Int) + l1)))) + c15 2 p17 ≤ c15 0 0) ∧ (∀ (M21 : Mem), FX M21 → FrV M M21 → Q (.inl (some (vI (min (M 888 (Int.toNat (w32 ((6 : Int) + l1)))) (whB c15 L16 p17 (M 888 (Int.toNat (w32 ((0 : Int) + l1)))) (M 888 (Int.toNat (w32 ((6 : Int) + l1)))) (rainM c9 s10 dr11) (w32 ((M 888 (Int.toNat (w32 ((12 : Int) + l1)))) + l2)) (M 888 (Int.toNat (w32 ((18 : Int) + l1)))) (M 888 24)))))) M21 K)) ∧ (¬ ((w32 ((M 888 (Int.toNat (w32 ((12 : Int) + l1)))) + l2)) ≤ (9 : Int)) → Q (.inl (some (vI (-1 : Int)))) M K)) ∧ ((M 888 (Int.toNat (w32 ((0 : Int) + l1)))) = (-1 : Int) → (¬ l2 = (0 : Int) → Q (.inl (some (vI (-1 : Int)))) M K) ∧ (l2 = (0 : Int) → Q (.inl (some (vI (0 : Int)))) M K))) : Wp (d + 4) 222 0 [vR 440, vI l1, vI l2] [] M K Q := by
  refine r_aload_n c222_0 rfl ?_
  refine r_getR c222_1 (oK hK o440) (FX.get (b := 888) hX (by decide) (by decide +kernel) (by decide)) (by decide) ?_
  refine r_iconst c222_4 ?_
  refine r_iload_n c222_5 rfl ?_
  refine r_iadd c222_6 ?_
  obtain ⟨s1, h⟩ := h
  refine r_iae c222_7 (oK hK o888) (bd l888 s1) rfl ?_
  refine r_iconst c222_8 ?_
  refine r_icmpP (P := ¬ (M 888 (Int.toNat (w32 ((0 : Int) + l1)))) = (-1 : Int)) c222_9 rfl (fun hc2 => ?_) (fun hc2 => ?_)
  · replace h := h.1 hc2
    refine r_aload_n c222_22 rfl ?_
    refine r_getR c222_23 (oK hK o440) (FX.get (b := 888) hX (by decide) (by decide +kernel) (by decide)) (by decide) ?_
    refine r_bipush c222_26 ?_
    refine r_iload_n c222_28 rfl ?_
    refine r_iadd c222_29 ?_
    obtain ⟨s4, h⟩ := h
    refine r_iae c222_30 (oK hK o888) (bd l888 s4) rfl ?_
    refine r_iload_n c222_31 rfl ?_
    refine r_iadd c222_32 ?_
    refine r_bipush c222_33 ?_
    refine r_icmpP (P := (w32 ((M 888 (Int.toNat (w32 ((12 : Int) + l1)))) + l2)) ≤ (9 : Int)) c222_35 rfl (fun hc5 => ?_) (fun hc5 => ?_)
    · replace h := h.1 hc5
      refine r_aload_n c222_40 rfl ?_
      refine r_getR c222_41 (oK hK o440) (FX.get (b := 888) hX (by decide) (by decide +kernel) (by decide)) (by decide) ?_
      refine r_bipush c222_44 ?_
      refine r_iload_n c222_46 rfl ?_
      refine r_iadd c222_47 ?_
      obtain ⟨s6, h⟩ := h
      refine r_iae c222_48 (oK hK o888) (bd l888 s6) rfl ?_
      refine r_aload_n c222_49 rfl ?_
      refine r_iload_n c222_50 rfl ?_
      refine r_aload_n c222_51 rfl ?_
      refine r_getR c222_52 (oK hK o440) (FX.get (b := 888) hX (by decide) (by decide +kernel) (by decide)) (by decide) ?_
      refine r_iconst c222_55 ?_
      refine r_iload_n c222_56 rfl ?_
      refine r_iadd c222_57 ?_
      obtain ⟨s7, h⟩ := h
      refine r_iae c222_58 (oK hK o888) (bd l888 s7) rfl ?_
      refine r_aload_n c222_59 rfl ?_
      refine r_getR c222_60 (oK hK o440) (FX.get (b := 888) hX (by decide) (by decide +kernel) (by decide)) (by decide) ?_
      refine r_bipush c222_63 ?_
      refine r_iload_n c222_65 rfl ?_
      refine r_iadd c222_66 ?_
      obtain ⟨s8, h⟩ := h
      refine r_iae c222_67 (oK hK o888) (bd l888 s8) rfl ?_
      refine r_aload_n c222_68 rfl ?_
      refine r_aload_n c222_69 rfl ?_
      refine r_getR c222_70 (oK hK o440) (FX.get (b := 888) hX (by decide) (by decide +kernel) (by decide)) (by decide) ?_
      obtain ⟨c9, h⟩ := h
      obtain ⟨s10, h⟩ := h
      obtain ⟨dr11, h⟩ := h
      obtain ⟨p12, h⟩ := h
      refine r_call c222_73 rfl rfl (Nat.le_of_ble_eq_true rfl) (okc_r rfl rfl (oK hK o440)) (g193 hK hX o888 l888 p12 (Bk_v ?_))
      refine r_aload_n c222_76 rfl ?_
      refine r_getR c222_77 (oK hK o440) (FX.get (b := 888) hX (by decide) (by decide +kernel) (by decide)) (by decide) ?_
      refine r_bipush c222_80 ?_
      refine r_iload_n c222_82 rfl ?_
      refine r_iadd c222_83 ?_
      obtain ⟨s13, h⟩ := h
      refine r_iae c222_84 (oK hK o888) (bd l888 s13) rfl ?_
      refine r_iload_n c222_85 rfl ?_
      refine r_iadd c222_86 ?_
      refine r_aload_n c222_87 rfl ?_
      refine r_getR c222_88 (oK hK o440) (FX.get (b := 888) hX (by decide) (by decide +kernel) (by decide)) (by decide) ?_
      refine r_bipush c222_91 ?_
      refine r_iload_n c222_93 rfl ?_
      refine r_iadd c222_94 ?_
      obtain ⟨s14, h⟩ := h
      refine r_iae c222_95 (oK hK o888) (bd l888 s14) rfl ?_
      refine r_aload_n c222_96 rfl ?_
      refine r_getR c222_97 (oK hK o440) (FX.get (b := 888) hX (by decide) (by decide +kernel) (by decide)) (by decide) ?_
      refine r_bipush c222_100 ?_
      refine r_iae c222_102 (oK hK o888) (bd l888 (by decide)) rfl ?_
      obtain ⟨c15, h⟩ := h
      obtain ⟨L16, h⟩ := h
      obtain ⟨p17, h⟩ := h
      obtain ⟨p18, h⟩ := h
      refine r_call c222_103 rfl rfl (Nat.le_of_ble_eq_true rfl) (okc_r rfl rfl (oK hK o440)) (g194 hK hX p18 (fun M21 x19 p20 => Bk_v ?_))
      replace h := h M21 x19 p20
      refine r_call c222_106 rfl rfl (Nat.le_of_ble_eq_true rfl) (okc_s rfl rfl rfl) (g154 hK x19  (Bk_v ?_))
      exact r_iret c222_109 (Or.inl rfl) h
    · replace h := h.2 hc5
      refine r_iconst c222_38 ?_
      exact r_iret c222_39 (Or.inl rfl) h
  · have hc3 := Classical.not_not.mp hc2
    replace h := h.2 hc3
    refine r_iload_n c222_12 rfl ?_
    refine r_ifP (P := ¬ l2 = (0 : Int)) c222_13 rfl (fun hc22 => ?_) (fun hc22 => ?_)
    · replace h := h.1 hc22
      refine r_iconst c222_20 ?_
      exact r_iret c222_21 (Or.inl rfl) h
    · have hc23 := Classical.not_not.mp hc22
      replace h := h.2 hc23
      refine r_iconst c222_16 ?_
      refine r_goto c222_17 ?_
      exact r_iret c222_21 (Or.inl rfl) h
theorem u223_0 {d : Nat}  {M : Mem} {K : KK} {Q : RR → Mem → KK → Prop} (hK : K.1 = 923) (hX : FX M)  (h : Wp (d + 1) 223 2 [vR 440, vI (0 : Int), vU, vU, vU] [] M K Q) : Wp (d + 1) 223 0 [vR 440, vU, vU, vU, vU] [] M K Q := by
  refine r_iconst c223_0 ?_
  refine r_istore_n c223_1 (Nat.le_of_ble_eq_true rfl) ?_
  exact h
theorem u223_2 {d : Nat} {l1 : Int} {M : Mem} {K : KK} {Q : RR → Mem → KK → Prop} (hK : K.1 = 923) (hX : FX M)  (h : ((20 : Int) < l1 → Wp (d + 1) 223 45 [vR 440, vI (w32 ((M 444 1) - (1 : Int))), vU, vU, vU] [] M K Q) ∧ (¬ ((20 : Int) < l1) → (0 ≤ (M 444 1) ∧ (M 444 1) < (7 : Int)) ∧ (¬ l1 = (0 : Int) → (0 ≤ l1 ∧ l1 < (21 : Int)) ∧ Wp (d + 1) 223 2 [vR 440, vI (w32 (l1 + 1)), vU, vU, vU] [] (mset M (915 + Int.toNat (M 444 1)) (Int.toNat l1) (-1 : Int)) K Q) ∧ (l1 = (0 : Int) → (0 ≤ l1 ∧ l1 < (21 : Int)) ∧ Wp (d + 1) 223 2 [vR 440, vI (w32 (l1 + 1)), vU, vU, vU] [] (mset M (915 + Int.toNat (M 444 1)) (Int.toNat l1) (0 : Int)) K Q))) : Wp (d + 1) 223 2 [vR 440, vI l1, vU, vU, vU] [] M K Q := by
  refine r_iload_n c223_2 rfl ?_
  refine r_bipush c223_3 ?_
  refine r_icmpP (P := (20 : Int) < l1) c223_5 rfl (fun hc1 => ?_) (fun hc1 => ?_)
  · replace h := h.1 hc1
    refine r_aload_n c223_36 rfl ?_
    refine r_getR c223_37 (oK hK o440) (FX.get (b := 444) hX (by decide) (by decide +kernel) (by decide)) (by decide) ?_
    refine r_iconst c223_40 ?_
    refine r_iae c223_41 (oK hK o444) (bd l444 (by decide)) rfl ?_
    refine r_iconst c223_42 ?_
    refine r_isub c223_43 ?_
    refine r_istore_n c223_44 (Nat.le_of_ble_eq_true rfl) ?_
    exact h
  · replace h := h.2 hc1
    refine r_aload_n c223_8 rfl ?_
    refine r_getR c223_9 (oK hK o440) (FX.get (b := 914) hX (by decide) (by decide +kernel) (by decide)) (by decide) ?_
    refine r_aload_n c223_12 rfl ?_
    refine r_getR c223_13 (oK hK o440) (FX.get (b := 444) hX (by decide) (by decide +kernel) (by decide)) (by decide) ?_
    refine r_iconst c223_16 ?_
    refine r_iae c223_17 (oK hK o444) (bd l444 (by decide)) rfl ?_
    obtain ⟨s2, h⟩ := h
    refine r_aa c223_18 (mrw o914 hK) (bd l914 s2) (rf914 hX s2) (by omega) ?_
    refine r_iload_n c223_19 rfl ?_
    refine r_iload_n c223_20 rfl ?_
    refine r_ifP (P := ¬ l1 = (0 : Int)) c223_21 rfl (fun hc3 => ?_) (fun hc3 => ?_)
    · replace h := h.1 hc3
      refine r_iconst c223_28 ?_
      obtain ⟨s5, h⟩ := h
      refine r_ias c223_29 (oK hK (ro914 s2)) (bd (rz914 s2) s5) ?_
      have x6 := FX.set (v := (-1 : Int)) (a := (915 + Int.toNat (M 444 1))) (k := (Int.toNat l1)) hX (nfa (ro914 s2) _)
      refine r_iinc c223_30 rfl ?_
      refine r_goto c223_33 ?_
      exact h
    · have hc4 := Classical.not_not.mp hc3
      replace h := h.2 hc4
      refine r_iconst c223_24 ?_
      refine r_goto c223_25 ?_
      obtain ⟨s7, h⟩ := h
      refine r_ias c223_29 (oK hK (ro914 s2)) (bd (rz914 s2) s7) ?_
      have x8 := FX.set (v := (0 : Int)) (a := (915 + Int.toNat (M 444 1))) (k := (Int.toNat l1)) hX (nfa (ro914 s2) _)
      refine r_iinc c223_30 rfl ?_
      refine r_goto c223_33 ?_
      exact h
theorem u223_45 {d : Nat} {l1 : Int} {l2 : PV} {l3 : PV} {l4 : PV} {M : Mem} {K : KK} {Q : RR → Mem → KK → Prop} (hK : K.1 = 923) (hX : FX M)  (h : (l1 < (0 : Int) → Q (.inl none) M K) ∧ (¬ (l1 < (0 : Int)) → Wp (d + 1) 223 51 [vR 440, vI l1, vI (0 : Int), l3, l4] [] M K Q)) : Wp (d + 1) 223 45 [vR 440, vI l1, l2, l3, l4] [] M K Q := by
  refine r_iload_n c223_45 rfl ?_
  refine r_ifP (P := l1 < (0 : Int)) c223_46 rfl (fun hc1 => ?_) (fun hc1 => ?_)
  · replace h := h.1 hc1
    exact r_ret c223_149 h
  · replace h := h.2 hc1
    refine r_iconst c223_49 ?_
    refine r_istore_n c223_50 (Nat.le_of_ble_eq_true rfl) ?_
    exact h
theorem u223_51 {d : Nat} {l1 : Int} {l2 : Int} {l3 : PV} {l4 : PV} {M : Mem} {K : KK} {Q : RR → Mem → KK → Prop} (hK : K.1 = 923) (hX : FX M)  (h : ((20 : Int) < l2 → Wp (d + 1) 223 45 [vR 440, vI (w32 (l1 + (-1))), vI l2, l3, l4] [] M K Q) ∧ (¬ ((20 : Int) < l2) → Wp (d + 1) 223 62 [vR 440, vI l1, vI l2, vI (-1 : Int), vI (0 : Int)] [] M K Q)) : Wp (d + 1) 223 51 [vR 440, vI l1, vI l2, l3, l4] [] M K Q := by
  refine r_iload_n c223_51 rfl ?_
  refine r_bipush c223_52 ?_
  refine r_icmpP (P := (20 : Int) < l2) c223_54 rfl (fun hc1 => ?_) (fun hc1 => ?_)
  · replace h := h.1 hc1
    refine r_iinc c223_143 rfl ?_
    refine r_goto c223_146 ?_
    exact h
  · replace h := h.2 hc1
    refine r_iconst c223_57 ?_
    refine r_istore_n c223_58 (Nat.le_of_ble_eq_true rfl) ?_
    refine r_iconst c223_59 ?_
    refine r_istore c223_60 (Nat.le_of_ble_eq_true rfl) ?_
    exact h
theorem u223_62 {d : Nat} {l1 : Int} {l2 : Int} {l3 : Int} {l4 : Int} {M : Mem} {K : KK} {Q : RR → Mem → KK → Prop} (hK : K.1 = 923) (hX : FX M)  (h : (l2 < l4 → (0 ≤ l1 ∧ l1 < (7 : Int)) ∧ (0 ≤ l2 ∧ l2 < (21 : Int)) ∧ Wp (d + 1) 223 51 [vR 440, vI l1, vI (w32 (l2 + 1)), vI l3, vI l4] [] (mset M (915 + Int.toNat l1) (Int.toNat l2) l3) K Q) ∧ (¬ (l2 < l4) → Wm d 222 [vR 440, vI l1, vI l4] M K (Bk d 223 72 75 222 [vR 440, vI l1, vI l2, vI l3, vI l4] [] Q))) : Wp (d + 1) 223 62 [vR 440, vI l1, vI l2, vI l3, vI l4] [] M K Q := by
  refine r_iload c223_62 rfl ?_
  refine r_iload_n c223_64 rfl ?_
  refine r_icmpP (P := l2 < l4) c223_65 rfl (fun hc1 => ?_) (fun hc1 => ?_)
  · replace h := h.1 hc1
    refine r_aload_n c223_128 rfl ?_
    refine r_getR c223_129 (oK hK o440) (FX.get (b := 914) hX (by decide) (by decide +kernel) (by decide)) (by decide) ?_
    refine r_iload_n c223_132 rfl ?_
    obtain ⟨s2, h⟩ := h
    refine r_aa c223_133 (mrw o914 hK) (bd l914 s2) (rf914 hX s2) (by omega) ?_
    refine r_iload_n c223_134 rfl ?_
    refine r_iload_n c223_135 rfl ?_
    obtain ⟨s3, h⟩ := h
    refine r_ias c223_136 (oK hK (ro914 s2)) (bd (rz914 s2) s3) ?_
    have x4 := FX.set (v := l3) (a := (915 + Int.toNat l1)) (k := (Int.toNat l2)) hX (nfa (ro914 s2) _)
    refine r_iinc c223_137 rfl ?_
    refine r_goto c223_140 ?_
    exact h
  · replace h := h.2 hc1
    refine r_aload_n c223_68 rfl ?_
    refine r_iload_n c223_69 rfl ?_
    refine r_iload c223_70 rfl ?_
    exact r_call c223_72 rfl rfl (Nat.le_of_ble_eq_true rfl) (okc_r rfl rfl (oK hK o440)) h
theorem u223_75 {d : Nat} {l1 : Int} {l2 : Int} {l3 : Int} {l4 : Int} {t0 : Int} {M : Mem} {K : KK} {Q : RR → Mem → KK → Prop} (hK : K.1 = 923) (hX : FX M)  (h : (t0 = (-1 : Int) → Wp (d + 1) 223 62 [vR 440, vI l1, vI l2, vI l3, vI (w32 (l4 + 1))] [] M K Q) ∧ (¬ (t0 = (-1 : Int)) → (0 ≤ (w32 (l1 + (1 : Int))) ∧ (w32 (l1 + (1 : Int))) < (7 : Int)) ∧ (0 ≤ (w32 (l2 - l4)) ∧ (w32 (l2 - l4)) < (21 : Int)) ∧ ((M (915 + Int.toNat (w32 (l1 + (1 : Int)))) (Int.toNat (w32 (l2 - l4)))) = (-1 : Int) → Wp (d + 1) 223 62 [vR 440, vI l1, vI l2, vI l3, vI (w32 (l4 + 1))] [] M K Q) ∧ (¬ ((M (915 + Int.toNat (w32 (l1 + (1 : Int)))) (Int.toNat (w32 (l2 - l4)))) = (-1 : Int)) → Wm d 222 [vR 440, vI l1, vI l4] M K (Bk d 223 101 104 222 [vR 440, vI l1, vI l2, vI l3, vI l4] [vI l3] Q)))) : Wp (d + 1) 223 75 [vR 440, vI l1, vI l2, vI l3, vI l4] [vI t0] M K Q := by
  refine r_iconst c223_75 ?_
  refine r_icmpP (P := t0 = (-1 : Int)) c223_76 rfl (fun hc1 => ?_) (fun hc1 => ?_)
  · replace h := h.1 hc1
    refine r_iinc c223_122 rfl ?_
    refine r_goto c223_125 ?_
    exact h
  · replace h := h.2 hc1
    refine r_aload_n c223_79 rfl ?_
    refine r_getR c223_80 (oK hK o440) (FX.get (b := 914) hX (by decide) (by decide +kernel) (by decide)) (by decide) ?_
    refine r_iload_n c223_83 rfl ?_
    refine r_iconst c223_84 ?_
    refine r_iadd c223_85 ?_
    obtain ⟨s2, h⟩ := h
    refine r_aa c223_86 (mrw o914 hK) (bd l914 s2) (rf914 hX s2) (by omega) ?_
    refine r_iload_n c223_87 rfl ?_
    refine r_iload c223_88 rfl ?_
    refine r_isub c223_90 ?_
    obtain ⟨s3, h⟩ := h
    refine r_iae c223_91 (oK hK (ro914 s2)) (bd (rz914 s2) s3) rfl ?_
    refine r_iconst c223_92 ?_
    refine r_icmpP (P := (M (915 + Int.toNat (w32 (l1 + (1 : Int)))) (Int.toNat (w32 (l2 - l4)))) = (-1 : Int)) c223_93 rfl (fun hc4 => ?_) (fun hc4 => ?_)
    · replace h := h.1 hc4
      refine r_iinc c223_122 rfl ?_
      refine r_goto c223_125 ?_
      exact h
    · replace h := h.2 hc4
      refine r_iload_n c223_96 rfl ?_
      refine r_aload_n c223_97 rfl ?_
      refine r_iload_n c223_98 rfl ?_
      refine r_iload c223_99 rfl ?_
      exact r_call c223_101 rfl rfl (Nat.le_of_ble_eq_true rfl) (okc_r rfl rfl (oK hK o440)) h
theorem u223_104 {d : Nat} {l1 : Int} {l2 : Int} {l3 : Int} {l4 : Int} {t0 : Int} {t1 : Int} {M : Mem} {K : KK} {Q : RR → Mem → KK → Prop} (hK : K.1 = 923) (hX : FX M)  (h : (0 ≤ (w32 (l1 + (1 : Int))) ∧ (w32 (l1 + (1 : Int))) < (7 : Int)) ∧ (0 ≤ (w32 (l2 - l4)) ∧ (w32 (l2 - l4)) < (21 : Int)) ∧ Wp (d + 1) 223 62 [vR 440, vI l1, vI l2, vI (max t0 (w32 (t1 + (M (915 + Int.toNat (w32 (l1 + (1 : Int)))) (Int.toNat (w32 (l2 - l4))))))), vI (w32 (l4 + 1))] [] M K Q) : Wp (d + 1) 223 104 [vR 440, vI l1, vI l2, vI l3, vI l4] [vI t1, vI t0] M K Q := by
  refine r_aload_n c223_104 rfl ?_
  refine r_getR c223_105 (oK hK o440) (FX.get (b := 914) hX (by decide) (by decide +kernel) (by decide)) (by decide) ?_
  refine r_iload_n c223_108 rfl ?_
  refine r_iconst c223_109 ?_
  refine r_iadd c223_110 ?_
  obtain ⟨s1, h⟩ := h
  refine r_aa c223_111 (mrw o914 hK) (bd l914 s1) (rf914 hX s1) (by omega) ?_
  refine r_iload_n c223_112 rfl ?_
  refine r_iload c223_113 rfl ?_
  refine r_isub c223_115 ?_
  obtain ⟨s2, h⟩ := h
  refine r_iae c223_116 (oK hK (ro914 s1)) (bd (rz914 s1) s2) rfl ?_
  refine r_iadd c223_117 ?_
  refine r_call c223_118 rfl rfl (Nat.le_of_ble_eq_true rfl) (okc_s rfl rfl rfl) (g155 hK hX  (Bk_v ?_))
  refine r_istore_n c223_121 (Nat.le_of_ble_eq_true rfl) ?_
  refine r_iinc c223_122 rfl ?_
  refine r_goto c223_125 ?_
  exact h
/-! the model's questions: frames, refusals -/
/-- what a question of the model may change -/
def scM (a k : Nat) : Prop := a = 805 ∨ a = 806 ∨ a = 889 ∨ (911 ≤ a ∧ a ≤ 921) ∨ (a = 440 ∧ (k = 0 ∨ k = 39 ∨ 45 ≤ k))
def FrQm (M M' : Mem) : Prop := ∀ a k, ¬ scM a k → M' a k = M a k
/-- a call refused -/
def BadM (cd ix : Nat) (M M' : Mem) : Prop := (∀ a k, ¬ scM a k → ¬ (a = 442 ∧ k = ix) → M' a k = M a k) ∧ M' 440 0 = (cd : Int) ∧ M' 442 ix = w32 (M 442 ix + 1)
/-- the game as the model holds it -/
def GM (M c : Mem) (L : LC) (s : Mem) : Prop := SM M 888 c s (-1) ∧ LM M L
section MD
variable {d : Nat} {M M' : Mem} {K : KK} {Q : RR → Mem → KK → Prop} {c s : Mem} {L : LC}
theorem FrQm.rf : FrQm M M := fun _ _ _ => rfl
theorem FrQm.tr {M1 M2 : Mem} (h1 : FrQm M M1) (h2 : FrQm M1 M2) : FrQm M M2 := fun a k h => (h2 a k h).trans (h1 a k h)
theorem FrV.q (h : FrV M M') : FrQm M M' := fun a k p => h a k (fun e => p (Or.inl e)) (fun e => p (Or.inr (Or.inl e)))
theorem FrQm.mem {b k : Nat} {v : Int} (hb : scM b k) : FrQm M (mset M b k v) := fun b' k' h2 => by
  unfold mset
  rw [if_neg (fun e => h2 (by rw [e.1, e.2]; exact hb))]
theorem MCc.q (hw : CW c) (hf : FrQm M M') (h : MCc M c) : MCc M' c := by
  have hn := hw.2.1
  refine ⟨fun k hk => (hf _ _ (by unfold scM; omega)).trans (h.1 k hk), fun i hi => (hf _ _ (by unfold scM; omega)).trans (h.2.1 i hi), fun i hi => ?_, fun i hi => (hf _ _ (by unfold scM; omega)).trans (h.2.2.2.1 i hi), fun i hi => (hf _ _ (by unfold scM; omega)).trans (h.2.2.2.2 i hi)⟩
  obtain ⟨a, b⟩ := h.2.2.1 i hi
  exact ⟨(hf _ _ (by unfold scM; omega)).trans a, (hf _ _ (by unfold scM; omega)).trans b⟩
theorem LMr.q (hf : FrQm M M') (h : LMr M 888 c s) : LMr M' 888 c s := by
  have e : ∀ j, M' 888 j = M 888 j := fun j => hf 888 j (by unfold scM; omega)
  unfold LMr; simp only [e]; exact h
theorem LM.q (hf : FrQm M M') (h : LM M L) : LM M' L := by
  obtain ⟨a, b, e, f⟩ := h
  refine ⟨(hf _ _ (by unfold scM; omega)).trans a, b, fun i hi => ?_, f⟩
  obtain ⟨x, y⟩ := e i hi
  exact ⟨(hf _ _ (by unfold scM; omega)).trans x, (hf _ _ (by unfold scM; omega)).trans y⟩
theorem GM.q (hf : FrQm M M') (h : GM M c L s) : GM M' c L s := by
  obtain ⟨⟨a, b, e, f, g⟩, l⟩ := h
  exact ⟨⟨a.q b hf, b, e.q hf, f, (hf _ _ (by unfold scM; omega)).trans g⟩, l.q hf⟩
theorem b152_0 {cd ix : Int} (hK : K.1 = 923) (hX : FX M) (h0 : M 440 0 = 0) (k : Q (.inl (some (vI 0))) M K) : Wm d 152 [vR 440, vI 0, vI cd, vI ix] M K Q :=
  u152_0 hK hX ⟨fun _ => ⟨fun _ => k, fun h => absurd h0 h⟩, fun h => absurd rfl h⟩
theorem b152_1 {cd ix : Nat} (hK : K.1 = 923) (hX : FX M) (h0 : M 440 0 = 0) (hc : cd ≠ 0) (hi : ix < 2) (k : ∀ M', FX M' → BadM cd ix M M' → Q (.inl (some (vI 1))) M' K) : Wm d 152 [vR 440, vI 1, vI (cd : Int), vI (ix : Int)] M K Q := by
  refine u152_0 hK hX ⟨fun h => absurd h (by decide), fun _ => ⟨fun h => absurd h0 h, fun _ => ⟨by omega, by omega, fun h => absurd h (by omega), fun _ => ?_⟩⟩⟩
  rw [Int.toNat_natCast]
  refine k _ ((hX.set (by decide +kernel)).set (nfa (by decide +kernel) _)) ⟨fun a j h1 h2 => ?_, ?_, ms_eq⟩
  · unfold mset
    rw [if_neg h2, if_neg (fun e => h1 (by unfold scM; omega))]
  · rw [ms_na (by decide), ms_eq]
theorem BadM.of {cd ix : Nat} {M1 : Mem} (hf : FrQm M M1) (h : BadM cd ix M1 M') (hi : ix < 2) : BadM cd ix M M' := by
  obtain ⟨a, b, e⟩ := h
  exact ⟨fun x k h1 h2 => (a x k h1 h2).trans (hf x k h1), b, by rw [e, hf 442 ix (by unfold scM; omega)]⟩
theorem FrQm.t0 : FrQm M (mset M 440 0 0) := FrQm.mem (by unfold scM; omega)
theorem FX.t0 (hX : FX M) : FX (mset M 440 0 0) := hX.set (by decide +kernel)
theorem GM.n (h : GM M c L s) : M 444 1 = (nSt c : Int) := by
  have := h.1.1.1 1 (by decide)
  have hw := h.1.2.1.2.1
  rw [this]; unfold nSt; omega
/-! wettings dealt out: the model -/
theorem bq7 {q : Nat} (h : q < 6) : 0 ≤ w32 ((q : Int) + 1) ∧ w32 ((q : Int) + 1) < 7 := by rw [w1 (by omega)]; omega
theorem iq7 {q : Nat} (h : q < 6) : Int.toNat (w32 ((q : Int) + 1)) = q + 1 := by rw [w1 (by omega), Int.toNat_natCast]
theorem bm21 {m k : Nat} (h : k ≤ m ∧ m ≤ 20) : 0 ≤ w32 ((m : Int) - (k : Int)) ∧ w32 ((m : Int) - (k : Int)) < 21 := by rw [w32_id (by omega)]; omega
theorem im21 {m k : Nat} (h : k ≤ m ∧ m ≤ 20) : Int.toNat (w32 ((m : Int) - (k : Int))) = m - k := by rw [w32_id (by omega)]; omega
theorem g222 {p k : Nat} (hK : K.1 = 923) (hX : FX M) (h : GM M c L s) (hp : p < nSt c) (hk : k ≤ 20) (kk : ∀ M', FX M' → FrV M M' → Q (.inl (some (vI (gdS c s L p k)))) M' K) : Wm (d + 4) 222 [vR 440, vI (p : Int), vI (k : Int)] M K Q := by
  obtain ⟨hS, hL⟩ := h
  obtain ⟨hc, hw, hl, hlw, hd⟩ := hS
  have hn6 := hw.2.1
  have hp6 : p < 6 := by unfold nSt at hp; omega
  obtain ⟨e0, e1, e2, e3⟩ := hl.1 p hp
  have e4 := hl.2.1
  have hr := hlw.1 p hp
  unfold gdS at kk
  rw [if_pos hp] at kk
  unfold dlG at kk
  refine u222_0 hK hX ?_
  rw [ix0 hp6, ix6 hp6, ix12 hp6, ix18 hp6, e0, e1, e2, e3, e4, w32_id (z := s 2 p + (k : Int)) (by omega)]
  refine ⟨bx0 hp6, fun h => ⟨bx12 hp6, fun h2 => ⟨bx6 hp6, bx0 hp6, bx6 hp6, c, s, -1, ⟨hc, hw, hl, hlw, hd⟩, bx12 hp6, bx18 hp6, c, L, p, ⟨rfl, hc, hw, hL, hp, by omega, by omega⟩, fun M1 x1 f1 => ?_⟩, fun h2 => ?_⟩, fun h => ⟨fun h2 => ?_, fun h2 => ?_⟩⟩
  · have := kk M1 x1 f1
    rw [if_neg h, if_pos h2] at this
    unfold rainM; rw [if_pos rfl]; exact this
  · have := kk M hX FrV.rf
    rw [if_neg h, if_neg h2] at this; exact this
  · have := kk M hX FrV.rf
    rw [if_pos h, if_neg (by omega)] at this; exact this
  · have := kk M hX FrV.rf
    rw [if_pos h, if_pos (by omega)] at this; exact this
theorem gone_o : ∀ p, p < 7 → isO 923 (915 + p) 20 = true ∧ ln (915 + p) = 21 := by decide +kernel
/-- only the rows of the dealing and the law's scratch have changed -/
def FrDm (M M' : Mem) : Prop := ∀ a k, a ≠ 805 → a ≠ 806 → ¬ (915 ≤ a ∧ a ≤ 921) → M' a k = M a k
theorem FrDm.q (h : FrDm M M') : FrQm M M' := fun a k p => h a k (by unfold scM at p; omega) (by unfold scM at p; omega) (by unfold scM at p; omega)
theorem FrV.dm (h : FrV M M') : FrDm M M' := fun a k p q _ => h a k p q
theorem FrDm.tr {M1 M2 : Mem} (h1 : FrDm M M1) (h2 : FrDm M1 M2) : FrDm M M2 := fun a k p q t => (h2 a k p q t).trans (h1 a k p q t)
theorem FrDm.mem {p k : Nat} {v : Int} (hp : p < 7) : FrDm M (mset M (915 + p) k v) := fun a j _ _ h => ms_na (by omega)
theorem fd1 {g D : Nat → Int} {m k : Nat} : (fdS g D m (k + 1)).1 = if g k ≠ -1 ∧ D (m - k) ≠ -1 then max (fdS g D m k).1 (g k + D (m - k)) else (fdS g D m k).1 := by
  simp only [fdS]
  by_cases h1 : g k ≠ -1 ∧ D (m - k) ≠ -1
  · rw [if_pos h1]
    split
    · dsimp only; omega
    · omega
  · rw [if_neg h1, if_neg (fun h => h1 ⟨h.1, h.2.1⟩)]
theorem g223 (hK : K.1 = 923) (hX : FX M) (h : GM M c L s) (k : ∀ M', FX M' → FrDm M M' → (∀ p m, p ≤ nSt c → m ≤ 20 → M' (915 + p) m = dR (gdS c s L) (nSt c) p m) → Q (.inl none) M' K) : Wm (d + 5) 223 [vR 440] M K Q := by
  have hw := h.1.2.1
  have hn6 := hw.2.1
  have hN : nSt c ≤ 6 := by unfold nSt; omega
  have gr := gdS_rg (L := L) h.1.2.2.2.1
  refine u223_0 hK hX ?_
  have rows : ∀ f p, p = f → p ≤ nSt c → ∀ (v v' v2 : PV) M1, FX M1 → FrDm M M1 → (∀ i m, p ≤ i → i ≤ nSt c → m ≤ 20 → M1 (915 + i) m = dR (gdS c s L) (nSt c) i m) → Wp (d + 5) 223 45 [vR 440, vI ((p : Int) - 1), v2, v, v'] [] M1 K Q := by
    intro f
    induction f with
    | zero =>
      intro p hp hpN v v' v2 M1 x1 f1 hB
      subst hp
      exact u223_45 hK x1 ⟨fun _ => k M1 x1 f1 (fun i m h1 h2 => hB i m (by omega) h1 h2), fun h => absurd (by omega) h⟩
    | succ f ih =>
      intro p hp hpN v v' v2 M1 x1 f1 hB
      obtain ⟨q, rfl⟩ : ∃ q, p = q + 1 := ⟨p - 1, by omega⟩
      have eq1 : ((q + 1 : Nat) : Int) - 1 = (q : Int) := by omega
      rw [eq1]
      have hqN : q < nSt c := by omega
      refine u223_45 hK x1 ⟨fun h => absurd h (by omega), fun _ => ?_⟩
      have cell : ∀ fm m, m + fm = 21 → ∀ (v v' : PV) M2, FX M2 → FrDm M M2 → (∀ i m, q + 1 ≤ i → i ≤ nSt c → m ≤ 20 → M2 (915 + i) m = dR (gdS c s L) (nSt c) i m) → (∀ j, j < m → M2 (915 + q) j = dR (gdS c s L) (nSt c) q j) → Wp (d + 5) 223 51 [vR 440, vI (q : Int), vI (m : Int), v, v'] [] M2 K Q := by
        intro fm
        induction fm with
        | zero =>
          intro m hm v v' M2 x2 f2 hB2 hq2
          refine u223_51 hK x2 ⟨fun _ => ?_, fun h => absurd (by omega) h⟩
          rw [w32_id (z := (q : Int) + -1) (by omega), show (q : Int) + -1 = (q : Int) - 1 by omega]
          refine ih q (by omega) (by omega) _ _ _ M2 x2 f2 (fun i m' h1 h2 h3 => ?_)
          by_cases hiq : i = q
          · subst hiq; exact hq2 m' (by omega)
          · exact hB2 i m' (by omega) h2 h3
        | succ fm ihm =>
          intro m hm v v' M2 x2 f2 hB2 hq2
          refine u223_51 hK x2 ⟨fun h => absurd h (by omega), fun _ => ?_⟩
          have rg := fun k => fdS_rg (m := m) (D := dR (gdS c s L) (nSt c) (q + 1)) (gr q) (dR_rg hN gr) (by omega) k
          have choice : ∀ fk k, k + fk = m + 1 → ∀ M3, FX M3 → FrDm M M3 → (∀ i m, q + 1 ≤ i → i ≤ nSt c → m ≤ 20 → M3 (915 + i) m = dR (gdS c s L) (nSt c) i m) → (∀ j, j < m → M3 (915 + q) j = dR (gdS c s L) (nSt c) q j) → Wp (d + 5) 223 62 [vR 440, vI (q : Int), vI (m : Int), vI (fdS (gdS c s L q) (dR (gdS c s L) (nSt c) (q + 1)) m k).1, vI (k : Int)] [] M3 K Q := by
            intro fk
            induction fk with
            | zero =>
              intro k hk M3 x3 f3 hB3 hq3
              have hkm : k = m + 1 := by omega
              subst hkm
              refine u223_62 hK x3 ⟨fun _ => ⟨by omega, by omega, ?_⟩, fun h => absurd (by omega) h⟩
              rw [Int.toNat_natCast, Int.toNat_natCast, w1 (by omega)]
              refine ihm (m + 1) (by omega) _ _ _ (x3.set (nfa (gone_o q (by omega)).1 _)) (f3.tr (FrDm.mem (by omega))) (fun i m' h1 h2 h3 => (ms_na (by omega)).trans (hB3 i m' h1 h2 h3)) (fun j hj => ?_)
              by_cases hjm : j = m
              · subst hjm; rw [ms_eq]; exact (dR_s hqN j).symm
              · rw [ms_nk hjm]; exact hq3 j (by omega)
            | succ fk ihk =>
              intro k hk M3 x3 f3 hB3 hq3
              refine u223_62 hK x3 ⟨fun h => absurd h (by omega), fun _ => ?_⟩
              refine g222 hK x3 (h.q f3.q) hqN (by omega) (fun M4 x4 f4 => Bk_v ?_)
              have f4' := f3.tr f4.dm
              have hB4 : ∀ i m, q + 1 ≤ i → i ≤ nSt c → m ≤ 20 → M4 (915 + i) m = dR (gdS c s L) (nSt c) i m := fun i m h1 h2 h3 => (f4 _ _ (by omega) (by omega)).trans (hB3 i m h1 h2 h3)
              have hq4 : ∀ j, j < m → M4 (915 + q) j = dR (gdS c s L) (nSt c) q j := fun j hj => (f4 _ _ (by omega) (by omega)).trans (hq3 j hj)
              have hn := fd1 (g := gdS c s L q) (D := dR (gdS c s L) (nSt c) (q + 1)) (m := m) (k := k)
              refine u223_75 hK x4 ?_
              have e5 := hB4 (q + 1) (m - k) (by omega) (by omega) (by omega)
              rw [iq7 (by omega), im21 (by omega), e5]
              refine ⟨fun h9 => ?_, fun h9 => ⟨bq7 (by omega), bm21 (by omega), fun h8 => ?_, fun h8 => ?_⟩⟩
              · rw [if_neg (fun h => h.1 h9)] at hn
                rw [w1 (by omega), ← hn]
                exact ihk (k + 1) (by omega) M4 x4 f4' hB4 hq4
              · rw [if_neg (fun h => h.2 h8)] at hn
                rw [w1 (by omega), ← hn]
                exact ihk (k + 1) (by omega) M4 x4 f4' hB4 hq4
              · refine g222 hK x4 (h.q f4'.q) hqN (by omega) (fun M5 x5 f5 => Bk_v ?_)
                refine u223_104 hK x5 ?_
                rw [iq7 (by omega), im21 (by omega)]
                have hB5 : ∀ i m, q + 1 ≤ i → i ≤ nSt c → m ≤ 20 → M5 (915 + i) m = dR (gdS c s L) (nSt c) i m := fun i m h1 h2 h3 => (f5 _ _ (by omega) (by omega)).trans (hB4 i m h1 h2 h3)
                have hq5 : ∀ j, j < m → M5 (915 + q) j = dR (gdS c s L) (nSt c) q j := fun j hj => (f5 _ _ (by omega) (by omega)).trans (hq4 j hj)
                have g1 := gr q k
                have g2 := dR_rg (p := q + 1) hN gr (m - k)
                rw [hB5 (q + 1) (m - k) (by omega) (by omega) (by omega), w32_id (z := gdS c s L q k + dR (gdS c s L) (nSt c) (q + 1) (m - k)) (by omega)]
                rw [if_pos ⟨h9, h8⟩] at hn
                rw [w1 (i := k) (by omega), ← hn]
                exact ⟨bq7 (by omega), bm21 (by omega), ihk (k + 1) (by omega) M5 x5 (f4'.tr f5.dm) hB5 hq5⟩
          exact choice (m + 1) 0 (by omega) M2 x2 f2 hB2 hq2
      exact cell 21 0 rfl _ _ M1 x1 f1 hB (fun j hj => absurd hj (by omega))
  have loop : ∀ f i, i + f = 21 → ∀ M1, FX M1 → FrDm M M1 → (∀ m, m < i → M1 (915 + nSt c) m = if m = 0 then 0 else -1) → Wp (d + 5) 223 2 [vR 440, vI (i : Int), vU, vU, vU] [] M1 K Q := by
    intro f
    induction f with
    | zero =>
      intro i hi M1 x1 f1 w1'
      refine u223_2 hK x1 ⟨fun _ => ?_, fun h => absurd (by omega) h⟩
      rw [(h.q f1.q).n, w32_id (by omega)]
      refine rows (nSt c) (nSt c) rfl (Nat.le_refl _) vU vU vU M1 x1 f1 (fun i' m h1 h2 h3 => ?_)
      have : i' = nSt c := by omega
      subst this
      rw [w1' m (by omega), dR_N]
    | succ f ih =>
      intro i hi M1 x1 f1 w1'
      have stepM : ∀ v : Int, v = (if i = 0 then 0 else -1) → Wp (d + 5) 223 2 [vR 440, vI (w32 ((i : Int) + 1)), vU, vU, vU] [] (mset M1 (915 + nSt c) i v) K Q := by
        intro v hv
        rw [w1 (by omega)]
        refine ih (i + 1) (by omega) _ (x1.set (nfa (gone_o (nSt c) (by omega)).1 _)) (f1.tr (FrDm.mem (by omega))) (fun m hm => ?_)
        by_cases hmi : m = i
        · subst hmi; rw [ms_eq]; exact hv
        · rw [ms_nk hmi]; exact w1' m (by omega)
      refine u223_2 hK x1 ⟨fun h => absurd h (by omega), fun _ => ?_⟩
      rw [(h.q f1.q).n, Int.toNat_natCast, Int.toNat_natCast]
      exact ⟨by omega, fun h => ⟨by omega, stepM (-1) (by rw [if_neg (by omega)])⟩, fun h => ⟨by omega, stepM 0 (by rw [if_pos (by omega)])⟩⟩
  exact loop 21 0 rfl M hX (fun _ _ _ _ _ => rfl) (fun m hm => absurd hm (by omega))
end MD
