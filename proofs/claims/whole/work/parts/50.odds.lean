theorem u50_0 {d : Nat} {l0 : Nat} {l1 : Int} {l2 : Int} {M : Mem} {K : KK} {Q : RR → Mem → KK → Prop} (hK : K.1 = 923) (hX : FX M) (k0 : isO 923 l0 2 = true) (h : ∃ L3 : LC, (CR (mset (mset M (l0 + 1) 2 l1) (l0 + 1) 3 l2) l0 L3 ∧ Vd L3 0 1) ∧ (∀ (M7 : Mem), FX M7 → FrK l0 (mset (mset M (l0 + 1) 2 l1) (l0 + 1) 3 l2) M7 → Q (.inl (some (vI (jmax (0 : Int) (w32 (l1 - (clmp ((evA ((mset (mset M (l0 + 1) 2 l1) (l0 + 1) 3 l2) (l0 + 1)) L3).2 0)))))))) M7 K)) : Wp (d + 2) 50 0 [vR l0, vI l1, vI l2] [] M K Q := by
  refine r_aload_n c50_0 rfl ?_
  refine r_getR c50_1 (oK hK k0) (fx2_0 hX k0) (by omega) ?_
  refine r_iconst c50_4 ?_
  refine r_iload_n c50_5 rfl ?_
  refine r_ias c50_6 (oK hK (q2_0 k0)) (bd (z2_0 k0) (by decide)) ?_
  have x1 := FX.set (v := l1) (a := (l0 + 1)) (k := 2) hX (nfa (q2_0 k0) _)
  refine r_aload_n c50_7 rfl ?_
  refine r_getR c50_8 (oK hK k0) (fx2_0 x1 k0) (by omega) ?_
  refine r_iconst c50_11 ?_
  refine r_iload_n c50_12 rfl ?_
  refine r_ias c50_13 (oK hK (q2_0 k0)) (bd (z2_0 k0) (by decide)) ?_
  have x2 := FX.set (v := l2) (a := (l0 + 1)) (k := 3) x1 (nfa (q2_0 k0) _)
  refine r_iconst c50_14 ?_
  refine r_iload_n c50_15 rfl ?_
  refine r_aload_n c50_16 rfl ?_
  obtain ⟨L3, h⟩ := h
  obtain ⟨p4, h⟩ := h
  refine r_call c50_17 rfl rfl (Nat.le_of_ble_eq_true rfl) (okc_r rfl rfl (oK hK k0)) (g26 hK x2 k0 p4 (fun M7 x5 p6 => Bk_v ?_))
  replace h := h M7 x5 p6
  refine r_isub c50_20 ?_
  refine r_max c50_21 (Nat.le_of_ble_eq_true rfl) ?_
  exact r_iret c50_24 (Or.inl rfl) h
theorem u226_0 {d : Nat} {l1 : Nat} {l2 : Int} {l3 : Int} {l4 : Int} {l5 : Int} {l6 : Int} {l7 : Int} {l8 : Int} {l9 : Int} {M : Mem} {K : KK} {Q : RR → Mem → KK → Prop} (hK : K.1 = 923) (hX : FX M)  (h : (¬ l5 = (0 : Int) → isO 923 l1 20 = true ∧ (0 ≤ (w32 ((0 : Int) + l2)) ∧ (w32 ((0 : Int) + l2)) < (ln l1 : Int)) ∧ ∃ c5 : Mem, ∃ L6 : LC, ∃ p7 : Nat, (l2 = (p7 : Int) ∧ MCc M c5 ∧ CW c5 ∧ LM M L6 ∧ p7 < nSt c5 ∧ 0 ≤ (M l1 (Int.toNat (w32 ((0 : Int) + l2)))) ∧ (M l1 (Int.toNat (w32 ((0 : Int) + l2)))) + c5 2 p7 ≤ c5 0 0) ∧ (∀ (M11 : Mem), FX M11 → FrV M M11 → (0 ≤ (w32 ((0 : Int) + l2)) ∧ (w32 ((0 : Int) + l2)) < (ln l1 : Int)) ∧ ∃ c13 : Mem, ∃ L14 : LC, ∃ p15 : Nat, (l2 = (p15 : Int) ∧ MCc M11 c13 ∧ CW c13 ∧ LM M11 L14 ∧ p15 < nSt c13 ∧ 0 ≤ (M11 l1 (Int.toNat (w32 ((0 : Int) + l2)))) ∧ (M11 l1 (Int.toNat (w32 ((0 : Int) + l2)))) + c13 2 p15 ≤ c13 0 0) ∧ (∀ (M19 : Mem), FX M19 → FrV M11 M19 → Wm (d + 3) 226 [vR 440, vR l1, vI l2, vI l3, vI l4, vI (w32 (l5 - (1 : Int))), vI (max (0 : Int) (w32 (l6 - (whB c13 L14 p15 (M11 l1 (Int.toNat (w32 ((0 : Int) + l2)))) l6 l4 l8 l9 l7)))), vI (w32 (l7 + (1 : Int))), vI (0 : Int), vI (0 : Int)] M19 K (Bk (d + 3) 226 93 96 226 [vR 440, vR l1, vI l2, vI l3, vI l4, vI l5, vI l6, vI l7, vI l8, vI l9, vI (max (0 : Int) (w32 (l6 - (whB c5 L6 p7 (M l1 (Int.toNat (w32 ((0 : Int) + l2)))) l6 (0 : Int) l8 l9 l7)))), vI (max (0 : Int) (w32 (l6 - (whB c13 L14 p15 (M11 l1 (Int.toNat (w32 ((0 : Int) + l2)))) l6 l4 l8 l9 l7))))] [vL l3] Q)))) ∧ (l5 = (0 : Int) → (¬ l6 = (0 : Int) → Q (.inl (some (vL (0 : Int)))) M K) ∧ (l6 = (0 : Int) → Q (.inl (some (vL (1 : Int)))) M K))) : Wp (d + 4) 226 0 [vR 440, vR l1, vI l2, vI l3, vI l4, vI l5, vI l6, vI l7, vI l8, vI l9, vU, vU] [] M K Q := by
  refine r_iload c226_0 rfl ?_
  refine r_ifP (P := ¬ l5 = (0 : Int)) c226_2 rfl (fun hc1 => ?_) (fun hc1 => ?_)
  · replace h := h.1 hc1
    refine r_iconst c226_16 ?_
    refine r_iload c226_17 rfl ?_
    refine r_aload_n c226_19 rfl ?_
    refine r_iload_n c226_20 rfl ?_
    refine r_aload_n c226_21 rfl ?_
    refine r_iconst c226_22 ?_
    refine r_iload_n c226_23 rfl ?_
    refine r_iadd c226_24 ?_
    obtain ⟨o3, h⟩ := h
    obtain ⟨s4, h⟩ := h
    refine r_iae c226_25 (oK hK o3) s4 rfl ?_
    refine r_iload c226_26 rfl ?_
    refine r_iconst c226_28 ?_
    refine r_iload c226_29 rfl ?_
    refine r_iload c226_31 rfl ?_
    refine r_iload c226_33 rfl ?_
    obtain ⟨c5, h⟩ := h
    obtain ⟨L6, h⟩ := h
    obtain ⟨p7, h⟩ := h
    obtain ⟨p8, h⟩ := h
    refine r_call c226_35 rfl rfl (Nat.le_of_ble_eq_true rfl) (okc_r rfl rfl (oK hK o440)) (g194 hK hX p8 (fun M11 x9 p10 => Bk_v ?_))
    replace h := h M11 x9 p10
    refine r_isub c226_38 ?_
    refine r_call c226_39 rfl rfl (Nat.le_of_ble_eq_true rfl) (okc_s rfl rfl rfl) (g155 hK x9  (Bk_v ?_))
    refine r_istore c226_42 (Nat.le_of_ble_eq_true rfl) ?_
    refine r_iconst c226_44 ?_
    refine r_iload c226_45 rfl ?_
    refine r_aload_n c226_47 rfl ?_
    refine r_iload_n c226_48 rfl ?_
    refine r_aload_n c226_49 rfl ?_
    refine r_iconst c226_50 ?_
    refine r_iload_n c226_51 rfl ?_
    refine r_iadd c226_52 ?_
    obtain ⟨s12, h⟩ := h
    refine r_iae c226_53 (oK hK o3) s12 rfl ?_
    refine r_iload c226_54 rfl ?_
    refine r_iload c226_56 rfl ?_
    refine r_iload c226_58 rfl ?_
    refine r_iload c226_60 rfl ?_
    refine r_iload c226_62 rfl ?_
    obtain ⟨c13, h⟩ := h
    obtain ⟨L14, h⟩ := h
    obtain ⟨p15, h⟩ := h
    obtain ⟨p16, h⟩ := h
    refine r_call c226_64 rfl rfl (Nat.le_of_ble_eq_true rfl) (okc_r rfl rfl (oK hK o440)) (g194 hK x9 p16 (fun M19 x17 p18 => Bk_v ?_))
    replace h := h M19 x17 p18
    refine r_isub c226_67 ?_
    refine r_call c226_68 rfl rfl (Nat.le_of_ble_eq_true rfl) (okc_s rfl rfl rfl) (g155 hK x17  (Bk_v ?_))
    refine r_istore c226_71 (Nat.le_of_ble_eq_true rfl) ?_
    refine r_iload_n c226_73 rfl ?_
    refine r_i2l c226_74 ?_
    refine r_aload_n c226_75 rfl ?_
    refine r_aload_n c226_76 rfl ?_
    refine r_iload_n c226_77 rfl ?_
    refine r_iload_n c226_78 rfl ?_
    refine r_iload c226_79 rfl ?_
    refine r_iload c226_81 rfl ?_
    refine r_iconst c226_83 ?_
    refine r_isub c226_84 ?_
    refine r_iload c226_85 rfl ?_
    refine r_iload c226_87 rfl ?_
    refine r_iconst c226_89 ?_
    refine r_iadd c226_90 ?_
    refine r_iconst c226_91 ?_
    refine r_iconst c226_92 ?_
    exact r_call c226_93 rfl rfl (Nat.le_of_ble_eq_true rfl) (okc_r rfl rfl (oK hK o440)) h
  · have hc2 := Classical.not_not.mp hc1
    replace h := h.2 hc2
    refine r_iload c226_5 rfl ?_
    refine r_ifP (P := ¬ l6 = (0 : Int)) c226_7 rfl (fun hc20 => ?_) (fun hc20 => ?_)
    · replace h := h.1 hc20
      refine r_lconst c226_14 ?_
      exact r_lret c226_15 h
    · have hc21 := Classical.not_not.mp hc20
      replace h := h.2 hc21
      refine r_lconst c226_10 ?_
      refine r_goto c226_11 ?_
      exact r_lret c226_15 h
theorem u226_96 {d : Nat} {l1 : Nat} {l2 : Int} {l3 : Int} {l4 : Int} {l5 : Int} {l6 : Int} {l7 : Int} {l8 : Int} {l9 : Int} {l10 : Int} {l11 : Int} {t0 : Int} {t1 : Int} {M : Mem} {K : KK} {Q : RR → Mem → KK → Prop} (hK : K.1 = 923) (hX : FX M)  (h : Wm (d + 3) 226 [vR 440, vR l1, vI l2, vI l3, vI l4, vI (w32 (l5 - (1 : Int))), vI l10, vI (w32 (l7 + (1 : Int))), vI (0 : Int), vI (0 : Int)] M K (Bk (d + 3) 226 120 123 226 [vR 440, vR l1, vI l2, vI l3, vI l4, vI l5, vI l6, vI l7, vI l8, vI l9, vI l10, vI l11] [vL (w32 ((16 : Int) - l3)), vL (w64 (t0 * t1))] Q)) : Wp (d + 4) 226 96 [vR 440, vR l1, vI l2, vI l3, vI l4, vI l5, vI l6, vI l7, vI l8, vI l9, vI l10, vI l11] [vL t1, vL t0] M K Q := by
  refine r_lmul c226_96 ?_
  refine r_bipush c226_97 ?_
  refine r_iload_n c226_99 rfl ?_
  refine r_isub c226_100 ?_
  refine r_i2l c226_101 ?_
  refine r_aload_n c226_102 rfl ?_
  refine r_aload_n c226_103 rfl ?_
  refine r_iload_n c226_104 rfl ?_
  refine r_iload_n c226_105 rfl ?_
  refine r_iload c226_106 rfl ?_
  refine r_iload c226_108 rfl ?_
  refine r_iconst c226_110 ?_
  refine r_isub c226_111 ?_
  refine r_iload c226_112 rfl ?_
  refine r_iload c226_114 rfl ?_
  refine r_iconst c226_116 ?_
  refine r_iadd c226_117 ?_
  refine r_iconst c226_118 ?_
  refine r_iconst c226_119 ?_
  exact r_call c226_120 rfl rfl (Nat.le_of_ble_eq_true rfl) (okc_r rfl rfl (oK hK o440)) h
theorem u226_123 {d : Nat} {l1 : Nat} {l2 : Int} {l3 : Int} {l4 : Int} {l5 : Int} {l6 : Int} {l7 : Int} {l8 : Int} {l9 : Int} {l10 : Int} {l11 : Int} {t0 : Int} {t1 : Int} {t2 : Int} {M : Mem} {K : KK} {Q : RR → Mem → KK → Prop} (hK : K.1 = 923) (hX : FX M)  (h : Q (.inl (some (vL (w64 (t0 + (w64 (t1 * t2))))))) M K) : Wp (d + 4) 226 123 [vR 440, vR l1, vI l2, vI l3, vI l4, vI l5, vI l6, vI l7, vI l8, vI l9, vI l10, vI l11] [vL t2, vL t1, vL t0] M K Q := by
  refine r_lmul c226_123 ?_
  refine r_ladd c226_124 ?_
  exact r_lret c226_125 h
