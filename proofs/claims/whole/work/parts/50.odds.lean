theorem u50_0 {d : Nat} {l0 : Nat} {l1 : Int} {l2 : Int} {M : Mem} {K : KK} {Q : RR → Mem → KK → Prop} (hK : K.1 = 922) (hX : FX M) (k0 : isO 922 l0 2 = true) (h : ∃ L3 : LC, (CR (mset (mset M (l0 + 1) 2 l1) (l0 + 1) 3 l2) l0 L3 ∧ Vd L3 0 1) ∧ (∀ (M7 : Mem), FX M7 → FrK l0 (mset (mset M (l0 + 1) 2 l1) (l0 + 1) 3 l2) M7 → Q (.inl (some (vI (jmax (0 : Int) (w32 (l1 - (clmp ((evA ((mset (mset M (l0 + 1) 2 l1) (l0 + 1) 3 l2) (l0 + 1)) L3).2 0)))))))) M7 K)) : Wp (d + 2) 50 0 [vR l0, vI l1, vI l2] [] M K Q := by
  refine r_aload_n c50_0 rfl ?_
  refine r_getR c50_1 (oK hK k0) (fx2_0 hX k0) (by omega) ?_
  refine r_iconst c50_4 ?_
  refine r_iload_n c50_5 rfl ?_
  refine r_ias c50_6 (oK hK (q2_0 k0)) (bd (z2_0 k0) (by decide)) ?_
  have x1 := FX.set (v := l1) (a := (l0 + 1)) (k := 2) hX (nfa (q2_0 k0) _)
  refine r_aload_n c50_7 rfl ?_
  refine r_getR c50_8 (oK hK k0) (fx2_0 x1 k0) (by omega) ?_
  refine r_iconst c50_11 ?_
  refine r_iload_n c50_12 rfl ?_
  refine r_ias c50_13 (oK hK (q2_0 k0)) (bd (z2_0 k0) (by decide)) ?_
  have x2 := FX.set (v := l2) (a := (l0 + 1)) (k := 3) x1 (nfa (q2_0 k0) _)
  refine r_iconst c50_14 ?_
  refine r_iload_n c50_15 rfl ?_
  refine r_aload_n c50_16 rfl ?_
  obtain ⟨L3, h⟩ := h
  obtain ⟨p4, h⟩ := h
  refine r_call c50_17 rfl rfl (Nat.le_of_ble_eq_true rfl) (okc_r rfl rfl (oK hK k0)) (g26 hK x2 k0 p4 (fun M7 x5 p6 => Bk_v ?_))
  replace h := h M7 x5 p6
  refine r_isub c50_20 ?_
  refine r_max c50_21 (Nat.le_of_ble_eq_true rfl) ?_
  exact r_iret c50_24 (Or.inl rfl) h
theorem u226_0 {d : Nat} {l1 : Nat} {l2 : Int} {l3 : Int} {l4 : Int} {l5 : Int} {l6 : Int} {l7 : Int} {l8 : Int} {l9 : Int} {M : Mem} {K : KK} {Q : RR → Mem → KK → Prop} (hK : K.1 = 922) (hX : FX M)  (h : (¬ l5 = (0 : Int) → isO 922 l1 20 = true ∧ (0 ≤ (w32 ((0 : Int) + l2)) ∧ (w32 ((0 : Int) + l2)) < (ln l1 : Int)) ∧ ∃ c5 : Mem, ∃ L6 : LC, ∃ p7 : Nat, (l2 = (p7 : Int) ∧ MCc M c5 ∧ CW c5 ∧ LM M L6 ∧ p7 < nSt c5 ∧ 0 ≤ (M l1 (Int.toNat (w32 ((0 : Int) + l2)))) ∧ (M l1 (Int.toNat (w32 ((0 : Int) + l2)))) + c5 2 p7 ≤ c5 0 0) ∧ (∀ (M11 : Mem), FX M11 → FrV M M11 → (0 ≤ (w32 ((0 : Int) + l2)) ∧ (w32 ((0 : Int) + l2)) < (ln l1 : Int)) ∧ ∃ c13 : Mem, ∃ L14 : LC, ∃ p15 : Nat, (l2 = (p15 : Int) ∧ MCc M11 c13 ∧ CW c13 ∧ LM M11 L14 ∧ p15 < nSt c13 ∧ 0 ≤ (M11 l1 (Int.toNat (w32 ((0 : Int) + l2)))) ∧ (M11 l1 (Int.toNat (w32 ((0 : Int) + l2)))) + c13 2 p15 ≤ c13 0 0) ∧ (∀ (M19 : Mem), FX M19 → FrV M11 M19 → Wm (d + 3) 226 [vR 439, vR l1, vI l2, vI l3, vI l4, vI (w32 (l5 - (1 : Int))), vI (max (0 : Int) (w32 (l6 - (whB c13 L14 p15 (M11 l1 (Int.toNat (w32 ((0 : Int) + l2)))) l6 l4 l8 l9 l7)))), vI (w32 (l7 + (1 : Int))), vI (0 : Int), vI (0 : Int)] M19 K (Bk (d + 3) 226 93 96 226 [vR 439, vR l1, vI l2, vI l3, vI l4, vI l5, vI l6, vI l7, vI l8, vI l9, vI (max (0 : Int) (w32 (l6 - (whB c5 L6 p7 (M l1 (Int.toNat (w32 ((0 : Int) + l2)))) l6 (0 : Int) l8 l9 l7)))), vI (max (0 : Int) (w32 (l6 - (whB c13 L14 p15 (M11 l1 (Int.toNat (w32 ((0 : Int) + l2)))) l6 l4 l8 l9 l7))))] [vL l3] Q)))) ∧ (l5 = (0 : Int) → (¬ l6 = (0 : Int) → Q (.inl (some (vL (0 : Int)))) M K) ∧ (l6 = (0 : Int) → Q (.inl (some (vL (1 : Int)))) M K))) : Wp (d + 4) 226 0 [vR 439, vR l1, vI l2, vI l3, vI l4, vI l5, vI l6, vI l7, vI l8, vI l9, vU, vU] [] M K Q := by
  refine r_iload c226_0 rfl ?_
  refine r_ifP (P := ¬ l5 = (0 : Int)) c226_2 rfl (fun hc1 => ?_) (fun hc1 => ?_)
  · replace h := h.1 hc1
    refine r_iconst c226_16 ?_
    refine r_iload c226_17 rfl ?_
    refine r_aload_n c226_19 rfl ?_
    refine r_iload_n c226_20 rfl ?_
    refine r_aload_n c226_21 rfl ?_
    refine r_iconst c226_22 ?_
    refine r_iload_n c226_23 rfl ?_
    refine r_iadd c226_24 ?_
    obtain ⟨o3, h⟩ := h
    obtain ⟨s4, h⟩ := h
    refine r_iae c226_25 (oK hK o3) s4 rfl ?_
    refine r_iload c226_26 rfl ?_
    refine r_iconst c226_28 ?_
    refine r_iload c226_29 rfl ?_
    refine r_iload c226_31 rfl ?_
    refine r_iload c226_33 rfl ?_
    obtain ⟨c5, h⟩ := h
    obtain ⟨L6, h⟩ := h
    obtain ⟨p7, h⟩ := h
    obtain ⟨p8, h⟩ := h
    refine r_call c226_35 rfl rfl (Nat.le_of_ble_eq_true rfl) (okc_r rfl rfl (oK hK o439)) (g194 hK hX p8 (fun M11 x9 p10 => Bk_v ?_))
    replace h := h M11 x9 p10
    refine r_isub c226_38 ?_
    refine r_call c226_39 rfl rfl (Nat.le_of_ble_eq_true rfl) (okc_s rfl rfl rfl) (g155 hK x9  (Bk_v ?_))
    refine r_istore c226_42 (Nat.le_of_ble_eq_true rfl) ?_
    refine r_iconst c226_44 ?_
    refine r_iload c226_45 rfl ?_
    refine r_aload_n c226_47 rfl ?_
    refine r_iload_n c226_48 rfl ?_
    refine r_aload_n c226_49 rfl ?_
    refine r_iconst c226_50 ?_
    refine r_iload_n c226_51 rfl ?_
    refine r_iadd c226_52 ?_
    obtain ⟨s12, h⟩ := h
    refine r_iae c226_53 (oK hK o3) s12 rfl ?_
    refine r_iload c226_54 rfl ?_
    refine r_iload c226_56 rfl ?_
    refine r_iload c226_58 rfl ?_
    refine r_iload c226_60 rfl ?_
    refine r_iload c226_62 rfl ?_
    obtain ⟨c13, h⟩ := h
    obtain ⟨L14, h⟩ := h
    obtain ⟨p15, h⟩ := h
    obtain ⟨p16, h⟩ := h
    refine r_call c226_64 rfl rfl (Nat.le_of_ble_eq_true rfl) (okc_r rfl rfl (oK hK o439)) (g194 hK x9 p16 (fun M19 x17 p18 => Bk_v ?_))
    replace h := h M19 x17 p18
    refine r_isub c226_67 ?_
    refine r_call c226_68 rfl rfl (Nat.le_of_ble_eq_true rfl) (okc_s rfl rfl rfl) (g155 hK x17  (Bk_v ?_))
    refine r_istore c226_71 (Nat.le_of_ble_eq_true rfl) ?_
    refine r_iload_n c226_73 rfl ?_
    refine r_i2l c226_74 ?_
    refine r_aload_n c226_75 rfl ?_
    refine r_aload_n c226_76 rfl ?_
    refine r_iload_n c226_77 rfl ?_
    refine r_iload_n c226_78 rfl ?_
    refine r_iload c226_79 rfl ?_
    refine r_iload c226_81 rfl ?_
    refine r_iconst c226_83 ?_
    refine r_isub c226_84 ?_
    refine r_iload c226_85 rfl ?_
    refine r_iload c226_87 rfl ?_
    refine r_iconst c226_89 ?_
    refine r_iadd c226_90 ?_
    refine r_iconst c226_91 ?_
    refine r_iconst c226_92 ?_
    exact r_call c226_93 rfl rfl (Nat.le_of_ble_eq_true rfl) (okc_r rfl rfl (oK hK o439)) h
  · have hc2 := Classical.not_not.mp hc1
    replace h := h.2 hc2
    refine r_iload c226_5 rfl ?_
    refine r_ifP (P := ¬ l6 = (0 : Int)) c226_7 rfl (fun hc20 => ?_) (fun hc20 => ?_)
    · replace h := h.1 hc20
      refine r_lconst c226_14 ?_
      exact r_lret c226_15 h
    · have hc21 := Classical.not_not.mp hc20
      replace h := h.2 hc21
      refine r_lconst c226_10 ?_
      refine r_goto c226_11 ?_
      exact r_lret c226_15 h
theorem u226_96 {d : Nat} {l1 : Nat} {l2 : Int} {l3 : Int} {l4 : Int} {l5 : Int} {l6 : Int} {l7 : Int} {l8 : Int} {l9 : Int} {l10 : Int} {l11 : Int} {t0 : Int} {t1 : Int} {M : Mem} {K : KK} {Q : RR → Mem → KK → Prop} (hK : K.1 = 922) (hX : FX M)  (h : Wm (d + 3) 226 [vR 439, vR l1, vI l2, vI l3, vI l4, vI (w32 (l5 - (1 : Int))), vI l10, vI (w32 (l7 + (1 : Int))), vI (0 : Int), vI (0 : Int)] M K (Bk (d + 3) 226 120 123 226 [vR 439, vR l1, vI l2, vI l3, vI l4, vI l5, vI l6, vI l7, vI l8, vI l9, vI l10, vI l11] [vL (w32 ((16 : Int) - l3)), vL (w64 (t0 * t1))] Q)) : Wp (d + 4) 226 96 [vR 439, vR l1, vI l2, vI l3, vI l4, vI l5, vI l6, vI l7, vI l8, vI l9, vI l10, vI l11] [vL t1, vL t0] M K Q := by
  refine r_lmul c226_96 ?_
  refine r_bipush c226_97 ?_
  refine r_iload_n c226_99 rfl ?_
  refine r_isub c226_100 ?_
  refine r_i2l c226_101 ?_
  refine r_aload_n c226_102 rfl ?_
  refine r_aload_n c226_103 rfl ?_
  refine r_iload_n c226_104 rfl ?_
  refine r_iload_n c226_105 rfl ?_
  refine r_iload c226_106 rfl ?_
  refine r_iload c226_108 rfl ?_
  refine r_iconst c226_110 ?_
  refine r_isub c226_111 ?_
  refine r_iload c226_112 rfl ?_
  refine r_iload c226_114 rfl ?_
  refine r_iconst c226_116 ?_
  refine r_iadd c226_117 ?_
  refine r_iconst c226_118 ?_
  refine r_iconst c226_119 ?_
  exact r_call c226_120 rfl rfl (Nat.le_of_ble_eq_true rfl) (okc_r rfl rfl (oK hK o439)) h
theorem u226_123 {d : Nat} {l1 : Nat} {l2 : Int} {l3 : Int} {l4 : Int} {l5 : Int} {l6 : Int} {l7 : Int} {l8 : Int} {l9 : Int} {l10 : Int} {l11 : Int} {t0 : Int} {t1 : Int} {t2 : Int} {M : Mem} {K : KK} {Q : RR → Mem → KK → Prop} (hK : K.1 = 922) (hX : FX M)  (h : Q (.inl (some (vL (w64 (t0 + (w64 (t1 * t2))))))) M K) : Wp (d + 4) 226 123 [vR 439, vR l1, vI l2, vI l3, vI l4, vI l5, vI l6, vI l7, vI l8, vI l9, vI l10, vI l11] [vL t2, vL t1, vL t0] M K Q := by
  refine r_lmul c226_123 ?_
  refine r_ladd c226_124 ?_
  exact r_lret c226_125 h
theorem u227_0 {d : Nat} {l1 : Int} {l2 : Int} {l3 : Int} {l4 : Int} {l5 : Int} {M : Mem} {K : KK} {Q : RR → Mem → KK → Prop} (hK : K.1 = 922) (hX : FX M)  (h : Wm d 208 [vR 439, vI l1] (mset M 439 0 (0 : Int)) K (Bk d 227 8 11 208 [vR 439, vI l1, vI l2, vI l3, vI l4, vI l5, vU, vU, vU, vU, vU, vU, vU, vU, vU, vU] [vR 439] Q)) : Wp (d + 1) 227 0 [vR 439, vI l1, vI l2, vI l3, vI l4, vI l5, vU, vU, vU, vU, vU, vU, vU, vU, vU, vU] [] M K Q := by
  refine r_aload_n c227_0 rfl ?_
  refine r_iconst c227_1 ?_
  refine r_putI c227_2 (oK hK o439) ?_
  have x1 := FX.set (v := (0 : Int)) (a := 439) (k := 0) hX (by decide +kernel)
  refine r_aload_n c227_5 rfl ?_
  refine r_aload_n c227_6 rfl ?_
  refine r_iload_n c227_7 rfl ?_
  exact r_call c227_8 rfl rfl (Nat.le_of_ble_eq_true rfl) (okc_r rfl rfl (oK hK o439)) h
theorem u227_11 {d : Nat} {l1 : Int} {l2 : Int} {l3 : Int} {l4 : Int} {l5 : Int} {t1 : Int} {M : Mem} {K : KK} {Q : RR → Mem → KK → Prop} (hK : K.1 = 922) (hX : FX M)  (h : (¬ t1 = (0 : Int) → Wm d 152 [vR 439, vI (0 : Int), vI (1 : Int), vI (0 : Int)] M K (Bk d 227 21 24 152 [vR 439, vI l1, vI l2, vI l3, vI l4, vI l5, vU, vU, vU, vU, vU, vU, vU, vU, vU, vU] [] Q)) ∧ (t1 = (0 : Int) → Wm d 152 [vR 439, vI (1 : Int), vI (1 : Int), vI (0 : Int)] M K (Bk d 227 21 24 152 [vR 439, vI l1, vI l2, vI l3, vI l4, vI l5, vU, vU, vU, vU, vU, vU, vU, vU, vU, vU] [] Q))) : Wp (d + 1) 227 11 [vR 439, vI l1, vI l2, vI l3, vI l4, vI l5, vU, vU, vU, vU, vU, vU, vU, vU, vU, vU] [vI t1, vR 439] M K Q := by
  refine r_ifP (P := ¬ t1 = (0 : Int)) c227_11 rfl (fun hc1 => ?_) (fun hc1 => ?_)
  · replace h := h.1 hc1
    refine r_iconst c227_18 ?_
    refine r_iconst c227_19 ?_
    refine r_iconst c227_20 ?_
    exact r_call c227_21 rfl rfl (Nat.le_of_ble_eq_true rfl) (okc_r rfl rfl (oK hK o439)) h
  · have hc2 := Classical.not_not.mp hc1
    replace h := h.2 hc2
    refine r_iconst c227_14 ?_
    refine r_goto c227_15 ?_
    refine r_iconst c227_19 ?_
    refine r_iconst c227_20 ?_
    exact r_call c227_21 rfl rfl (Nat.le_of_ble_eq_true rfl) (okc_r rfl rfl (oK hK o439)) h
theorem u227_24 {d : Nat} {l1 : Int} {l2 : Int} {l3 : Int} {l4 : Int} {l5 : Int} {t0 : Int} {M : Mem} {K : KK} {Q : RR → Mem → KK → Prop} (hK : K.1 = 922) (hX : FX M)  (h : (¬ t0 = (0 : Int) → Q (.inl (some (vL (0 : Int)))) M K) ∧ (t0 = (0 : Int) → (¬ ((0 : Int) ≤ l2 ∧ l2 ≤ (16 : Int)) → Wm d 152 [vR 439, vI (1 : Int), vI (2 : Int), vI (1 : Int)] M K (Bk d 227 76 79 152 [vR 439, vI l1, vI l2, vI l3, vI l4, vI l5, vU, vU, vU, vU, vU, vU, vU, vU, vU, vU] [] Q)) ∧ (((0 : Int) ≤ l2 ∧ l2 ≤ (16 : Int)) → (¬ ((0 : Int) ≤ l3 ∧ l3 ≤ (9 : Int)) → Wm d 152 [vR 439, vI (1 : Int), vI (2 : Int), vI (1 : Int)] M K (Bk d 227 76 79 152 [vR 439, vI l1, vI l2, vI l3, vI l4, vI l5, vU, vU, vU, vU, vU, vU, vU, vU, vU, vU] [] Q)) ∧ (((0 : Int) ≤ l3 ∧ l3 ≤ (9 : Int)) → (¬ ((0 : Int) ≤ l4 ∧ l4 ≤ (8 : Int)) → Wm d 152 [vR 439, vI (1 : Int), vI (2 : Int), vI (1 : Int)] M K (Bk d 227 76 79 152 [vR 439, vI l1, vI l2, vI l3, vI l4, vI l5, vU, vU, vU, vU, vU, vU, vU, vU, vU, vU] [] Q)) ∧ (((0 : Int) ≤ l4 ∧ l4 ≤ (8 : Int)) → (((0 : Int) ≤ l5 ∧ l5 ≤ (1 : Int)) → Wm d 152 [vR 439, vI (0 : Int), vI (2 : Int), vI (1 : Int)] M K (Bk d 227 76 79 152 [vR 439, vI l1, vI l2, vI l3, vI l4, vI l5, vU, vU, vU, vU, vU, vU, vU, vU, vU, vU] [] Q)) ∧ (¬ ((0 : Int) ≤ l5 ∧ l5 ≤ (1 : Int)) → Wm d 152 [vR 439, vI (1 : Int), vI (2 : Int), vI (1 : Int)] M K (Bk d 227 76 79 152 [vR 439, vI l1, vI l2, vI l3, vI l4, vI l5, vU, vU, vU, vU, vU, vU, vU, vU, vU, vU] [] Q))))))) : Wp (d + 1) 227 24 [vR 439, vI l1, vI l2, vI l3, vI l4, vI l5, vU, vU, vU, vU, vU, vU, vU, vU, vU, vU] [vI t0] M K Q := by
  refine r_ifP (P := ¬ t0 = (0 : Int)) c227_24 rfl (fun hc1 => ?_) (fun hc1 => ?_)
  · replace h := h.1 hc1
    refine r_lconst c227_82 ?_
    exact r_lret c227_83 h
  · have hc2 := Classical.not_not.mp hc1
    replace h := h.2 hc2
    refine r_aload_n c227_27 rfl ?_
    refine r_iload_n c227_28 rfl ?_
    refine r_iconst c227_29 ?_
    refine r_bipush c227_30 ?_
    refine r_call c227_32 rfl rfl (Nat.le_of_ble_eq_true rfl) (okc_s rfl rfl rfl) (g153 hK hX  (Bk_v ?_))
    refine r_ifP (P := ¬ ((0 : Int) ≤ l2 ∧ l2 ≤ (16 : Int))) c227_35 bI_eq (fun hc3 => ?_) (fun hc3 => ?_)
    · replace h := h.1 hc3
      refine r_iconst c227_69 ?_
      refine r_goto c227_70 ?_
      refine r_iconst c227_74 ?_
      refine r_iconst c227_75 ?_
      exact r_call c227_76 rfl rfl (Nat.le_of_ble_eq_true rfl) (okc_r rfl rfl (oK hK o439)) h
    · have hc4 := Classical.not_not.mp hc3
      replace h := h.2 hc4
      refine r_iload_n c227_38 rfl ?_
      refine r_iconst c227_39 ?_
      refine r_bipush c227_40 ?_
      refine r_call c227_42 rfl rfl (Nat.le_of_ble_eq_true rfl) (okc_s rfl rfl rfl) (g153 hK hX  (Bk_v ?_))
      refine r_ifP (P := ¬ ((0 : Int) ≤ l3 ∧ l3 ≤ (9 : Int))) c227_45 bI_eq (fun hc5 => ?_) (fun hc5 => ?_)
      · replace h := h.1 hc5
        refine r_iconst c227_69 ?_
        refine r_goto c227_70 ?_
        refine r_iconst c227_74 ?_
        refine r_iconst c227_75 ?_
        exact r_call c227_76 rfl rfl (Nat.le_of_ble_eq_true rfl) (okc_r rfl rfl (oK hK o439)) h
      · have hc6 := Classical.not_not.mp hc5
        replace h := h.2 hc6
        refine r_iload c227_48 rfl ?_
        refine r_iconst c227_50 ?_
        refine r_bipush c227_51 ?_
        refine r_call c227_53 rfl rfl (Nat.le_of_ble_eq_true rfl) (okc_s rfl rfl rfl) (g153 hK hX  (Bk_v ?_))
        refine r_ifP (P := ¬ ((0 : Int) ≤ l4 ∧ l4 ≤ (8 : Int))) c227_56 bI_eq (fun hc7 => ?_) (fun hc7 => ?_)
        · replace h := h.1 hc7
          refine r_iconst c227_69 ?_
          refine r_goto c227_70 ?_
          refine r_iconst c227_74 ?_
          refine r_iconst c227_75 ?_
          exact r_call c227_76 rfl rfl (Nat.le_of_ble_eq_true rfl) (okc_r rfl rfl (oK hK o439)) h
        · have hc8 := Classical.not_not.mp hc7
          replace h := h.2 hc8
          refine r_iload c227_59 rfl ?_
          refine r_iconst c227_61 ?_
          refine r_iconst c227_62 ?_
          refine r_call c227_63 rfl rfl (Nat.le_of_ble_eq_true rfl) (okc_s rfl rfl rfl) (g153 hK hX  (Bk_v ?_))
          refine r_ifP (P := ((0 : Int) ≤ l5 ∧ l5 ≤ (1 : Int))) c227_66 bI_ne (fun hc9 => ?_) (fun hc9 => ?_)
          · replace h := h.1 hc9
            refine r_iconst c227_73 ?_
            refine r_iconst c227_74 ?_
            refine r_iconst c227_75 ?_
            exact r_call c227_76 rfl rfl (Nat.le_of_ble_eq_true rfl) (okc_r rfl rfl (oK hK o439)) h
          · replace h := h.2 hc9
            refine r_iconst c227_69 ?_
            refine r_goto c227_70 ?_
            refine r_iconst c227_74 ?_
            refine r_iconst c227_75 ?_
            exact r_call c227_76 rfl rfl (Nat.le_of_ble_eq_true rfl) (okc_r rfl rfl (oK hK o439)) h
theorem u227_79 {d : Nat} {l1 : Int} {l2 : Int} {l3 : Int} {l4 : Int} {l5 : Int} {t0 : Int} {M : Mem} {K : KK} {Q : RR → Mem → KK → Prop} (hK : K.1 = 922) (hX : FX M)  (h : (t0 = (0 : Int) → (0 ≤ (w32 ((0 : Int) + l1)) ∧ (w32 ((0 : Int) + l1)) < (27 : Int)) ∧ (¬ (M 887 (Int.toNat (w32 ((0 : Int) + l1)))) = (-1 : Int) → (0 ≤ (w32 ((6 : Int) + l1)) ∧ (w32 ((6 : Int) + l1)) < (27 : Int)) ∧ (0 ≤ (w32 ((12 : Int) + l1)) ∧ (w32 ((12 : Int) + l1)) < (27 : Int)) ∧ (0 ≤ (w32 ((18 : Int) + l1)) ∧ (w32 ((18 : Int) + l1)) < (27 : Int)) ∧ Wm d 226 [vR 439, vR 887, vI l1, vI l2, vI l3, vI l4, vI (M 887 (Int.toNat (w32 ((6 : Int) + l1)))), vI (M 887 24), vI (M 887 (Int.toNat (w32 ((12 : Int) + l1)))), vI (M 887 (Int.toNat (w32 ((18 : Int) + l1))))] M K (Bk d 227 169 172 226 [vR 439, vI l1, vI l2, vI l3, vI l4, vI l5, vL (jlshl (1 : Int) (w32 ((4 : Int) * l4))), vU, vU, vU, vU, vU, vU, vU, vU, vU] [] Q)) ∧ ((M 887 (Int.toNat (w32 ((0 : Int) + l1)))) = (-1 : Int) → (0 ≤ (w32 ((6 : Int) + l1)) ∧ (w32 ((6 : Int) + l1)) < (27 : Int)) ∧ (¬ (M 887 (Int.toNat (w32 ((6 : Int) + l1)))) = (0 : Int) → Wp (d + 1) 227 172 [vR 439, vI l1, vI l2, vI l3, vI l4, vI l5, vL (jlshl (1 : Int) (w32 ((4 : Int) * l4))), vU, vU, vU, vU, vU, vU, vU, vU, vU] [vL (0 : Int)] M K Q) ∧ ((M 887 (Int.toNat (w32 ((6 : Int) + l1)))) = (0 : Int) → Wp (d + 1) 227 172 [vR 439, vI l1, vI l2, vI l3, vI l4, vI l5, vL (jlshl (1 : Int) (w32 ((4 : Int) * l4))), vU, vU, vU, vU, vU, vU, vU, vU, vU] [vL (jlshl (1 : Int) (w32 ((4 : Int) * l4)))] M K Q))) ∧ (¬ (t0 = (0 : Int)) → Q (.inl (some (vL (0 : Int)))) M K)) : Wp (d + 1) 227 79 [vR 439, vI l1, vI l2, vI l3, vI l4, vI l5, vU, vU, vU, vU, vU, vU, vU, vU, vU, vU] [vI t0] M K Q := by
  refine r_ifP (P := t0 = (0 : Int)) c227_79 rfl (fun hc1 => ?_) (fun hc1 => ?_)
  · replace h := h.1 hc1
    refine r_lconst c227_84 ?_
    refine r_iconst c227_85 ?_
    refine r_iload c227_86 rfl ?_
    refine r_imul c227_88 ?_
    refine r_lshl c227_89 ?_
    refine r_lstore c227_90 (Nat.le_of_ble_eq_true rfl) ?_
    refine r_aload_n c227_92 rfl ?_
    refine r_getR c227_93 (oK hK o439) (FX.get (b := 887) hX (by decide) (by decide +kernel) (by decide)) (by decide) ?_
    refine r_iconst c227_96 ?_
    refine r_iload_n c227_97 rfl ?_
    refine r_iadd c227_98 ?_
    obtain ⟨s2, h⟩ := h
    refine r_iae c227_99 (oK hK o887) (bd l887 s2) rfl ?_
    refine r_iconst c227_100 ?_
    refine r_icmpP (P := ¬ (M 887 (Int.toNat (w32 ((0 : Int) + l1)))) = (-1 : Int)) c227_101 rfl (fun hc3 => ?_) (fun hc3 => ?_)
    · replace h := h.1 hc3
      refine r_aload_n c227_125 rfl ?_
      refine r_aload_n c227_126 rfl ?_
      refine r_getR c227_127 (oK hK o439) (FX.get (b := 887) hX (by decide) (by decide +kernel) (by decide)) (by decide) ?_
      refine r_iload_n c227_130 rfl ?_
      refine r_iload_n c227_131 rfl ?_
      refine r_iload_n c227_132 rfl ?_
      refine r_iload c227_133 rfl ?_
      refine r_aload_n c227_135 rfl ?_
      refine r_getR c227_136 (oK hK o439) (FX.get (b := 887) hX (by decide) (by decide +kernel) (by decide)) (by decide) ?_
      refine r_bipush c227_139 ?_
      refine r_iload_n c227_141 rfl ?_
      refine r_iadd c227_142 ?_
      obtain ⟨s5, h⟩ := h
      refine r_iae c227_143 (oK hK o887) (bd l887 s5) rfl ?_
      refine r_aload_n c227_144 rfl ?_
      refine r_getR c227_145 (oK hK o439) (FX.get (b := 887) hX (by decide) (by decide +kernel) (by decide)) (by decide) ?_
      refine r_bipush c227_148 ?_
      refine r_iae c227_150 (oK hK o887) (bd l887 (by decide)) rfl ?_
      refine r_aload_n c227_151 rfl ?_
      refine r_getR c227_152 (oK hK o439) (FX.get (b := 887) hX (by decide) (by decide +kernel) (by decide)) (by decide) ?_
      refine r_bipush c227_155 ?_
      refine r_iload_n c227_157 rfl ?_
      refine r_iadd c227_158 ?_
      obtain ⟨s6, h⟩ := h
      refine r_iae c227_159 (oK hK o887) (bd l887 s6) rfl ?_
      refine r_aload_n c227_160 rfl ?_
      refine r_getR c227_161 (oK hK o439) (FX.get (b := 887) hX (by decide) (by decide +kernel) (by decide)) (by decide) ?_
      refine r_bipush c227_164 ?_
      refine r_iload_n c227_166 rfl ?_
      refine r_iadd c227_167 ?_
      obtain ⟨s7, h⟩ := h
      refine r_iae c227_168 (oK hK o887) (bd l887 s7) rfl ?_
      exact r_call c227_169 rfl rfl (Nat.le_of_ble_eq_true rfl) (okc_r rfl rfl (oK hK o439)) h
    · have hc4 := Classical.not_not.mp hc3
      replace h := h.2 hc4
      refine r_aload_n c227_104 rfl ?_
      refine r_getR c227_105 (oK hK o439) (FX.get (b := 887) hX (by decide) (by decide +kernel) (by decide)) (by decide) ?_
      refine r_bipush c227_108 ?_
      refine r_iload_n c227_110 rfl ?_
      refine r_iadd c227_111 ?_
      obtain ⟨s8, h⟩ := h
      refine r_iae c227_112 (oK hK o887) (bd l887 s8) rfl ?_
      refine r_ifP (P := ¬ (M 887 (Int.toNat (w32 ((6 : Int) + l1)))) = (0 : Int)) c227_113 rfl (fun hc9 => ?_) (fun hc9 => ?_)
      · replace h := h.1 hc9
        refine r_lconst c227_121 ?_
        refine r_goto c227_122 ?_
        exact h
      · have hc10 := Classical.not_not.mp hc9
        replace h := h.2 hc10
        refine r_lload c227_116 rfl ?_
        refine r_goto c227_118 ?_
        exact h
  · replace h := h.2 hc1
    refine r_lconst c227_82 ?_
    exact r_lret c227_83 h
theorem u227_172 {d : Nat} {l1 : Int} {l2 : Int} {l3 : Int} {l4 : Int} {l5 : Int} {l6 : Int} {t0 : Int} {M : Mem} {K : KK} {Q : RR → Mem → KK → Prop} (hK : K.1 = 922) (hX : FX M)  (h : Wp (d + 1) 227 182 [vR 439, vI l1, vI l2, vI l3, vI l4, vI l5, vL l6, vU, vL t0, vU, vL l6, vU, vL t0, vU, vU, vU] [] M K Q) : Wp (d + 1) 227 172 [vR 439, vI l1, vI l2, vI l3, vI l4, vI l5, vL l6, vU, vU, vU, vU, vU, vU, vU, vU, vU] [vL t0] M K Q := by
  refine r_lstore c227_172 (Nat.le_of_ble_eq_true rfl) ?_
  refine r_lload c227_174 rfl ?_
  refine r_lstore c227_176 (Nat.le_of_ble_eq_true rfl) ?_
  refine r_lload c227_178 rfl ?_
  refine r_lstore c227_180 (Nat.le_of_ble_eq_true rfl) ?_
  exact h
theorem u227_182 {d : Nat} {l1 : Int} {l2 : Int} {l3 : Int} {l4 : Int} {l5 : Int} {l6 : Int} {l8 : Int} {l10 : Int} {l12 : Int} {l14 : PV} {M : Mem} {K : KK} {Q : RR → Mem → KK → Prop} (hK : K.1 = 922) (hX : FX M)  (h : ((jcmp l12 (0 : Int)) = (0 : Int) → (¬ l5 = (0 : Int) → l10 ≠ 0 ∧ Q (.inl (some (vL (w64 (Int.tdiv l6 l10))))) M K) ∧ (l5 = (0 : Int) → l10 ≠ 0 ∧ Q (.inl (some (vL (w64 (Int.tdiv l8 l10))))) M K)) ∧ (¬ ((jcmp l12 (0 : Int)) = (0 : Int)) → l12 ≠ 0 ∧ Wp (d + 1) 227 182 [vR 439, vI l1, vI l2, vI l3, vI l4, vI l5, vL l6, vU, vL l8, vU, vL l12, vU, vL (Int.tmod l10 l12), vU, vL (Int.tmod l10 l12), vU] [] M K Q)) : Wp (d + 1) 227 182 [vR 439, vI l1, vI l2, vI l3, vI l4, vI l5, vL l6, vU, vL l8, vU, vL l10, vU, vL l12, vU, l14, vU] [] M K Q := by
  refine r_lload c227_182 rfl ?_
  refine r_lconst c227_184 ?_
  refine r_lcmp c227_185 ?_
  refine r_ifP (P := (jcmp l12 (0 : Int)) = (0 : Int)) c227_186 rfl (fun hc1 => ?_) (fun hc1 => ?_)
  · replace h := h.1 hc1
    refine r_iload c227_207 rfl ?_
    refine r_ifP (P := ¬ l5 = (0 : Int)) c227_209 rfl (fun hc2 => ?_) (fun hc2 => ?_)
    · replace h := h.1 hc2
      refine r_lload c227_220 rfl ?_
      refine r_lload c227_222 rfl ?_
      obtain ⟨s4, h⟩ := h
      refine r_ldiv c227_224 s4 ?_
      exact r_lret c227_225 h
    · have hc3 := Classical.not_not.mp hc2
      replace h := h.2 hc3
      refine r_lload c227_212 rfl ?_
      refine r_lload c227_214 rfl ?_
      obtain ⟨s5, h⟩ := h
      refine r_ldiv c227_216 s5 ?_
      refine r_goto c227_217 ?_
      exact r_lret c227_225 h
  · replace h := h.2 hc1
    refine r_lload c227_189 rfl ?_
    refine r_lload c227_191 rfl ?_
    obtain ⟨s6, h⟩ := h
    refine r_lrem c227_193 s6 ?_
    refine r_lstore c227_194 (Nat.le_of_ble_eq_true rfl) ?_
    refine r_lload c227_196 rfl ?_
    refine r_lstore c227_198 (Nat.le_of_ble_eq_true rfl) ?_
    refine r_lload c227_200 rfl ?_
    refine r_lstore c227_202 (Nat.le_of_ble_eq_true rfl) ?_
    refine r_goto c227_204 ?_
    exact h
