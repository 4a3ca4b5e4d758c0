theorem u111_0 {d : Nat} {l1 : Int} {l2 : Int} {M : Mem} {K : KK} {Q : RR → Mem → KK → Prop} (hK : K.1 = 923) (hX : FX M)  (h : (¬ ((0 : Int) ≤ l1 ∧ l1 ≤ (99 : Int)) → Q (.inr 0) (mset M 32 19 (w32 ((M 32 19) + 1))) (K.1, K.2.1 + 1, K.2.2 + 6)) ∧ (((0 : Int) ≤ l1 ∧ l1 ≤ (99 : Int)) → (¬ ((0 : Int) ≤ l2 ∧ l2 ≤ (1 : Int)) → Q (.inr 0) (mset M 32 19 (w32 ((M 32 19) + 1))) (K.1, K.2.1 + 1, K.2.2 + 6)) ∧ (((0 : Int) ≤ l2 ∧ l2 ≤ (1 : Int)) → ∃ c5 : Mem, ∃ s6 : Mem, ((45 + 4 < 40 ∨ 40 + 4 < 45) ∧ CW c5 ∧ LK M 40 c5 s6) ∧ (∀ (M10 : Mem), FX M10 → (FrI 45 M M10 ∧ LK M10 45 c5 s6 ∧ (∀ b j, 40 ≤ b → b ≤ 40 + 4 → M10 b j = M b j)) → Wp (d + 4) 111 41 [vR 32, vI l1, vI l2, vI (0 : Int)] [] M10 K Q)))) : Wp (d + 4) 111 0 [vR 32, vI l1, vI l2, vU] [] M K Q := by
  refine r_aload_n c111_0 rfl ?_
  refine r_iload_n c111_1 rfl ?_
  refine r_iconst c111_2 ?_
  refine r_bipush c111_3 ?_
  refine r_call c111_5 rfl rfl (Nat.le_of_ble_eq_true rfl) (okc_s rfl rfl rfl) (g142 hK hX  (Bk_v ?_))
  refine r_ifP (P := ¬ ((0 : Int) ≤ l1 ∧ l1 ≤ (99 : Int))) c111_8 bI_eq (fun hc1 => ?_) (fun hc1 => ?_)
  · replace h := h.1 hc1
    refine r_iconst c111_24 ?_
    refine r_call c111_25 rfl rfl (Nat.le_of_ble_eq_true rfl) (okc_r rfl rfl (oK hK o32)) (n136_0 hK hX (Bk_e rfl rfl rfl ?_))
    exact h
  · have hc2 := Classical.not_not.mp hc1
    replace h := h.2 hc2
    refine r_iload_n c111_11 rfl ?_
    refine r_iconst c111_12 ?_
    refine r_iconst c111_13 ?_
    refine r_call c111_14 rfl rfl (Nat.le_of_ble_eq_true rfl) (okc_s rfl rfl rfl) (g142 hK hX  (Bk_v ?_))
    refine r_ifP (P := ¬ ((0 : Int) ≤ l2 ∧ l2 ≤ (1 : Int))) c111_17 bI_eq (fun hc3 => ?_) (fun hc3 => ?_)
    · replace h := h.1 hc3
      refine r_iconst c111_24 ?_
      refine r_call c111_25 rfl rfl (Nat.le_of_ble_eq_true rfl) (okc_r rfl rfl (oK hK o32)) (n136_0 hK hX (Bk_e rfl rfl rfl ?_))
      exact h
    · have hc4 := Classical.not_not.mp hc3
      replace h := h.2 hc4
      refine r_iconst c111_20 ?_
      refine r_goto c111_21 ?_
      refine r_call c111_25 rfl rfl (Nat.le_of_ble_eq_true rfl) (okc_r rfl rfl (oK hK o32)) (n136_1 hK hX (Bk_n ?_))
      refine r_aload_n c111_28 rfl ?_
      refine r_getR c111_29 (oK hK o32) (FX.get (b := 45) hX (by decide) (by decide +kernel) (by decide)) (by decide) ?_
      refine r_aload_n c111_32 rfl ?_
      refine r_getR c111_33 (oK hK o32) (FX.get (b := 40) hX (by decide) (by decide +kernel) (by decide)) (by decide) ?_
      obtain ⟨c5, h⟩ := h
      obtain ⟨s6, h⟩ := h
      obtain ⟨p7, h⟩ := h
      refine r_call c111_36 rfl rfl (Nat.le_of_ble_eq_true rfl) (okc_r rfl rfl (oK hK o45)) (g30 hK hX o45 o40 p7 (fun M10 x8 p9 => Bk_n ?_))
      replace h := h M10 x8 p9
      refine r_iconst c111_39 ?_
      refine r_istore_n c111_40 (Nat.le_of_ble_eq_true rfl) ?_
      exact h
theorem u111_41 {d : Nat} {l1 : Int} {l2 : Int} {l3 : Int} {M : Mem} {K : KK} {Q : RR → Mem → KK → Prop} (hK : K.1 = 923) (hX : FX M)  (h : (l1 ≤ l3 → (¬ l2 = (0 : Int) → ∃ b4 : Nat, (M 32 11) = (b4 : Int) ∧ isO 923 b4 0 = true ∧ ∃ c7 : Mem, ∃ s8 : Mem, SKc M b4 45 c7 s8 ∧ Q (.inl (some (vI (whiteS c7 s8 : Int)))) M K) ∧ (l2 = (0 : Int) → ∃ b10 : Nat, (M 32 11) = (b10 : Int) ∧ isO 923 b10 0 = true ∧ ∃ c13 : Mem, ∃ s14 : Mem, SKc M b10 45 c13 s14 ∧ Q (.inl (some (vI (greyS c13 s14)))) M K)) ∧ (¬ (l1 ≤ l3) → ∃ b16 : Nat, (M 32 11) = (b16 : Int) ∧ isO 923 b16 0 = true ∧ ∃ c19 : Mem, (CC M b16 c19 ∧ CW c19) ∧ ∃ c21 : Mem, ∃ s22 : Mem, ∃ L23 : LC, ∃ la24 : Nat, (SKc M b16 45 c21 s22 ∧ LWC M b16 L23 la24 ∧ s22 4 0 < 2000) ∧ (∀ (M28 : Mem), FX M28 → (FrI 45 M M28 ∧ LK M28 45 c21 (dayS c21 L23 s22 (rainS c19 (M 45 4)))) → Wp (d + 4) 111 41 [vR 32, vI l1, vI l2, vI (w32 (l3 + 1))] [] M28 K Q))) : Wp (d + 4) 111 41 [vR 32, vI l1, vI l2, vI l3] [] M K Q := by
  refine r_iload_n c111_41 rfl ?_
  refine r_iload_n c111_42 rfl ?_
  refine r_icmpP (P := l1 ≤ l3) c111_43 rfl (fun hc1 => ?_) (fun hc1 => ?_)
  · replace h := h.1 hc1
    refine r_iload_n c111_77 rfl ?_
    refine r_ifP (P := ¬ l2 = (0 : Int)) c111_78 rfl (fun hc2 => ?_) (fun hc2 => ?_)
    · replace h := h.1 hc2
      refine r_aload_n c111_95 rfl ?_
      refine r_getR c111_96 (oK hK o32) (FX.get (b := 45) hX (by decide) (by decide +kernel) (by decide)) (by decide) ?_
      refine r_aload_n c111_99 rfl ?_
      obtain ⟨b4, h⟩ := h
      obtain ⟨e5, h⟩ := h
      obtain ⟨k6, h⟩ := h
      refine r_getR c111_100 (oK hK o32) e5 (by have := (isO_d k6).1; omega) ?_
      obtain ⟨c7, h⟩ := h
      obtain ⟨s8, h⟩ := h
      obtain ⟨p9, h⟩ := h
      refine r_call c111_103 rfl rfl (Nat.le_of_ble_eq_true rfl) (okc_r rfl rfl (oK hK o45)) (g41 hK hX o45 k6 p9 (Bk_v ?_))
      exact r_iret c111_106 (Or.inl rfl) h
    · have hc3 := Classical.not_not.mp hc2
      replace h := h.2 hc3
      refine r_aload_n c111_81 rfl ?_
      refine r_getR c111_82 (oK hK o32) (FX.get (b := 45) hX (by decide) (by decide +kernel) (by decide)) (by decide) ?_
      refine r_aload_n c111_85 rfl ?_
      obtain ⟨b10, h⟩ := h
      obtain ⟨e11, h⟩ := h
      obtain ⟨k12, h⟩ := h
      refine r_getR c111_86 (oK hK o32) e11 (by have := (isO_d k12).1; omega) ?_
      obtain ⟨c13, h⟩ := h
      obtain ⟨s14, h⟩ := h
      obtain ⟨p15, h⟩ := h
      refine r_call c111_89 rfl rfl (Nat.le_of_ble_eq_true rfl) (okc_r rfl rfl (oK hK o45)) (g43 hK hX o45 k12 p15 (Bk_v ?_))
      refine r_goto c111_92 ?_
      exact r_iret c111_106 (Or.inl rfl) h
  · replace h := h.2 hc1
    refine r_aload_n c111_46 rfl ?_
    refine r_getR c111_47 (oK hK o32) (FX.get (b := 45) hX (by decide) (by decide +kernel) (by decide)) (by decide) ?_
    refine r_aload_n c111_50 rfl ?_
    obtain ⟨b16, h⟩ := h
    obtain ⟨e17, h⟩ := h
    obtain ⟨k18, h⟩ := h
    refine r_getR c111_51 (oK hK o32) e17 (by have := (isO_d k18).1; omega) ?_
    refine r_aload_n c111_54 rfl ?_
    refine r_getR c111_55 (oK hK o32) e17 (by have := (isO_d k18).1; omega) ?_
    refine r_aload_n c111_58 rfl ?_
    refine r_getR c111_59 (oK hK o32) (FX.get (b := 45) hX (by decide) (by decide +kernel) (by decide)) (by decide) ?_
    refine r_getIe c111_62 (oK hK o45) rfl ?_
    obtain ⟨c19, h⟩ := h
    obtain ⟨p20, h⟩ := h
    refine r_call c111_65 rfl rfl (Nat.le_of_ble_eq_true rfl) (okc_r rfl rfl (oK hK k18)) (g7 hK hX k18 p20 (Bk_v ?_))
    obtain ⟨c21, h⟩ := h
    obtain ⟨s22, h⟩ := h
    obtain ⟨L23, h⟩ := h
    obtain ⟨la24, h⟩ := h
    obtain ⟨p25, h⟩ := h
    refine r_call c111_68 rfl rfl (Nat.le_of_ble_eq_true rfl) (okc_r rfl rfl (oK hK o45)) (g36 hK hX o45 k18 p25 (fun M28 x26 p27 => Bk_n ?_))
    replace h := h M28 x26 p27
    refine r_iinc c111_71 rfl ?_
    refine r_goto c111_74 ?_
    exact h
theorem u112_0 {d : Nat} {l1 : Int} {M : Mem} {K : KK} {Q : RR → Mem → KK → Prop} (hK : K.1 = 923) (hX : FX M)  (h : ∃ n1 : Nat, StN M n1 ∧ ((0 ≤ l1 ∧ l1 < (n1 : Int)) → ∃ c3 : Mem, ∃ s4 : Mem, ((45 + 4 < 40 ∨ 40 + 4 < 45) ∧ CW c3 ∧ LK M 40 c3 s4) ∧ (∀ (M8 : Mem), FX M8 → (FrI 45 M M8 ∧ LK M8 45 c3 s4 ∧ (∀ b j, 40 ≤ b → b ≤ 40 + 4 → M8 b j = M b j)) → Wp (d + 4) 112 18 [vR 32, vI l1, vI (0 : Int)] [] M8 K Q)) ∧ (¬ (0 ≤ l1 ∧ l1 < (n1 : Int)) → Q (.inr 1) (mset M 32 18 (w32 ((M 32 18) + 1))) (K.1, K.2.1 + 1, K.2.2 + 6))) : Wp (d + 4) 112 0 [vR 32, vI l1, vU] [] M K Q := by
  refine r_aload_n c112_0 rfl ?_
  refine r_iload_n c112_1 rfl ?_
  obtain ⟨n1, h⟩ := h
  obtain ⟨p2, h⟩ := h
  refine r_call c112_2 rfl rfl (Nat.le_of_ble_eq_true rfl) (okc_r rfl rfl (oK hK o32)) (n138 hK hX p2 (fun hc => Bk_n ?_) (fun hc => Bk_e rfl rfl rfl ?_))
  · replace h := h.1 hc
    refine r_aload_n c112_5 rfl ?_
    refine r_getR c112_6 (oK hK o32) (FX.get (b := 45) hX (by decide) (by decide +kernel) (by decide)) (by decide) ?_
    refine r_aload_n c112_9 rfl ?_
    refine r_getR c112_10 (oK hK o32) (FX.get (b := 40) hX (by decide) (by decide +kernel) (by decide)) (by decide) ?_
    obtain ⟨c3, h⟩ := h
    obtain ⟨s4, h⟩ := h
    obtain ⟨p5, h⟩ := h
    refine r_call c112_13 rfl rfl (Nat.le_of_ble_eq_true rfl) (okc_r rfl rfl (oK hK o45)) (g30 hK hX o45 o40 p5 (fun M8 x6 p7 => Bk_n ?_))
    replace h := h M8 x6 p7
    refine r_iconst c112_16 ?_
    refine r_istore_n c112_17 (Nat.le_of_ble_eq_true rfl) ?_
    exact h
  · replace h := h.2 hc
    exact h
theorem u112_18 {d : Nat} {l1 : Int} {l2 : Int} {M : Mem} {K : KK} {Q : RR → Mem → KK → Prop} (hK : K.1 = 923) (hX : FX M)  (h : ((200 : Int) ≤ l2 → (0 ≤ l1 ∧ l1 < (6 : Int)) ∧ (¬ (M 46 (Int.toNat l1)) = (0 : Int) → Q (.inl (some (vI (-1 : Int)))) M K) ∧ ((M 46 (Int.toNat l1)) = (0 : Int) → Q (.inl (some (vI (200 : Int)))) M K)) ∧ (¬ ((200 : Int) ≤ l2) → (0 ≤ l1 ∧ l1 < (6 : Int)) ∧ (¬ (M 46 (Int.toNat l1)) = (0 : Int) → ∃ b8 : Nat, (M 32 11) = (b8 : Int) ∧ isO 923 b8 0 = true ∧ ∃ c11 : Mem, (CC M b8 c11 ∧ CW c11) ∧ ∃ c13 : Mem, ∃ s14 : Mem, ∃ L15 : LC, ∃ la16 : Nat, (SKc M b8 45 c13 s14 ∧ LWC M b8 L15 la16 ∧ s14 4 0 < 2000) ∧ (∀ (M20 : Mem), FX M20 → (FrI 45 M M20 ∧ LK M20 45 c13 (dayS c13 L15 s14 (rainS c11 (M 45 4)))) → Wp (d + 4) 112 18 [vR 32, vI l1, vI (w32 (l2 + 1))] [] M20 K Q)) ∧ ((M 46 (Int.toNat l1)) = (0 : Int) → Q (.inl (some (vI l2))) M K))) : Wp (d + 4) 112 18 [vR 32, vI l1, vI l2] [] M K Q := by
  refine r_iload_n c112_18 rfl ?_
  refine r_sipush c112_19 ?_
  refine r_icmpP (P := (200 : Int) ≤ l2) c112_22 rfl (fun hc1 => ?_) (fun hc1 => ?_)
  · replace h := h.1 hc1
    refine r_aload_n c112_70 rfl ?_
    refine r_getR c112_71 (oK hK o32) (FX.get (b := 45) hX (by decide) (by decide +kernel) (by decide)) (by decide) ?_
    refine r_getR c112_74 (oK hK o45) (FX.get (b := 46) hX (by decide) (by decide +kernel) (by decide)) (by decide) ?_
    refine r_iload_n c112_77 rfl ?_
    obtain ⟨s2, h⟩ := h
    refine r_iae c112_78 (oK hK o46) (bd l46 s2) rfl ?_
    refine r_ifP (P := ¬ (M 46 (Int.toNat l1)) = (0 : Int)) c112_79 rfl (fun hc3 => ?_) (fun hc3 => ?_)
    · replace h := h.1 hc3
      refine r_iconst c112_88 ?_
      exact r_iret c112_89 (Or.inl rfl) h
    · have hc4 := Classical.not_not.mp hc3
      replace h := h.2 hc4
      refine r_sipush c112_82 ?_
      refine r_goto c112_85 ?_
      exact r_iret c112_89 (Or.inl rfl) h
  · replace h := h.2 hc1
    refine r_aload_n c112_25 rfl ?_
    refine r_getR c112_26 (oK hK o32) (FX.get (b := 45) hX (by decide) (by decide +kernel) (by decide)) (by decide) ?_
    refine r_getR c112_29 (oK hK o45) (FX.get (b := 46) hX (by decide) (by decide +kernel) (by decide)) (by decide) ?_
    refine r_iload_n c112_32 rfl ?_
    obtain ⟨s5, h⟩ := h
    refine r_iae c112_33 (oK hK o46) (bd l46 s5) rfl ?_
    refine r_ifP (P := ¬ (M 46 (Int.toNat l1)) = (0 : Int)) c112_34 rfl (fun hc6 => ?_) (fun hc6 => ?_)
    · replace h := h.1 hc6
      refine r_aload_n c112_39 rfl ?_
      refine r_getR c112_40 (oK hK o32) (FX.get (b := 45) hX (by decide) (by decide +kernel) (by decide)) (by decide) ?_
      refine r_aload_n c112_43 rfl ?_
      obtain ⟨b8, h⟩ := h
      obtain ⟨e9, h⟩ := h
      obtain ⟨k10, h⟩ := h
      refine r_getR c112_44 (oK hK o32) e9 (by have := (isO_d k10).1; omega) ?_
      refine r_aload_n c112_47 rfl ?_
      refine r_getR c112_48 (oK hK o32) e9 (by have := (isO_d k10).1; omega) ?_
      refine r_aload_n c112_51 rfl ?_
      refine r_getR c112_52 (oK hK o32) (FX.get (b := 45) hX (by decide) (by decide +kernel) (by decide)) (by decide) ?_
      refine r_getIe c112_55 (oK hK o45) rfl ?_
      obtain ⟨c11, h⟩ := h
      obtain ⟨p12, h⟩ := h
      refine r_call c112_58 rfl rfl (Nat.le_of_ble_eq_true rfl) (okc_r rfl rfl (oK hK k10)) (g7 hK hX k10 p12 (Bk_v ?_))
      obtain ⟨c13, h⟩ := h
      obtain ⟨s14, h⟩ := h
      obtain ⟨L15, h⟩ := h
      obtain ⟨la16, h⟩ := h
      obtain ⟨p17, h⟩ := h
      refine r_call c112_61 rfl rfl (Nat.le_of_ble_eq_true rfl) (okc_r rfl rfl (oK hK o45)) (g36 hK hX o45 k10 p17 (fun M20 x18 p19 => Bk_n ?_))
      replace h := h M20 x18 p19
      refine r_iinc c112_64 rfl ?_
      refine r_goto c112_67 ?_
      exact h
    · have hc7 := Classical.not_not.mp hc6
      replace h := h.2 hc7
      refine r_iload_n c112_37 rfl ?_
      exact r_iret c112_38 (Or.inl rfl) h
theorem u113_0 {d : Nat} {l1 : Int} {M : Mem} {K : KK} {Q : RR → Mem → KK → Prop} (hK : K.1 = 923) (hX : FX M)  (h : (((0 : Int) ≤ l1 ∧ l1 ≤ (36 : Int)) → ∃ c1 : Mem, ∃ s2 : Mem, ((45 + 4 < 40 ∨ 40 + 4 < 45) ∧ CW c1 ∧ LK M 40 c1 s2) ∧ (∀ (M6 : Mem), FX M6 → (FrI 45 M M6 ∧ LK M6 45 c1 s2 ∧ (∀ b j, 40 ≤ b → b ≤ 40 + 4 → M6 b j = M b j)) → Wp (d + 4) 113 24 [vR 32, vI l1, vI (0 : Int)] [] M6 K Q)) ∧ (¬ ((0 : Int) ≤ l1 ∧ l1 ≤ (36 : Int)) → Q (.inr 0) (mset M 32 19 (w32 ((M 32 19) + 1))) (K.1, K.2.1 + 1, K.2.2 + 6))) : Wp (d + 4) 113 0 [vR 32, vI l1, vU] [] M K Q := by
  refine r_aload_n c113_0 rfl ?_
  refine r_iload_n c113_1 rfl ?_
  refine r_iconst c113_2 ?_
  refine r_bipush c113_3 ?_
  refine r_call c113_5 rfl rfl (Nat.le_of_ble_eq_true rfl) (okc_s rfl rfl rfl) (g142 hK hX  (Bk_v ?_))
  refine r_call c113_8 rfl rfl (Nat.le_of_ble_eq_true rfl) (okc_r rfl rfl (oK hK o32)) (n136b hK hX (fun hc => Bk_n ?_) (fun hc => Bk_e rfl rfl rfl ?_))
  · replace h := h.1 hc
    refine r_aload_n c113_11 rfl ?_
    refine r_getR c113_12 (oK hK o32) (FX.get (b := 45) hX (by decide) (by decide +kernel) (by decide)) (by decide) ?_
    refine r_aload_n c113_15 rfl ?_
    refine r_getR c113_16 (oK hK o32) (FX.get (b := 40) hX (by decide) (by decide +kernel) (by decide)) (by decide) ?_
    obtain ⟨c1, h⟩ := h
    obtain ⟨s2, h⟩ := h
    obtain ⟨p3, h⟩ := h
    refine r_call c113_19 rfl rfl (Nat.le_of_ble_eq_true rfl) (okc_r rfl rfl (oK hK o45)) (g30 hK hX o45 o40 p3 (fun M6 x4 p5 => Bk_n ?_))
    replace h := h M6 x4 p5
    refine r_iconst c113_22 ?_
    refine r_istore_n c113_23 (Nat.le_of_ble_eq_true rfl) ?_
    exact h
  · replace h := h.2 hc
    exact h
theorem u113_24 {d : Nat} {l1 : Int} {l2 : Int} {M : Mem} {K : KK} {Q : RR → Mem → KK → Prop} (hK : K.1 = 923) (hX : FX M)  (h : ((200 : Int) ≤ l2 → ∃ b2 : Nat, (M 32 11) = (b2 : Int) ∧ isO 923 b2 0 = true ∧ ∃ c5 : Mem, ∃ s6 : Mem, SKc M b2 45 c5 s6 ∧ ((yardS c5 (whiteS c5 s6)) < l1 → Q (.inl (some (vI (-1 : Int)))) M K) ∧ (¬ ((yardS c5 (whiteS c5 s6)) < l1) → Q (.inl (some (vI (200 : Int)))) M K)) ∧ (¬ ((200 : Int) ≤ l2) → ∃ b9 : Nat, (M 32 11) = (b9 : Int) ∧ isO 923 b9 0 = true ∧ ∃ c12 : Mem, ∃ s13 : Mem, SKc M b9 45 c12 s13 ∧ ((yardS c12 (whiteS c12 s13)) < l1 → ∃ c16 : Mem, (CC M b9 c16 ∧ CW c16) ∧ ∃ c18 : Mem, ∃ s19 : Mem, ∃ L20 : LC, ∃ la21 : Nat, (SKc M b9 45 c18 s19 ∧ LWC M b9 L20 la21 ∧ s19 4 0 < 2000) ∧ (∀ (M25 : Mem), FX M25 → (FrI 45 M M25 ∧ LK M25 45 c18 (dayS c18 L20 s19 (rainS c16 (M 45 4)))) → Wp (d + 4) 113 24 [vR 32, vI l1, vI (w32 (l2 + 1))] [] M25 K Q)) ∧ (¬ ((yardS c12 (whiteS c12 s13)) < l1) → Q (.inl (some (vI l2))) M K))) : Wp (d + 4) 113 24 [vR 32, vI l1, vI l2] [] M K Q := by
  refine r_iload_n c113_24 rfl ?_
  refine r_sipush c113_25 ?_
  refine r_icmpP (P := (200 : Int) ≤ l2) c113_28 rfl (fun hc1 => ?_) (fun hc1 => ?_)
  · replace h := h.1 hc1
    refine r_aload_n c113_79 rfl ?_
    refine r_getR c113_80 (oK hK o32) (FX.get (b := 45) hX (by decide) (by decide +kernel) (by decide)) (by decide) ?_
    refine r_aload_n c113_83 rfl ?_
    obtain ⟨b2, h⟩ := h
    obtain ⟨e3, h⟩ := h
    obtain ⟨k4, h⟩ := h
    refine r_getR c113_84 (oK hK o32) e3 (by have := (isO_d k4).1; omega) ?_
    obtain ⟨c5, h⟩ := h
    obtain ⟨s6, h⟩ := h
    obtain ⟨p7, h⟩ := h
    refine r_call c113_87 rfl rfl (Nat.le_of_ble_eq_true rfl) (okc_r rfl rfl (oK hK o45)) (g42 hK hX o45 k4 p7 (Bk_v ?_))
    refine r_iload_n c113_90 rfl ?_
    refine r_icmpP (P := (yardS c5 (whiteS c5 s6)) < l1) c113_91 rfl (fun hc8 => ?_) (fun hc8 => ?_)
    · replace h := h.1 hc8
      refine r_iconst c113_100 ?_
      exact r_iret c113_101 (Or.inl rfl) h
    · replace h := h.2 hc8
      refine r_sipush c113_94 ?_
      refine r_goto c113_97 ?_
      exact r_iret c113_101 (Or.inl rfl) h
  · replace h := h.2 hc1
    refine r_aload_n c113_31 rfl ?_
    refine r_getR c113_32 (oK hK o32) (FX.get (b := 45) hX (by decide) (by decide +kernel) (by decide)) (by decide) ?_
    refine r_aload_n c113_35 rfl ?_
    obtain ⟨b9, h⟩ := h
    obtain ⟨e10, h⟩ := h
    obtain ⟨k11, h⟩ := h
    refine r_getR c113_36 (oK hK o32) e10 (by have := (isO_d k11).1; omega) ?_
    obtain ⟨c12, h⟩ := h
    obtain ⟨s13, h⟩ := h
    obtain ⟨p14, h⟩ := h
    refine r_call c113_39 rfl rfl (Nat.le_of_ble_eq_true rfl) (okc_r rfl rfl (oK hK o45)) (g42 hK hX o45 k11 p14 (Bk_v ?_))
    refine r_iload_n c113_42 rfl ?_
    refine r_icmpP (P := (yardS c12 (whiteS c12 s13)) < l1) c113_43 rfl (fun hc15 => ?_) (fun hc15 => ?_)
    · replace h := h.1 hc15
      refine r_aload_n c113_48 rfl ?_
      refine r_getR c113_49 (oK hK o32) (FX.get (b := 45) hX (by decide) (by decide +kernel) (by decide)) (by decide) ?_
      refine r_aload_n c113_52 rfl ?_
      refine r_getR c113_53 (oK hK o32) e10 (by have := (isO_d k11).1; omega) ?_
      refine r_aload_n c113_56 rfl ?_
      refine r_getR c113_57 (oK hK o32) e10 (by have := (isO_d k11).1; omega) ?_
      refine r_aload_n c113_60 rfl ?_
      refine r_getR c113_61 (oK hK o32) (FX.get (b := 45) hX (by decide) (by decide +kernel) (by decide)) (by decide) ?_
      refine r_getIe c113_64 (oK hK o45) rfl ?_
      obtain ⟨c16, h⟩ := h
      obtain ⟨p17, h⟩ := h
      refine r_call c113_67 rfl rfl (Nat.le_of_ble_eq_true rfl) (okc_r rfl rfl (oK hK k11)) (g7 hK hX k11 p17 (Bk_v ?_))
      obtain ⟨c18, h⟩ := h
      obtain ⟨s19, h⟩ := h
      obtain ⟨L20, h⟩ := h
      obtain ⟨la21, h⟩ := h
      obtain ⟨p22, h⟩ := h
      refine r_call c113_70 rfl rfl (Nat.le_of_ble_eq_true rfl) (okc_r rfl rfl (oK hK o45)) (g36 hK hX o45 k11 p22 (fun M25 x23 p24 => Bk_n ?_))
      replace h := h M25 x23 p24
      refine r_iinc c113_73 rfl ?_
      refine r_goto c113_76 ?_
      exact h
    · replace h := h.2 hc15
      refine r_iload_n c113_46 rfl ?_
      exact r_iret c113_47 (Or.inl rfl) h
theorem u215_0 {d : Nat} {l1 : Int} {l2 : Int} {M : Mem} {K : KK} {Q : RR → Mem → KK → Prop} (hK : K.1 = 923) (hX : FX M)  (h : (¬ ((0 : Int) ≤ l1 ∧ l1 ≤ (99 : Int)) → (∀ (M6 : Mem), FX M6 → BadM 1 1 (mset M 440 0 (0 : Int)) M6 → Q (.inl (some (vI (0 : Int)))) M6 K)) ∧ (((0 : Int) ≤ l1 ∧ l1 ≤ (99 : Int)) → (((0 : Int) ≤ l2 ∧ l2 ≤ (1 : Int)) → (isO 923 888 20 = true ∧ L27 888 ∧ isO 923 889 20 = true ∧ L27 889 ∧ 888 ≠ 889) ∧ (∀ (M11 : Mem), FX M11 → (Fr1 889 (mset M 440 0 (0 : Int)) M11 ∧ ∀ j, j < 27 → M11 889 j = (mset M 440 0 (0 : Int)) 888 j) → Wp (d + 6) 215 53 [vR 440, vI l1, vI l2, vI (0 : Int)] [] M11 K Q)) ∧ (¬ ((0 : Int) ≤ l2 ∧ l2 ≤ (1 : Int)) → (∀ (M14 : Mem), FX M14 → BadM 1 1 (mset M 440 0 (0 : Int)) M14 → Q (.inl (some (vI (0 : Int)))) M14 K)))) : Wp (d + 6) 215 0 [vR 440, vI l1, vI l2, vU] [] M K Q := by
  refine r_aload_n c215_0 rfl ?_
  refine r_iconst c215_1 ?_
  refine r_putI c215_2 (oK hK o440) ?_
  have x1 := FX.set (v := (0 : Int)) (a := 440) (k := 0) hX (by decide +kernel)
  refine r_aload_n c215_5 rfl ?_
  refine r_iload_n c215_6 rfl ?_
  refine r_iconst c215_7 ?_
  refine r_bipush c215_8 ?_
  refine r_call c215_10 rfl rfl (Nat.le_of_ble_eq_true rfl) (okc_s rfl rfl rfl) (g153 hK x1  (Bk_v ?_))
  refine r_ifP (P := ¬ ((0 : Int) ≤ l1 ∧ l1 ≤ (99 : Int))) c215_13 bI_eq (fun hc2 => ?_) (fun hc2 => ?_)
  · replace h := h.1 hc2
    refine r_iconst c215_25 ?_
    refine r_goto c215_26 ?_
    refine r_iconst c215_30 ?_
    refine r_iconst c215_31 ?_
    refine r_call c215_32 rfl rfl (Nat.le_of_ble_eq_true rfl) (okc_r rfl rfl (oK hK o440)) (b152_1 (cd := 1) (ix := 1) hK x1 ms_eq (by decide) (by decide) (fun M6 x4 p5 => Bk_v ?_))
    replace h := h M6 x4 p5
    refine r_ifP (P := (1 : Int) = (0 : Int)) c215_35 rfl (fun hc => absurd hc (by decide)) (fun hc => ?_)
    refine r_iconst c215_38 ?_
    exact r_iret c215_39 (Or.inl rfl) h
  · have hc3 := Classical.not_not.mp hc2
    replace h := h.2 hc3
    refine r_iload_n c215_16 rfl ?_
    refine r_iconst c215_17 ?_
    refine r_iconst c215_18 ?_
    refine r_call c215_19 rfl rfl (Nat.le_of_ble_eq_true rfl) (okc_s rfl rfl rfl) (g153 hK x1  (Bk_v ?_))
    refine r_ifP (P := ((0 : Int) ≤ l2 ∧ l2 ≤ (1 : Int))) c215_22 bI_ne (fun hc7 => ?_) (fun hc7 => ?_)
    · replace h := h.1 hc7
      refine r_iconst c215_29 ?_
      refine r_iconst c215_30 ?_
      refine r_iconst c215_31 ?_
      refine r_call c215_32 rfl rfl (Nat.le_of_ble_eq_true rfl) (okc_r rfl rfl (oK hK o440)) (b152_0 hK x1 ms_eq (Bk_v ?_))
      refine r_ifP (P := (0 : Int) = (0 : Int)) c215_35 rfl (fun hc => ?_) (fun hc => absurd (by decide) hc)
      refine r_aload_n c215_40 rfl ?_
      refine r_getR c215_41 (oK hK o440) (FX.get (b := 888) x1 (by decide) (by decide +kernel) (by decide)) (by decide) ?_
      refine r_aload_n c215_44 rfl ?_
      refine r_getR c215_45 (oK hK o440) (FX.get (b := 889) x1 (by decide) (by decide +kernel) (by decide)) (by decide) ?_
      obtain ⟨p8, h⟩ := h
      refine r_call c215_48 rfl rfl (Nat.le_of_ble_eq_true rfl) (okc_s rfl rfl rfl) (g178 hK x1 p8 (fun M11 x9 p10 => Bk_n ?_))
      replace h := h M11 x9 p10
      refine r_iconst c215_51 ?_
      refine r_istore_n c215_52 (Nat.le_of_ble_eq_true rfl) ?_
      exact h
    · replace h := h.2 hc7
      refine r_iconst c215_25 ?_
      refine r_goto c215_26 ?_
      refine r_iconst c215_30 ?_
      refine r_iconst c215_31 ?_
      refine r_call c215_32 rfl rfl (Nat.le_of_ble_eq_true rfl) (okc_r rfl rfl (oK hK o440)) (b152_1 (cd := 1) (ix := 1) hK x1 ms_eq (by decide) (by decide) (fun M14 x12 p13 => Bk_v ?_))
      replace h := h M14 x12 p13
      refine r_ifP (P := (1 : Int) = (0 : Int)) c215_35 rfl (fun hc => absurd hc (by decide)) (fun hc => ?_)
      refine r_iconst c215_38 ?_
      exact r_iret c215_39 (Or.inl rfl) h
theorem u215_53 {d : Nat} {l1 : Int} {l2 : Int} {l3 : Int} {M : Mem} {K : KK} {Q : RR → Mem → KK → Prop} (hK : K.1 = 923) (hX : FX M)  (h : (l1 ≤ l3 → (¬ l2 = (0 : Int) → ∃ c4 : Mem, ∃ s5 : Mem, ∃ dr6 : Int, SM M 889 c4 s5 dr6 ∧ Q (.inl (some (vI (whiteS c4 s5 : Int)))) M K) ∧ (l2 = (0 : Int) → ∃ c8 : Mem, ∃ s9 : Mem, ∃ dr10 : Int, SM M 889 c8 s9 dr10 ∧ Q (.inl (some (vI (greyS c8 s9)))) M K)) ∧ (¬ (l1 ≤ l3) → ∃ c12 : Mem, ∃ s13 : Mem, ∃ L14 : LC, ∃ dr15 : Int, (SM M 889 c12 s13 dr15 ∧ LM M L14 ∧ s13 4 0 < 2000) ∧ (∀ (M19 : Mem), FX M19 → (FrJ 889 M M19 ∧ LMr M19 889 c12 (dayS c12 L14 s13 (rainM c12 s13 dr15)) ∧ M19 889 26 = dr15) → Wp (d + 6) 215 53 [vR 440, vI l1, vI l2, vI (w32 (l3 + 1))] [] M19 K Q))) : Wp (d + 6) 215 53 [vR 440, vI l1, vI l2, vI l3] [] M K Q := by
  refine r_iload_n c215_53 rfl ?_
  refine r_iload_n c215_54 rfl ?_
  refine r_icmpP (P := l1 ≤ l3) c215_55 rfl (fun hc1 => ?_) (fun hc1 => ?_)
  · replace h := h.1 hc1
    refine r_iload_n c215_72 rfl ?_
    refine r_ifP (P := ¬ l2 = (0 : Int)) c215_73 rfl (fun hc2 => ?_) (fun hc2 => ?_)
    · replace h := h.1 hc2
      refine r_aload_n c215_87 rfl ?_
      refine r_aload_n c215_88 rfl ?_
      refine r_getR c215_89 (oK hK o440) (FX.get (b := 889) hX (by decide) (by decide +kernel) (by decide)) (by decide) ?_
      obtain ⟨c4, h⟩ := h
      obtain ⟨s5, h⟩ := h
      obtain ⟨dr6, h⟩ := h
      obtain ⟨p7, h⟩ := h
      refine r_call c215_92 rfl rfl (Nat.le_of_ble_eq_true rfl) (okc_r rfl rfl (oK hK o440)) (g205 hK hX o889 l889 p7 (Bk_v ?_))
      exact r_iret c215_95 (Or.inl rfl) h
    · have hc3 := Classical.not_not.mp hc2
      replace h := h.2 hc3
      refine r_aload_n c215_76 rfl ?_
      refine r_aload_n c215_77 rfl ?_
      refine r_getR c215_78 (oK hK o440) (FX.get (b := 889) hX (by decide) (by decide +kernel) (by decide)) (by decide) ?_
      obtain ⟨c8, h⟩ := h
      obtain ⟨s9, h⟩ := h
      obtain ⟨dr10, h⟩ := h
      obtain ⟨p11, h⟩ := h
      refine r_call c215_81 rfl rfl (Nat.le_of_ble_eq_true rfl) (okc_r rfl rfl (oK hK o440)) (g204 hK hX o889 l889 p11 (Bk_v ?_))
      refine r_goto c215_84 ?_
      exact r_iret c215_95 (Or.inl rfl) h
  · replace h := h.2 hc1
    refine r_aload_n c215_58 rfl ?_
    refine r_aload_n c215_59 rfl ?_
    refine r_getR c215_60 (oK hK o440) (FX.get (b := 889) hX (by decide) (by decide +kernel) (by decide)) (by decide) ?_
    obtain ⟨c12, h⟩ := h
    obtain ⟨s13, h⟩ := h
    obtain ⟨L14, h⟩ := h
    obtain ⟨dr15, h⟩ := h
    obtain ⟨p16, h⟩ := h
    refine r_call c215_63 rfl rfl (Nat.le_of_ble_eq_true rfl) (okc_r rfl rfl (oK hK o440)) (g198 hK hX o889 l889 p16 (fun M19 x17 p18 => Bk_n ?_))
    replace h := h M19 x17 p18
    refine r_iinc c215_66 rfl ?_
    refine r_goto c215_69 ?_
    exact h
theorem u216_0 {d : Nat} {l1 : Int} {M : Mem} {K : KK} {Q : RR → Mem → KK → Prop} (hK : K.1 = 923) (hX : FX M)  (h : ∃ n2 : Nat, StM (mset M 440 0 (0 : Int)) n2 ∧ ((0 ≤ l1 ∧ l1 < (n2 : Int)) → (isO 923 888 20 = true ∧ L27 888 ∧ isO 923 889 20 = true ∧ L27 889 ∧ 888 ≠ 889) ∧ (∀ (M8 : Mem), FX M8 → (Fr1 889 (mset M 440 0 (0 : Int)) M8 ∧ ∀ j, j < 27 → M8 889 j = (mset M 440 0 (0 : Int)) 888 j) → Wp (d + 6) 216 42 [vR 440, vI l1, vI (0 : Int)] [] M8 K Q)) ∧ (¬ (0 ≤ l1 ∧ l1 < (n2 : Int)) → (∀ (M11 : Mem), FX M11 → BadM 1 0 (mset M 440 0 (0 : Int)) M11 → Q (.inl (some (vI (0 : Int)))) M11 K))) : Wp (d + 6) 216 0 [vR 440, vI l1, vU] [] M K Q := by
  refine r_aload_n c216_0 rfl ?_
  refine r_iconst c216_1 ?_
  refine r_putI c216_2 (oK hK o440) ?_
  have x1 := FX.set (v := (0 : Int)) (a := 440) (k := 0) hX (by decide +kernel)
  refine r_aload_n c216_5 rfl ?_
  refine r_aload_n c216_6 rfl ?_
  refine r_iload_n c216_7 rfl ?_
  obtain ⟨n2, h⟩ := h
  obtain ⟨p3, h⟩ := h
  refine r_call c216_8 rfl rfl (Nat.le_of_ble_eq_true rfl) (okc_r rfl rfl (oK hK o440)) (g208 hK x1 p3 (Bk_v ?_))
  refine r_ifP (P := (0 ≤ l1 ∧ l1 < (n2 : Int))) c216_11 bI_ne (fun hc4 => ?_) (fun hc4 => ?_)
  · replace h := h.1 hc4
    refine r_iconst c216_18 ?_
    refine r_iconst c216_19 ?_
    refine r_iconst c216_20 ?_
    refine r_call c216_21 rfl rfl (Nat.le_of_ble_eq_true rfl) (okc_r rfl rfl (oK hK o440)) (b152_0 hK x1 ms_eq (Bk_v ?_))
    refine r_ifP (P := (0 : Int) = (0 : Int)) c216_24 rfl (fun hc => ?_) (fun hc => absurd (by decide) hc)
    refine r_aload_n c216_29 rfl ?_
    refine r_getR c216_30 (oK hK o440) (FX.get (b := 888) x1 (by decide) (by decide +kernel) (by decide)) (by decide) ?_
    refine r_aload_n c216_33 rfl ?_
    refine r_getR c216_34 (oK hK o440) (FX.get (b := 889) x1 (by decide) (by decide +kernel) (by decide)) (by decide) ?_
    obtain ⟨p5, h⟩ := h
    refine r_call c216_37 rfl rfl (Nat.le_of_ble_eq_true rfl) (okc_s rfl rfl rfl) (g178 hK x1 p5 (fun M8 x6 p7 => Bk_n ?_))
    replace h := h M8 x6 p7
    refine r_iconst c216_40 ?_
    refine r_istore_n c216_41 (Nat.le_of_ble_eq_true rfl) ?_
    exact h
  · replace h := h.2 hc4
    refine r_iconst c216_14 ?_
    refine r_goto c216_15 ?_
    refine r_iconst c216_19 ?_
    refine r_iconst c216_20 ?_
    refine r_call c216_21 rfl rfl (Nat.le_of_ble_eq_true rfl) (okc_r rfl rfl (oK hK o440)) (b152_1 (cd := 1) (ix := 0) hK x1 ms_eq (by decide) (by decide) (fun M11 x9 p10 => Bk_v ?_))
    replace h := h M11 x9 p10
    refine r_ifP (P := (1 : Int) = (0 : Int)) c216_24 rfl (fun hc => absurd hc (by decide)) (fun hc => ?_)
    refine r_iconst c216_27 ?_
    exact r_iret c216_28 (Or.inl rfl) h
theorem u216_42 {d : Nat} {l1 : Int} {l2 : Int} {M : Mem} {K : KK} {Q : RR → Mem → KK → Prop} (hK : K.1 = 923) (hX : FX M)  (h : ((200 : Int) < l2 → Q (.inl (some (vI (-1 : Int)))) M K) ∧ (¬ ((200 : Int) < l2) → (0 ≤ (w32 ((6 : Int) + l1)) ∧ (w32 ((6 : Int) + l1)) < (27 : Int)) ∧ (¬ (M 889 (Int.toNat (w32 ((6 : Int) + l1)))) = (0 : Int) → ∃ c5 : Mem, ∃ s6 : Mem, ∃ L7 : LC, ∃ dr8 : Int, (SM M 889 c5 s6 dr8 ∧ LM M L7 ∧ s6 4 0 < 2000) ∧ (∀ (M12 : Mem), FX M12 → (FrJ 889 M M12 ∧ LMr M12 889 c5 (dayS c5 L7 s6 (rainM c5 s6 dr8)) ∧ M12 889 26 = dr8) → Wp (d + 6) 216 42 [vR 440, vI l1, vI (w32 (l2 + 1))] [] M12 K Q)) ∧ ((M 889 (Int.toNat (w32 ((6 : Int) + l1)))) = (0 : Int) → Q (.inl (some (vI l2))) M K))) : Wp (d + 6) 216 42 [vR 440, vI l1, vI l2] [] M K Q := by
  refine r_iload_n c216_42 rfl ?_
  refine r_sipush c216_43 ?_
  refine r_icmpP (P := (200 : Int) < l2) c216_46 rfl (fun hc1 => ?_) (fun hc1 => ?_)
  · replace h := h.1 hc1
    refine r_iconst c216_77 ?_
    exact r_iret c216_78 (Or.inl rfl) h
  · replace h := h.2 hc1
    refine r_aload_n c216_49 rfl ?_
    refine r_getR c216_50 (oK hK o440) (FX.get (b := 889) hX (by decide) (by decide +kernel) (by decide)) (by decide) ?_
    refine r_bipush c216_53 ?_
    refine r_iload_n c216_55 rfl ?_
    refine r_iadd c216_56 ?_
    obtain ⟨s2, h⟩ := h
    refine r_iae c216_57 (oK hK o889) (bd l889 s2) rfl ?_
    refine r_ifP (P := ¬ (M 889 (Int.toNat (w32 ((6 : Int) + l1)))) = (0 : Int)) c216_58 rfl (fun hc3 => ?_) (fun hc3 => ?_)
    · replace h := h.1 hc3
      refine r_aload_n c216_63 rfl ?_
      refine r_aload_n c216_64 rfl ?_
      refine r_getR c216_65 (oK hK o440) (FX.get (b := 889) hX (by decide) (by decide +kernel) (by decide)) (by decide) ?_
      obtain ⟨c5, h⟩ := h
      obtain ⟨s6, h⟩ := h
      obtain ⟨L7, h⟩ := h
      obtain ⟨dr8, h⟩ := h
      obtain ⟨p9, h⟩ := h
      refine r_call c216_68 rfl rfl (Nat.le_of_ble_eq_true rfl) (okc_r rfl rfl (oK hK o440)) (g198 hK hX o889 l889 p9 (fun M12 x10 p11 => Bk_n ?_))
      replace h := h M12 x10 p11
      refine r_iinc c216_71 rfl ?_
      refine r_goto c216_74 ?_
      exact h
    · have hc4 := Classical.not_not.mp hc3
      replace h := h.2 hc4
      refine r_iload_n c216_61 rfl ?_
      exact r_iret c216_62 (Or.inl rfl) h
theorem u244_0 {d : Nat} {l1 : Int} {M : Mem} {K : KK} {Q : RR → Mem → KK → Prop} (hK : K.1 = 923) (hX : FX M)  (h : (((0 : Int) ≤ l1 ∧ l1 ≤ (36 : Int)) → (isO 923 888 20 = true ∧ L27 888 ∧ isO 923 889 20 = true ∧ L27 889 ∧ 888 ≠ 889) ∧ (∀ (M6 : Mem), FX M6 → (Fr1 889 (mset M 440 0 (0 : Int)) M6 ∧ ∀ j, j < 27 → M6 889 j = (mset M 440 0 (0 : Int)) 888 j) → Wp (d + 6) 244 44 [vR 440, vI l1, vI (0 : Int), vU, vU] [] M6 K Q)) ∧ (¬ ((0 : Int) ≤ l1 ∧ l1 ≤ (36 : Int)) → (∀ (M9 : Mem), FX M9 → BadM 1 1 (mset M 440 0 (0 : Int)) M9 → Q (.inl (some (vI (0 : Int)))) M9 K))) : Wp (d + 6) 244 0 [vR 440, vI l1, vU, vU, vU] [] M K Q := by
  refine r_aload_n c244_0 rfl ?_
  refine r_iconst c244_1 ?_
  refine r_putI c244_2 (oK hK o440) ?_
  have x1 := FX.set (v := (0 : Int)) (a := 440) (k := 0) hX (by decide +kernel)
  refine r_aload_n c244_5 rfl ?_
  refine r_iload_n c244_6 rfl ?_
  refine r_iconst c244_7 ?_
  refine r_bipush c244_8 ?_
  refine r_call c244_10 rfl rfl (Nat.le_of_ble_eq_true rfl) (okc_s rfl rfl rfl) (g153 hK x1  (Bk_v ?_))
  refine r_ifP (P := ((0 : Int) ≤ l1 ∧ l1 ≤ (36 : Int))) c244_13 bI_ne (fun hc2 => ?_) (fun hc2 => ?_)
  · replace h := h.1 hc2
    refine r_iconst c244_20 ?_
    refine r_iconst c244_21 ?_
    refine r_iconst c244_22 ?_
    refine r_call c244_23 rfl rfl (Nat.le_of_ble_eq_true rfl) (okc_r rfl rfl (oK hK o440)) (b152_0 hK x1 ms_eq (Bk_v ?_))
    refine r_ifP (P := (0 : Int) = (0 : Int)) c244_26 rfl (fun hc => ?_) (fun hc => absurd (by decide) hc)
    refine r_aload_n c244_31 rfl ?_
    refine r_getR c244_32 (oK hK o440) (FX.get (b := 888) x1 (by decide) (by decide +kernel) (by decide)) (by decide) ?_
    refine r_aload_n c244_35 rfl ?_
    refine r_getR c244_36 (oK hK o440) (FX.get (b := 889) x1 (by decide) (by decide +kernel) (by decide)) (by decide) ?_
    obtain ⟨p3, h⟩ := h
    refine r_call c244_39 rfl rfl (Nat.le_of_ble_eq_true rfl) (okc_s rfl rfl rfl) (g178 hK x1 p3 (fun M6 x4 p5 => Bk_n ?_))
    replace h := h M6 x4 p5
    refine r_iconst c244_42 ?_
    refine r_istore_n c244_43 (Nat.le_of_ble_eq_true rfl) ?_
    exact h
  · replace h := h.2 hc2
    refine r_iconst c244_16 ?_
    refine r_goto c244_17 ?_
    refine r_iconst c244_21 ?_
    refine r_iconst c244_22 ?_
    refine r_call c244_23 rfl rfl (Nat.le_of_ble_eq_true rfl) (okc_r rfl rfl (oK hK o440)) (b152_1 (cd := 1) (ix := 1) hK x1 ms_eq (by decide) (by decide) (fun M9 x7 p8 => Bk_v ?_))
    replace h := h M9 x7 p8
    refine r_ifP (P := (1 : Int) = (0 : Int)) c244_26 rfl (fun hc => absurd hc (by decide)) (fun hc => ?_)
    refine r_iconst c244_29 ?_
    exact r_iret c244_30 (Or.inl rfl) h
theorem u244_44 {d : Nat} {l1 : Int} {l2 : Int} {l3 : PV} {l4 : PV} {M : Mem} {K : KK} {Q : RR → Mem → KK → Prop} (hK : K.1 = 923) (hX : FX M)  (h : ((200 : Int) < l2 → Q (.inl (some (vI (-1 : Int)))) M K) ∧ (¬ ((200 : Int) < l2) → Wp (d + 6) 244 56 [vR 440, vI l1, vI l2, vI (0 : Int), vI (0 : Int)] [] M K Q)) : Wp (d + 6) 244 44 [vR 440, vI l1, vI l2, l3, l4] [] M K Q := by
  refine r_iload_n c244_44 rfl ?_
  refine r_sipush c244_45 ?_
  refine r_icmpP (P := (200 : Int) < l2) c244_48 rfl (fun hc1 => ?_) (fun hc1 => ?_)
  · replace h := h.1 hc1
    refine r_iconst c244_123 ?_
    exact r_iret c244_124 (Or.inl rfl) h
  · replace h := h.2 hc1
    refine r_iconst c244_51 ?_
    refine r_istore_n c244_52 (Nat.le_of_ble_eq_true rfl) ?_
    refine r_iconst c244_53 ?_
    refine r_istore c244_54 (Nat.le_of_ble_eq_true rfl) ?_
    exact h
theorem u244_56 {d : Nat} {l1 : Int} {l2 : Int} {l3 : Int} {l4 : Int} {M : Mem} {K : KK} {Q : RR → Mem → KK → Prop} (hK : K.1 = 923) (hX : FX M)  (h : ((M 444 1) ≤ l4 → (l3 < l1 → ∃ c3 : Mem, ∃ s4 : Mem, ∃ L5 : LC, ∃ dr6 : Int, (SM M 889 c3 s4 dr6 ∧ LM M L5 ∧ s4 4 0 < 2000) ∧ (∀ (M10 : Mem), FX M10 → (FrJ 889 M M10 ∧ LMr M10 889 c3 (dayS c3 L5 s4 (rainM c3 s4 dr6)) ∧ M10 889 26 = dr6) → Wp (d + 6) 244 44 [vR 440, vI l1, vI (w32 (l2 + 1)), vI l3, vI l4] [] M10 K Q)) ∧ (¬ (l3 < l1) → Q (.inl (some (vI l2))) M K)) ∧ (¬ ((M 444 1) ≤ l4) → (0 ≤ (w32 ((6 : Int) + l4)) ∧ (w32 ((6 : Int) + l4)) < (27 : Int)) ∧ (¬ (M 889 (Int.toNat (w32 ((6 : Int) + l4)))) = (0 : Int) → Wp (d + 6) 244 56 [vR 440, vI l1, vI l2, vI (w32 (l3 + (0 : Int))), vI (w32 (l4 + 1))] [] M K Q) ∧ ((M 889 (Int.toNat (w32 ((6 : Int) + l4)))) = (0 : Int) → (0 ≤ l4 ∧ l4 < (6 : Int)) ∧ Wp (d + 6) 244 56 [vR 440, vI l1, vI l2, vI (w32 (l3 + (M (459 + Int.toNat l4) 0))), vI (w32 (l4 + 1))] [] M K Q))) : Wp (d + 6) 244 56 [vR 440, vI l1, vI l2, vI l3, vI l4] [] M K Q := by
  refine r_iload c244_56 rfl ?_
  refine r_aload_n c244_58 rfl ?_
  refine r_getR c244_59 (oK hK o440) (FX.get (b := 444) hX (by decide) (by decide +kernel) (by decide)) (by decide) ?_
  refine r_iconst c244_62 ?_
  refine r_iae c244_63 (oK hK o444) (bd l444 (by decide)) rfl ?_
  refine r_icmpP (P := (M 444 1) ≤ l4) c244_64 rfl (fun hc1 => ?_) (fun hc1 => ?_)
  · replace h := h.1 hc1
    refine r_iload_n c244_102 rfl ?_
    refine r_iload_n c244_103 rfl ?_
    refine r_icmpP (P := l3 < l1) c244_104 rfl (fun hc2 => ?_) (fun hc2 => ?_)
    · replace h := h.1 hc2
      refine r_aload_n c244_109 rfl ?_
      refine r_aload_n c244_110 rfl ?_
      refine r_getR c244_111 (oK hK o440) (FX.get (b := 889) hX (by decide) (by decide +kernel) (by decide)) (by decide) ?_
      obtain ⟨c3, h⟩ := h
      obtain ⟨s4, h⟩ := h
      obtain ⟨L5, h⟩ := h
      obtain ⟨dr6, h⟩ := h
      obtain ⟨p7, h⟩ := h
      refine r_call c244_114 rfl rfl (Nat.le_of_ble_eq_true rfl) (okc_r rfl rfl (oK hK o440)) (g198 hK hX o889 l889 p7 (fun M10 x8 p9 => Bk_n ?_))
      replace h := h M10 x8 p9
      refine r_iinc c244_117 rfl ?_
      refine r_goto c244_120 ?_
      exact h
    · replace h := h.2 hc2
      refine r_iload_n c244_107 rfl ?_
      exact r_iret c244_108 (Or.inl rfl) h
  · replace h := h.2 hc1
    refine r_iload_n c244_67 rfl ?_
    refine r_aload_n c244_68 rfl ?_
    refine r_getR c244_69 (oK hK o440) (FX.get (b := 889) hX (by decide) (by decide +kernel) (by decide)) (by decide) ?_
    refine r_bipush c244_72 ?_
    refine r_iload c244_74 rfl ?_
    refine r_iadd c244_76 ?_
    obtain ⟨s11, h⟩ := h
    refine r_iae c244_77 (oK hK o889) (bd l889 s11) rfl ?_
    refine r_ifP (P := ¬ (M 889 (Int.toNat (w32 ((6 : Int) + l4)))) = (0 : Int)) c244_78 rfl (fun hc12 => ?_) (fun hc12 => ?_)
    · replace h := h.1 hc12
      refine r_iconst c244_93 ?_
      refine r_iadd c244_94 ?_
      refine r_istore_n c244_95 (Nat.le_of_ble_eq_true rfl) ?_
      refine r_iinc c244_96 rfl ?_
      refine r_goto c244_99 ?_
      exact h
    · have hc13 := Classical.not_not.mp hc12
      replace h := h.2 hc13
      refine r_aload_n c244_81 rfl ?_
      refine r_getR c244_82 (oK hK o440) (FX.get (b := 458) hX (by decide) (by decide +kernel) (by decide)) (by decide) ?_
      refine r_iload c244_85 rfl ?_
      obtain ⟨s14, h⟩ := h
      refine r_aa c244_87 (mrw o458 hK) (bd l458 s14) (rf458 hX s14) (by omega) ?_
      refine r_iconst c244_88 ?_
      refine r_iae c244_89 (oK hK (ro458 s14)) (bd (rz458 s14) (by decide)) rfl ?_
      refine r_goto c244_90 ?_
      refine r_iadd c244_94 ?_
      refine r_istore_n c244_95 (Nat.le_of_ble_eq_true rfl) ?_
      refine r_iinc c244_96 rfl ?_
      refine r_goto c244_99 ?_
      exact h
/-! the questions ahead, white, whiteYards -/
/-- k days on, nothing being done -/
def dayK (c : Mem) (L : LC) (s : Mem) : Nat → Mem
  | 0 => s
  | k + 1 => dayS c L (dayK c L s k) (rainS c (dayK c L s k 4 0))
def aheadS (c s : Mem) (L : LC) (n : Nat) (w : Int) : Int := if w = 0 then greyS c (dayK c L s n) else (whiteS c (dayK c L s n) : Int)
def wtP (c s : Mem) (L : LC) (p : Nat) (k : Nat) : Bool := decide (dayK c L s k 1 p = 0)
def wyP (c s : Mem) (L : LC) (n : Int) (k : Nat) : Bool := decide (n ≤ yardS c (whiteS c (dayK c L s k)))
section OP2
variable {d : Nat} {M M' : Mem} {K : KK} {Q : RR → Mem → KK → Prop} {c s : Mem} {L : LC} {cm l : Nat}
theorem dayS_40 {rain : Int} : dayS c L s rain 4 0 = s 4 0 + 1 := by simp [dayS]
theorem dayK_w (h : LW c s) (hd : s 4 0 ≤ 500) : ∀ k, k ≤ 1000 → LW c (dayK c L s k) ∧ dayK c L s k 4 0 = s 4 0 + (k : Int) := by
  intro k
  induction k with
  | zero => intro _; exact ⟨h, by show s 4 0 = _; omega⟩
  | succ k ih =>
    intro hk
    obtain ⟨a, b⟩ := ih (by omega)
    refine ⟨dayS_w a (by omega), ?_⟩
    show dayS c L (dayK c L s k) _ 4 0 = _
    rw [dayS_40, b]; omega
theorem FrI.qc (h : FrI 45 M M') : FrQc M M' := ⟨fun b k p => h b k (fun e => p (Or.inl e)) (fun e => p (Or.inr (Or.inl (by omega)))), fun h9 => h9.of (h _ _ (by unfold scL; omega) (by omega)) (h _ _ (by unfold scL; omega) (by omega))⟩
/-- the class's trial game, t -/
def LT (M M1 : Mem) (cm l : Nat) (c : Mem) (L : LC) (t : Mem) : Prop := FrI 45 M M1 ∧ SKc M1 cm 45 c t ∧ LWC M1 cm L l ∧ M1 32 11 = (cm : Int)
theorem LT.st {M1 t : Mem} (b : isO 923 cm 0 = true) (hM : M 32 11 = (cm : Int)) (e : SKc M cm 40 c s) (f : LWC M cm L l) (hf : FrI 45 M M1) (hl : LK M1 45 c t) (hw : LW c t) : LT M M1 cm l c L t :=
  ⟨hf, ⟨e.1.i b o45 hf, e.2.1, hl, hw⟩, f.i b o45 hf, (hf _ _ (by unfold scL; omega) (by omega)).trans hM⟩
theorem LT.nx {M1 M2 t : Mem} {rain : Int} (b : isO 923 cm 0 = true) (h : LT M M1 cm l c L t) (ht : t 4 0 < 2000) (hf : FrI 45 M1 M2) (hl : LK M2 45 c (dayS c L t rain)) : LT M M2 cm l c L (dayS c L t rain) :=
  ⟨h.1.tr hf, ⟨h.2.1.1.i b o45 hf, h.2.1.2.1, hl, dayS_w h.2.1.2.2.2 ht⟩, h.2.2.1.i b o45 hf, (hf _ _ (by unfold scL; omega) (by omega)).trans h.2.2.2⟩
theorem c111 {v w : Int} (hK : K.1 = 923) (hX : FX M) (h : GC M c L s) (hd : s 4 0 ≤ 500) (k : QC Q M K True ((0 ≤ v ∧ v ≤ 99) ∧ (0 ≤ w ∧ w ≤ 1)) (vI (aheadS c s L v.toNat w))) : Wm (d + 4) 111 [vR 32, vI v, vI w] M K Q := by
  obtain ⟨cm, l, a, b, e, f⟩ := h
  refine u111_0 hK hX ⟨fun hv => k.2.1 trivial (fun h9 => hv h9.1), fun hv => ⟨fun hw => k.2.1 trivial (fun h9 => hw h9.2), fun hw => ⟨c, s, ⟨by omega, e.2.1, e.2.2.1⟩, fun M1 x1 p1 => ?_⟩⟩⟩
  obtain ⟨n, rfl⟩ : ∃ n : Nat, v = (n : Int) := ⟨v.toNat, by omega⟩
  have kk := k.2.2 trivial ⟨hv, hw⟩
  rw [Int.toNat_natCast] at kk
  unfold aheadS at kk
  have loop : ∀ fu i, i + fu = n → ∀ M2, FX M2 → LT M M2 cm l c L (dayK c L s i) → Wp (d + 4) 111 41 [vR 32, vI (n : Int), vI w, vI (i : Int)] [] M2 K Q := by
    intro fu
    induction fu with
    | zero =>
      intro i hi M2 x2 t2
      have hin : i = n := by omega
      subst hin
      have kk := kk M2 x2 t2.1.qc
      refine u111_41 hK x2 ⟨fun _ => ⟨fun h9 => ⟨cm, t2.2.2.2, b, c, _, t2.2.1, ?_⟩, fun h9 => ⟨cm, t2.2.2.2, b, c, _, t2.2.1, ?_⟩⟩, fun h9 => absurd (Int.le_refl _) h9⟩
      · rw [if_neg h9] at kk; exact kk
      · rw [if_pos h9] at kk; exact kk
    | succ fu ih =>
      intro i hi M2 x2 t2
      have dw := dayK_w (L := L) e.2.2.2 hd i (by omega)
      refine u111_41 hK x2 ⟨fun h9 => absurd h9 (by omega), fun _ => ⟨cm, t2.2.2.2, b, c, ⟨t2.2.1.1, e.2.1⟩, c, dayK c L s i, L, l, ⟨t2.2.1, t2.2.2.1, by omega⟩, fun M3 x3 p3 => ?_⟩⟩
      rw [t2.2.1.2.2.1.2.1] at p3
      rw [w1 (by omega)]
      exact ih (i + 1) (by omega) M3 x3 (t2.nx b (by omega) p3.1 p3.2)
  exact loop n 0 (by omega) M1 x1 (LT.st b a e f p1.1 p1.2.1 e.2.2.2)
theorem c112 {v : Int} (hK : K.1 = 923) (hX : FX M) (h : GC M c L s) (hd : s 4 0 ≤ 500) (k : QC Q M K (0 ≤ v ∧ v < (nSt c : Int)) True (vI (fsR (wtP c s L v.toNat) 201 0))) : Wm (d + 4) 112 [vR 32, vI v] M K Q := by
  have hst := h.stn
  obtain ⟨cm, l, a, b, e, f⟩ := h
  refine u112_0 hK hX ⟨nSt c, hst, fun hv => ⟨c, s, ⟨by omega, e.2.1, e.2.2.1⟩, fun M1 x1 p1 => ?_⟩, k.1⟩
  obtain ⟨p, rfl⟩ : ∃ n : Nat, v = (n : Int) := ⟨v.toNat, by omega⟩
  have hp6 : p < 6 := by have := hst; obtain ⟨_, _, _, _, _⟩ := this; omega
  have kk := k.2.2 hv trivial
  rw [Int.toNat_natCast] at kk
  have loop : ∀ fu i, i + fu = 200 → fsR (wtP c s L p) 201 0 = fsR (wtP c s L p) (fu + 1) i → ∀ M2, FX M2 → LT M M2 cm l c L (dayK c L s i) → Wp (d + 4) 112 18 [vR 32, vI (p : Int), vI (i : Int)] [] M2 K Q := by
    intro fu
    induction fu with
    | zero =>
      intro i hi hf M2 x2 t2
      have hin : i = 200 := by omega
      subst hin
      have kk := kk M2 x2 t2.1.qc
      rw [hf] at kk
      have eg : M2 46 p = dayK c L s 200 1 p := (t2.2.1.2.2.1.1 p (by omega)).2.1
      refine u112_18 hK x2 ⟨fun _ => ⟨by omega, ?_⟩, fun h9 => absurd (by decide) h9⟩
      rw [Int.toNat_natCast, eg]
      refine ⟨fun h9 => ?_, fun h9 => ?_⟩
      · have : fsR (wtP c s L p) (0 + 1) 200 = -1 := by simp [fsR, wtP, h9]
        rw [this] at kk; exact kk
      · have : fsR (wtP c s L p) (0 + 1) 200 = 200 := by simp [fsR, wtP, h9]
        rw [this] at kk; exact kk
    | succ fu ih =>
      intro i hi hf M2 x2 t2
      have dw := dayK_w (L := L) e.2.2.2 hd i (by omega)
      have eg : M2 46 p = dayK c L s i 1 p := (t2.2.1.2.2.1.1 p (by omega)).2.1
      refine u112_18 hK x2 ⟨fun h9 => absurd h9 (by omega), fun _ => ⟨by omega, ?_⟩⟩
      rw [Int.toNat_natCast, eg]
      refine ⟨fun h9 => ⟨cm, t2.2.2.2, b, c, ⟨t2.2.1.1, e.2.1⟩, c, dayK c L s i, L, l, ⟨t2.2.1, t2.2.2.1, by omega⟩, fun M3 x3 p3 => ?_⟩, fun h9 => ?_⟩
      · rw [t2.2.1.2.2.1.2.1] at p3
        rw [w1 (by omega)]
        refine ih (i + 1) (by omega) ?_ M3 x3 (t2.nx b (by omega) p3.1 p3.2)
        rw [hf]; simp [fsR, wtP, h9]
      · have kk := kk M2 x2 t2.1.qc
        have : fsR (wtP c s L p) (fu + 1 + 1) i = (i : Int) := by simp [fsR, wtP, h9]
        rw [hf, this] at kk; exact kk
  exact loop 200 0 (by omega) rfl M1 x1 (LT.st b a e f p1.1 p1.2.1 e.2.2.2)
theorem c113 {v : Int} (hK : K.1 = 923) (hX : FX M) (h : GC M c L s) (hd : s 4 0 ≤ 500) (k : QC Q M K True (0 ≤ v ∧ v ≤ 36) (vI (fsR (wyP c s L v) 201 0))) : Wm (d + 4) 113 [vR 32, vI v] M K Q := by
  obtain ⟨cm, l, a, b, e, f⟩ := h
  refine u113_0 hK hX ⟨fun hv => ⟨c, s, ⟨by omega, e.2.1, e.2.2.1⟩, fun M1 x1 p1 => ?_⟩, k.2.1 trivial⟩
  have kk := k.2.2 trivial hv
  have loop : ∀ fu i, i + fu = 200 → fsR (wyP c s L v) 201 0 = fsR (wyP c s L v) (fu + 1) i → ∀ M2, FX M2 → LT M M2 cm l c L (dayK c L s i) → Wp (d + 4) 113 24 [vR 32, vI v, vI (i : Int)] [] M2 K Q := by
    intro fu
    induction fu with
    | zero =>
      intro i hi hf M2 x2 t2
      have hin : i = 200 := by omega
      subst hin
      have kk := kk M2 x2 t2.1.qc
      rw [hf] at kk
      refine u113_24 hK x2 ⟨fun _ => ⟨cm, t2.2.2.2, b, c, _, t2.2.1, fun h9 => ?_, fun h9 => ?_⟩, fun h9 => absurd (by decide) h9⟩
      · have : fsR (wyP c s L v) (0 + 1) 200 = -1 := by simp [fsR, wyP]; omega
        rw [this] at kk; exact kk
      · have : fsR (wyP c s L v) (0 + 1) 200 = 200 := by simp [fsR, wyP]; omega
        rw [this] at kk; exact kk
    | succ fu ih =>
      intro i hi hf M2 x2 t2
      have dw := dayK_w (L := L) e.2.2.2 hd i (by omega)
      refine u113_24 hK x2 ⟨fun h9 => absurd h9 (by omega), fun _ => ⟨cm, t2.2.2.2, b, c, _, t2.2.1, fun h9 => ⟨c, ⟨t2.2.1.1, e.2.1⟩, c, dayK c L s i, L, l, ⟨t2.2.1, t2.2.2.1, by omega⟩, fun M3 x3 p3 => ?_⟩, fun h9 => ?_⟩⟩
      · rw [t2.2.1.2.2.1.2.1] at p3
        rw [w1 (by omega)]
        refine ih (i + 1) (by omega) ?_ M3 x3 (t2.nx b (by omega) p3.1 p3.2)
        rw [hf]
        have hP : wyP c s L v i = false := by unfold wyP; exact decide_eq_false (by omega)
        simp [fsR, hP]
      · have kk := kk M2 x2 t2.1.qc
        have hP : wyP c s L v i = true := by unfold wyP; exact decide_eq_true (by omega)
        have : fsR (wyP c s L v) (fu + 1 + 1) i = (i : Int) := by simp [fsR, hP]
        rw [hf, this] at kk; exact kk
  exact loop 200 0 (by omega) rfl M1 x1 (LT.st b a e f p1.1 p1.2.1 e.2.2.2)
/-- the model's trial game, t -/
def LTm (M M1 : Mem) (c : Mem) (L : LC) (t : Mem) : Prop := FrJ 889 M M1 ∧ SM M1 889 c t (-1) ∧ LM M1 L
theorem FrJ.q (h : FrJ 889 M M') : FrQm M M' := fun a k p => h a k (by unfold scM at p; omega) (by unfold scM at p; omega) (by unfold scM at p; omega)
theorem LTm.st {M1 : Mem} (h : GM M c L s) (hf : FrJ 889 M M1) (hc : ∀ j, j < 27 → M1 889 j = M 888 j) : LTm M M1 c L s := by
  have hN := h.1.2.1.n.1.2
  refine ⟨hf, ⟨h.1.1.q h.1.2.1 hf.q, h.1.2.1, ?_, h.1.2.2.2.1, ?_⟩, h.2.q hf.q⟩
  · obtain ⟨a, b, e⟩ := h.1.2.2.1
    refine ⟨fun p hp => ?_, (hc 24 (by decide)).trans b, (hc 25 (by decide)).trans e⟩
    obtain ⟨q0, q1, q2, q3⟩ := a p hp
    exact ⟨(hc _ (by omega)).trans q0, (hc _ (by omega)).trans q1, (hc _ (by omega)).trans q2, (hc _ (by omega)).trans q3⟩
  · rw [hc 26 (by decide)]; exact h.1.2.2.2.2
theorem LTm.nx {M1 M2 t : Mem} {rain : Int} (h : LTm M M1 c L t) (ht : t 4 0 < 2000) (hf : FrJ 889 M1 M2) (hl : LMr M2 889 c (dayS c L t rain)) (hd : M2 889 26 = -1) : LTm M M2 c L (dayS c L t rain) :=
  ⟨h.1.tr hf, ⟨h.2.1.1.q h.2.1.2.1 hf.q, h.2.1.2.1, hl, dayS_w h.2.1.2.2.2.1 ht, hd⟩, h.2.2.q hf.q⟩
theorem cpy_o : isO 923 888 20 = true ∧ L27 888 ∧ isO 923 889 20 = true ∧ L27 889 ∧ 888 ≠ 889 := ⟨by decide +kernel, by unfold L27; decide +kernel, by decide +kernel, by unfold L27; decide +kernel, by decide⟩
theorem LTm.c0 {M1 : Mem} (h : GM M c L s) (p : Fr1 889 (mset M 440 0 0) M1 ∧ ∀ j, j < 27 → M1 889 j = mset M 440 0 0 888 j) : LTm (mset M 440 0 0) M1 c L s := LTm.st (h.q FrQm.t0) (fun a k _ _ h3 => p.1 a k h3) p.2
theorem LTm.z {M1 t : Mem} (h : LTm (mset M 440 0 0) M1 c L t) : FrQm M M1 ∧ M1 440 0 = 0 := ⟨FrQm.t0.tr h.1.q, (h.1 440 0 (by decide) (by decide) (by decide)).trans ms_eq⟩
theorem m215 {v w : Int} (hK : K.1 = 923) (hX : FX M) (h : GM M c L s) (hd : s 4 0 ≤ 500) (k : QM Q M K True ((0 ≤ v ∧ v ≤ 99) ∧ (0 ≤ w ∧ w ≤ 1)) 1 (vI 0) (vI (aheadS c s L v.toNat w))) : Wm (d + 6) 215 [vR 440, vI v, vI w] M K Q := by
  refine u215_0 hK hX ⟨fun hv => k.bad trivial (fun h9 => hv h9.1), fun hv => ⟨fun hw => ⟨cpy_o, fun M1 x1 p1 => ?_⟩, fun hw => k.bad trivial (fun h9 => hw h9.2)⟩⟩
  obtain ⟨n, rfl⟩ : ∃ n : Nat, v = (n : Int) := ⟨v.toNat, by omega⟩
  have kk := k.2.2 trivial ⟨hv, hw⟩
  rw [Int.toNat_natCast] at kk
  unfold aheadS at kk
  have loop : ∀ fu i, i + fu = n → ∀ M2, FX M2 → LTm (mset M 440 0 0) M2 c L (dayK c L s i) → Wp (d + 6) 215 53 [vR 440, vI (n : Int), vI w, vI (i : Int)] [] M2 K Q := by
    intro fu
    induction fu with
    | zero =>
      intro i hi M2 x2 t2
      have hin : i = n := by omega
      subst hin
      have kk := kk M2 x2 t2.z.1 t2.z.2
      refine u215_53 hK x2 ⟨fun _ => ⟨fun h9 => ⟨c, _, -1, t2.2.1, ?_⟩, fun h9 => ⟨c, _, -1, t2.2.1, ?_⟩⟩, fun h9 => absurd (Int.le_refl _) h9⟩
      · rw [if_neg h9] at kk; exact kk
      · rw [if_pos h9] at kk; exact kk
    | succ fu ih =>
      intro i hi M2 x2 t2
      have dw := dayK_w (L := L) h.1.2.2.2.1 hd i (by omega)
      refine u215_53 hK x2 ⟨fun h9 => absurd h9 (by omega), fun _ => ⟨c, dayK c L s i, L, -1, ⟨t2.2.1, t2.2.2, by omega⟩, fun M3 x3 p3 => ?_⟩⟩
      unfold rainM at p3; rw [if_pos rfl] at p3
      rw [w1 (by omega)]
      exact ih (i + 1) (by omega) M3 x3 (t2.nx (by omega) p3.1 p3.2.1 p3.2.2)
  exact loop n 0 (by omega) M1 x1 (LTm.c0 h p1)
theorem m216 {v : Int} (hK : K.1 = 923) (hX : FX M) (h : GM M c L s) (hd : s 4 0 ≤ 500) (k : QM Q M K (0 ≤ v ∧ v < (nSt c : Int)) True 2 (vI 0) (vI (fsR (wtP c s L v.toNat) 201 0))) : Wm (d + 6) 216 [vR 440, vI v] M K Q := by
  have hN := h.stn.2
  refine u216_0 hK hX ⟨nSt c, h.stn.t0, fun hv => ⟨cpy_o, fun M1 x1 p1 => ?_⟩, fun hv => k.mis hv⟩
  obtain ⟨p, rfl⟩ : ∃ n : Nat, v = (n : Int) := ⟨v.toNat, by omega⟩
  have hp6 : p < 6 := by omega
  have kk := k.2.2 hv trivial
  rw [Int.toNat_natCast] at kk
  have loop : ∀ fu i, i + fu = 201 → fsR (wtP c s L p) 201 0 = fsR (wtP c s L p) fu i → ∀ M2, FX M2 → LTm (mset M 440 0 0) M2 c L (dayK c L s i) → Wp (d + 6) 216 42 [vR 440, vI (p : Int), vI (i : Int)] [] M2 K Q := by
    intro fu
    induction fu with
    | zero =>
      intro i hi hf M2 x2 t2
      have kk := kk M2 x2 t2.z.1 t2.z.2
      rw [hf] at kk
      exact u216_42 hK x2 ⟨fun _ => kk, fun h9 => absurd (by omega) h9⟩
    | succ fu ih =>
      intro i hi hf M2 x2 t2
      have dw := dayK_w (L := L) h.1.2.2.2.1 hd i (by omega)
      have eg : M2 889 (6 + p) = dayK c L s i 1 p := (t2.2.1.2.2.1.1 p (by omega)).2.1
      refine u216_42 hK x2 ⟨fun h9 => absurd h9 (by omega), fun _ => ⟨bx6 hp6, ?_⟩⟩
      rw [ix6 hp6, eg]
      refine ⟨fun h9 => ⟨c, dayK c L s i, L, -1, ⟨t2.2.1, t2.2.2, by omega⟩, fun M3 x3 p3 => ?_⟩, fun h9 => ?_⟩
      · unfold rainM at p3; rw [if_pos rfl] at p3
        rw [w1 (by omega)]
        refine ih (i + 1) (by omega) ?_ M3 x3 (t2.nx (by omega) p3.1 p3.2.1 p3.2.2)
        rw [hf]; simp [fsR, wtP, h9]
      · have kk := kk M2 x2 t2.z.1 t2.z.2
        have : fsR (wtP c s L p) (fu + 1) i = (i : Int) := by simp [fsR, wtP, h9]
        rw [hf, this] at kk; exact kk
  exact loop 201 0 (by omega) rfl M1 x1 (LTm.c0 h p1)
/-- yards of the white strips below k -/
def wyF (c t : Mem) (k : Nat) : Int := sumF (fun p => if t 1 p = 0 then c 2 p else 0) k
theorem wyF_ok {t : Mem} : wyF c t (nSt c) = yardS c (whiteS c t) := by
  refine sumF_cg _ (fun i hi => ?_)
  unfold bitI whiteS
  rw [bitsF_tb, decide_eq_true hi, Bool.true_and]
  by_cases h : t 1 i = 0
  · rw [if_pos h, if_pos (decide_eq_true h)]; omega
  · rw [if_neg h, if_neg (by simp [h])]; omega
theorem m244 {v : Int} (hK : K.1 = 923) (hX : FX M) (h : GM M c L s) (hd : s 4 0 ≤ 500) (k : QM Q M K True (0 ≤ v ∧ v ≤ 36) 1 (vI 0) (vI (fsR (wyP c s L v) 201 0))) : Wm (d + 6) 244 [vR 440, vI v] M K Q := by
  have hw := h.1.2.1
  have hN := h.stn.2
  refine u244_0 hK hX ⟨fun hv => ⟨cpy_o, fun M1 x1 p1 => ?_⟩, fun hv => k.bad trivial hv⟩
  have kk := k.2.2 trivial hv
  have loop : ∀ fu i, i + fu = 201 → fsR (wyP c s L v) 201 0 = fsR (wyP c s L v) fu i → ∀ (v3 v4 : PV) M2, FX M2 → LTm (mset M 440 0 0) M2 c L (dayK c L s i) → Wp (d + 6) 244 44 [vR 440, vI v, vI (i : Int), v3, v4] [] M2 K Q := by
    intro fu
    induction fu with
    | zero =>
      intro i hi hf v3 v4 M2 x2 t2
      have kk := kk M2 x2 t2.z.1 t2.z.2
      rw [hf] at kk
      exact u244_44 hK x2 ⟨fun _ => kk, fun h9 => absurd (by omega) h9⟩
    | succ fu ih =>
      intro i hi hf v3 v4 M2 x2 t2
      have dw := dayK_w (L := L) h.1.2.2.2.1 hd i (by omega)
      refine u244_44 hK x2 ⟨fun h9 => absurd h9 (by omega), fun _ => ?_⟩
      have e443 : M2 444 1 = (nSt c : Int) := (t2.2.1.1.1 1 (by decide)).trans hw.n.1.1
      have inner : ∀ fp p, p + fp = nSt c → Wp (d + 6) 244 56 [vR 440, vI v, vI (i : Int), vI (wyF c (dayK c L s i) p), vI (p : Int)] [] M2 K Q := by
        intro fp
        induction fp with
        | zero =>
          intro p hp
          have hpn : p = nSt c := by omega
          subst hpn
          refine u244_56 hK x2 ⟨fun _ => ?_, fun h9 => absurd (by omega) h9⟩
          rw [wyF_ok]
          refine ⟨fun h9 => ⟨c, dayK c L s i, L, -1, ⟨t2.2.1, t2.2.2, by omega⟩, fun M3 x3 p3 => ?_⟩, fun h9 => ?_⟩
          · unfold rainM at p3; rw [if_pos rfl] at p3
            rw [w1 (by omega)]
            refine ih (i + 1) (by omega) ?_ _ _ M3 x3 (t2.nx (by omega) p3.1 p3.2.1 p3.2.2)
            have hP : wyP c s L v i = false := by unfold wyP; exact decide_eq_false (by omega)
            rw [hf]; simp [fsR, hP]
          · have kk := kk M2 x2 t2.z.1 t2.z.2
            have hP : wyP c s L v i = true := by unfold wyP; exact decide_eq_true (by omega)
            have : fsR (wyP c s L v) (fu + 1) i = (i : Int) := by simp [fsR, hP]
            rw [hf, this] at kk; exact kk
        | succ fp ihp =>
          intro p hp
          have eg : M2 889 (6 + p) = dayK c L s i 1 p := (t2.2.1.2.2.1.1 p (by omega)).2.1
          have hb : ∀ q, q ≤ nSt c → 0 ≤ wyF c (dayK c L s i) q ∧ wyF c (dayK c L s i) q ≤ 6 * (q : Int) := by
            intro q
            induction q with
            | zero => intro _; simp [wyF, sumF]
            | succ q ih9 =>
              intro hq
              have := ih9 (by omega)
              have := hw.y (show q < nSt c by omega)
              unfold wyF at *
              simp only [sumF]; split <;> omega
          have b1 := hb p (by omega)
          have hy := hw.y (show p < nSt c by omega)
          have nx := ihp (p + 1) (by omega)
          unfold wyF at nx b1 ⊢
          simp only [sumF] at nx
          refine u244_56 hK x2 ⟨fun h9 => absurd h9 (by omega), fun _ => ⟨bx6 (by omega), ?_⟩⟩
          rw [ix6 (by omega), eg, Int.toNat_natCast, (t2.2.1.1.2.2.1 p (by have := hw.n.1.1; omega)).1, w1 (by omega), w32_id (by omega), w32_id (by omega)]
          refine ⟨fun h9 => ?_, fun h9 => ⟨by omega, ?_⟩⟩
          · rw [if_neg h9] at nx; exact nx
          · rw [if_pos h9] at nx; exact nx
      exact inner _ 0 (Nat.zero_add _)
  exact loop 201 0 (by omega) rfl _ _ M1 x1 (LTm.c0 h p1)
end OP2
