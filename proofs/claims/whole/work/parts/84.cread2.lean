theorem u99_0 {d : Nat} {l1 : Int} {M : Mem} {K : KK} {Q : RR → Mem → KK → Prop} (hK : K.1 = 923) (hX : FX M)  (h : (((0 ≤ l1 ∧ l1 ≤ (600 : Int)) ∧ l1 ≤ M 33 1) → Wm (d + 5) 84 [vR 33, vI l1] M K (Bk (d + 5) 99 17 20 84 [vR 32, vI l1, vU] [] Q)) ∧ (¬ ((0 ≤ l1 ∧ l1 ≤ (600 : Int)) ∧ l1 ≤ M 33 1) → Q (.inr 0) (mset M 32 19 (w32 ((M 32 19) + 1))) (K.1, K.2.1 + 1, K.2.2 + 6))) : Wp (d + 6) 99 0 [vR 32, vI l1, vU] [] M K Q := by
  refine r_aload_n c99_0 rfl ?_
  refine r_aload_n c99_1 rfl ?_
  refine r_iload_n c99_2 rfl ?_
  refine r_sipush c99_3 ?_
  refine r_call c99_6 rfl rfl (Nat.le_of_ble_eq_true rfl) (okc_r rfl rfl (oK hK o32)) (g140 hK hX  (Bk_v ?_))
  refine r_call c99_9 rfl rfl (Nat.le_of_ble_eq_true rfl) (okc_r rfl rfl (oK hK o32)) (n136b hK hX (fun hc => Bk_n ?_) (fun hc => Bk_e rfl rfl rfl ?_))
  · replace h := h.1 hc
    refine r_aload_n c99_12 rfl ?_
    refine r_getR c99_13 (oK hK o32) (FX.get (b := 33) hX (by decide) (by decide +kernel) (by decide)) (by decide) ?_
    refine r_iload_n c99_16 rfl ?_
    exact r_call c99_17 rfl rfl (Nat.le_of_ble_eq_true rfl) (okc_r rfl rfl (oK hK o33)) h
  · replace h := h.2 hc
    exact h
theorem u99_20 {d : Nat} {l1 : Int} {M : Mem} {K : KK} {Q : RR → Mem → KK → Prop} (hK : K.1 = 923) (hX : FX M)  (h : ∃ b1 : Nat, (M 32 12) = (b1 : Int) ∧ isO 923 b1 0 = true ∧ ∃ B4 : BY, ∃ n5 : Nat, ∃ l6 : Nat, (TR B4 n5 M (.inl (sk B4 n5 0)) ∧ (∀ i, i < n5 → 0 ≤ B4 i) ∧ M b1 11 = (l6 : Int) ∧ isO 923 l6 2 = true) ∧ (∀ (M10 : Mem), FX M10 → (FrY b1 l6 M M10 ∧ TR B4 n5 M10 (pCom B4 n5).1 ∧ CC M10 b1 (pCom B4 n5).2 ∧ CR M10 l6 PL) → (¬ (¬ M10 33 6 = 0) → ∃ b13 : Nat, (M10 32 12) = (b13 : Int) ∧ isO 923 b13 0 = true ∧ ∃ b16 : Nat, (M10 32 11) = (b16 : Int) ∧ isO 923 b16 0 = true ∧ ∃ c21 : Mem, (CC (mset (mset M10 32 12 ((b16 : Nat) : Int)) 32 11 ((b13 : Nat) : Int)) b13 c21 ∧ CW c21) ∧ (∀ (M25 : Mem), FX M25 → (FrI 40 (mset (mset M10 32 12 ((b16 : Nat) : Int)) 32 11 ((b13 : Nat) : Int)) M25 ∧ LK M25 40 c21 (begS c21)) → ∃ b26 : Nat, (M25 32 14) = (b26 : Int) ∧ isO 923 b26 8 = true ∧ ∃ b35 : Nat, (M25 32 11) = (b35 : Int) ∧ isO 923 b35 0 = true ∧ Q (.inl (some (vI (M25 b35 6)))) (mset (mset (mset (mset (mset (mset M25 b26 0 (0 : Int)) b26 1 (0 : Int)) b26 2 (0 : Int)) 50 1 (0 : Int)) 32 16 (0 : Int)) 32 17 (0 : Int)) K)) ∧ ((¬ M10 33 6 = 0) → Q (.inl (some (vI (w32 (M10 33 6 - 10))))) M10 K))) : Wp (d + 6) 99 20 [vR 32, vI l1, vU] [] M K Q := by
  refine r_aload_n c99_20 rfl ?_
  obtain ⟨b1, h⟩ := h
  obtain ⟨e2, h⟩ := h
  obtain ⟨k3, h⟩ := h
  refine r_getR c99_21 (oK hK o32) e2 (by have := (isO_d k3).1; omega) ?_
  refine r_aload_n c99_24 rfl ?_
  refine r_getR c99_25 (oK hK o32) (FX.get (b := 33) hX (by decide) (by decide +kernel) (by decide)) (by decide) ?_
  obtain ⟨B4, h⟩ := h
  obtain ⟨n5, h⟩ := h
  obtain ⟨l6, h⟩ := h
  obtain ⟨p7, h⟩ := h
  refine r_call c99_28 rfl rfl (Nat.le_of_ble_eq_true rfl) (okc_r rfl rfl (oK hK k3)) (g2 hK hX k3 p7 (fun M10 x8 p9 => Bk_n ?_))
  replace h := h M10 x8 p9
  refine r_aload_n c99_31 rfl ?_
  refine r_getR c99_32 (oK hK o32) (FX.get (b := 33) x8 (by decide) (by decide +kernel) (by decide)) (by decide) ?_
  refine r_call c99_35 rfl rfl (Nat.le_of_ble_eq_true rfl) (okc_r rfl rfl (oK hK o33)) (g85 hK x8  (Bk_v ?_))
  refine r_ifP (P := ¬ (¬ M10 33 6 = 0)) c99_38 bI_eq (fun hc11 => ?_) (fun hc11 => ?_)
  · replace h := h.1 hc11
    refine r_aload_n c99_49 rfl ?_
    obtain ⟨b13, h⟩ := h
    obtain ⟨e14, h⟩ := h
    obtain ⟨k15, h⟩ := h
    refine r_getR c99_50 (oK hK o32) e14 (by have := (isO_d k15).1; omega) ?_
    refine r_astore_n c99_53 (Nat.le_of_ble_eq_true rfl) ?_
    refine r_aload_n c99_54 rfl ?_
    refine r_aload_n c99_55 rfl ?_
    obtain ⟨b16, h⟩ := h
    obtain ⟨e17, h⟩ := h
    obtain ⟨k18, h⟩ := h
    refine r_getR c99_56 (oK hK o32) e17 (by have := (isO_d k18).1; omega) ?_
    refine r_putR c99_59 (oK hK o32) (by have := (isO_d k18).1; omega) ?_
    have x19 := FX.set (v := ((b16 : Nat) : Int)) (a := 32) (k := 12) x8 (by decide +kernel)
    refine r_aload_n c99_62 rfl ?_
    refine r_aload_n c99_63 rfl ?_
    refine r_putR c99_64 (oK hK o32) (by have := (isO_d k15).1; omega) ?_
    have x20 := FX.set (v := ((b13 : Nat) : Int)) (a := 32) (k := 11) x19 (by decide +kernel)
    refine r_aload_n c99_67 rfl ?_
    refine r_getR c99_68 (oK hK o32) (FX.get (b := 40) x20 (by decide) (by decide +kernel) (by decide)) (by decide) ?_
    refine r_aload_n c99_71 rfl ?_
    refine r_getR c99_72 (oK hK o32) ms_eq (by have := (isO_d k15).1; omega) ?_
    obtain ⟨c21, h⟩ := h
    obtain ⟨p22, h⟩ := h
    refine r_call c99_75 rfl rfl (Nat.le_of_ble_eq_true rfl) (okc_r rfl rfl (oK hK o40)) (g29 hK x20 o40 k15 p22 (fun M25 x23 p24 => Bk_n ?_))
    replace h := h M25 x23 p24
    refine r_aload_n c99_78 rfl ?_
    obtain ⟨b26, h⟩ := h
    obtain ⟨e27, h⟩ := h
    obtain ⟨k28, h⟩ := h
    refine r_getR c99_79 (oK hK o32) e27 (by have := (isO_d k28).1; omega) ?_
    refine r_call c99_82 rfl rfl (Nat.le_of_ble_eq_true rfl) (okc_r rfl rfl (oK hK k28)) (g75 hK x23 k28  (Bk_n ?_))
    have x29 := FX.set (v := (0 : Int)) (a := b26) (k := 0) x23 (nf8 k28 (by decide))
    have x30 := FX.set (v := (0 : Int)) (a := b26) (k := 1) x29 (nf8 k28 (by decide))
    have x31 := FX.set (v := (0 : Int)) (a := b26) (k := 2) x30 (nf8 k28 (by decide))
    refine r_aload_n c99_85 rfl ?_
    refine r_getR c99_86 (oK hK o32) (FX.get (b := 50) x31 (by decide) (by decide +kernel) (by decide)) (by decide) ?_
    refine r_iconst c99_89 ?_
    refine r_putI c99_90 (oK hK o50) ?_
    have x32 := FX.set (v := (0 : Int)) (a := 50) (k := 1) x31 (by decide +kernel)
    refine r_aload_n c99_93 rfl ?_
    refine r_iconst c99_94 ?_
    refine r_putI c99_95 (oK hK o32) ?_
    have x33 := FX.set (v := (0 : Int)) (a := 32) (k := 16) x32 (by decide +kernel)
    refine r_aload_n c99_98 rfl ?_
    refine r_iconst c99_99 ?_
    refine r_putI c99_100 (oK hK o32) ?_
    have x34 := FX.set (v := (0 : Int)) (a := 32) (k := 17) x33 (by decide +kernel)
    refine r_aload_n c99_103 rfl ?_
    obtain ⟨b35, h⟩ := h
    obtain ⟨e36, h⟩ := h
    obtain ⟨k37, h⟩ := h
    refine r_getR c99_104 (oK hK o32) (Eq.trans (Eq.trans (ms_nk (by decide)) (Eq.trans (ms_nk (by decide)) (Eq.trans (ms_na (by decide)) (Eq.trans (ms_na (by have := rg8 k28; omega)) (Eq.trans (ms_na (by have := rg8 k28; omega)) (ms_na (by have := rg8 k28; omega))))))) e36) (by have := (isO_d k37).1; omega) ?_
    refine r_getIe c99_107 (oK hK k37) (Eq.trans (ms_na (by have := rg0 k37; omega)) (Eq.trans (ms_na (by have := rg0 k37; omega)) (Eq.trans (ms_na (by have := rg0 k37; omega)) (Eq.trans (ms_na (by have := rg0 k37; have := rg8 k28; omega)) (Eq.trans (ms_na (by have := rg0 k37; have := rg8 k28; omega)) (ms_na (by have := rg0 k37; have := rg8 k28; omega))))))) ?_
    exact r_iret c99_110 (Or.inl rfl) h
  · have hc12 := Classical.not_not.mp hc11
    replace h := h.2 hc12
    refine r_aload_n c99_41 rfl ?_
    refine r_getR c99_42 (oK hK o32) (FX.get (b := 33) x8 (by decide) (by decide +kernel) (by decide)) (by decide) ?_
    refine r_call c99_45 rfl rfl (Nat.le_of_ble_eq_true rfl) (okc_r rfl rfl (oK hK o33)) (g86 hK x8  (Bk_v ?_))
    exact r_iret c99_48 (Or.inl rfl) h
theorem u101_0 {d : Nat} {l1 : Int} {M : Mem} {K : KK} {Q : RR → Mem → KK → Prop} (hK : K.1 = 923) (hX : FX M)  (h : (((0 ≤ l1 ∧ l1 ≤ (150 : Int)) ∧ l1 ≤ M 33 1) → ((M 50 1) < (16 : Int) → Wm (d + 80) 84 [vR 33, vI l1] M K (Bk (d + 80) 101 40 43 84 [vR 32, vI l1] [] Q)) ∧ (¬ ((M 50 1) < (16 : Int)) → Wm (d + 80) 84 [vR 33, vI (0 : Int)] M K (Bk (d + 80) 101 29 32 84 [vR 32, vI l1] [] Q))) ∧ (¬ ((0 ≤ l1 ∧ l1 ≤ (150 : Int)) ∧ l1 ≤ M 33 1) → Q (.inr 0) (mset M 32 19 (w32 ((M 32 19) + 1))) (K.1, K.2.1 + 1, K.2.2 + 6))) : Wp (d + 81) 101 0 [vR 32, vI l1] [] M K Q := by
  refine r_aload_n c101_0 rfl ?_
  refine r_aload_n c101_1 rfl ?_
  refine r_iload_n c101_2 rfl ?_
  refine r_sipush c101_3 ?_
  refine r_call c101_6 rfl rfl (Nat.le_of_ble_eq_true rfl) (okc_r rfl rfl (oK hK o32)) (g140 hK hX  (Bk_v ?_))
  refine r_call c101_9 rfl rfl (Nat.le_of_ble_eq_true rfl) (okc_r rfl rfl (oK hK o32)) (n136b hK hX (fun hc => Bk_n ?_) (fun hc => Bk_e rfl rfl rfl ?_))
  · replace h := h.1 hc
    refine r_aload_n c101_12 rfl ?_
    refine r_getR c101_13 (oK hK o32) (FX.get (b := 50) hX (by decide) (by decide +kernel) (by decide)) (by decide) ?_
    refine r_getIe c101_16 (oK hK o50) rfl ?_
    refine r_bipush c101_19 ?_
    refine r_icmpP (P := (M 50 1) < (16 : Int)) c101_21 rfl (fun hc1 => ?_) (fun hc1 => ?_)
    · replace h := h.1 hc1
      refine r_aload_n c101_35 rfl ?_
      refine r_getR c101_36 (oK hK o32) (FX.get (b := 33) hX (by decide) (by decide +kernel) (by decide)) (by decide) ?_
      refine r_iload_n c101_39 rfl ?_
      exact r_call c101_40 rfl rfl (Nat.le_of_ble_eq_true rfl) (okc_r rfl rfl (oK hK o33)) h
    · replace h := h.2 hc1
      refine r_aload_n c101_24 rfl ?_
      refine r_getR c101_25 (oK hK o32) (FX.get (b := 33) hX (by decide) (by decide +kernel) (by decide)) (by decide) ?_
      refine r_iconst c101_28 ?_
      exact r_call c101_29 rfl rfl (Nat.le_of_ble_eq_true rfl) (okc_r rfl rfl (oK hK o33)) h
  · replace h := h.2 hc
    exact h
theorem u101_32 {d : Nat} {l1 : Int} {M : Mem} {K : KK} {Q : RR → Mem → KK → Prop} (hK : K.1 = 923) (hX : FX M)  (h : Q (.inl (some (vI (-20 : Int)))) M K) : Wp (d + 81) 101 32 [vR 32, vI l1] [] M K Q := by
  refine r_bipush c101_32 ?_
  exact r_iret c101_34 (Or.inl rfl) h
theorem u101_43 {d : Nat} {l1 : Int} {M : Mem} {K : KK} {Q : RR → Mem → KK → Prop} (hK : K.1 = 923) (hX : FX M)  (h : ∃ b1 : Nat, (M 32 11) = (b1 : Int) ∧ isO 923 b1 0 = true ∧ ∃ B4 : BY, ∃ n5 : Nat, ∃ nC6 : Int, ∃ nS7 : Int, (n5 ≤ 150 ∧ TR B4 n5 M (.inl (sk B4 n5 0)) ∧ M b1 5 = nC6 ∧ M b1 6 = nS7 ∧ (0 ≤ nC6 ∧ nC6 ≤ 12) ∧ (0 ≤ nS7 ∧ nS7 ≤ 6)) ∧ (∀ (M11 : Mem), FX M11 → (FrP M M11 ∧ TR B4 n5 M11 (pPrg B4 n5 nC6 nS7).1 ∧ PR M11 (pPrg B4 n5 nC6 nS7).2) → (¬ (¬ M11 33 6 = 0) → ∃ c14 : Mem, ∃ s15 : Mem, ∃ H16 : List Mem, (PH M11 50 c14 H16 ∧ CW c14 ∧ LK M11 40 c14 s15 ∧ (40 + 4 < 50 ∨ 50 + 81 < 40)) ∧ (∀ (M20 : Mem), FX M20 → (FrP6 50 M11 M20 ∧ PH M20 50 c14 (if H16.length < 16 then H16 ++ [s15] else H16)) → ∃ b21 : Nat, (M20 32 11) = (b21 : Int) ∧ isO 923 b21 0 = true ∧ ∃ c24 : Mem, ∃ s25 : Mem, ∃ L26 : LC, ∃ P27 : PG, ∃ l28 : Nat, (SKc M20 b21 40 c24 s25 ∧ LWC M20 b21 L26 l28 ∧ PR M20 P27 ∧ PVc c24 P27 ∧ P27.1 ≤ 51) ∧ (∀ (M32 : Mem), FX M32 → (FrR 40 M20 M32 ∧ WKc M32 b21 40 l28 c24 L26 P27 (runP c24 L26 P27 s25)) → Q (.inl (some (vI (M32 35 6)))) (mset M32 32 17 (M32 35 7)) K))) ∧ ((¬ M11 33 6 = 0) → Q (.inl (some (vI (w32 (M11 33 6 - 10))))) M11 K))) : Wp (d + 81) 101 43 [vR 32, vI l1] [] M K Q := by
  refine r_aload_n c101_43 rfl ?_
  refine r_getR c101_44 (oK hK o32) (FX.get (b := 35) hX (by decide) (by decide +kernel) (by decide)) (by decide) ?_
  refine r_aload_n c101_47 rfl ?_
  refine r_getR c101_48 (oK hK o32) (FX.get (b := 33) hX (by decide) (by decide +kernel) (by decide)) (by decide) ?_
  refine r_aload_n c101_51 rfl ?_
  obtain ⟨b1, h⟩ := h
  obtain ⟨e2, h⟩ := h
  obtain ⟨k3, h⟩ := h
  refine r_getR c101_52 (oK hK o32) e2 (by have := (isO_d k3).1; omega) ?_
  obtain ⟨B4, h⟩ := h
  obtain ⟨n5, h⟩ := h
  obtain ⟨nC6, h⟩ := h
  obtain ⟨nS7, h⟩ := h
  obtain ⟨p8, h⟩ := h
  refine r_call c101_55 rfl rfl (Nat.le_of_ble_eq_true rfl) (okc_r rfl rfl (oK hK o35)) (g64 hK hX k3 p8 (fun M11 x9 p10 => Bk_n ?_))
  replace h := h M11 x9 p10
  refine r_aload_n c101_58 rfl ?_
  refine r_getR c101_59 (oK hK o32) (FX.get (b := 33) x9 (by decide) (by decide +kernel) (by decide)) (by decide) ?_
  refine r_call c101_62 rfl rfl (Nat.le_of_ble_eq_true rfl) (okc_r rfl rfl (oK hK o33)) (g85 hK x9  (Bk_v ?_))
  refine r_ifP (P := ¬ (¬ M11 33 6 = 0)) c101_65 bI_eq (fun hc12 => ?_) (fun hc12 => ?_)
  · replace h := h.1 hc12
    refine r_aload_n c101_76 rfl ?_
    refine r_getR c101_77 (oK hK o32) (FX.get (b := 50) x9 (by decide) (by decide +kernel) (by decide)) (by decide) ?_
    refine r_aload_n c101_80 rfl ?_
    refine r_getR c101_81 (oK hK o32) (FX.get (b := 40) x9 (by decide) (by decide +kernel) (by decide)) (by decide) ?_
    obtain ⟨c14, h⟩ := h
    obtain ⟨s15, h⟩ := h
    obtain ⟨H16, h⟩ := h
    obtain ⟨p17, h⟩ := h
    refine r_call c101_84 rfl rfl (Nat.le_of_ble_eq_true rfl) (okc_r rfl rfl (oK hK o50)) (g60 hK x9 o50 o40 p17 (fun M20 x18 p19 => Bk_n ?_))
    replace h := h M20 x18 p19
    refine r_aload_n c101_87 rfl ?_
    refine r_getR c101_88 (oK hK o32) (FX.get (b := 35) x18 (by decide) (by decide +kernel) (by decide)) (by decide) ?_
    refine r_aload_n c101_91 rfl ?_
    refine r_getR c101_92 (oK hK o32) (FX.get (b := 40) x18 (by decide) (by decide +kernel) (by decide)) (by decide) ?_
    refine r_aload_n c101_95 rfl ?_
    obtain ⟨b21, h⟩ := h
    obtain ⟨e22, h⟩ := h
    obtain ⟨k23, h⟩ := h
    refine r_getR c101_96 (oK hK o32) e22 (by have := (isO_d k23).1; omega) ?_
    obtain ⟨c24, h⟩ := h
    obtain ⟨s25, h⟩ := h
    obtain ⟨L26, h⟩ := h
    obtain ⟨P27, h⟩ := h
    obtain ⟨l28, h⟩ := h
    obtain ⟨p29, h⟩ := h
    refine r_call c101_99 rfl rfl (Nat.le_of_ble_eq_true rfl) (okc_r rfl rfl (oK hK o35)) (g70 hK x18 o40 k23 p29 (fun M32 x30 p31 => Bk_n ?_))
    replace h := h M32 x30 p31
    refine r_aload_n c101_102 rfl ?_
    refine r_aload_n c101_103 rfl ?_
    refine r_getR c101_104 (oK hK o32) (FX.get (b := 35) x30 (by decide) (by decide +kernel) (by decide)) (by decide) ?_
    refine r_getIe c101_107 (oK hK o35) rfl ?_
    refine r_putI c101_110 (oK hK o32) ?_
    have x33 := FX.set (v := (M32 35 7)) (a := 32) (k := 17) x30 (by decide +kernel)
    refine r_aload_n c101_113 rfl ?_
    refine r_getR c101_114 (oK hK o32) (FX.get (b := 35) x33 (by decide) (by decide +kernel) (by decide)) (by decide) ?_
    refine r_getIe c101_117 (oK hK o35) (ms_na (by decide)) ?_
    exact r_iret c101_120 (Or.inl rfl) h
  · have hc13 := Classical.not_not.mp hc12
    replace h := h.2 hc13
    refine r_aload_n c101_68 rfl ?_
    refine r_getR c101_69 (oK hK o32) (FX.get (b := 33) x9 (by decide) (by decide +kernel) (by decide)) (by decide) ?_
    refine r_call c101_72 rfl rfl (Nat.le_of_ble_eq_true rfl) (okc_r rfl rfl (oK hK o33)) (g86 hK x9  (Bk_v ?_))
    exact r_iret c101_75 (Or.inl rfl) h
theorem u102_0 {d : Nat} {l1 : Int} {M : Mem} {K : KK} {Q : RR → Mem → KK → Prop} (hK : K.1 = 923) (hX : FX M)  (h : (((0 ≤ l1 ∧ l1 ≤ (60 : Int)) ∧ l1 ≤ M 33 1) → Wm (d + 3) 84 [vR 33, vI l1] M K (Bk (d + 3) 102 16 19 84 [vR 32, vI l1, vU] [] Q)) ∧ (¬ ((0 ≤ l1 ∧ l1 ≤ (60 : Int)) ∧ l1 ≤ M 33 1) → Q (.inr 0) (mset M 32 19 (w32 ((M 32 19) + 1))) (K.1, K.2.1 + 1, K.2.2 + 6))) : Wp (d + 4) 102 0 [vR 32, vI l1, vU] [] M K Q := by
  refine r_aload_n c102_0 rfl ?_
  refine r_aload_n c102_1 rfl ?_
  refine r_iload_n c102_2 rfl ?_
  refine r_bipush c102_3 ?_
  refine r_call c102_5 rfl rfl (Nat.le_of_ble_eq_true rfl) (okc_r rfl rfl (oK hK o32)) (g140 hK hX  (Bk_v ?_))
  refine r_call c102_8 rfl rfl (Nat.le_of_ble_eq_true rfl) (okc_r rfl rfl (oK hK o32)) (n136b hK hX (fun hc => Bk_n ?_) (fun hc => Bk_e rfl rfl rfl ?_))
  · replace h := h.1 hc
    refine r_aload_n c102_11 rfl ?_
    refine r_getR c102_12 (oK hK o32) (FX.get (b := 33) hX (by decide) (by decide +kernel) (by decide)) (by decide) ?_
    refine r_iload_n c102_15 rfl ?_
    exact r_call c102_16 rfl rfl (Nat.le_of_ble_eq_true rfl) (okc_r rfl rfl (oK hK o33)) h
  · replace h := h.2 hc
    exact h
theorem u102_19 {d : Nat} {l1 : Int} {M : Mem} {K : KK} {Q : RR → Mem → KK → Prop} (hK : K.1 = 923) (hX : FX M)  (h : ∃ b1 : Nat, (M 32 15) = (b1 : Int) ∧ isO 923 b1 8 = true ∧ ∃ b4 : Nat, (M 32 11) = (b4 : Int) ∧ isO 923 b4 0 = true ∧ ∃ B7 : BY, ∃ n8 : Nat, ∃ nD9 : Int, (TR B7 n8 M (.inl (sk B7 n8 0)) ∧ (∀ i, i < n8 → 0 ≤ B7 i) ∧ M b4 7 = nD9 ∧ 0 ≤ nD9 ∧ nD9 ≤ 8) ∧ (∀ (M13 : Mem), FX M13 → (FrZ b1 M M13 ∧ TR B7 n8 M13 (pSay B7 n8 nD9).1 ∧ (∀ p, (pSay B7 n8 nD9).1 = .inl p → SY M13 b1 (pSay B7 n8 nD9).2)) → (¬ (¬ M13 33 6 = 0) → ∃ b16 : Nat, (M13 32 15) = (b16 : Int) ∧ isO 923 b16 8 = true ∧ ∃ b19 : Nat, (M13 32 14) = (b19 : Int) ∧ isO 923 b19 8 = true ∧ Q (.inl (some (vI (M13 b16 0)))) (mset (mset M13 32 15 ((b19 : Nat) : Int)) 32 14 ((b16 : Nat) : Int)) K) ∧ ((¬ M13 33 6 = 0) → Q (.inl (some (vI (w32 (M13 33 6 - 10))))) M13 K))) : Wp (d + 4) 102 19 [vR 32, vI l1, vU] [] M K Q := by
  refine r_aload_n c102_19 rfl ?_
  obtain ⟨b1, h⟩ := h
  obtain ⟨e2, h⟩ := h
  obtain ⟨k3, h⟩ := h
  refine r_getR c102_20 (oK hK o32) e2 (by have := (isO_d k3).1; omega) ?_
  refine r_aload_n c102_23 rfl ?_
  refine r_getR c102_24 (oK hK o32) (FX.get (b := 33) hX (by decide) (by decide +kernel) (by decide)) (by decide) ?_
  refine r_aload_n c102_27 rfl ?_
  obtain ⟨b4, h⟩ := h
  obtain ⟨e5, h⟩ := h
  obtain ⟨k6, h⟩ := h
  refine r_getR c102_28 (oK hK o32) e5 (by have := (isO_d k6).1; omega) ?_
  obtain ⟨B7, h⟩ := h
  obtain ⟨n8, h⟩ := h
  obtain ⟨nD9, h⟩ := h
  obtain ⟨p10, h⟩ := h
  refine r_call c102_31 rfl rfl (Nat.le_of_ble_eq_true rfl) (okc_r rfl rfl (oK hK k3)) (g76 hK hX k3 k6 p10 (fun M13 x11 p12 => Bk_n ?_))
  replace h := h M13 x11 p12
  refine r_aload_n c102_34 rfl ?_
  refine r_getR c102_35 (oK hK o32) (FX.get (b := 33) x11 (by decide) (by decide +kernel) (by decide)) (by decide) ?_
  refine r_call c102_38 rfl rfl (Nat.le_of_ble_eq_true rfl) (okc_r rfl rfl (oK hK o33)) (g85 hK x11  (Bk_v ?_))
  refine r_ifP (P := ¬ (¬ M13 33 6 = 0)) c102_41 bI_eq (fun hc14 => ?_) (fun hc14 => ?_)
  · replace h := h.1 hc14
    refine r_aload_n c102_52 rfl ?_
    obtain ⟨b16, h⟩ := h
    obtain ⟨e17, h⟩ := h
    obtain ⟨k18, h⟩ := h
    refine r_getR c102_53 (oK hK o32) e17 (by have := (isO_d k18).1; omega) ?_
    refine r_astore_n c102_56 (Nat.le_of_ble_eq_true rfl) ?_
    refine r_aload_n c102_57 rfl ?_
    refine r_aload_n c102_58 rfl ?_
    obtain ⟨b19, h⟩ := h
    obtain ⟨e20, h⟩ := h
    obtain ⟨k21, h⟩ := h
    refine r_getR c102_59 (oK hK o32) e20 (by have := (isO_d k21).1; omega) ?_
    refine r_putR c102_62 (oK hK o32) (by have := (isO_d k21).1; omega) ?_
    have x22 := FX.set (v := ((b19 : Nat) : Int)) (a := 32) (k := 15) x11 (by decide +kernel)
    refine r_aload_n c102_65 rfl ?_
    refine r_aload_n c102_66 rfl ?_
    refine r_putR c102_67 (oK hK o32) (by have := (isO_d k18).1; omega) ?_
    have x23 := FX.set (v := ((b16 : Nat) : Int)) (a := 32) (k := 14) x22 (by decide +kernel)
    refine r_aload_n c102_70 rfl ?_
    refine r_getR c102_71 (oK hK o32) ms_eq (by have := (isO_d k18).1; omega) ?_
    refine r_getIe c102_74 (oK hK k18) (Eq.trans (ms_na (by have := rg8 k18; omega)) (ms_na (by have := rg8 k18; omega))) ?_
    exact r_iret c102_77 (Or.inl rfl) h
  · have hc15 := Classical.not_not.mp hc14
    replace h := h.2 hc15
    refine r_aload_n c102_44 rfl ?_
    refine r_getR c102_45 (oK hK o32) (FX.get (b := 33) x11 (by decide) (by decide +kernel) (by decide)) (by decide) ?_
    refine r_call c102_48 rfl rfl (Nat.le_of_ble_eq_true rfl) (okc_r rfl rfl (oK hK o33)) (g86 hK x11  (Bk_v ?_))
    exact r_iret c102_51 (Or.inl rfl) h
/-! texts read: the class; sayings, common, work -/
section CR2
variable {d : Nat} {M M' : Mem} {K : KK} {Q : RR → Mem → KK → Prop} {nB : Nat} {B : BY} {fp : Int} {c : Mem} {L : LC} {s : Mem} {H : List Mem} {I : List IMG} {Y : LC} {rf ms wr : Int}
def sayL (B : BY) (n : Nat) (nD : Int) (Y : LC) : LC := match (pSay B n nD).1 with
  | .inl _ => (pSay B n nD).2
  | .inr _ => Y
theorem c102 {v : Int} (hK : K.1 = 923) (hX : FX M) (hI : IV nB B c s H I Y) (h : CS M nB B fp c L s H I Y rf ms wr) (kb : ¬ txOK nB v 60 → Q (.inr 0) (inc M 19) (K9 K)) (k : txOK nB v 60 → ∀ M', FX M' → HiC M M' → CS M' 0 B (fpR (pSay B v.toNat (c 0 2)).1) c L s H I (sayL B v.toNat (c 0 2) Y) rf ms wr → Q (.inl (some (vI (rdR (pSay B v.toNat (c 0 2)).1 ((pSay B v.toNat (c 0 2)).2.length : Int))))) M' K) : Wm (d + 4) 102 [vR 32, vI v] M K Q := by
  have h33 := h.1.1
  refine u102_0 hK hX ⟨fun hv => ?_, fun hv => kb (fun h9 => hv ⟨⟨h9.1, h9.2.1⟩, by rw [h33]; exact h9.2.2⟩)⟩
  rw [h33] at hv
  have kk := k ⟨hv.1.1, hv.1.2, hv.2⟩
  obtain ⟨n, rfl⟩ : ∃ n : Nat, v = (n : Int) := ⟨v.toNat, by omega⟩
  rw [Int.toNat_natCast] at kk
  refine g84 hK hX (by omega) (fun i hi => h.1.2.1 i (by omega)) (fun M1 x1 f1 t1 z1 => Bk_n ?_)
  have hG := h.2.1
  obtain ⟨cm, l, cm2, l2, l3, ⟨a, b, e, f⟩, ⟨a2, b2, n2, e2, o2⟩, ⟨a3, o3⟩, d1, d2, d3⟩ := hG
  obtain ⟨y, y2, ⟨ya, yb, ye⟩, ya2, yb2, yn⟩ := h.2.2.1
  have g := rg0 b
  have gl := rg2 f.2.1
  have g8 := rg8 yb
  have g82 := rg8 yb2
  have hD := e.2.1.n.2.2
  refine u102_19 hK x1 ⟨y2, (f1.o (by decide)).trans ya2, yb2, cm, (f1.o (by decide)).trans a, b, B, n, c 0 2, ⟨t1, fun i hi => (hI.2.1 i (by omega)).1, (f1.o (by omega)).trans (e.1.1 2 (by decide)), by omega, by omega⟩, fun M9 x9 ⟨f9, t9, c9⟩ => ?_⟩
  have fr : FrB9 (fun a k => a = 33 ∨ a = y2) M M9 := fun a k h9 => by
    rw [f9 a k (by omega) (by omega)]; exact f1 a k (by omega)
  have z9 : M9 33 1 = 0 := (f9 33 1 (by omega) (by omega)).trans z1
  have gm9 : ∀ {M9 : Mem}, FrB9 (fun a k => a = 33 ∨ a = y2 ∨ (a = 32 ∧ (k = 14 ∨ k = 15))) M M9 → GmC M9 c L s := fun fr => h.2.1.eq fr (fun cm' l' cm2' l2' l3' p1 p2 p3 p4 p5 p6 p7 p8 p9 p10 p11 p12 p13 p14 => by
    have q1 := rg0 p2
    have q2 := rg2 p4
    have q3 := rg0 p6
    exact ⟨fun k h1 h2 => by omega, fun a k h1 h2 => by omega, fun k => by omega, fun k => by omega, by omega, fun a k h1 h2 => by omega⟩)
  unfold rdR fpR sayL at kk
  cases hp : (pSay B n (c 0 2)).1 with
  | inr f0 =>
    rw [hp] at kk t9
    have t := t9.f7
    refine ⟨fun h9 => absurd t.1 (by intro h8; exact h9 (by rw [h8]; exact t.2.2)), fun _ => ?_⟩
    rw [t.1]
    refine kk M9 x9 (fun a j h9 => fr a j (by omega)) (h.mk hI.2.2.2.2.1.1 fr ⟨fun k h1 h2 => by omega, fun a k h1 h2 => by omega, fun a k h1 h2 => by omega, fun k => by omega⟩ (TpC.rd t9 z9) (gm9 (fun a k h9 => fr a k (by omega))) (h.2.2.1.eq fr (fun y' y2' p1 p2 p3 p4 p5 => ?_)))
    have q1 : y' = y := by have := p1.symm.trans ya; omega
    exact ⟨by omega, by omega, fun k => by omega⟩
  | inl p0 =>
    rw [hp] at kk t9
    have t := t9.p7
    have sy := c9 p0 hp
    have ey : M9 32 14 = (y : Int) := (fr _ _ (by omega)).trans ya
    refine ⟨fun _ => ⟨y2, (fr _ _ (by omega)).trans ya2, yb2, y, ey, yb, ?_⟩, fun h9 => absurd t.1 h9⟩
    have fs : FrB9 (fun a k => a = 33 ∨ a = y2 ∨ (a = 32 ∧ (k = 14 ∨ k = 15))) M (mset (mset M9 32 15 ((y : Nat) : Int)) 32 14 ((y2 : Nat) : Int)) := fun a k h9 => by
      unfold mset; rw [if_neg (by omega), if_neg (by omega)]; exact fr a k (by omega)
    rw [sy.1]
    refine kk _ ((x9.set (by decide +kernel)).set (by decide +kernel)) (fun a j h9 => fs a j (by omega)) (h.mk hI.2.2.2.2.1.1 fs ⟨fun k h1 h2 => by omega, fun a k h1 h2 => by omega, fun a k h1 h2 => by omega, fun k => by omega⟩ ⟨?_, fun i hi => absurd hi (by omega), ?_⟩ (gm9 fs) ⟨y2, y, ⟨ms_eq, yb2, sy.eq (fun k => by rw [ms_na (by omega), ms_na (by omega)])⟩, ?_, yb, fun h9 => yn h9.symm⟩)
    · rw [ms_na (by decide), ms_na (by decide)]; exact z9
    · rw [ms_na (by decide), ms_na (by decide)]; exact t.2
    · rw [ms_nk (by decide), ms_eq]
def comR (B : BY) (n : Nat) : Bool := match (pCom B n).1 with
  | .inl _ => true
  | .inr _ => false
theorem pCom_w {n : Nat} : CW (pCom B n).2 := clL_w 61 0 (.inl (sk B n 0), c00) CW00
theorem c99 {v : Int} (hK : K.1 = 923) (hX : FX M) (hI : IV nB B c s H I Y) (h : CS M nB B fp c L s H I Y rf ms wr) (kb : ¬ txOK nB v 600 → Q (.inr 0) (inc M 19) (K9 K)) (k1 : txOK nB v 600 → ∀ p, (pCom B v.toNat).1 = .inl p → ∀ M', FX M' → HiC M M' → CS M' 0 B (-1) (pCom B v.toNat).2 [] (begS (pCom B v.toNat).2) [] [] [] 0 ms wr → Q (.inl (some (vI ((pCom B v.toNat).2 0 1)))) M' K) (k2 : txOK nB v 600 → ∀ f, (pCom B v.toNat).1 = .inr f → ∀ M', FX M' → HiC M M' → CS M' 0 B f.2 c L s H I Y rf ms wr → Q (.inl (some (vI (w32 (f.1 - 10))))) M' K) : Wm (d + 6) 99 [vR 32, vI v] M K Q := by
  have h33 := h.1.1
  refine u99_0 hK hX ⟨fun hv => ?_, fun hv => kb (fun h9 => hv ⟨⟨h9.1, h9.2.1⟩, by rw [h33]; exact h9.2.2⟩)⟩
  rw [h33] at hv
  have kk1 := k1 ⟨hv.1.1, hv.1.2, hv.2⟩
  have kk2 := k2 ⟨hv.1.1, hv.1.2, hv.2⟩
  obtain ⟨n, rfl⟩ : ∃ n : Nat, v = (n : Int) := ⟨v.toNat, by omega⟩
  rw [Int.toNat_natCast] at kk1 kk2
  refine g84 hK hX (by omega) (fun i hi => h.1.2.1 i (by omega)) (fun M1 x1 f1 t1 z1 => Bk_n ?_)
  have hG := h.2.1
  obtain ⟨cm, l, cm2, l2, l3, ⟨a, b, e, f⟩, ⟨a2, b2, n2, e2, o2⟩, ⟨a3, o3⟩, d1, d2, d3⟩ := hG
  obtain ⟨y, y2, ⟨ya, yb, ye⟩, ya2, yb2, yn⟩ := h.2.2.1
  have g := rg0 b
  have g2 := rg0 b2
  have gl := rg2 f.2.1
  have gl2 := rg2 o2
  have gl3 := rg2 o3
  have g8 := rg8 yb
  have g82 := rg8 yb2
  refine u99_20 hK x1 ⟨cm2, (f1.o (by decide)).trans a2, b2, B, n, l2, ⟨t1, fun i hi => (hI.2.1 i (by omega)).1, (f1.o (by omega)).trans e2, o2⟩, fun M9 x9 ⟨f9, t9, c9, r9⟩ => ?_⟩
  have fr : FrB9 (fun a k => a = 33 ∨ (cm2 + 1 ≤ a ∧ a ≤ cm2 + 5) ∨ (a = cm2 ∧ k ≠ 11) ∨ a = l2 + 2 ∨ (a = l2 ∧ k = 3)) M M9 := fun a k h9 => by
    rw [f9 a k (by omega) (by omega) (by omega) (by omega) (by omega)]; exact f1 a k (by omega)
  have z9 : M9 33 1 = 0 := (f9 33 1 (by omega) (by omega) (by omega) (by omega) (by omega)).trans z1
  cases hp : (pCom B n).1 with
  | inr f0 =>
    rw [hp] at t9
    have t := t9.f7
    refine ⟨fun h9 => absurd t.1 (by intro h8; exact h9 (by rw [h8]; exact t.2.2)), fun _ => ?_⟩
    rw [t.1]
    refine kk2 f0 hp M9 x9 (fun a j h9 => fr a j (by omega)) (h.mk hI.2.2.2.2.1.1 fr ⟨fun k h1 h2 => by omega, fun a k h1 h2 => by omega, fun a k h1 h2 => by omega, fun k => by omega⟩ (TpC.rd t9 z9) (h.2.1.eq fr (fun cm' l' cm2' l2' l3' p1 p2 p3 p4 p5 p6 p7 p8 p9 p10 p11 p12 p13 p14 => ?_)) (h.2.2.1.eq fr (fun y' y2' p1 p2 p3 p4 p5 => by have := rg8 p2; exact ⟨by omega, by omega, fun k => by omega⟩)))
    have q1 : cm' = cm := by have := p1.symm.trans a; omega
    subst q1
    have q2 : l' = l := by have := p3.symm.trans f.1; omega
    have q3 : cm2' = cm2 := by have := p5.symm.trans a2; omega
    subst q2 q3
    exact ⟨fun k h1 h2 => by omega, fun a k h1 h2 => by omega, fun k => by omega, fun k => by omega, by omega, fun a k h1 h2 => by omega⟩
  | inl p0 =>
    rw [hp] at t9
    have t := t9.p7
    have hw : CW (pCom B n).2 := pCom_w
    generalize hcc : (pCom B n).2 = cc at *
    have n1 : ∀ b, cm2 ≤ b → b ≤ cm2 + 5 → ¬ scL b := fun b h1 h2 => by unfold scL; clear g gl gl2 gl3 g8 g82; omega
    have n3 : ¬ scL cm := by unfold scL; clear g2 gl gl2 gl3 g8 g82; omega
    have n4 : ¬ scL l2 ∧ ¬ scL (l2 + 2) := by unfold scL; clear g g2 gl gl3 g8 g82; omega
    have n5 : cm ≠ l2 ∧ cm ≠ l2 + 2 ∧ cm2 ≠ l2 ∧ cm2 ≠ l2 + 2 := by clear gl gl3 g8 g82; omega
    have n6 : cm < cm2 ∨ cm2 + 5 < cm := by clear gl gl2 gl3 g8 g82; omega
    have n7 : (153 ≤ cm ∧ cm ≤ 163) ∧ (153 ≤ cm2 ∧ cm2 ≤ 163) ∧ (159 ≤ l2 ∧ l2 ≤ 173) ∧ (177 ≤ y ∧ y ≤ 178) := by clear gl gl3 g82; omega
    have nfy : ∀ k, k < 3 → fxT y k = 0 := by
      intro k hk
      rcases g8 with rfl | rfl
      · rcases (show k = 0 ∨ k = 1 ∨ k = 2 by omega) with rfl | rfl | rfl <;> decide +kernel
      · rcases (show k = 0 ∨ k = 1 ∨ k = 2 by omega) with rfl | rfl | rfl <;> decide +kernel
    clear g g2 gl gl2 gl3 g8 g82
    have xs : FX (mset (mset M9 32 12 ((cm : Nat) : Int)) 32 11 ((cm2 : Nat) : Int)) := (x9.set (by decide +kernel)).set (by decide +kernel)
    have c9' : CC (mset (mset M9 32 12 ((cm : Nat) : Int)) 32 11 ((cm2 : Nat) : Int)) cm2 cc := c9.eq (fun b k h1 h2 => by rw [ms_na (by omega), ms_na (by omega)])
    refine ⟨fun _ => ⟨cm2, (fr _ _ (by omega)).trans a2, b2, cm, (fr _ _ (by omega)).trans a, b, cc, ⟨c9', hw⟩, fun M3 x3 ⟨f3, l3'⟩ => ?_⟩, fun h9 => absurd t.1 h9⟩
    have f3' : ∀ a k, ¬ scL a → ¬ (40 ≤ a ∧ a ≤ 44) → ¬ (a = 32 ∧ (k = 11 ∨ k = 12)) → M3 a k = M9 a k := fun a k h1 h2 h4 => (f3 a k h1 (by omega)).trans (by unfold mset; rw [if_neg (by omega), if_neg (by omega)])
    have n8 : ¬ scL 32 ∧ ¬ scL 33 ∧ ¬ scL 144 := by unfold scL; omega
    have e11 : M3 32 11 = (cm2 : Int) := (f3 _ _ n8.1 (by omega)).trans ms_eq
    have e12 : M3 32 12 = (cm : Int) := (f3 _ _ n8.1 (by omega)).trans (by rw [ms_nk (by decide), ms_eq])
    have e14 : M3 32 14 = (y : Int) := (f3' _ _ n8.1 (by omega) (by omega)).trans ((fr _ _ (by omega)).trans ya)
    refine ⟨y, e14, yb, cm2, e11, b2, ?_⟩
    have c3 : CC M3 cm2 cc := c9.eq (fun b k h1 h2 => f3' _ _ (n1 b h1 h2) (by omega) (by omega))
    rw [(c3.g hw).2.1]
    have hw01 : (nSt cc : Int) = cc 0 1 := hw.n.1.1.symm
    rw [hw01]
    have na : ∀ a k, a ≠ y → ¬ (a = 50 ∧ k = 1) → ¬ (a = 32 ∧ (k = 16 ∨ k = 17)) → (mset (mset (mset (mset (mset (mset M3 y 0 0) y 1 0) y 2 0) 50 1 0) 32 16 0) 32 17 0) a k = M3 a k := fun a k h1 h2 h4 => by
      unfold mset
      rw [if_neg (by omega), if_neg (by omega), if_neg (by omega), if_neg (by omega), if_neg (by omega), if_neg (by omega)]
    have f9s : ∀ a k, ¬ scL a → ¬ (40 ≤ a ∧ a ≤ 50) → ¬ (a = 32 ∧ ((11 ≤ k ∧ k ≤ 12) ∨ k = 16 ∨ k = 17)) → a ≠ y → (mset (mset (mset (mset (mset (mset M3 y 0 0) y 1 0) y 2 0) 50 1 0) 32 16 0) 32 17 0) a k = M9 a k := fun a k h1 h2 h4 h5 => by
      rw [na a k h5 (by omega) (by omega), f3' a k h1 (by omega) (by omega)]
    have fe : ∀ a k, ¬ scL a → ¬ (40 ≤ a ∧ a ≤ 50) → ¬ (a = 32 ∧ ((11 ≤ k ∧ k ≤ 12) ∨ k = 16 ∨ k = 17)) → a ≠ y → a ≠ 33 → (a < cm2 ∨ cm2 + 5 < a ∨ (a = cm2 ∧ k = 11)) → a ≠ l2 + 2 → a ≠ l2 → (mset (mset (mset (mset (mset (mset M3 y 0 0) y 1 0) y 2 0) 50 1 0) 32 16 0) 32 17 0) a k = M a k := fun a k h1 h2 h4 h5 h6 h7 h8 h9 =>
      (f9s a k h1 h2 h4 h5).trans (fr a k (by omega))
    have fe32 : ∀ k, ¬ ((11 ≤ k ∧ k ≤ 12) ∨ k = 16 ∨ k = 17) → (mset (mset (mset (mset (mset (mset M3 y 0 0) y 1 0) y 2 0) 50 1 0) 32 16 0) 32 17 0) 32 k = M 32 k := fun k hk => fe 32 k n8.1 (by omega) (by omega) (by omega) (by omega) (by omega) (by omega) (by omega)
    have hi : HiC M (mset (mset (mset (mset (mset (mset M3 y 0 0) y 1 0) y 2 0) 50 1 0) 32 16 0) 32 17 0) := fun a j h9 => fe a j (by unfold scL; omega) (by omega) (by omega) (by omega) (by omega) (by omega) (by omega) (by omega)
    have fx9 := (((((x3.set (nfy 0 (by decide)) (v := 0)).set (nfy 1 (by decide)) (v := 0)).set (nfy 2 (by decide)) (v := 0)).set (a := 50) (k := 1) (v := 0) (by decide +kernel)).set (a := 32) (k := 16) (v := 0) (by decide +kernel)).set (a := 32) (k := 17) (v := 0) (by decide +kernel)
    have y0 : (mset (mset (mset (mset (mset (mset M3 y 0 0) y 1 0) y 2 0) 50 1 0) 32 16 0) 32 17 0) y 0 = 0 := by rw [ms_na (by omega), ms_na (by omega), ms_na (by omega), ms_nk (by decide), ms_nk (by decide), ms_eq]
    have y1 : (mset (mset (mset (mset (mset (mset M3 y 0 0) y 1 0) y 2 0) 50 1 0) 32 16 0) 32 17 0) y 1 = 0 := by rw [ms_na (by omega), ms_na (by omega), ms_na (by omega), ms_nk (by decide), ms_eq]
    have y2' : (mset (mset (mset (mset (mset (mset M3 y 0 0) y 1 0) y 2 0) 50 1 0) 32 16 0) 32 17 0) y 2 = 0 := by rw [ms_na (by omega), ms_na (by omega), ms_na (by omega), ms_eq]
    have p50 : (mset (mset (mset (mset (mset (mset M3 y 0 0) y 1 0) y 2 0) 50 1 0) 32 16 0) 32 17 0) 50 1 = 0 := by rw [ms_na (by decide), ms_na (by decide), ms_eq]
    have p16 : (mset (mset (mset (mset (mset (mset M3 y 0 0) y 1 0) y 2 0) 50 1 0) 32 16 0) 32 17 0) 32 16 = 0 := by rw [ms_nk (by decide), ms_eq]
    have p17 : (mset (mset (mset (mset (mset (mset M3 y 0 0) y 1 0) y 2 0) 50 1 0) 32 16 0) 32 17 0) 32 17 = 0 := ms_eq
    have ecm2 := fe cm2 11 (n1 cm2 (by omega) (by omega)) (by omega) (by omega) (by omega) (by omega) (by omega) (by omega) (by omega)
    have ecm := fe cm 11 n3 (by omega) (by omega) (by omega) (by omega) (by omega) (by omega) (by omega)
    have l40 : LK (mset (mset (mset (mset (mset (mset M3 y 0 0) y 1 0) y 2 0) 50 1 0) 32 16 0) 32 17 0) 40 cc (begS cc) := l3'.fr (fun b j h1 h2 => na _ _ (by omega) (by omega) (by omega))
    have e11' := (na 32 11 (by omega) (by omega) (by omega)).trans e11
    have e12' := (na 32 12 (by omega) (by omega) (by omega)).trans e12
    have fcm : ∀ b k, cm2 ≤ b → b ≤ cm2 + 5 → (mset (mset (mset (mset (mset (mset M3 y 0 0) y 1 0) y 2 0) 50 1 0) 32 16 0) 32 17 0) b k = M9 b k := fun b k h1 h2 => f9s b k (n1 b h1 h2) (by omega) (by omega) (by omega)
    have fl2 : ∀ k, (mset (mset (mset (mset (mset (mset M3 y 0 0) y 1 0) y 2 0) 50 1 0) 32 16 0) 32 17 0) l2 k = M9 l2 k := fun k => f9s l2 k n4.1 (by omega) (by omega) (by omega)
    have fl22 : ∀ k, (mset (mset (mset (mset (mset (mset M3 y 0 0) y 1 0) y 2 0) 50 1 0) 32 16 0) 32 17 0) (l2 + 2) k = M9 (l2 + 2) k := fun k => f9s (l2 + 2) k n4.2 (by omega) (by omega) (by omega)
    have f33 : ∀ k, (mset (mset (mset (mset (mset (mset M3 y 0 0) y 1 0) y 2 0) 50 1 0) 32 16 0) 32 17 0) 33 k = M9 33 k := fun k => f9s 33 k n8.2.1 (by omega) (by omega) (by omega)
    have f143 : ∀ k, (mset (mset (mset (mset (mset (mset M3 y 0 0) y 1 0) y 2 0) 50 1 0) 32 16 0) 32 17 0) 144 k = M 144 k := fun k => fe 144 k n8.2.2 (by omega) (by omega) (by omega) (by omega) (by omega) (by omega) (by omega)
    have e13 := (fe32 13 (by omega)).trans a3
    have e14' := (fe32 14 (by omega)).trans ya
    have e15 := (fe32 15 (by omega)).trans ya2
    have e18 := (fe32 18 (by omega)).trans h.2.2.2.2.2.1.2.1
    have e19 := (fe32 19 (by omega)).trans h.2.2.2.2.2.1.2.2
    clear n1 n3 n4 n5 n6 n7 n8 fe fe32 na f9s f3' f3
    generalize mset (mset (mset (mset (mset (mset M3 y 0 0) y 1 0) y 2 0) 50 1 0) 32 16 0) 32 17 0 = M5 at *
    obtain ⟨w1', w2, w3⟩ := r9
    have hw' := hw
    refine kk1 p0 hp M5 fx9 hi ⟨⟨(f33 1).trans z9, fun i hi => absurd hi (by omega), (f33 7).trans t.2⟩, ⟨cm2, l2, cm, l, l3, ⟨e11', b2, ⟨c9.eq fcm, hw', l40, begS_w hw'⟩, ecm2.trans e2, o2, ⟨(fl2 3).trans w1', w2, fun i hi => (fl22 i).trans (w3 i hi)⟩, Vd_PL⟩, ⟨e12', b, fun h9 => n2 h9.symm, ecm.trans f.1, f.2.1⟩, ⟨e13, o3⟩, fun h9 => d1 h9.symm, d3, d2⟩, ⟨y, y2, ⟨e14', yb, y0, y1, y2'⟩, e15, yb2, yn⟩, ⟨p50, by simp, fun i hi => absurd hi (by simp)⟩, ⟨p16, fun i hi => absurd hi (by simp)⟩, ⟨p17, e18, e19⟩, h.2.2.2.2.2.2.of (f143 0) (f143 1)⟩
end CR2
