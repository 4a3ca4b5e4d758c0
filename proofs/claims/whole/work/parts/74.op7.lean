theorem u147_0 {d : Nat} {l1 : Int} {l2 : Int} {M : Mem} {K : KK} {Q : RR → Mem → KK → Prop} (hK : K.1 = 923) (hX : FX M)  (h : ∃ b1 : Nat, (M 32 11) = (b1 : Int) ∧ isO 923 b1 0 = true ∧ ∃ c4 : Mem, ∃ s5 : Mem, SKc M b1 40 c4 s5 ∧ (¬ (lyOn c4 s5 l1) = (-1 : Int) → (0 ≤ (lyOn c4 s5 l1) ∧ (lyOn c4 s5 l1) < (6 : Int)) ∧ ∃ c10 : Mem, (CC M b1 c10 ∧ CW c10 ∧ (0 ≤ l2 ∧ l2 ≤ 20) ∧ 0 ≤ l1 ∧ l1 ≤ 20) ∧ (¬ ((l2 - l1).natAbs ≤ (c10 0 5).toNat) → Q (.inl (some (vI (w32 ((99 : Int) - (M 41 (Int.toNat (lyOn c4 s5 l1)))))))) M K) ∧ (((l2 - l1).natAbs ≤ (c10 0 5).toNat) → Q (.inl (some (vI (w32 ((w32 ((99 : Int) - (M 41 (Int.toNat (lyOn c4 s5 l1))))) - (99 : Int)))))) M K)) ∧ ((lyOn c4 s5 l1) = (-1 : Int) → Q (.inl (some (vI (0 : Int)))) M K)) : Wp (d + 1) 147 0 [vR 32, vI l1, vI l2, vU, vU] [] M K Q := by
  refine r_aload_n c147_0 rfl ?_
  refine r_getR c147_1 (oK hK o32) (FX.get (b := 40) hX (by decide) (by decide +kernel) (by decide)) (by decide) ?_
  refine r_aload_n c147_4 rfl ?_
  obtain ⟨b1, h⟩ := h
  obtain ⟨e2, h⟩ := h
  obtain ⟨k3, h⟩ := h
  refine r_getR c147_5 (oK hK o32) e2 (by have := (isO_d k3).1; omega) ?_
  refine r_iload_n c147_8 rfl ?_
  obtain ⟨c4, h⟩ := h
  obtain ⟨s5, h⟩ := h
  obtain ⟨p6, h⟩ := h
  refine r_call c147_9 rfl rfl (Nat.le_of_ble_eq_true rfl) (okc_r rfl rfl (oK hK o40)) (g38 hK hX o40 k3 p6 (Bk_v ?_))
  refine r_istore_n c147_12 (Nat.le_of_ble_eq_true rfl) ?_
  refine r_iload_n c147_13 rfl ?_
  refine r_iconst c147_14 ?_
  refine r_icmpP (P := ¬ (lyOn c4 s5 l1) = (-1 : Int)) c147_15 rfl (fun hc7 => ?_) (fun hc7 => ?_)
  · replace h := h.1 hc7
    refine r_bipush c147_20 ?_
    refine r_aload_n c147_22 rfl ?_
    refine r_getR c147_23 (oK hK o32) (FX.get (b := 40) hX (by decide) (by decide +kernel) (by decide)) (by decide) ?_
    refine r_getR c147_26 (oK hK o40) (FX.get (b := 41) hX (by decide) (by decide +kernel) (by decide)) (by decide) ?_
    refine r_iload_n c147_29 rfl ?_
    obtain ⟨s9, h⟩ := h
    refine r_iae c147_30 (oK hK o41) (bd l41 s9) rfl ?_
    refine r_isub c147_31 ?_
    refine r_istore c147_32 (Nat.le_of_ble_eq_true rfl) ?_
    refine r_aload_n c147_34 rfl ?_
    refine r_getR c147_35 (oK hK o32) e2 (by have := (isO_d k3).1; omega) ?_
    refine r_iload_n c147_38 rfl ?_
    refine r_iload_n c147_39 rfl ?_
    obtain ⟨c10, h⟩ := h
    obtain ⟨p11, h⟩ := h
    refine r_call c147_40 rfl rfl (Nat.le_of_ble_eq_true rfl) (okc_r rfl rfl (oK hK k3)) (g11 hK hX k3 p11 (Bk_v ?_))
    refine r_ifP (P := ¬ ((l2 - l1).natAbs ≤ (c10 0 5).toNat)) c147_43 bI_eq (fun hc12 => ?_) (fun hc12 => ?_)
    · replace h := h.1 hc12
      refine r_iload c147_54 rfl ?_
      exact r_iret c147_56 (Or.inl rfl) h
    · have hc13 := Classical.not_not.mp hc12
      replace h := h.2 hc13
      refine r_iload c147_46 rfl ?_
      refine r_bipush c147_48 ?_
      refine r_isub c147_50 ?_
      refine r_goto c147_51 ?_
      exact r_iret c147_56 (Or.inl rfl) h
  · have hc8 := Classical.not_not.mp hc7
    replace h := h.2 hc8
    refine r_iconst c147_18 ?_
    exact r_iret c147_19 (Or.inl rfl) h
theorem u148_0 {d : Nat} {l1 : Int} {l2 : Int} {M : Mem} {K : KK} {Q : RR → Mem → KK → Prop} (hK : K.1 = 923) (hX : FX M)  (h : ∃ b1 : Nat, (M 32 11) = (b1 : Int) ∧ isO 923 b1 0 = true ∧ ∃ c4 : Mem, ∃ s5 : Mem, SKc M b1 40 c4 s5 ∧ (¬ (lyOn c4 s5 l1) = (-1 : Int) → Wm d 147 [vR 32, vI l1, vI l2] M K (Bk d 148 21 24 147 [vR 32, vI l1, vI l2, vU, vU, vU] [] Q)) ∧ ((lyOn c4 s5 l1) = (-1 : Int) → Q (.inl (some (vI (0 : Int)))) M K)) : Wp (d + 1) 148 0 [vR 32, vI l1, vI l2, vU, vU, vU] [] M K Q := by
  refine r_aload_n c148_0 rfl ?_
  refine r_getR c148_1 (oK hK o32) (FX.get (b := 40) hX (by decide) (by decide +kernel) (by decide)) (by decide) ?_
  refine r_aload_n c148_4 rfl ?_
  obtain ⟨b1, h⟩ := h
  obtain ⟨e2, h⟩ := h
  obtain ⟨k3, h⟩ := h
  refine r_getR c148_5 (oK hK o32) e2 (by have := (isO_d k3).1; omega) ?_
  refine r_iload_n c148_8 rfl ?_
  obtain ⟨c4, h⟩ := h
  obtain ⟨s5, h⟩ := h
  obtain ⟨p6, h⟩ := h
  refine r_call c148_9 rfl rfl (Nat.le_of_ble_eq_true rfl) (okc_r rfl rfl (oK hK o40)) (g38 hK hX o40 k3 p6 (Bk_v ?_))
  refine r_iconst c148_12 ?_
  refine r_icmpP (P := ¬ (lyOn c4 s5 l1) = (-1 : Int)) c148_13 rfl (fun hc7 => ?_) (fun hc7 => ?_)
  · replace h := h.1 hc7
    refine r_aload_n c148_18 rfl ?_
    refine r_iload_n c148_19 rfl ?_
    refine r_iload_n c148_20 rfl ?_
    exact r_call c148_21 rfl rfl (Nat.le_of_ble_eq_true rfl) (okc_r rfl rfl (oK hK o32)) h
  · have hc8 := Classical.not_not.mp hc7
    replace h := h.2 hc8
    refine r_iconst c148_16 ?_
    exact r_iret c148_17 (by decide) h
theorem u148_24 {d : Nat} {l1 : Int} {l2 : Int} {t0 : Int} {M : Mem} {K : KK} {Q : RR → Mem → KK → Prop} (hK : K.1 = 923) (hX : FX M)  (h : Wp (d + 1) 148 28 [vR 32, vI l1, vI l2, vI t0, vI (0 : Int), vU] [] M K Q) : Wp (d + 1) 148 24 [vR 32, vI l1, vI l2, vU, vU, vU] [vI t0] M K Q := by
  refine r_istore_n c148_24 (Nat.le_of_ble_eq_true rfl) ?_
  refine r_iconst c148_25 ?_
  refine r_istore c148_26 (Nat.le_of_ble_eq_true rfl) ?_
  exact h
theorem u148_28 {d : Nat} {l1 : Int} {l2 : Int} {l3 : Int} {l4 : Int} {l5 : PV} {M : Mem} {K : KK} {Q : RR → Mem → KK → Prop} (hK : K.1 = 923) (hX : FX M)  (h : ∃ b1 : Nat, (M 32 11) = (b1 : Int) ∧ isO 923 b1 0 = true ∧ ((M b1 5) ≤ l4 → Q (.inl (some (vI (1 : Int)))) M K) ∧ (¬ ((M b1 5) ≤ l4) → ∃ c5 : Mem, ∃ s6 : Mem, SKc M b1 40 c5 s6 ∧ ((lyOn c5 s6 l4) = (-1 : Int) → Wm d 147 [vR 32, vI l1, vI l4] M K (Bk d 148 84 87 147 [vR 32, vI l1, vI l2, vI l3, vI l4, vI (0 : Int)] [] Q)) ∧ (¬ ((lyOn c5 s6 l4) = (-1 : Int)) → Wm d 147 [vR 32, vI l4, vI l2] M K (Bk d 148 61 64 147 [vR 32, vI l1, vI l2, vI l3, vI l4, l5] [] Q)))) : Wp (d + 1) 148 28 [vR 32, vI l1, vI l2, vI l3, vI l4, l5] [] M K Q := by
  refine r_iload c148_28 rfl ?_
  refine r_aload_n c148_30 rfl ?_
  obtain ⟨b1, h⟩ := h
  obtain ⟨e2, h⟩ := h
  obtain ⟨k3, h⟩ := h
  refine r_getR c148_31 (oK hK o32) e2 (by have := (isO_d k3).1; omega) ?_
  refine r_getIe c148_34 (oK hK k3) rfl ?_
  refine r_icmpP (P := (M b1 5) ≤ l4) c148_37 rfl (fun hc4 => ?_) (fun hc4 => ?_)
  · replace h := h.1 hc4
    refine r_iconst c148_99 ?_
    exact r_iret c148_100 (by decide) h
  · replace h := h.2 hc4
    refine r_aload_n c148_40 rfl ?_
    refine r_getR c148_41 (oK hK o32) (FX.get (b := 40) hX (by decide) (by decide +kernel) (by decide)) (by decide) ?_
    refine r_aload_n c148_44 rfl ?_
    refine r_getR c148_45 (oK hK o32) e2 (by have := (isO_d k3).1; omega) ?_
    refine r_iload c148_48 rfl ?_
    obtain ⟨c5, h⟩ := h
    obtain ⟨s6, h⟩ := h
    obtain ⟨p7, h⟩ := h
    refine r_call c148_50 rfl rfl (Nat.le_of_ble_eq_true rfl) (okc_r rfl rfl (oK hK o40)) (g38 hK hX o40 k3 p7 (Bk_v ?_))
    refine r_iconst c148_53 ?_
    refine r_icmpP (P := (lyOn c5 s6 l4) = (-1 : Int)) c148_54 rfl (fun hc8 => ?_) (fun hc8 => ?_)
    · replace h := h.1 hc8
      refine r_iconst c148_72 ?_
      refine r_istore c148_73 (Nat.le_of_ble_eq_true rfl) ?_
      refine r_iload c148_75 rfl ?_
      refine r_ifP (P := ¬ (0 : Int) = (0 : Int)) c148_77 rfl (fun hc => absurd hc (by decide)) (fun hc => ?_)
      refine r_aload_n c148_80 rfl ?_
      refine r_iload_n c148_81 rfl ?_
      refine r_iload c148_82 rfl ?_
      exact r_call c148_84 rfl rfl (Nat.le_of_ble_eq_true rfl) (okc_r rfl rfl (oK hK o32)) h
    · replace h := h.2 hc8
      refine r_aload_n c148_57 rfl ?_
      refine r_iload c148_58 rfl ?_
      refine r_iload_n c148_60 rfl ?_
      exact r_call c148_61 rfl rfl (Nat.le_of_ble_eq_true rfl) (okc_r rfl rfl (oK hK o32)) h
theorem u148_64 {d : Nat} {l1 : Int} {l2 : Int} {l3 : Int} {l4 : Int} {l5 : PV} {t0 : Int} {M : Mem} {K : KK} {Q : RR → Mem → KK → Prop} (hK : K.1 = 923) (hX : FX M)  (h : (t0 ≤ l3 → Wm d 147 [vR 32, vI l1, vI l4] M K (Bk d 148 84 87 147 [vR 32, vI l1, vI l2, vI l3, vI l4, vI (0 : Int)] [] Q)) ∧ (¬ (t0 ≤ l3) → Q (.inl (some (vI (0 : Int)))) M K)) : Wp (d + 1) 148 64 [vR 32, vI l1, vI l2, vI l3, vI l4, l5] [vI t0] M K Q := by
  refine r_iload_n c148_64 rfl ?_
  refine r_icmpP (P := t0 ≤ l3) c148_65 rfl (fun hc1 => ?_) (fun hc1 => ?_)
  · replace h := h.1 hc1
    refine r_iconst c148_72 ?_
    refine r_istore c148_73 (Nat.le_of_ble_eq_true rfl) ?_
    refine r_iload c148_75 rfl ?_
    refine r_ifP (P := ¬ (0 : Int) = (0 : Int)) c148_77 rfl (fun hc => absurd hc (by decide)) (fun hc => ?_)
    refine r_aload_n c148_80 rfl ?_
    refine r_iload_n c148_81 rfl ?_
    refine r_iload c148_82 rfl ?_
    exact r_call c148_84 rfl rfl (Nat.le_of_ble_eq_true rfl) (okc_r rfl rfl (oK hK o32)) h
  · replace h := h.2 hc1
    refine r_iconst c148_68 ?_
    refine r_goto c148_69 ?_
    refine r_istore c148_73 (Nat.le_of_ble_eq_true rfl) ?_
    refine r_iload c148_75 rfl ?_
    refine r_ifP (P := ¬ (1 : Int) = (0 : Int)) c148_77 rfl (fun hc => ?_) (fun hc => absurd (by decide) hc)
    refine r_iconst c148_91 ?_
    exact r_iret c148_92 (by decide) h
theorem u148_87 {d : Nat} {l1 : Int} {l2 : Int} {l3 : Int} {l4 : Int} {l5 : Int} {t0 : Int} {M : Mem} {K : KK} {Q : RR → Mem → KK → Prop} (hK : K.1 = 923) (hX : FX M)  (h : (l3 ≤ t0 → Wp (d + 1) 148 28 [vR 32, vI l1, vI l2, vI l3, vI (w32 (l4 + 1)), vI l5] [] M K Q) ∧ (¬ (l3 ≤ t0) → Q (.inl (some (vI (0 : Int)))) M K)) : Wp (d + 1) 148 87 [vR 32, vI l1, vI l2, vI l3, vI l4, vI l5] [vI t0] M K Q := by
  refine r_iload_n c148_87 rfl ?_
  refine r_icmpP (P := l3 ≤ t0) c148_88 rfl (fun hc1 => ?_) (fun hc1 => ?_)
  · replace h := h.1 hc1
    refine r_iinc c148_93 rfl ?_
    refine r_goto c148_96 ?_
    exact h
  · replace h := h.2 hc1
    refine r_iconst c148_91 ?_
    exact r_iret c148_92 (by decide) h
theorem u123_0 {d : Nat} {l1 : Int} {M : Mem} {K : KK} {Q : RR → Mem → KK → Prop} (hK : K.1 = 923) (hX : FX M)  (h : (((0 : Int) ≤ l1 ∧ l1 ≤ (2 : Int)) → Wp (d + 1) 123 20 [vR 32, vI l1, vI (0 : Int), vI (-1 : Int), vI (0 : Int), vI (0 : Int), vU] [] M K Q) ∧ (¬ ((0 : Int) ≤ l1 ∧ l1 ≤ (2 : Int)) → Q (.inr 0) (mset M 32 19 (w32 ((M 32 19) + 1))) (K.1, K.2.1 + 1, K.2.2 + 6))) : Wp (d + 1) 123 0 [vR 32, vI l1, vU, vU, vU, vU, vU] [] M K Q := by
  refine r_aload_n c123_0 rfl ?_
  refine r_iload_n c123_1 rfl ?_
  refine r_iconst c123_2 ?_
  refine r_iconst c123_3 ?_
  refine r_call c123_4 rfl rfl (Nat.le_of_ble_eq_true rfl) (okc_s rfl rfl rfl) (g142 hK hX  (Bk_v ?_))
  refine r_call c123_7 rfl rfl (Nat.le_of_ble_eq_true rfl) (okc_r rfl rfl (oK hK o32)) (n136b hK hX (fun hc => Bk_n ?_) (fun hc => Bk_e rfl rfl rfl ?_))
  · replace h := h.1 hc
    refine r_iconst c123_10 ?_
    refine r_istore_n c123_11 (Nat.le_of_ble_eq_true rfl) ?_
    refine r_iconst c123_12 ?_
    refine r_istore_n c123_13 (Nat.le_of_ble_eq_true rfl) ?_
    refine r_iconst c123_14 ?_
    refine r_istore c123_15 (Nat.le_of_ble_eq_true rfl) ?_
    refine r_iconst c123_17 ?_
    refine r_istore c123_18 (Nat.le_of_ble_eq_true rfl) ?_
    exact h
  · replace h := h.2 hc
    exact h
theorem u123_20 {d : Nat} {l1 : Int} {l2 : Int} {l3 : Int} {l4 : Int} {l5 : Int} {l6 : PV} {M : Mem} {K : KK} {Q : RR → Mem → KK → Prop} (hK : K.1 = 923) (hX : FX M)  (h : ∃ b1 : Nat, (M 32 11) = (b1 : Int) ∧ isO 923 b1 0 = true ∧ ((M b1 5) ≤ l5 → (¬ l1 = (0 : Int) → (¬ l1 = (1 : Int) → Q (.inl (some (vI l4))) M K) ∧ (l1 = (1 : Int) → Q (.inl (some (vI l3))) M K)) ∧ (l1 = (0 : Int) → Q (.inl (some (vI l2))) M K)) ∧ (¬ ((M b1 5) ≤ l5) → Wp (d + 1) 123 35 [vR 32, vI l1, vI l2, vI l3, vI l4, vI l5, vI (0 : Int)] [] M K Q)) : Wp (d + 1) 123 20 [vR 32, vI l1, vI l2, vI l3, vI l4, vI l5, l6] [] M K Q := by
  refine r_iload c123_20 rfl ?_
  refine r_aload_n c123_22 rfl ?_
  obtain ⟨b1, h⟩ := h
  obtain ⟨e2, h⟩ := h
  obtain ⟨k3, h⟩ := h
  refine r_getR c123_23 (oK hK o32) e2 (by have := (isO_d k3).1; omega) ?_
  refine r_getIe c123_26 (oK hK k3) rfl ?_
  refine r_icmpP (P := (M b1 5) ≤ l5) c123_29 rfl (fun hc4 => ?_) (fun hc4 => ?_)
  · replace h := h.1 hc4
    refine r_iload_n c123_96 rfl ?_
    refine r_ifP (P := ¬ l1 = (0 : Int)) c123_97 rfl (fun hc5 => ?_) (fun hc5 => ?_)
    · replace h := h.1 hc5
      refine r_iload_n c123_104 rfl ?_
      refine r_iconst c123_105 ?_
      refine r_icmpP (P := ¬ l1 = (1 : Int)) c123_106 rfl (fun hc7 => ?_) (fun hc7 => ?_)
      · replace h := h.1 hc7
        refine r_iload c123_113 rfl ?_
        exact r_iret c123_115 (Or.inl rfl) h
      · have hc8 := Classical.not_not.mp hc7
        replace h := h.2 hc8
        refine r_iload_n c123_109 rfl ?_
        refine r_goto c123_110 ?_
        exact r_iret c123_115 (Or.inl rfl) h
    · have hc6 := Classical.not_not.mp hc5
      replace h := h.2 hc6
      refine r_iload_n c123_100 rfl ?_
      refine r_goto c123_101 ?_
      exact r_iret c123_115 (Or.inl rfl) h
  · replace h := h.2 hc4
    refine r_iconst c123_32 ?_
    refine r_istore c123_33 (Nat.le_of_ble_eq_true rfl) ?_
    exact h
theorem u123_35 {d : Nat} {l1 : Int} {l2 : Int} {l3 : Int} {l4 : Int} {l5 : Int} {l6 : Int} {M : Mem} {K : KK} {Q : RR → Mem → KK → Prop} (hK : K.1 = 923) (hX : FX M)  (h : ∃ b1 : Nat, (M 32 11) = (b1 : Int) ∧ isO 923 b1 0 = true ∧ ((M b1 5) ≤ l6 → Wp (d + 1) 123 20 [vR 32, vI l1, vI l2, vI l3, vI l4, vI (w32 (l5 + 1)), vI l6] [] M K Q) ∧ (¬ ((M b1 5) ≤ l6) → Wm d 148 [vR 32, vI l5, vI l6] M K (Bk d 123 52 55 148 [vR 32, vI l1, vI l2, vI l3, vI l4, vI l5, vI l6] [] Q))) : Wp (d + 1) 123 35 [vR 32, vI l1, vI l2, vI l3, vI l4, vI l5, vI l6] [] M K Q := by
  refine r_iload c123_35 rfl ?_
  refine r_aload_n c123_37 rfl ?_
  obtain ⟨b1, h⟩ := h
  obtain ⟨e2, h⟩ := h
  obtain ⟨k3, h⟩ := h
  refine r_getR c123_38 (oK hK o32) e2 (by have := (isO_d k3).1; omega) ?_
  refine r_getIe c123_41 (oK hK k3) rfl ?_
  refine r_icmpP (P := (M b1 5) ≤ l6) c123_44 rfl (fun hc4 => ?_) (fun hc4 => ?_)
  · replace h := h.1 hc4
    refine r_iinc c123_90 rfl ?_
    refine r_goto c123_93 ?_
    exact h
  · replace h := h.2 hc4
    refine r_aload_n c123_47 rfl ?_
    refine r_iload c123_48 rfl ?_
    refine r_iload c123_50 rfl ?_
    exact r_call c123_52 rfl rfl (Nat.le_of_ble_eq_true rfl) (okc_r rfl rfl (oK hK o32)) h
theorem u123_55 {d : Nat} {l1 : Int} {l2 : Int} {l3 : Int} {l4 : Int} {l5 : Int} {l6 : Int} {t0 : Int} {M : Mem} {K : KK} {Q : RR → Mem → KK → Prop} (hK : K.1 = 923) (hX : FX M)  (h : (t0 = (0 : Int) → Wp (d + 1) 123 35 [vR 32, vI l1, vI l2, vI l3, vI l4, vI l5, vI (w32 (l6 + 1))] [] M K Q) ∧ (¬ (t0 = (0 : Int)) → (¬ l2 = (0 : Int) → Wp (d + 1) 123 35 [vR 32, vI l1, vI (w32 (l2 + 1)), vI l3, vI l4, vI l5, vI (w32 (l6 + 1))] [] M K Q) ∧ (l2 = (0 : Int) → Wm d 147 [vR 32, vI l5, vI l6] M K (Bk d 123 76 79 147 [vR 32, vI l1, vI l2, vI (w32 ((w32 ((100 : Int) * l5)) + l6)), vI l4, vI l5, vI l6] [] Q)))) : Wp (d + 1) 123 55 [vR 32, vI l1, vI l2, vI l3, vI l4, vI l5, vI l6] [vI t0] M K Q := by
  refine r_ifP (P := t0 = (0 : Int)) c123_55 rfl (fun hc1 => ?_) (fun hc1 => ?_)
  · replace h := h.1 hc1
    refine r_iinc c123_84 rfl ?_
    refine r_goto c123_87 ?_
    exact h
  · replace h := h.2 hc1
    refine r_iload_n c123_58 rfl ?_
    refine r_ifP (P := ¬ l2 = (0 : Int)) c123_59 rfl (fun hc2 => ?_) (fun hc2 => ?_)
    · replace h := h.1 hc2
      refine r_iinc c123_81 rfl ?_
      refine r_iinc c123_84 rfl ?_
      refine r_goto c123_87 ?_
      exact h
    · have hc3 := Classical.not_not.mp hc2
      replace h := h.2 hc3
      refine r_bipush c123_62 ?_
      refine r_iload c123_64 rfl ?_
      refine r_imul c123_66 ?_
      refine r_iload c123_67 rfl ?_
      refine r_iadd c123_69 ?_
      refine r_istore_n c123_70 (Nat.le_of_ble_eq_true rfl) ?_
      refine r_aload_n c123_71 rfl ?_
      refine r_iload c123_72 rfl ?_
      refine r_iload c123_74 rfl ?_
      exact r_call c123_76 rfl rfl (Nat.le_of_ble_eq_true rfl) (okc_r rfl rfl (oK hK o32)) h
theorem u123_79 {d : Nat} {l1 : Int} {l2 : Int} {l3 : Int} {l4 : Int} {l5 : Int} {l6 : Int} {t0 : Int} {M : Mem} {K : KK} {Q : RR → Mem → KK → Prop} (hK : K.1 = 923) (hX : FX M)  (h : Wp (d + 1) 123 35 [vR 32, vI l1, vI (w32 (l2 + 1)), vI l3, vI t0, vI l5, vI (w32 (l6 + 1))] [] M K Q) : Wp (d + 1) 123 79 [vR 32, vI l1, vI l2, vI l3, vI l4, vI l5, vI l6] [vI t0] M K Q := by
  refine r_istore c123_79 (Nat.le_of_ble_eq_true rfl) ?_
  refine r_iinc c123_81 rfl ?_
  refine r_iinc c123_84 rfl ?_
  refine r_goto c123_87 ?_
  exact h
theorem u238_0 {d : Nat} {l1 : Int} {l2 : Int} {M : Mem} {K : KK} {Q : RR → Mem → KK → Prop} (hK : K.1 = 923) (hX : FX M)  (h : Wm (d + 1) 232 [vI l1, vI l2] M K (Bk (d + 1) 238 2 5 232 [vR 440, vI l1, vI l2] [] Q)) : Wp (d + 2) 238 0 [vR 440, vI l1, vI l2] [] M K Q := by
  refine r_iload_n c238_0 rfl ?_
  refine r_iload_n c238_1 rfl ?_
  exact r_call c238_2 rfl rfl (Nat.le_of_ble_eq_true rfl) (okc_s rfl rfl rfl) h
theorem u238_5 {d : Nat} {l1 : Int} {l2 : Int} {t0 : Int} {M : Mem} {K : KK} {Q : RR → Mem → KK → Prop} (hK : K.1 = 923) (hX : FX M)  (h : ((M 444 5) < t0 → ∃ c2 : Mem, ∃ s3 : Mem, ∃ dr4 : Int, SM M 888 c2 s3 dr4 ∧ (0 ≤ (w32 ((6 : Int) + (lyOn c2 s3 l1))) ∧ (w32 ((6 : Int) + (lyOn c2 s3 l1))) < (27 : Int)) ∧ Q (.inl (some (vI (w32 ((99 : Int) - (M 888 (Int.toNat (w32 ((6 : Int) + (lyOn c2 s3 l1)))))))))) M K) ∧ (¬ ((M 444 5) < t0) → ∃ c7 : Mem, ∃ s8 : Mem, ∃ dr9 : Int, SM M 888 c7 s8 dr9 ∧ (0 ≤ (w32 ((6 : Int) + (lyOn c7 s8 l1))) ∧ (w32 ((6 : Int) + (lyOn c7 s8 l1))) < (27 : Int)) ∧ Q (.inl (some (vI (w32 ((0 : Int) - (M 888 (Int.toNat (w32 ((6 : Int) + (lyOn c7 s8 l1)))))))))) M K)) : Wp (d + 2) 238 5 [vR 440, vI l1, vI l2] [vI t0] M K Q := by
  refine r_aload_n c238_5 rfl ?_
  refine r_getR c238_6 (oK hK o440) (FX.get (b := 444) hX (by decide) (by decide +kernel) (by decide)) (by decide) ?_
  refine r_iconst c238_9 ?_
  refine r_iae c238_10 (oK hK o444) (bd l444 (by decide)) rfl ?_
  refine r_icmpP (P := (M 444 5) < t0) c238_11 rfl (fun hc1 => ?_) (fun hc1 => ?_)
  · replace h := h.1 hc1
    refine r_bipush c238_18 ?_
    refine r_aload_n c238_20 rfl ?_
    refine r_getR c238_21 (oK hK o440) (FX.get (b := 888) hX (by decide) (by decide +kernel) (by decide)) (by decide) ?_
    refine r_bipush c238_24 ?_
    refine r_aload_n c238_26 rfl ?_
    refine r_aload_n c238_27 rfl ?_
    refine r_getR c238_28 (oK hK o440) (FX.get (b := 888) hX (by decide) (by decide +kernel) (by decide)) (by decide) ?_
    refine r_iload_n c238_31 rfl ?_
    obtain ⟨c2, h⟩ := h
    obtain ⟨s3, h⟩ := h
    obtain ⟨dr4, h⟩ := h
    obtain ⟨p5, h⟩ := h
    refine r_call c238_32 rfl rfl (Nat.le_of_ble_eq_true rfl) (okc_r rfl rfl (oK hK o440)) (g196 hK hX o888 l888 p5 (Bk_v ?_))
    refine r_iadd c238_35 ?_
    obtain ⟨s6, h⟩ := h
    refine r_iae c238_36 (oK hK o888) (bd l888 s6) rfl ?_
    refine r_isub c238_37 ?_
    exact r_iret c238_38 (Or.inl rfl) h
  · replace h := h.2 hc1
    refine r_iconst c238_14 ?_
    refine r_goto c238_15 ?_
    refine r_aload_n c238_20 rfl ?_
    refine r_getR c238_21 (oK hK o440) (FX.get (b := 888) hX (by decide) (by decide +kernel) (by decide)) (by decide) ?_
    refine r_bipush c238_24 ?_
    refine r_aload_n c238_26 rfl ?_
    refine r_aload_n c238_27 rfl ?_
    refine r_getR c238_28 (oK hK o440) (FX.get (b := 888) hX (by decide) (by decide +kernel) (by decide)) (by decide) ?_
    refine r_iload_n c238_31 rfl ?_
    obtain ⟨c7, h⟩ := h
    obtain ⟨s8, h⟩ := h
    obtain ⟨dr9, h⟩ := h
    obtain ⟨p10, h⟩ := h
    refine r_call c238_32 rfl rfl (Nat.le_of_ble_eq_true rfl) (okc_r rfl rfl (oK hK o440)) (g196 hK hX o888 l888 p10 (Bk_v ?_))
    refine r_iadd c238_35 ?_
    obtain ⟨s11, h⟩ := h
    refine r_iae c238_36 (oK hK o888) (bd l888 s11) rfl ?_
    refine r_isub c238_37 ?_
    exact r_iret c238_38 (Or.inl rfl) h
theorem u239_0 {d : Nat} {l1 : Int} {l2 : Int} {M : Mem} {K : KK} {Q : RR → Mem → KK → Prop} (hK : K.1 = 923) (hX : FX M)  (h : Wp (d + 2) 239 2 [vR 440, vI l1, vI l2, vI (0 : Int)] [] M K Q) : Wp (d + 2) 239 0 [vR 440, vI l1, vI l2, vU] [] M K Q := by
  refine r_iconst c239_0 ?_
  refine r_istore_n c239_1 (Nat.le_of_ble_eq_true rfl) ?_
  exact h
theorem u239_2 {d : Nat} {l1 : Int} {l2 : Int} {l3 : Int} {M : Mem} {K : KK} {Q : RR → Mem → KK → Prop} (hK : K.1 = 923) (hX : FX M)  (h : ((M 444 0) ≤ l3 → Q (.inl (some (vI (1 : Int)))) M K) ∧ (¬ ((M 444 0) ≤ l3) → ∃ c2 : Mem, ∃ s3 : Mem, ∃ dr4 : Int, SM M 888 c2 s3 dr4 ∧ ((lyOn c2 s3 l3) = (-1 : Int) → Wm (d + 1) 238 [vR 440, vI l1, vI l3] M K (Bk (d + 1) 239 43 46 238 [vR 440, vI l1, vI l2, vI l3] [] Q)) ∧ (¬ ((lyOn c2 s3 l3) = (-1 : Int)) → Wm (d + 1) 238 [vR 440, vI l3, vI l2] M K (Bk (d + 1) 239 28 31 238 [vR 440, vI l1, vI l2, vI l3] [] Q)))) : Wp (d + 2) 239 2 [vR 440, vI l1, vI l2, vI l3] [] M K Q := by
  refine r_iload_n c239_2 rfl ?_
  refine r_aload_n c239_3 rfl ?_
  refine r_getR c239_4 (oK hK o440) (FX.get (b := 444) hX (by decide) (by decide +kernel) (by decide)) (by decide) ?_
  refine r_iconst c239_7 ?_
  refine r_iae c239_8 (oK hK o444) (bd l444 (by decide)) rfl ?_
  refine r_icmpP (P := (M 444 0) ≤ l3) c239_9 rfl (fun hc1 => ?_) (fun hc1 => ?_)
  · replace h := h.1 hc1
    refine r_iconst c239_63 ?_
    exact r_iret c239_64 (by decide) h
  · replace h := h.2 hc1
    refine r_aload_n c239_12 rfl ?_
    refine r_aload_n c239_13 rfl ?_
    refine r_getR c239_14 (oK hK o440) (FX.get (b := 888) hX (by decide) (by decide +kernel) (by decide)) (by decide) ?_
    refine r_iload_n c239_17 rfl ?_
    obtain ⟨c2, h⟩ := h
    obtain ⟨s3, h⟩ := h
    obtain ⟨dr4, h⟩ := h
    obtain ⟨p5, h⟩ := h
    refine r_call c239_18 rfl rfl (Nat.le_of_ble_eq_true rfl) (okc_r rfl rfl (oK hK o440)) (g196 hK hX o888 l888 p5 (Bk_v ?_))
    refine r_iconst c239_21 ?_
    refine r_icmpP (P := (lyOn c2 s3 l3) = (-1 : Int)) c239_22 rfl (fun hc6 => ?_) (fun hc6 => ?_)
    · replace h := h.1 hc6
      refine r_aload_n c239_40 rfl ?_
      refine r_iload_n c239_41 rfl ?_
      refine r_iload_n c239_42 rfl ?_
      exact r_call c239_43 rfl rfl (Nat.le_of_ble_eq_true rfl) (okc_r rfl rfl (oK hK o440)) h
    · replace h := h.2 hc6
      refine r_aload_n c239_25 rfl ?_
      refine r_iload_n c239_26 rfl ?_
      refine r_iload_n c239_27 rfl ?_
      exact r_call c239_28 rfl rfl (Nat.le_of_ble_eq_true rfl) (okc_r rfl rfl (oK hK o440)) h
theorem u239_31 {d : Nat} {l1 : Int} {l2 : Int} {l3 : Int} {t0 : Int} {M : Mem} {K : KK} {Q : RR → Mem → KK → Prop} (hK : K.1 = 923) (hX : FX M)  (h : Wm (d + 1) 238 [vR 440, vI l1, vI l2] M K (Bk (d + 1) 239 34 37 238 [vR 440, vI l1, vI l2, vI l3] [vI t0] Q)) : Wp (d + 2) 239 31 [vR 440, vI l1, vI l2, vI l3] [vI t0] M K Q := by
  refine r_aload_n c239_31 rfl ?_
  refine r_iload_n c239_32 rfl ?_
  refine r_iload_n c239_33 rfl ?_
  exact r_call c239_34 rfl rfl (Nat.le_of_ble_eq_true rfl) (okc_r rfl rfl (oK hK o440)) h
theorem u239_37 {d : Nat} {l1 : Int} {l2 : Int} {l3 : Int} {t0 : Int} {t1 : Int} {M : Mem} {K : KK} {Q : RR → Mem → KK → Prop} (hK : K.1 = 923) (hX : FX M)  (h : (t1 < t0 → Q (.inl (some (vI (0 : Int)))) M K) ∧ (¬ (t1 < t0) → Wm (d + 1) 238 [vR 440, vI l1, vI l3] M K (Bk (d + 1) 239 43 46 238 [vR 440, vI l1, vI l2, vI l3] [] Q))) : Wp (d + 2) 239 37 [vR 440, vI l1, vI l2, vI l3] [vI t1, vI t0] M K Q := by
  refine r_icmpP (P := t1 < t0) c239_37 rfl (fun hc1 => ?_) (fun hc1 => ?_)
  · replace h := h.1 hc1
    refine r_iconst c239_55 ?_
    exact r_iret c239_56 (by decide) h
  · replace h := h.2 hc1
    refine r_aload_n c239_40 rfl ?_
    refine r_iload_n c239_41 rfl ?_
    refine r_iload_n c239_42 rfl ?_
    exact r_call c239_43 rfl rfl (Nat.le_of_ble_eq_true rfl) (okc_r rfl rfl (oK hK o440)) h
theorem u239_46 {d : Nat} {l1 : Int} {l2 : Int} {l3 : Int} {t0 : Int} {M : Mem} {K : KK} {Q : RR → Mem → KK → Prop} (hK : K.1 = 923) (hX : FX M)  (h : Wm (d + 1) 238 [vR 440, vI l1, vI l2] M K (Bk (d + 1) 239 49 52 238 [vR 440, vI l1, vI l2, vI l3] [vI t0] Q)) : Wp (d + 2) 239 46 [vR 440, vI l1, vI l2, vI l3] [vI t0] M K Q := by
  refine r_aload_n c239_46 rfl ?_
  refine r_iload_n c239_47 rfl ?_
  refine r_iload_n c239_48 rfl ?_
  exact r_call c239_49 rfl rfl (Nat.le_of_ble_eq_true rfl) (okc_r rfl rfl (oK hK o440)) h
theorem u239_52 {d : Nat} {l1 : Int} {l2 : Int} {l3 : Int} {t0 : Int} {t1 : Int} {M : Mem} {K : KK} {Q : RR → Mem → KK → Prop} (hK : K.1 = 923) (hX : FX M)  (h : (t1 ≤ t0 → Wp (d + 2) 239 2 [vR 440, vI l1, vI l2, vI (w32 (l3 + 1))] [] M K Q) ∧ (¬ (t1 ≤ t0) → Q (.inl (some (vI (0 : Int)))) M K)) : Wp (d + 2) 239 52 [vR 440, vI l1, vI l2, vI l3] [vI t1, vI t0] M K Q := by
  refine r_icmpP (P := t1 ≤ t0) c239_52 rfl (fun hc1 => ?_) (fun hc1 => ?_)
  · replace h := h.1 hc1
    refine r_iinc c239_57 rfl ?_
    refine r_goto c239_60 ?_
    exact h
  · replace h := h.2 hc1
    refine r_iconst c239_55 ?_
    exact r_iret c239_56 (by decide) h
theorem u240_0 {d : Nat} {l1 : Int} {M : Mem} {K : KK} {Q : RR → Mem → KK → Prop} (hK : K.1 = 923) (hX : FX M)  (h : (((0 : Int) ≤ l1 ∧ l1 ≤ (2 : Int)) → Wp (d + 2) 240 40 [vR 440, vI l1, vI (0 : Int), vI (-1 : Int), vI (0 : Int), vI (0 : Int), vU] [] (mset M 440 0 (0 : Int)) K Q) ∧ (¬ ((0 : Int) ≤ l1 ∧ l1 ≤ (2 : Int)) → (∀ (M5 : Mem), FX M5 → BadM 1 1 (mset M 440 0 (0 : Int)) M5 → Q (.inl (some (vI (0 : Int)))) M5 K))) : Wp (d + 2) 240 0 [vR 440, vI l1, vU, vU, vU, vU, vU] [] M K Q := by
  refine r_aload_n c240_0 rfl ?_
  refine r_iconst c240_1 ?_
  refine r_putI c240_2 (oK hK o440) ?_
  have x1 := FX.set (v := (0 : Int)) (a := 440) (k := 0) hX (by decide +kernel)
  refine r_aload_n c240_5 rfl ?_
  refine r_iload_n c240_6 rfl ?_
  refine r_iconst c240_7 ?_
  refine r_iconst c240_8 ?_
  refine r_call c240_9 rfl rfl (Nat.le_of_ble_eq_true rfl) (okc_s rfl rfl rfl) (g153 hK x1  (Bk_v ?_))
  refine r_ifP (P := ((0 : Int) ≤ l1 ∧ l1 ≤ (2 : Int))) c240_12 bI_ne (fun hc2 => ?_) (fun hc2 => ?_)
  · replace h := h.1 hc2
    refine r_iconst c240_19 ?_
    refine r_iconst c240_20 ?_
    refine r_iconst c240_21 ?_
    refine r_call c240_22 rfl rfl (Nat.le_of_ble_eq_true rfl) (okc_r rfl rfl (oK hK o440)) (b152_0 hK x1 ms_eq (Bk_v ?_))
    refine r_ifP (P := (0 : Int) = (0 : Int)) c240_25 rfl (fun hc => ?_) (fun hc => absurd (by decide) hc)
    refine r_iconst c240_30 ?_
    refine r_istore_n c240_31 (Nat.le_of_ble_eq_true rfl) ?_
    refine r_iconst c240_32 ?_
    refine r_istore_n c240_33 (Nat.le_of_ble_eq_true rfl) ?_
    refine r_iconst c240_34 ?_
    refine r_istore c240_35 (Nat.le_of_ble_eq_true rfl) ?_
    refine r_iconst c240_37 ?_
    refine r_istore c240_38 (Nat.le_of_ble_eq_true rfl) ?_
    exact h
  · replace h := h.2 hc2
    refine r_iconst c240_15 ?_
    refine r_goto c240_16 ?_
    refine r_iconst c240_20 ?_
    refine r_iconst c240_21 ?_
    refine r_call c240_22 rfl rfl (Nat.le_of_ble_eq_true rfl) (okc_r rfl rfl (oK hK o440)) (b152_1 (cd := 1) (ix := 1) hK x1 ms_eq (by decide) (by decide) (fun M5 x3 p4 => Bk_v ?_))
    replace h := h M5 x3 p4
    refine r_ifP (P := (1 : Int) = (0 : Int)) c240_25 rfl (fun hc => absurd hc (by decide)) (fun hc => ?_)
    refine r_iconst c240_28 ?_
    exact r_iret c240_29 (Or.inl rfl) h
theorem u240_40 {d : Nat} {l1 : Int} {l2 : Int} {l3 : Int} {l4 : Int} {l5 : Int} {l6 : PV} {M : Mem} {K : KK} {Q : RR → Mem → KK → Prop} (hK : K.1 = 923) (hX : FX M)  (h : ((M 444 0) ≤ l5 → (¬ l1 = (0 : Int) → (¬ l1 = (1 : Int) → Q (.inl (some (vI l4))) M K) ∧ (l1 = (1 : Int) → Q (.inl (some (vI l3))) M K)) ∧ (l1 = (0 : Int) → Q (.inl (some (vI l2))) M K)) ∧ (¬ ((M 444 0) ≤ l5) → Wp (d + 2) 240 54 [vR 440, vI l1, vI l2, vI l3, vI l4, vI l5, vI (0 : Int)] [] M K Q)) : Wp (d + 2) 240 40 [vR 440, vI l1, vI l2, vI l3, vI l4, vI l5, l6] [] M K Q := by
  refine r_iload c240_40 rfl ?_
  refine r_aload_n c240_42 rfl ?_
  refine r_getR c240_43 (oK hK o440) (FX.get (b := 444) hX (by decide) (by decide +kernel) (by decide)) (by decide) ?_
  refine r_iconst c240_46 ?_
  refine r_iae c240_47 (oK hK o444) (bd l444 (by decide)) rfl ?_
  refine r_icmpP (P := (M 444 0) ≤ l5) c240_48 rfl (fun hc1 => ?_) (fun hc1 => ?_)
  · replace h := h.1 hc1
    refine r_iload_n c240_144 rfl ?_
    refine r_ifP (P := ¬ l1 = (0 : Int)) c240_145 rfl (fun hc2 => ?_) (fun hc2 => ?_)
    · replace h := h.1 hc2
      refine r_iload_n c240_152 rfl ?_
      refine r_iconst c240_153 ?_
      refine r_icmpP (P := ¬ l1 = (1 : Int)) c240_154 rfl (fun hc4 => ?_) (fun hc4 => ?_)
      · replace h := h.1 hc4
        refine r_iload c240_161 rfl ?_
        exact r_iret c240_163 (Or.inl rfl) h
      · have hc5 := Classical.not_not.mp hc4
        replace h := h.2 hc5
        refine r_iload_n c240_157 rfl ?_
        refine r_goto c240_158 ?_
        exact r_iret c240_163 (Or.inl rfl) h
    · have hc3 := Classical.not_not.mp hc2
      replace h := h.2 hc3
      refine r_iload_n c240_148 rfl ?_
      refine r_goto c240_149 ?_
      exact r_iret c240_163 (Or.inl rfl) h
  · replace h := h.2 hc1
    refine r_iconst c240_51 ?_
    refine r_istore c240_52 (Nat.le_of_ble_eq_true rfl) ?_
    exact h
theorem u240_54 {d : Nat} {l1 : Int} {l2 : Int} {l3 : Int} {l4 : Int} {l5 : Int} {l6 : Int} {M : Mem} {K : KK} {Q : RR → Mem → KK → Prop} (hK : K.1 = 923) (hX : FX M)  (h : ((M 444 0) ≤ l6 → Wp (d + 2) 240 40 [vR 440, vI l1, vI l2, vI l3, vI l4, vI (w32 (l5 + 1)), vI l6] [] M K Q) ∧ (¬ ((M 444 0) ≤ l6) → ∃ c2 : Mem, ∃ s3 : Mem, ∃ dr4 : Int, SM M 888 c2 s3 dr4 ∧ ((lyOn c2 s3 l5) = (-1 : Int) → Wp (d + 2) 240 40 [vR 440, vI l1, vI l2, vI l3, vI l4, vI (w32 (l5 + 1)), vI l6] [] M K Q) ∧ (¬ ((lyOn c2 s3 l5) = (-1 : Int)) → Wm (d + 1) 239 [vR 440, vI l5, vI l6] M K (Bk (d + 1) 240 84 87 239 [vR 440, vI l1, vI l2, vI l3, vI l4, vI l5, vI l6] [] Q)))) : Wp (d + 2) 240 54 [vR 440, vI l1, vI l2, vI l3, vI l4, vI l5, vI l6] [] M K Q := by
  refine r_iload c240_54 rfl ?_
  refine r_aload_n c240_56 rfl ?_
  refine r_getR c240_57 (oK hK o440) (FX.get (b := 444) hX (by decide) (by decide +kernel) (by decide)) (by decide) ?_
  refine r_iconst c240_60 ?_
  refine r_iae c240_61 (oK hK o444) (bd l444 (by decide)) rfl ?_
  refine r_icmpP (P := (M 444 0) ≤ l6) c240_62 rfl (fun hc1 => ?_) (fun hc1 => ?_)
  · replace h := h.1 hc1
    refine r_iinc c240_138 rfl ?_
    refine r_goto c240_141 ?_
    exact h
  · replace h := h.2 hc1
    refine r_aload_n c240_65 rfl ?_
    refine r_aload_n c240_66 rfl ?_
    refine r_getR c240_67 (oK hK o440) (FX.get (b := 888) hX (by decide) (by decide +kernel) (by decide)) (by decide) ?_
    refine r_iload c240_70 rfl ?_
    obtain ⟨c2, h⟩ := h
    obtain ⟨s3, h⟩ := h
    obtain ⟨dr4, h⟩ := h
    obtain ⟨p5, h⟩ := h
    refine r_call c240_72 rfl rfl (Nat.le_of_ble_eq_true rfl) (okc_r rfl rfl (oK hK o440)) (g196 hK hX o888 l888 p5 (Bk_v ?_))
    refine r_iconst c240_75 ?_
    refine r_icmpP (P := (lyOn c2 s3 l5) = (-1 : Int)) c240_76 rfl (fun hc6 => ?_) (fun hc6 => ?_)
    · replace h := h.1 hc6
      refine r_iinc c240_138 rfl ?_
      refine r_goto c240_141 ?_
      exact h
    · replace h := h.2 hc6
      refine r_aload_n c240_79 rfl ?_
      refine r_iload c240_80 rfl ?_
      refine r_iload c240_82 rfl ?_
      exact r_call c240_84 rfl rfl (Nat.le_of_ble_eq_true rfl) (okc_r rfl rfl (oK hK o440)) h
theorem u240_87 {d : Nat} {l1 : Int} {l2 : Int} {l3 : Int} {l4 : Int} {l5 : Int} {l6 : Int} {t0 : Int} {M : Mem} {K : KK} {Q : RR → Mem → KK → Prop} (hK : K.1 = 923) (hX : FX M)  (h : (¬ t0 = (0 : Int) → (¬ l2 = (0 : Int) → Wp (d + 2) 240 54 [vR 440, vI l1, vI (w32 (l2 + 1)), vI l3, vI l4, vI l5, vI (w32 (l6 + 1))] [] M K Q) ∧ (l2 = (0 : Int) → Wm (d + 1) 238 [vR 440, vI l5, vI l6] M K (Bk (d + 1) 240 102 105 238 [vR 440, vI l1, vI l2, vI l3, vI l4, vI l5, vI l6] [] Q))) ∧ (t0 = (0 : Int) → Wp (d + 2) 240 54 [vR 440, vI l1, vI l2, vI l3, vI l4, vI l5, vI (w32 (l6 + 1))] [] M K Q)) : Wp (d + 2) 240 87 [vR 440, vI l1, vI l2, vI l3, vI l4, vI l5, vI l6] [vI t0] M K Q := by
  refine r_ifP (P := ¬ t0 = (0 : Int)) c240_87 rfl (fun hc1 => ?_) (fun hc1 => ?_)
  · replace h := h.1 hc1
    refine r_iload_n c240_93 rfl ?_
    refine r_ifP (P := ¬ l2 = (0 : Int)) c240_94 rfl (fun hc3 => ?_) (fun hc3 => ?_)
    · replace h := h.1 hc3
      refine r_iload c240_108 rfl ?_
      refine r_istore c240_110 (Nat.le_of_ble_eq_true rfl) ?_
      refine r_iload_n c240_112 rfl ?_
      refine r_ifP (P := ¬ l2 = (0 : Int)) c240_113 rfl (fun hc => ?_) (fun hc => absurd hc3 hc)
      refine r_iload_n c240_127 rfl ?_
      refine r_istore_n c240_128 (Nat.le_of_ble_eq_true rfl) ?_
      refine r_iinc c240_129 rfl ?_
      refine r_iinc c240_132 rfl ?_
      refine r_goto c240_135 ?_
      exact h
    · have hc4 := Classical.not_not.mp hc3
      replace h := h.2 hc4
      refine r_aload_n c240_97 rfl ?_
      refine r_iload c240_98 rfl ?_
      refine r_iload c240_100 rfl ?_
      exact r_call c240_102 rfl rfl (Nat.le_of_ble_eq_true rfl) (okc_r rfl rfl (oK hK o440)) h
  · have hc2 := Classical.not_not.mp hc1
    replace h := h.2 hc2
    refine r_goto c240_90 ?_
    refine r_iinc c240_132 rfl ?_
    refine r_goto c240_135 ?_
    exact h
theorem u240_105 {d : Nat} {l1 : Int} {l2 : Int} {l3 : Int} {l4 : Int} {l5 : Int} {l6 : Int} {t0 : Int} {M : Mem} {K : KK} {Q : RR → Mem → KK → Prop} (hK : K.1 = 923) (hX : FX M)  (h : (¬ l2 = (0 : Int) → Wp (d + 2) 240 54 [vR 440, vI l1, vI (w32 (l2 + 1)), vI l3, vI t0, vI l5, vI (w32 (l6 + 1))] [] M K Q) ∧ (l2 = (0 : Int) → Wp (d + 2) 240 54 [vR 440, vI l1, vI (w32 (l2 + 1)), vI (w32 ((w32 ((100 : Int) * l5)) + l6)), vI t0, vI l5, vI (w32 (l6 + 1))] [] M K Q)) : Wp (d + 2) 240 105 [vR 440, vI l1, vI l2, vI l3, vI l4, vI l5, vI l6] [vI t0] M K Q := by
  refine r_goto c240_105 ?_
  refine r_istore c240_110 (Nat.le_of_ble_eq_true rfl) ?_
  refine r_iload_n c240_112 rfl ?_
  refine r_ifP (P := ¬ l2 = (0 : Int)) c240_113 rfl (fun hc1 => ?_) (fun hc1 => ?_)
  · replace h := h.1 hc1
    refine r_iload_n c240_127 rfl ?_
    refine r_istore_n c240_128 (Nat.le_of_ble_eq_true rfl) ?_
    refine r_iinc c240_129 rfl ?_
    refine r_iinc c240_132 rfl ?_
    refine r_goto c240_135 ?_
    exact h
  · have hc2 := Classical.not_not.mp hc1
    replace h := h.2 hc2
    refine r_bipush c240_116 ?_
    refine r_iload c240_118 rfl ?_
    refine r_imul c240_120 ?_
    refine r_iload c240_121 rfl ?_
    refine r_iadd c240_123 ?_
    refine r_goto c240_124 ?_
    refine r_istore_n c240_128 (Nat.le_of_ble_eq_true rfl) ?_
    refine r_iinc c240_129 rfl ?_
    refine r_iinc c240_132 rfl ?_
    refine r_goto c240_135 ?_
    exact h
/-! the question thief -/
/-- what the thief has at cell x, the watchman at b -/
def thH (c s : Mem) (x b : Nat) : Int := if lyOn c s (x : Int) = -1 then 0 else if ((b : Int) - (x : Int)).natAbs ≤ (c 0 5).toNat then 0 - s 1 (lyOn c s (x : Int)).toNat else 99 - s 1 (lyOn c s (x : Int)).toNat
/-- nobody would rather go elsewhere, of the cells below k -/
def rsB (c s : Mem) (x b : Nat) : Nat → Bool
  | 0 => true
  | o + 1 => rsB c s x b o && (decide (lyOn c s (o : Int) = -1 ∨ thH c s o b ≤ thH c s x b) && decide (thH c s x b ≤ thH c s x o))
def rB (c s : Mem) (x b : Nat) : Bool := decide (lyOn c s (x : Int) ≠ -1) && rsB c s x b (nCe c)
def thI (c s : Mem) (x : Nat) : Nat → Nat × Int × Int → Nat × Int × Int
  | 0, z => z
  | b + 1, z => match rB c s x b with
    | true => ((thI c s x b z).1 + 1, if (thI c s x b z).1 = 0 then 100 * (x : Int) + (b : Int) else (thI c s x b z).2.1, if (thI c s x b z).1 = 0 then thH c s x b else (thI c s x b z).2.2)
    | false => thI c s x b z
def thO (c s : Mem) : Nat → Nat × Int × Int
  | 0 => (0, -1, 0)
  | x + 1 => thI c s x (nCe c) (thO c s x)
def thiefS (c s : Mem) (w : Int) : Int := if w = 0 then ((thO c s (nCe c)).1 : Int) else if w = 1 then (thO c s (nCe c)).2.1 else (thO c s (nCe c)).2.2
section OP7
variable {d : Nat} {M M' : Mem} {K : KK} {Q : RR → Mem → KK → Prop} {c s : Mem} {L Y : LC}
theorem lyOn_in {cell : Int} (h : ¬ lyOn c s cell = -1) : 0 ≤ lyOn c s cell ∧ (lyOn c s cell).toNat < nSt c := by
  unfold lyOn at h ⊢
  rcases fsR_sp (P := onP c s cell) (nSt c) 0 with ⟨h1, -⟩ | ⟨j, h1, -, h3, -⟩
  · exact absurd h1 h
  · rw [h1]; omega
theorem thH_rg (hs : LW c s) (x b : Nat) : -99 ≤ thH c s x b ∧ thH c s x b ≤ 99 := by
  unfold thH
  split
  · omega
  · rename_i h
    have := hs.1 _ (lyOn_in h).2
    split <;> omega
theorem thI_off {x : Nat} (h : lyOn c s (x : Int) = -1) : ∀ b z, thI c s x b z = z := by
  intro b
  induction b with
  | zero => intro z; rfl
  | succ b ih =>
    intro z
    have e : rB c s x b = false := by unfold rB; rw [decide_eq_false (by simp [h]), Bool.false_and]
    simp only [thI]
    rw [e]; exact ih z
theorem thI_le {x : Nat} : ∀ b z, (thI c s x b z).1 ≤ z.1 + b := by
  intro b
  induction b with
  | zero => intro z; exact Nat.le_refl _
  | succ b ih =>
    intro z
    have := ih z
    simp only [thI]
    split
    · dsimp only; omega
    · omega
theorem thO_le : ∀ x, (thO c s x).1 ≤ x * nCe c := by
  intro x
  induction x with
  | zero => exact Nat.zero_le _
  | succ x ih =>
    have := thI_le (c := c) (s := s) (x := x) (nCe c) (thO c s x)
    simp only [thO]
    rw [Nat.succ_mul]; omega
theorem g147 {x b : Nat} (hK : K.1 = 923) (hX : FX M) (h : GC M c L s) (hx : x ≤ 12) (hb : b ≤ 12) (k : Q (.inl (some (vI (thH c s x b)))) M K) : Wm (d + 1) 147 [vR 32, vI (x : Int), vI (b : Int)] M K Q := by
  obtain ⟨cm, l, a, b', e, f⟩ := h
  have hN := e.2.1.n.1
  unfold thH at k
  refine u147_0 hK hX ⟨cm, a, b', c, s, e, fun h9 => ?_, fun h9 => ?_⟩
  · have hi := lyOn_in h9
    have e1 := (e.2.2.1.1 _ hi.2).2.1
    rw [show (40 : Nat) + 1 = 41 from rfl] at e1
    have r := e.2.2.2.1 _ hi.2
    refine ⟨by omega, c, ⟨e.1, e.2.1, by omega, by omega⟩, ?_⟩
    rw [e1, w32_id (z := 99 - _) (by omega), w32_id (by omega)]
    rw [if_neg h9] at k
    refine ⟨fun h8 => ?_, fun h8 => ?_⟩
    · rw [if_neg h8] at k; exact k
    · rw [if_pos h8] at k
      rw [show (99 : Int) - s 1 (lyOn c s (x : Int)).toNat - 99 = 0 - s 1 (lyOn c s (x : Int)).toNat by omega]; exact k
  · rw [if_pos h9] at k; exact k
theorem g148 {x b : Nat} (hK : K.1 = 923) (hX : FX M) (h : GC M c L s) (hx : x ≤ 12) (hb : b ≤ 12) (k : Q (.inl (some (vI (bI (rB c s x b = true))))) M K) : Wm (d + 2) 148 [vR 32, vI (x : Int), vI (b : Int)] M K Q := by
  have hg := h
  obtain ⟨cm, l, a, b', e, f⟩ := h
  have hC := e.2.1.n.2.1
  have e5 := (e.1.g e.2.1).1
  refine u148_0 hK hX ⟨cm, a, b', c, s, e, fun h9 => ?_, fun h9 => ?_⟩
  · refine g147 hK hX hg hx hb (Bk_v (u148_24 hK hX ?_))
    have hr : rB c s x b = rsB c s x b (nCe c) := by unfold rB; rw [decide_eq_true h9, Bool.true_and]
    rw [hr] at k
    have mono : ∀ o j, rsB c s x b o = false → rsB c s x b (o + j) = false := by
      intro o j ho
      induction j with
      | zero => exact ho
      | succ j ih => show rsB c s x b ((o + j) + 1) = false; simp only [rsB]; rw [ih, Bool.false_and]
    have bad : ∀ o, o < nCe c → rsB c s x b (o + 1) = false → Q (.inl (some (vI 0))) M K := by
      intro o ho h8
      have := mono (o + 1) (nCe c - (o + 1)) h8
      rw [show o + 1 + (nCe c - (o + 1)) = nCe c by omega] at this
      rw [this, bI_f (by decide)] at k; exact k
    have loop : ∀ f o, o + f = nCe c → rsB c s x b o = true → ∀ v : PV, Wp (d + 2) 148 28 [vR 32, vI (x : Int), vI (b : Int), vI (thH c s x b), vI (o : Int), v] [] M K Q := by
      intro f9
      induction f9 with
      | zero =>
        intro o ho hr9 v
        have hin : o = nCe c := by omega
        subst hin
        refine u148_28 hK hX ⟨cm, a, b', fun _ => ?_, fun h8 => absurd (by omega) h8⟩
        rw [hr9, bI_t rfl] at k; exact k
      | succ f9 ih =>
        intro o ho hr9 v
        have eR : rsB c s x b (o + 1) = (decide (lyOn c s (o : Int) = -1 ∨ thH c s o b ≤ thH c s x b) && decide (thH c s x b ≤ thH c s x o)) := by simp only [rsB]; rw [hr9, Bool.true_and]
        have tail : (lyOn c s (o : Int) = -1 ∨ thH c s o b ≤ thH c s x b) → Wm (d + 1) 147 [vR 32, vI (x : Int), vI (o : Int)] M K (Bk (d + 1) 148 84 87 147 [vR 32, vI (x : Int), vI (b : Int), vI (thH c s x b), vI (o : Int), vI 0] [] Q) := by
          intro h7
          rw [decide_eq_true h7, Bool.true_and] at eR
          refine g147 hK hX hg hx (by omega) (Bk_v (u148_87 hK hX ⟨fun h6 => ?_, fun h6 => ?_⟩))
          · rw [w1 (by omega)]
            exact ih (o + 1) (by omega) (by rw [eR]; exact decide_eq_true h6) _
          · exact bad o (by omega) (by rw [eR]; exact decide_eq_false h6)
        refine u148_28 hK hX ⟨cm, a, b', fun h8 => absurd h8 (by omega), fun _ => ⟨c, s, e, fun h8 => tail (Or.inl h8), fun h8 => ?_⟩⟩
        refine g147 hK hX hg (by omega) hb (Bk_v (u148_64 hK hX ⟨fun h7 => tail (Or.inr h7), fun h7 => ?_⟩))
        exact bad o (by omega) (by rw [eR, decide_eq_false (by omega), Bool.false_and])
    exact loop (nCe c) 0 (Nat.zero_add _) rfl vU
  · have hr : rB c s x b = false := by unfold rB; rw [decide_eq_false (by simp [h9]), Bool.false_and]
    rw [hr, bI_f (by decide)] at k; exact k
theorem c123 {w : Int} (hK : K.1 = 923) (hX : FX M) (h : GC M c L s) (k : QC Q M K True (0 ≤ w ∧ w ≤ 2) (vI (thiefS c s w))) : Wm (d + 3) 123 [vR 32, vI w] M K Q := by
  have hg := h
  obtain ⟨cm, l, a, b', e, f⟩ := h
  have hC := e.2.1.n.2.1
  have e5 := (e.1.g e.2.1).1
  refine u123_0 hK hX ⟨fun hw => ?_, k.2.1 trivial⟩
  have k := k.ok trivial hw hX
  unfold thiefS at k
  have loop : ∀ f x, x + f = nCe c → ∀ v : PV, Wp (d + 3) 123 20 [vR 32, vI w, vI ((thO c s x).1 : Int), vI (thO c s x).2.1, vI (thO c s x).2.2, vI (x : Int), v] [] M K Q := by
    intro f9
    induction f9 with
    | zero =>
      intro x hx v
      have hin : x = nCe c := by omega
      subst hin
      refine u123_20 hK hX ⟨cm, a, b', fun _ => ⟨fun h9 => ⟨fun h8 => ?_, fun h8 => ?_⟩, fun h9 => ?_⟩, fun h8 => absurd (by omega) h8⟩
      · rw [if_neg h9, if_neg h8] at k; exact k
      · rw [if_neg h9, if_pos h8] at k; exact k
      · rw [if_pos h9] at k; exact k
    | succ f9 ih =>
      intro x hx v
      refine u123_20 hK hX ⟨cm, a, b', fun h8 => absurd h8 (by omega), fun _ => ?_⟩
      have le1 := thO_le (c := c) (s := s) x
      have le2 : x * nCe c ≤ 12 * 12 := Nat.mul_le_mul (by omega) hC.2
      have inner : ∀ fb b, b + fb = nCe c → Wp (d + 3) 123 35 [vR 32, vI w, vI ((thI c s x b (thO c s x)).1 : Int), vI (thI c s x b (thO c s x)).2.1, vI (thI c s x b (thO c s x)).2.2, vI (x : Int), vI (b : Int)] [] M K Q := by
        intro fb
        induction fb with
        | zero =>
          intro b hb
          have hin : b = nCe c := by omega
          subst hin
          refine u123_35 hK hX ⟨cm, a, b', fun _ => ?_, fun h8 => absurd (by omega) h8⟩
          rw [w1 (by omega)]
          exact ih (x + 1) (by omega) _
        | succ fb ihb =>
          intro b hb
          have nx := ihb (b + 1) (by omega)
          have le3 := thI_le (c := c) (s := s) (x := x) b (thO c s x)
          simp only [thI] at nx
          refine u123_35 hK hX ⟨cm, a, b', fun h8 => absurd h8 (by omega), fun _ => ?_⟩
          refine g148 hK hX hg (by omega) (by omega) (Bk_v (u123_55 hK hX ?_))
          cases hr : rB c s x b with
          | false =>
            rw [hr] at nx
            refine ⟨fun _ => ?_, fun h9 => absurd (bI_f (by decide)) h9⟩
            rw [w1 (by omega)]; exact nx
          | true =>
            rw [hr] at nx
            dsimp only at nx
            refine ⟨fun h9 => absurd h9 (by rw [bI_t rfl]; decide), fun _ => ⟨fun h8 => ?_, fun h8 => ?_⟩⟩
            · rw [if_neg (by omega), if_neg (by omega)] at nx
              rw [w1 (i := b) (by omega), w1 (by omega)]; exact nx
            · rw [if_pos (by omega), if_pos (by omega)] at nx
              rw [w32_id (z := 100 * (x : Int)) (by omega), w32_id (z := 100 * (x : Int) + (b : Int)) (by omega)]
              refine g147 hK hX hg (by omega) (by omega) (Bk_v (u123_79 hK hX ?_))
              rw [w1 (i := b) (by omega), w1 (by omega)]; exact nx
      exact inner (nCe c) 0 (Nat.zero_add _)
  exact loop (nCe c) 0 (Nat.zero_add _) vU
theorem g238 {x b : Nat} (hK : K.1 = 923) (hX : FX M) (h : GM M c L s) (hx : x ≤ 12) (hb : b ≤ 12) (ho : ¬ lyOn c s (x : Int) = -1) (k : Q (.inl (some (vI (thH c s x b)))) M K) : Wm (d + 2) 238 [vR 440, vI (x : Int), vI (b : Int)] M K Q := by
  have hN := h.1.2.1.n.1
  have e5 := h.1.1.1 5 (by decide)
  have h5 : 0 ≤ c 0 5 ∧ c 0 5 ≤ 4 := h.1.2.1.2.2.2.2.2.1
  have hi := lyOn_in ho
  have e1 := (h.1.2.2.1.1 _ hi.2).2.1
  have r := h.1.2.2.2.1.1 _ hi.2
  unfold thH at k
  rw [if_neg ho] at k
  have ix : Int.toNat (w32 (6 + lyOn c s (x : Int))) = 6 + (lyOn c s (x : Int)).toNat := by rw [w32_id (by omega)]; omega
  have bx : 0 ≤ w32 (6 + lyOn c s (x : Int)) ∧ w32 (6 + lyOn c s (x : Int)) < 27 := by rw [w32_id (by omega)]; omega
  refine u238_0 hK hX ?_
  refine g232 hK hX (by omega) (by omega) (Bk_v (u238_5 hK hX ?_))
  refine ⟨fun h9 => ⟨c, s, -1, h.1, bx, ?_⟩, fun h9 => ⟨c, s, -1, h.1, bx, ?_⟩⟩ <;> rw [ix, e1, w32_id (by omega)]
  · rw [if_neg (by omega)] at k; exact k
  · rw [if_pos (by omega)] at k; exact k
theorem g239 {x b : Nat} (hK : K.1 = 923) (hX : FX M) (h : GM M c L s) (hx : x ≤ 12) (hb : b ≤ 12) (ho : ¬ lyOn c s (x : Int) = -1) (k : Q (.inl (some (vI (bI (rB c s x b = true))))) M K) : Wm (d + 3) 239 [vR 440, vI (x : Int), vI (b : Int)] M K Q := by
  have hC := h.1.2.1.n.2.1
  have e443 := h.cen.1
  have hr : rB c s x b = rsB c s x b (nCe c) := by unfold rB; rw [decide_eq_true ho, Bool.true_and]
  rw [hr] at k
  refine u239_0 hK hX ?_
  have mono : ∀ o j, rsB c s x b o = false → rsB c s x b (o + j) = false := by
    intro o j ho
    induction j with
    | zero => exact ho
    | succ j ih => show rsB c s x b ((o + j) + 1) = false; simp only [rsB]; rw [ih, Bool.false_and]
  have bad : ∀ o, o < nCe c → rsB c s x b (o + 1) = false → Q (.inl (some (vI 0))) M K := by
    intro o ho h8
    have := mono (o + 1) (nCe c - (o + 1)) h8
    rw [show o + 1 + (nCe c - (o + 1)) = nCe c by omega] at this
    rw [this, bI_f (by decide)] at k; exact k
  have loop : ∀ f o, o + f = nCe c → rsB c s x b o = true → Wp (d + 3) 239 2 [vR 440, vI (x : Int), vI (b : Int), vI (o : Int)] [] M K Q := by
    intro f9
    induction f9 with
    | zero =>
      intro o ho hr9
      have hin : o = nCe c := by omega
      subst hin
      refine u239_2 hK hX ⟨fun _ => ?_, fun h8 => absurd (by omega) h8⟩
      rw [hr9, bI_t rfl] at k; exact k
    | succ f9 ih =>
      intro o ho' hr9
      have eR : rsB c s x b (o + 1) = (decide (lyOn c s (o : Int) = -1 ∨ thH c s o b ≤ thH c s x b) && decide (thH c s x b ≤ thH c s x o)) := by simp only [rsB]; rw [hr9, Bool.true_and]
      have tail : (lyOn c s (o : Int) = -1 ∨ thH c s o b ≤ thH c s x b) → Wm (d + 2) 238 [vR 440, vI (x : Int), vI (o : Int)] M K (Bk (d + 2) 239 43 46 238 [vR 440, vI (x : Int), vI (b : Int), vI (o : Int)] [] Q) := by
        intro h7
        rw [decide_eq_true h7, Bool.true_and] at eR
        refine g238 hK hX h hx (by omega) ho (Bk_v (u239_46 hK hX ?_))
        refine g238 hK hX h hx hb ho (Bk_v (u239_52 hK hX ⟨fun h6 => ?_, fun h6 => ?_⟩))
        · rw [w1 (by omega)]
          exact ih (o + 1) (by omega) (by rw [eR]; exact decide_eq_true h6)
        · exact bad o (by omega) (by rw [eR]; exact decide_eq_false h6)
      refine u239_2 hK hX ⟨fun h8 => absurd h8 (by omega), fun _ => ⟨c, s, -1, h.1, fun h8 => tail (Or.inl h8), fun h8 => ?_⟩⟩
      refine g238 hK hX h (by omega) hb h8 (Bk_v (u239_31 hK hX ?_))
      refine g238 hK hX h hx hb ho (Bk_v (u239_37 hK hX ⟨fun h7 => ?_, fun h7 => tail (Or.inr (by omega))⟩))
      exact bad o (by omega) (by rw [eR, decide_eq_false (by omega), Bool.false_and])
  exact loop (nCe c) 0 (Nat.zero_add _) rfl
theorem m240 {w : Int} (hK : K.1 = 923) (hX : FX M) (h : GM M c L s) (k : QM Q M K True (0 ≤ w ∧ w ≤ 2) 1 (vI 0) (vI (thiefS c s w))) : Wm (d + 4) 240 [vR 440, vI w] M K Q := by
  have hC := h.1.2.1.n.2.1
  refine u240_0 hK hX ⟨fun hw => ?_, fun hw => k.bad trivial hw⟩
  have k := k.ok trivial hw hX
  have h' := h.q FrQm.t0
  have x1 := hX.t0
  generalize mset M 440 0 0 = M1 at *
  have e443 := h'.cen.1
  unfold thiefS at k
  have loop : ∀ f x, x + f = nCe c → ∀ v : PV, Wp (d + 4) 240 40 [vR 440, vI w, vI ((thO c s x).1 : Int), vI (thO c s x).2.1, vI (thO c s x).2.2, vI (x : Int), v] [] M1 K Q := by
    intro f9
    induction f9 with
    | zero =>
      intro x hx v
      have hin : x = nCe c := by omega
      subst hin
      refine u240_40 hK x1 ⟨fun _ => ⟨fun h9 => ⟨fun h8 => ?_, fun h8 => ?_⟩, fun h9 => ?_⟩, fun h8 => absurd (by omega) h8⟩
      · rw [if_neg h9, if_neg h8] at k; exact k
      · rw [if_neg h9, if_pos h8] at k; exact k
      · rw [if_pos h9] at k; exact k
    | succ f9 ih =>
      intro x hx v
      refine u240_40 hK x1 ⟨fun h8 => absurd h8 (by omega), fun _ => ?_⟩
      have le1 := thO_le (c := c) (s := s) x
      have le2 : x * nCe c ≤ 12 * 12 := Nat.mul_le_mul (by omega) hC.2
      have nxt : ∀ v, Wp (d + 4) 240 40 [vR 440, vI w, vI ((thO c s (x + 1)).1 : Int), vI (thO c s (x + 1)).2.1, vI (thO c s (x + 1)).2.2, vI ((x + 1 : Nat) : Int), v] [] M1 K Q := ih (x + 1) (by omega)
      simp only [thO] at nxt
      have inner : ∀ fb b, b + fb = nCe c → Wp (d + 4) 240 54 [vR 440, vI w, vI ((thI c s x b (thO c s x)).1 : Int), vI (thI c s x b (thO c s x)).2.1, vI (thI c s x b (thO c s x)).2.2, vI (x : Int), vI (b : Int)] [] M1 K Q := by
        intro fb
        induction fb with
        | zero =>
          intro b hb
          have hin : b = nCe c := by omega
          subst hin
          refine u240_54 hK x1 ⟨fun _ => ?_, fun h8 => absurd (by omega) h8⟩
          rw [w1 (by omega)]
          exact nxt _
        | succ fb ihb =>
          intro b hb
          have nx := ihb (b + 1) (by omega)
          have le3 := thI_le (c := c) (s := s) (x := x) b (thO c s x)
          simp only [thI] at nx
          refine u240_54 hK x1 ⟨fun h8 => absurd h8 (by omega), fun _ => ⟨c, s, -1, h'.1, fun h9 => ?_, fun h9 => ?_⟩⟩
          · rw [thI_off h9] at nxt
            rw [thI_off h9, w1 (by omega)]; exact nxt _
          · refine g239 hK x1 h' (by omega) (by omega) h9 (Bk_v (u240_87 hK x1 ?_))
            cases hr : rB c s x b with
            | false =>
              rw [hr] at nx
              refine ⟨fun h8 => absurd (bI_f (by decide)) h8, fun _ => ?_⟩
              rw [w1 (by omega)]; exact nx
            | true =>
              rw [hr] at nx
              dsimp only at nx
              refine ⟨fun _ => ⟨fun h8 => ?_, fun h8 => ?_⟩, fun h8 => absurd h8 (by rw [bI_t rfl]; decide)⟩
              · rw [if_neg (by omega), if_neg (by omega)] at nx
                rw [w1 (i := b) (by omega), w1 (by omega)]; exact nx
              · rw [if_pos (by omega), if_pos (by omega)] at nx
                refine g238 hK x1 h' (by omega) (by omega) h9 (Bk_v (u240_105 hK x1 ⟨fun h7 => absurd h8 h7, fun _ => ?_⟩))
                rw [w32_id (z := 100 * (x : Int)) (by omega), w32_id (z := 100 * (x : Int) + (b : Int)) (by omega), w1 (i := b) (by omega), w1 (by omega)]; exact nx
      exact inner (nCe c) 0 (Nat.zero_add _)
  exact loop (nCe c) 0 (Nat.zero_add _) vU
end OP7
