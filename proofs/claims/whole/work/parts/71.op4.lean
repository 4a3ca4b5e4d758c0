theorem u121_0 {d : Nat}  {M : Mem} {K : KK} {Q : RR → Mem → KK → Prop} (hK : K.1 = 923) (hX : FX M)  (h : ∃ b1 : Nat, (M 32 11) = (b1 : Int) ∧ isO 923 b1 0 = true ∧ ∃ c4 : Mem, ∃ s5 : Mem, SKc M b1 40 c4 s5 ∧ Wp (d + 2) 121 26 [vR 32, vI (lainS c4 s5 : Int), vI (w32 ((jshl (1 : Int) (M b1 5)) - (1 : Int))), vI (0 : Int), vU] [] M K Q) : Wp (d + 2) 121 0 [vR 32, vU, vU, vU, vU] [] M K Q := by
  refine r_aload_n c121_0 rfl ?_
  refine r_getR c121_1 (oK hK o32) (FX.get (b := 40) hX (by decide) (by decide +kernel) (by decide)) (by decide) ?_
  refine r_aload_n c121_4 rfl ?_
  obtain ⟨b1, h⟩ := h
  obtain ⟨e2, h⟩ := h
  obtain ⟨k3, h⟩ := h
  refine r_getR c121_5 (oK hK o32) e2 (by have := (isO_d k3).1; omega) ?_
  obtain ⟨c4, h⟩ := h
  obtain ⟨s5, h⟩ := h
  obtain ⟨p6, h⟩ := h
  refine r_call c121_8 rfl rfl (Nat.le_of_ble_eq_true rfl) (okc_r rfl rfl (oK hK o40)) (g39 hK hX o40 k3 p6 (Bk_v ?_))
  refine r_istore_n c121_11 (Nat.le_of_ble_eq_true rfl) ?_
  refine r_iconst c121_12 ?_
  refine r_aload_n c121_13 rfl ?_
  refine r_getR c121_14 (oK hK o32) e2 (by have := (isO_d k3).1; omega) ?_
  refine r_getIe c121_17 (oK hK k3) rfl ?_
  refine r_ishl c121_20 ?_
  refine r_iconst c121_21 ?_
  refine r_isub c121_22 ?_
  refine r_istore_n c121_23 (Nat.le_of_ble_eq_true rfl) ?_
  refine r_iconst c121_24 ?_
  refine r_istore_n c121_25 (Nat.le_of_ble_eq_true rfl) ?_
  exact h
theorem u121_26 {d : Nat} {l1 : Int} {l2 : Int} {l3 : Int} {l4 : PV} {M : Mem} {K : KK} {Q : RR → Mem → KK → Prop} (hK : K.1 = 923) (hX : FX M)  (h : ∃ b1 : Nat, (M 32 11) = (b1 : Int) ∧ isO 923 b1 0 = true ∧ ((jshl (1 : Int) (M b1 5)) ≤ l3 → Q (.inl (some (vI l2))) M K) ∧ (¬ ((jshl (1 : Int) (M b1 5)) ≤ l3) → Wm (d + 1) 289 [vI l3] M K (Bk (d + 1) 121 40 43 289 [vR 32, vI l1, vI l2, vI l3, l4] [] Q))) : Wp (d + 2) 121 26 [vR 32, vI l1, vI l2, vI l3, l4] [] M K Q := by
  refine r_iload_n c121_26 rfl ?_
  refine r_iconst c121_27 ?_
  refine r_aload_n c121_28 rfl ?_
  obtain ⟨b1, h⟩ := h
  obtain ⟨e2, h⟩ := h
  obtain ⟨k3, h⟩ := h
  refine r_getR c121_29 (oK hK o32) e2 (by have := (isO_d k3).1; omega) ?_
  refine r_getIe c121_32 (oK hK k3) rfl ?_
  refine r_ishl c121_35 ?_
  refine r_icmpP (P := (jshl (1 : Int) (M b1 5)) ≤ l3) c121_36 rfl (fun hc4 => ?_) (fun hc4 => ?_)
  · replace h := h.1 hc4
    refine r_iload_n c121_85 rfl ?_
    exact r_iret c121_86 (Or.inl rfl) h
  · replace h := h.2 hc4
    refine r_iload_n c121_39 rfl ?_
    exact r_call c121_40 rfl rfl (Nat.le_of_ble_eq_true rfl) (okc_s rfl rfl rfl) h
theorem u121_43 {d : Nat} {l1 : Int} {l2 : Int} {l3 : Int} {l4 : PV} {t0 : Int} {M : Mem} {K : KK} {Q : RR → Mem → KK → Prop} (hK : K.1 = 923) (hX : FX M)  (h : Wm (d + 1) 289 [vI l2] M K (Bk (d + 1) 121 44 47 289 [vR 32, vI l1, vI l2, vI l3, l4] [vI t0] Q)) : Wp (d + 2) 121 43 [vR 32, vI l1, vI l2, vI l3, l4] [vI t0] M K Q := by
  refine r_iload_n c121_43 rfl ?_
  exact r_call c121_44 rfl rfl (Nat.le_of_ble_eq_true rfl) (okc_s rfl rfl rfl) h
theorem u121_47 {d : Nat} {l1 : Int} {l2 : Int} {l3 : Int} {l4 : PV} {t0 : Int} {t1 : Int} {M : Mem} {K : KK} {Q : RR → Mem → KK → Prop} (hK : K.1 = 923) (hX : FX M)  (h : (t1 ≤ t0 → Wp (d + 2) 121 26 [vR 32, vI l1, vI l2, vI (w32 (l3 + 1)), vI (0 : Int)] [] M K Q) ∧ (¬ (t1 ≤ t0) → ∃ b2 : Nat, (M 32 11) = (b2 : Int) ∧ isO 923 b2 0 = true ∧ ∃ c5 : Mem, ∃ z6 : Nat, (l3 = (z6 : Int) ∧ CC M b2 c5 ∧ CW c5 ∧ z6 < 2147483648) ∧ (¬ (jand l1 (jxor (seenS c5 z6 : Int) (-1 : Int))) = (0 : Int) → Wp (d + 2) 121 26 [vR 32, vI l1, vI l2, vI (w32 (l3 + 1)), vI (1 : Int)] [] M K Q) ∧ ((jand l1 (jxor (seenS c5 z6 : Int) (-1 : Int))) = (0 : Int) → Wp (d + 2) 121 26 [vR 32, vI l1, vI l3, vI (w32 (l3 + 1)), vI (1 : Int)] [] M K Q))) : Wp (d + 2) 121 47 [vR 32, vI l1, vI l2, vI l3, l4] [vI t1, vI t0] M K Q := by
  refine r_icmpP (P := t1 ≤ t0) c121_47 rfl (fun hc1 => ?_) (fun hc1 => ?_)
  · replace h := h.1 hc1
    refine r_iconst c121_54 ?_
    refine r_istore c121_55 (Nat.le_of_ble_eq_true rfl) ?_
    refine r_iload c121_57 rfl ?_
    refine r_ifP (P := (0 : Int) = (0 : Int)) c121_59 rfl (fun hc => ?_) (fun hc => absurd (by decide) hc)
    refine r_iinc c121_79 rfl ?_
    refine r_goto c121_82 ?_
    exact h
  · replace h := h.2 hc1
    refine r_iconst c121_50 ?_
    refine r_goto c121_51 ?_
    refine r_istore c121_55 (Nat.le_of_ble_eq_true rfl) ?_
    refine r_iload c121_57 rfl ?_
    refine r_ifP (P := (1 : Int) = (0 : Int)) c121_59 rfl (fun hc => absurd hc (by decide)) (fun hc => ?_)
    refine r_iload_n c121_62 rfl ?_
    refine r_aload_n c121_63 rfl ?_
    obtain ⟨b2, h⟩ := h
    obtain ⟨e3, h⟩ := h
    obtain ⟨k4, h⟩ := h
    refine r_getR c121_64 (oK hK o32) e3 (by have := (isO_d k4).1; omega) ?_
    refine r_iload_n c121_67 rfl ?_
    obtain ⟨c5, h⟩ := h
    obtain ⟨z6, h⟩ := h
    obtain ⟨p7, h⟩ := h
    refine r_call c121_68 rfl rfl (Nat.le_of_ble_eq_true rfl) (okc_r rfl rfl (oK hK k4)) (g12 hK hX k4 p7 (Bk_v ?_))
    refine r_iconst c121_71 ?_
    refine r_ixor c121_72 ?_
    refine r_iand c121_73 ?_
    refine r_ifP (P := ¬ (jand l1 (jxor (seenS c5 z6 : Int) (-1 : Int))) = (0 : Int)) c121_74 rfl (fun hc8 => ?_) (fun hc8 => ?_)
    · replace h := h.1 hc8
      refine r_iinc c121_79 rfl ?_
      refine r_goto c121_82 ?_
      exact h
    · have hc9 := Classical.not_not.mp hc8
      replace h := h.2 hc9
      refine r_iload_n c121_77 rfl ?_
      refine r_istore_n c121_78 (Nat.le_of_ble_eq_true rfl) ?_
      refine r_iinc c121_79 rfl ?_
      refine r_goto c121_82 ?_
      exact h
theorem u122_0 {d : Nat} {l1 : Int} {M : Mem} {K : KK} {Q : RR → Mem → KK → Prop} (hK : K.1 = 923) (hX : FX M)  (h : ∃ b1 : Nat, (M 32 11) = (b1 : Int) ∧ isO 923 b1 0 = true ∧ (0 ≤ (M b1 5) ∧ (M b1 5) ≤ 12) ∧ ((0 ≤ l1 ∧ l1 < ((2 ^ ((M b1 5)).toNat : Nat) : Int)) → ∃ c5 : Mem, ∃ z6 : Nat, (l1 = (z6 : Int) ∧ CC M b1 c5 ∧ CW c5 ∧ z6 < 2147483648) ∧ Q (.inl (some (vI (seenS c5 z6 : Int)))) M K) ∧ (¬ (0 ≤ l1 ∧ l1 < ((2 ^ ((M b1 5)).toNat : Nat) : Int)) → Q (.inr 0) (mset M 32 19 (w32 ((M 32 19) + 1))) (K.1, K.2.1 + 1, K.2.2 + 6))) : Wp (d + 2) 122 0 [vR 32, vI l1] [] M K Q := by
  refine r_aload_n c122_0 rfl ?_
  refine r_iload_n c122_1 rfl ?_
  refine r_aload_n c122_2 rfl ?_
  obtain ⟨b1, h⟩ := h
  obtain ⟨e2, h⟩ := h
  obtain ⟨k3, h⟩ := h
  refine r_getR c122_3 (oK hK o32) e2 (by have := (isO_d k3).1; omega) ?_
  refine r_getIe c122_6 (oK hK k3) rfl ?_
  obtain ⟨p4, h⟩ := h
  refine r_call c122_9 rfl rfl (Nat.le_of_ble_eq_true rfl) (okc_s rfl rfl rfl) (g143 hK hX p4 (Bk_v ?_))
  refine r_call c122_12 rfl rfl (Nat.le_of_ble_eq_true rfl) (okc_r rfl rfl (oK hK o32)) (n136b hK hX (fun hc => Bk_n ?_) (fun hc => Bk_e rfl rfl rfl ?_))
  · replace h := h.1 hc
    refine r_aload_n c122_15 rfl ?_
    refine r_getR c122_16 (oK hK o32) e2 (by have := (isO_d k3).1; omega) ?_
    refine r_iload_n c122_19 rfl ?_
    obtain ⟨c5, h⟩ := h
    obtain ⟨z6, h⟩ := h
    obtain ⟨p7, h⟩ := h
    refine r_call c122_20 rfl rfl (Nat.le_of_ble_eq_true rfl) (okc_r rfl rfl (oK hK k3)) (g12 hK hX k3 p7 (Bk_v ?_))
    exact r_iret c122_23 (Or.inl rfl) h
  · replace h := h.2 hc
    exact h
theorem u232_0 {d : Nat} {l0 : Int} {l1 : Int} {M : Mem} {K : KK} {Q : RR → Mem → KK → Prop} (hK : K.1 = 923) (hX : FX M)  (h : (l0 ≤ l1 → Q (.inl (some (vI (w32 (l1 - l0))))) M K) ∧ (¬ (l0 ≤ l1) → Q (.inl (some (vI (w32 (l0 - l1))))) M K)) : Wp d 232 0 [vI l0, vI l1] [] M K Q := by
  refine r_iload_n c232_0 rfl ?_
  refine r_iload_n c232_1 rfl ?_
  refine r_icmpP (P := l0 ≤ l1) c232_2 rfl (fun hc1 => ?_) (fun hc1 => ?_)
  · replace h := h.1 hc1
    refine r_iload_n c232_11 rfl ?_
    refine r_iload_n c232_12 rfl ?_
    refine r_isub c232_13 ?_
    exact r_iret c232_14 (Or.inl rfl) h
  · replace h := h.2 hc1
    refine r_iload_n c232_5 rfl ?_
    refine r_iload_n c232_6 rfl ?_
    refine r_isub c232_7 ?_
    refine r_goto c232_8 ?_
    exact r_iret c232_14 (Or.inl rfl) h
theorem u233_0 {d : Nat} {l0 : Int} {M : Mem} {K : KK} {Q : RR → Mem → KK → Prop} (hK : K.1 = 923) (hX : FX M)  (h : Wp d 233 4 [vI l0, vI (0 : Int), vI (0 : Int)] [] M K Q) : Wp d 233 0 [vI l0, vU, vU] [] M K Q := by
  refine r_iconst c233_0 ?_
  refine r_istore_n c233_1 (Nat.le_of_ble_eq_true rfl) ?_
  refine r_iconst c233_2 ?_
  refine r_istore_n c233_3 (Nat.le_of_ble_eq_true rfl) ?_
  exact h
theorem u233_4 {d : Nat} {l0 : Int} {l1 : Int} {l2 : Int} {M : Mem} {K : KK} {Q : RR → Mem → KK → Prop} (hK : K.1 = 923) (hX : FX M)  (h : ((12 : Int) ≤ l2 → Q (.inl (some (vI l1))) M K) ∧ (¬ ((12 : Int) ≤ l2) → Wp d 233 4 [vI l0, vI (w32 (l1 + (jand (jshr l0 l2) (1 : Int)))), vI (w32 (l2 + 1))] [] M K Q)) : Wp d 233 4 [vI l0, vI l1, vI l2] [] M K Q := by
  refine r_iload_n c233_4 rfl ?_
  refine r_bipush c233_5 ?_
  refine r_icmpP (P := (12 : Int) ≤ l2) c233_7 rfl (fun hc1 => ?_) (fun hc1 => ?_)
  · replace h := h.1 hc1
    refine r_iload_n c233_24 rfl ?_
    exact r_iret c233_25 (Or.inl rfl) h
  · replace h := h.2 hc1
    refine r_iload_n c233_10 rfl ?_
    refine r_iload_n c233_11 rfl ?_
    refine r_iload_n c233_12 rfl ?_
    refine r_ishr c233_13 ?_
    refine r_iconst c233_14 ?_
    refine r_iand c233_15 ?_
    refine r_iadd c233_16 ?_
    refine r_istore_n c233_17 (Nat.le_of_ble_eq_true rfl) ?_
    refine r_iinc c233_18 rfl ?_
    refine r_goto c233_21 ?_
    exact h
theorem u234_0 {d : Nat} {l1 : Int} {M : Mem} {K : KK} {Q : RR → Mem → KK → Prop} (hK : K.1 = 923) (hX : FX M)  (h : Wp (d + 1) 234 4 [vR 440, vI l1, vI (0 : Int), vI (0 : Int), vU] [] M K Q) : Wp (d + 1) 234 0 [vR 440, vI l1, vU, vU, vU] [] M K Q := by
  refine r_iconst c234_0 ?_
  refine r_istore_n c234_1 (Nat.le_of_ble_eq_true rfl) ?_
  refine r_iconst c234_2 ?_
  refine r_istore_n c234_3 (Nat.le_of_ble_eq_true rfl) ?_
  exact h
theorem u234_4 {d : Nat} {l1 : Int} {l2 : Int} {l3 : Int} {l4 : PV} {M : Mem} {K : KK} {Q : RR → Mem → KK → Prop} (hK : K.1 = 923) (hX : FX M)  (h : ((M 444 0) ≤ l3 → Q (.inl (some (vI l2))) M K) ∧ (¬ ((M 444 0) ≤ l3) → Wp (d + 1) 234 17 [vR 440, vI l1, vI l2, vI l3, vI (0 : Int)] [] M K Q)) : Wp (d + 1) 234 4 [vR 440, vI l1, vI l2, vI l3, l4] [] M K Q := by
  refine r_iload_n c234_4 rfl ?_
  refine r_aload_n c234_5 rfl ?_
  refine r_getR c234_6 (oK hK o440) (FX.get (b := 444) hX (by decide) (by decide +kernel) (by decide)) (by decide) ?_
  refine r_iconst c234_9 ?_
  refine r_iae c234_10 (oK hK o444) (bd l444 (by decide)) rfl ?_
  refine r_icmpP (P := (M 444 0) ≤ l3) c234_11 rfl (fun hc1 => ?_) (fun hc1 => ?_)
  · replace h := h.1 hc1
    refine r_iload_n c234_74 rfl ?_
    exact r_iret c234_75 (Or.inl rfl) h
  · replace h := h.2 hc1
    refine r_iconst c234_14 ?_
    refine r_istore c234_15 (Nat.le_of_ble_eq_true rfl) ?_
    exact h
theorem u234_17 {d : Nat} {l1 : Int} {l2 : Int} {l3 : Int} {l4 : Int} {M : Mem} {K : KK} {Q : RR → Mem → KK → Prop} (hK : K.1 = 923) (hX : FX M)  (h : ((M 444 0) ≤ l4 → Wp (d + 1) 234 4 [vR 440, vI l1, vI l2, vI (w32 (l3 + 1)), vI l4] [] M K Q) ∧ (¬ ((M 444 0) ≤ l4) → (¬ (jand (jshr l1 l3) 1 = 1) → Wp (d + 1) 234 17 [vR 440, vI l1, vI (jor l2 (0 : Int)), vI l3, vI (w32 (l4 + 1))] [] M K Q) ∧ ((jand (jshr l1 l3) 1 = 1) → Wm d 232 [vI l3, vI l4] M K (Bk d 234 40 43 232 [vR 440, vI l1, vI l2, vI l3, vI l4] [vI l2] Q)))) : Wp (d + 1) 234 17 [vR 440, vI l1, vI l2, vI l3, vI l4] [] M K Q := by
  refine r_iload c234_17 rfl ?_
  refine r_aload_n c234_19 rfl ?_
  refine r_getR c234_20 (oK hK o440) (FX.get (b := 444) hX (by decide) (by decide +kernel) (by decide)) (by decide) ?_
  refine r_iconst c234_23 ?_
  refine r_iae c234_24 (oK hK o444) (bd l444 (by decide)) rfl ?_
  refine r_icmpP (P := (M 444 0) ≤ l4) c234_25 rfl (fun hc1 => ?_) (fun hc1 => ?_)
  · replace h := h.1 hc1
    refine r_iinc c234_68 rfl ?_
    refine r_goto c234_71 ?_
    exact h
  · replace h := h.2 hc1
    refine r_iload_n c234_28 rfl ?_
    refine r_iload_n c234_29 rfl ?_
    refine r_iload_n c234_30 rfl ?_
    refine r_call c234_31 rfl rfl (Nat.le_of_ble_eq_true rfl) (okc_s rfl rfl rfl) (g156 hK hX  (Bk_v ?_))
    refine r_ifP (P := ¬ (jand (jshr l1 l3) 1 = 1)) c234_34 bI_eq (fun hc2 => ?_) (fun hc2 => ?_)
    · replace h := h.1 hc2
      refine r_iconst c234_59 ?_
      refine r_ior c234_60 ?_
      refine r_istore_n c234_61 (Nat.le_of_ble_eq_true rfl) ?_
      refine r_iinc c234_62 rfl ?_
      refine r_goto c234_65 ?_
      exact h
    · have hc3 := Classical.not_not.mp hc2
      replace h := h.2 hc3
      refine r_iload_n c234_37 rfl ?_
      refine r_iload c234_38 rfl ?_
      exact r_call c234_40 rfl rfl (Nat.le_of_ble_eq_true rfl) (okc_s rfl rfl rfl) h
theorem u234_43 {d : Nat} {l1 : Int} {l2 : Int} {l3 : Int} {l4 : Int} {t0 : Int} {t1 : Int} {M : Mem} {K : KK} {Q : RR → Mem → KK → Prop} (hK : K.1 = 923) (hX : FX M)  (h : ((M 444 5) < t1 → Wp (d + 1) 234 17 [vR 440, vI l1, vI (jor t0 (0 : Int)), vI l3, vI (w32 (l4 + 1))] [] M K Q) ∧ (¬ ((M 444 5) < t1) → Wp (d + 1) 234 17 [vR 440, vI l1, vI (jor t0 (jshl (1 : Int) l4)), vI l3, vI (w32 (l4 + 1))] [] M K Q)) : Wp (d + 1) 234 43 [vR 440, vI l1, vI l2, vI l3, vI l4] [vI t1, vI t0] M K Q := by
  refine r_aload_n c234_43 rfl ?_
  refine r_getR c234_44 (oK hK o440) (FX.get (b := 444) hX (by decide) (by decide +kernel) (by decide)) (by decide) ?_
  refine r_iconst c234_47 ?_
  refine r_iae c234_48 (oK hK o444) (bd l444 (by decide)) rfl ?_
  refine r_icmpP (P := (M 444 5) < t1) c234_49 rfl (fun hc1 => ?_) (fun hc1 => ?_)
  · replace h := h.1 hc1
    refine r_iconst c234_59 ?_
    refine r_ior c234_60 ?_
    refine r_istore_n c234_61 (Nat.le_of_ble_eq_true rfl) ?_
    refine r_iinc c234_62 rfl ?_
    refine r_goto c234_65 ?_
    exact h
  · replace h := h.2 hc1
    refine r_iconst c234_52 ?_
    refine r_iload c234_53 rfl ?_
    refine r_ishl c234_55 ?_
    refine r_goto c234_56 ?_
    refine r_ior c234_60 ?_
    refine r_istore_n c234_61 (Nat.le_of_ble_eq_true rfl) ?_
    refine r_iinc c234_62 rfl ?_
    refine r_goto c234_65 ?_
    exact h
theorem u235_0 {d : Nat}  {M : Mem} {K : KK} {Q : RR → Mem → KK → Prop} (hK : K.1 = 923) (hX : FX M)  (h : Wp (d + 2) 235 4 [vR 440, vI (0 : Int), vI (0 : Int)] [] M K Q) : Wp (d + 2) 235 0 [vR 440, vU, vU] [] M K Q := by
  refine r_iconst c235_0 ?_
  refine r_istore_n c235_1 (Nat.le_of_ble_eq_true rfl) ?_
  refine r_iconst c235_2 ?_
  refine r_istore_n c235_3 (Nat.le_of_ble_eq_true rfl) ?_
  exact h
theorem u235_4 {d : Nat} {l1 : Int} {l2 : Int} {M : Mem} {K : KK} {Q : RR → Mem → KK → Prop} (hK : K.1 = 923) (hX : FX M)  (h : ((M 444 0) ≤ l2 → Q (.inl (some (vI l1))) M K) ∧ (¬ ((M 444 0) ≤ l2) → ∃ c2 : Mem, ∃ s3 : Mem, ∃ dr4 : Int, SM M 888 c2 s3 dr4 ∧ (¬ (lyOn c2 s3 l2) = (-1 : Int) → Wp (d + 2) 235 4 [vR 440, vI (jor l1 (jshl (1 : Int) l2)), vI (w32 (l2 + 1))] [] M K Q) ∧ ((lyOn c2 s3 l2) = (-1 : Int) → Wp (d + 2) 235 4 [vR 440, vI (jor l1 (0 : Int)), vI (w32 (l2 + 1))] [] M K Q))) : Wp (d + 2) 235 4 [vR 440, vI l1, vI l2] [] M K Q := by
  refine r_iload_n c235_4 rfl ?_
  refine r_aload_n c235_5 rfl ?_
  refine r_getR c235_6 (oK hK o440) (FX.get (b := 444) hX (by decide) (by decide +kernel) (by decide)) (by decide) ?_
  refine r_iconst c235_9 ?_
  refine r_iae c235_10 (oK hK o444) (bd l444 (by decide)) rfl ?_
  refine r_icmpP (P := (M 444 0) ≤ l2) c235_11 rfl (fun hc1 => ?_) (fun hc1 => ?_)
  · replace h := h.1 hc1
    refine r_iload_n c235_43 rfl ?_
    exact r_iret c235_44 (Or.inl rfl) h
  · replace h := h.2 hc1
    refine r_iload_n c235_14 rfl ?_
    refine r_aload_n c235_15 rfl ?_
    refine r_aload_n c235_16 rfl ?_
    refine r_getR c235_17 (oK hK o440) (FX.get (b := 888) hX (by decide) (by decide +kernel) (by decide)) (by decide) ?_
    refine r_iload_n c235_20 rfl ?_
    obtain ⟨c2, h⟩ := h
    obtain ⟨s3, h⟩ := h
    obtain ⟨dr4, h⟩ := h
    obtain ⟨p5, h⟩ := h
    refine r_call c235_21 rfl rfl (Nat.le_of_ble_eq_true rfl) (okc_r rfl rfl (oK hK o440)) (g196 hK hX o888 l888 p5 (Bk_v ?_))
    refine r_iconst c235_24 ?_
    refine r_icmpP (P := ¬ (lyOn c2 s3 l2) = (-1 : Int)) c235_25 rfl (fun hc6 => ?_) (fun hc6 => ?_)
    · replace h := h.1 hc6
      refine r_iconst c235_32 ?_
      refine r_iload_n c235_33 rfl ?_
      refine r_ishl c235_34 ?_
      refine r_ior c235_35 ?_
      refine r_istore_n c235_36 (Nat.le_of_ble_eq_true rfl) ?_
      refine r_iinc c235_37 rfl ?_
      refine r_goto c235_40 ?_
      exact h
    · have hc7 := Classical.not_not.mp hc6
      replace h := h.2 hc7
      refine r_iconst c235_28 ?_
      refine r_goto c235_29 ?_
      refine r_ior c235_35 ?_
      refine r_istore_n c235_36 (Nat.le_of_ble_eq_true rfl) ?_
      refine r_iinc c235_37 rfl ?_
      refine r_goto c235_40 ?_
      exact h
theorem u236_0 {d : Nat}  {M : Mem} {K : KK} {Q : RR → Mem → KK → Prop} (hK : K.1 = 923) (hX : FX M)  (h : Wp (d + 1) 236 18 [vR 440, vI (w32 ((jshl (1 : Int) (M 444 0)) - (1 : Int))), vI (w32 ((jshl (1 : Int) (M 444 0)) - (1 : Int)))] [] (mset M 440 0 (0 : Int)) K Q) : Wp (d + 1) 236 0 [vR 440, vU, vU] [] M K Q := by
  refine r_aload_n c236_0 rfl ?_
  refine r_iconst c236_1 ?_
  refine r_putI c236_2 (oK hK o440) ?_
  have x1 := FX.set (v := (0 : Int)) (a := 440) (k := 0) hX (by decide +kernel)
  refine r_iconst c236_5 ?_
  refine r_aload_n c236_6 rfl ?_
  refine r_getR c236_7 (oK hK o440) (FX.get (b := 444) x1 (by decide) (by decide +kernel) (by decide)) (by decide) ?_
  refine r_iconst c236_10 ?_
  refine r_iae c236_11 (oK hK o444) (bd l444 (by decide)) (ms_na (by decide)) ?_
  refine r_ishl c236_12 ?_
  refine r_iconst c236_13 ?_
  refine r_isub c236_14 ?_
  refine r_istore_n c236_15 (Nat.le_of_ble_eq_true rfl) ?_
  refine r_iload_n c236_16 rfl ?_
  refine r_istore_n c236_17 (Nat.le_of_ble_eq_true rfl) ?_
  exact h
theorem u236_18 {d : Nat} {l1 : Int} {l2 : Int} {M : Mem} {K : KK} {Q : RR → Mem → KK → Prop} (hK : K.1 = 923) (hX : FX M)  (h : (l2 < (0 : Int) → Q (.inl (some (vI l1))) M K) ∧ (¬ (l2 < (0 : Int)) → Wm d 233 [vI l2] M K (Bk d 236 23 26 233 [vR 440, vI l1, vI l2] [] Q))) : Wp (d + 1) 236 18 [vR 440, vI l1, vI l2] [] M K Q := by
  refine r_iload_n c236_18 rfl ?_
  refine r_ifP (P := l2 < (0 : Int)) c236_19 rfl (fun hc1 => ?_) (fun hc1 => ?_)
  · replace h := h.1 hc1
    refine r_iload_n c236_60 rfl ?_
    exact r_iret c236_61 (Or.inl rfl) h
  · replace h := h.2 hc1
    refine r_iload_n c236_22 rfl ?_
    exact r_call c236_23 rfl rfl (Nat.le_of_ble_eq_true rfl) (okc_s rfl rfl rfl) h
theorem u236_26 {d : Nat} {l1 : Int} {l2 : Int} {t0 : Int} {M : Mem} {K : KK} {Q : RR → Mem → KK → Prop} (hK : K.1 = 923) (hX : FX M)  (h : Wm d 233 [vI l1] M K (Bk d 236 27 30 233 [vR 440, vI l1, vI l2] [vI t0] Q)) : Wp (d + 1) 236 26 [vR 440, vI l1, vI l2] [vI t0] M K Q := by
  refine r_iload_n c236_26 rfl ?_
  exact r_call c236_27 rfl rfl (Nat.le_of_ble_eq_true rfl) (okc_s rfl rfl rfl) h
theorem u236_30 {d : Nat} {l1 : Int} {l2 : Int} {t0 : Int} {t1 : Int} {M : Mem} {K : KK} {Q : RR → Mem → KK → Prop} (hK : K.1 = 923) (hX : FX M)  (h : (t1 < t0 → Wp (d + 1) 236 18 [vR 440, vI l1, vI (w32 (l2 + (-1)))] [] M K Q) ∧ (¬ (t1 < t0) → Wm d 235 [vR 440] M K (Bk d 236 34 37 235 [vR 440, vI l1, vI l2] [] Q))) : Wp (d + 1) 236 30 [vR 440, vI l1, vI l2] [vI t1, vI t0] M K Q := by
  refine r_icmpP (P := t1 < t0) c236_30 rfl (fun hc1 => ?_) (fun hc1 => ?_)
  · replace h := h.1 hc1
    refine r_iload_n c236_52 rfl ?_
    refine r_istore_n c236_53 (Nat.le_of_ble_eq_true rfl) ?_
    refine r_iinc c236_54 rfl ?_
    refine r_goto c236_57 ?_
    exact h
  · replace h := h.2 hc1
    refine r_aload_n c236_33 rfl ?_
    exact r_call c236_34 rfl rfl (Nat.le_of_ble_eq_true rfl) (okc_r rfl rfl (oK hK o440)) h
theorem u236_37 {d : Nat} {l1 : Int} {l2 : Int} {t0 : Int} {M : Mem} {K : KK} {Q : RR → Mem → KK → Prop} (hK : K.1 = 923) (hX : FX M)  (h : Wm d 234 [vR 440, vI l2] M K (Bk d 236 39 42 234 [vR 440, vI l1, vI l2] [vI t0] Q)) : Wp (d + 1) 236 37 [vR 440, vI l1, vI l2] [vI t0] M K Q := by
  refine r_aload_n c236_37 rfl ?_
  refine r_iload_n c236_38 rfl ?_
  exact r_call c236_39 rfl rfl (Nat.le_of_ble_eq_true rfl) (okc_r rfl rfl (oK hK o440)) h
theorem u236_42 {d : Nat} {l1 : Int} {l2 : Int} {t0 : Int} {t1 : Int} {M : Mem} {K : KK} {Q : RR → Mem → KK → Prop} (hK : K.1 = 923) (hX : FX M)  (h : (¬ (jand t0 (jxor t1 (-1 : Int))) = (0 : Int) → Wp (d + 1) 236 18 [vR 440, vI l1, vI (w32 (l2 + (-1)))] [] M K Q) ∧ ((jand t0 (jxor t1 (-1 : Int))) = (0 : Int) → Wp (d + 1) 236 18 [vR 440, vI l2, vI (w32 (l2 + (-1)))] [] M K Q)) : Wp (d + 1) 236 42 [vR 440, vI l1, vI l2] [vI t1, vI t0] M K Q := by
  refine r_iconst c236_42 ?_
  refine r_ixor c236_43 ?_
  refine r_iand c236_44 ?_
  refine r_ifP (P := ¬ (jand t0 (jxor t1 (-1 : Int))) = (0 : Int)) c236_45 rfl (fun hc1 => ?_) (fun hc1 => ?_)
  · replace h := h.1 hc1
    refine r_iload_n c236_52 rfl ?_
    refine r_istore_n c236_53 (Nat.le_of_ble_eq_true rfl) ?_
    refine r_iinc c236_54 rfl ?_
    refine r_goto c236_57 ?_
    exact h
  · have hc2 := Classical.not_not.mp hc1
    replace h := h.2 hc2
    refine r_iload_n c236_48 rfl ?_
    refine r_goto c236_49 ?_
    refine r_istore_n c236_53 (Nat.le_of_ble_eq_true rfl) ?_
    refine r_iinc c236_54 rfl ?_
    refine r_goto c236_57 ?_
    exact h
theorem u237_0 {d : Nat} {l1 : Int} {M : Mem} {K : KK} {Q : RR → Mem → KK → Prop} (hK : K.1 = 923) (hX : FX M)  (h : (((0 : Int) ≤ l1 ∧ l1 ≤ (w32 ((jshl (1 : Int) (M 444 0)) - (1 : Int)))) → Wm d 234 [vR 440, vI l1] (mset M 440 0 (0 : Int)) K (Bk d 237 41 44 234 [vR 440, vI l1] [] Q)) ∧ (¬ ((0 : Int) ≤ l1 ∧ l1 ≤ (w32 ((jshl (1 : Int) (M 444 0)) - (1 : Int)))) → (∀ (M5 : Mem), FX M5 → BadM 1 1 (mset M 440 0 (0 : Int)) M5 → Q (.inl (some (vI (0 : Int)))) M5 K))) : Wp (d + 1) 237 0 [vR 440, vI l1] [] M K Q := by
  refine r_aload_n c237_0 rfl ?_
  refine r_iconst c237_1 ?_
  refine r_putI c237_2 (oK hK o440) ?_
  have x1 := FX.set (v := (0 : Int)) (a := 440) (k := 0) hX (by decide +kernel)
  refine r_aload_n c237_5 rfl ?_
  refine r_iload_n c237_6 rfl ?_
  refine r_iconst c237_7 ?_
  refine r_iconst c237_8 ?_
  refine r_aload_n c237_9 rfl ?_
  refine r_getR c237_10 (oK hK o440) (FX.get (b := 444) x1 (by decide) (by decide +kernel) (by decide)) (by decide) ?_
  refine r_iconst c237_13 ?_
  refine r_iae c237_14 (oK hK o444) (bd l444 (by decide)) (ms_na (by decide)) ?_
  refine r_ishl c237_15 ?_
  refine r_iconst c237_16 ?_
  refine r_isub c237_17 ?_
  refine r_call c237_18 rfl rfl (Nat.le_of_ble_eq_true rfl) (okc_s rfl rfl rfl) (g153 hK x1  (Bk_v ?_))
  refine r_ifP (P := ((0 : Int) ≤ l1 ∧ l1 ≤ (w32 ((jshl (1 : Int) (M 444 0)) - (1 : Int))))) c237_21 bI_ne (fun hc2 => ?_) (fun hc2 => ?_)
  · replace h := h.1 hc2
    refine r_iconst c237_28 ?_
    refine r_iconst c237_29 ?_
    refine r_iconst c237_30 ?_
    refine r_call c237_31 rfl rfl (Nat.le_of_ble_eq_true rfl) (okc_r rfl rfl (oK hK o440)) (b152_0 hK x1 ms_eq (Bk_v ?_))
    refine r_ifP (P := (0 : Int) = (0 : Int)) c237_34 rfl (fun hc => ?_) (fun hc => absurd (by decide) hc)
    refine r_aload_n c237_39 rfl ?_
    refine r_iload_n c237_40 rfl ?_
    exact r_call c237_41 rfl rfl (Nat.le_of_ble_eq_true rfl) (okc_r rfl rfl (oK hK o440)) h
  · replace h := h.2 hc2
    refine r_iconst c237_24 ?_
    refine r_goto c237_25 ?_
    refine r_iconst c237_29 ?_
    refine r_iconst c237_30 ?_
    refine r_call c237_31 rfl rfl (Nat.le_of_ble_eq_true rfl) (okc_r rfl rfl (oK hK o440)) (b152_1 (cd := 1) (ix := 1) hK x1 ms_eq (by decide) (by decide) (fun M5 x3 p4 => Bk_v ?_))
    replace h := h M5 x3 p4
    refine r_ifP (P := (1 : Int) = (0 : Int)) c237_34 rfl (fun hc => absurd hc (by decide)) (fun hc => ?_)
    refine r_iconst c237_37 ?_
    exact r_iret c237_38 (Or.inl rfl) h
theorem u237_44 {d : Nat} {l1 : Int} {t0 : Int} {M : Mem} {K : KK} {Q : RR → Mem → KK → Prop} (hK : K.1 = 923) (hX : FX M)  (h : Q (.inl (some (vI t0))) M K) : Wp (d + 1) 237 44 [vR 440, vI l1] [vI t0] M K Q := by
  exact r_iret c237_44 (Or.inl rfl) h
/-! the questions boxes and seen -/
theorem pcn_0 : ∀ m, pcn m 0 = 0 := by
  intro m
  induction m with
  | zero => rfl
  | succ m ih => simp only [pcn]; rw [show 0 / 2 = 0 from rfl, ih]
theorem pcn_top : ∀ m n k, k < 2 ^ n → n ≤ m → pcn m k ≤ n ∧ (pcn m k = n → k = 2 ^ n - 1) := by
  intro m
  induction m with
  | zero =>
    intro n k hk hn
    have : n = 0 := by omega
    subst this
    exact ⟨Nat.le_refl _, fun _ => by omega⟩
  | succ m ih =>
    intro n k hk hn
    cases n with
    | zero =>
      have : k = 0 := by omega
      subst this
      rw [pcn_0]; exact ⟨Nat.le_refl _, fun _ => rfl⟩
    | succ n =>
      have e : 2 ^ (n + 1) = 2 ^ n * 2 := Nat.pow_succ ..
      have p0 : 0 < 2 ^ n := Nat.pow_pos (by decide)
      obtain ⟨a, b⟩ := ih n (k / 2) (by omega) (by omega)
      simp only [pcn]
      refine ⟨by omega, fun h => ?_⟩
      have := b (by omega)
      omega
theorem pcn_all : ∀ m n, n ≤ m → pcn m (2 ^ n - 1) = n := by
  intro m
  induction m with
  | zero => intro n hn; have : n = 0 := by omega
            subst this; rfl
  | succ m ih =>
    intro n hn
    cases n with
    | zero => exact pcn_0 _
    | succ n =>
      have e : 2 ^ (n + 1) = 2 ^ n * 2 := Nat.pow_succ ..
      have p0 : 0 < 2 ^ n := Nat.pow_pos (by decide)
      simp only [pcn]
      rw [show (2 ^ (n + 1) - 1) / 2 = 2 ^ n - 1 by omega, ih n (by omega)]
      omega
/-- bits counted from the lowest -/
def pcs (n : Nat) : Nat → Nat
  | 0 => 0
  | k + 1 => pcs n k + (if n.testBit k = true then 1 else 0)
theorem pcs_s (n : Nat) : ∀ k, pcs n (k + 1) = n % 2 + pcs (n / 2) k := by
  intro k
  induction k with
  | zero =>
    simp only [pcs]
    rw [Nat.testBit_zero]
    by_cases h : n % 2 = 1
    · rw [if_pos (decide_eq_true h)]; omega
    · rw [if_neg (by simp [h])]; omega
  | succ k ih =>
    show pcs n (k + 1) + (if n.testBit (k + 1) = true then 1 else 0) = n % 2 + (pcs (n / 2) k + (if (n / 2).testBit k = true then 1 else 0))
    rw [ih, Nat.testBit_div_two]; omega
theorem pcn_pcs : ∀ k n, pcn k n = pcs n k := by
  intro k
  induction k with
  | zero => intro n; rfl
  | succ k ih => intro n; rw [pcs_s]; simp only [pcn]; rw [ih]
theorem pcs_le (n : Nat) : ∀ k, pcs n k ≤ k := by
  intro k
  induction k with
  | zero => exact Nat.le_refl _
  | succ k ih => simp only [pcs]; split <;> omega
/-- from these boxes all that lies is seen -/
abbrev cvB (c s : Mem) (S : Nat) : Prop := lainS c s ^^^ (lainS c s &&& seenS c S) = 0
/-- boxes below k tried -/
def bxF (c s : Mem) : Nat → Nat
  | 0 => 2 ^ nCe c - 1
  | k + 1 => if pcn 12 k < pcn 12 (bxF c s k) ∧ cvB c s k then k else bxF c s k
section OP4
variable {d : Nat} {M M' : Mem} {K : KK} {Q : RR → Mem → KK → Prop} {c s : Mem} {L : LC}
theorem cv_all (hw : CW c) : cvB c s (2 ^ nCe c - 1) := by
  unfold cvB
  rw [zero_tb]
  intro i
  rw [tb_andn]
  cases hb : (lainS c s).testBit i with
  | false => rfl
  | true =>
    have hi : i < nCe c := by
      by_cases h : i < nCe c
      · exact h
      · have := bitsF_tb (P := fun cell => decide (lyOn c s (cell : Int) ≠ -1)) (nCe c) i
        unfold lainS at hb
        rw [this, decide_eq_false h, Bool.false_and] at hb; exact absurd hb (by decide)
    have : (seenS c (2 ^ nCe c - 1)).testBit i = true := by
      rw [← swF_eq, swF_tb _ (Nat.le_refl _)]
      exact ⟨hi, i, hi, by rw [Nat.testBit_two_pow_sub_one]; exact decide_eq_true hi, by omega⟩
    rw [this]; rfl
theorem bxF_ok (hw : CW c) : ∀ k, k ≤ 2 ^ nCe c → (bxF c s k < 2 ^ nCe c ∧ cvB c s (bxF c s k)) ∧ ∀ S, S < k → cvB c s S → pcn 12 (bxF c s k) < pcn 12 S ∨ (pcn 12 (bxF c s k) = pcn 12 S ∧ bxF c s k ≤ S) := by
  have hC := hw.n.2.1.2
  have p0 : 0 < 2 ^ nCe c := Nat.pow_pos (by decide)
  intro k
  induction k with
  | zero => intro _; exact ⟨⟨by show 2 ^ nCe c - 1 < _; omega, cv_all hw⟩, fun S hS => absurd hS (by omega)⟩
  | succ k ih =>
    intro hk
    obtain ⟨a, b⟩ := ih (by omega)
    simp only [bxF]
    split
    · rename_i h
      refine ⟨⟨by omega, h.2⟩, fun S hS hc => ?_⟩
      by_cases hSk : S = k
      · subst hSk; exact Or.inr ⟨rfl, Nat.le_refl _⟩
      · have := b S (by omega) hc; omega
    · rename_i h
      refine ⟨a, fun S hS hc => ?_⟩
      by_cases hSk : S = k
      · subst hSk
        have h2 : ¬ pcn 12 S < pcn 12 (bxF c s S) := fun h9 => h ⟨h9, hc⟩
        by_cases h3 : pcn 12 (bxF c s S) = pcn 12 S
        · refine Or.inr ⟨h3, ?_⟩
          -- the first has been all, or comes ahead
          have key : bxF c s S = 2 ^ nCe c - 1 ∨ bxF c s S ≤ S := by
            clear h h2 h3 b a ih hc hS
            have : ∀ j, bxF c s j = 2 ^ nCe c - 1 ∨ bxF c s j < j := by
              intro j
              induction j with
              | zero => exact Or.inl rfl
              | succ j ihj =>
                simp only [bxF]
                split
                · exact Or.inr (by omega)
                · rcases ihj with h | h
                  · exact Or.inl h
                  · exact Or.inr (by omega)
            rcases this S with h | h
            · exact Or.inl h
            · exact Or.inr (by omega)
          rcases key with h9 | h9
          · rw [h9, pcn_all 12 _ hC] at h3
            have := (pcn_top 12 (nCe c) S (by omega) hC).2 h3.symm
            omega
          · exact h9
        · omega
      · exact b S (by omega) hc
theorem c121 (hK : K.1 = 923) (hX : FX M) (h : GC M c L s) (k : QC Q M K True True (vI (bxF c s (2 ^ nCe c) : Int))) : Wm (d + 2) 121 [vR 32] M K Q := by
  obtain ⟨cm, l, a, b, e, f⟩ := h
  have hw := e.2.1
  have hC := hw.n.2.1
  have k := k.ok trivial trivial hX
  have p2 := p12 hC.2
  have p0 : 0 < 2 ^ nCe c := Nat.pow_pos (by decide)
  have e5 := (e.1.g hw).1
  have ll := lain_lt (s := s) hw
  refine u121_0 hK hX ⟨cm, a, b, c, s, e, ?_⟩
  rw [e5, jshl_1 (by omega), w32_id (by omega), show ((2 ^ nCe c : Nat) : Int) - 1 = (bxF c s 0 : Int) by show _ = ((2 ^ nCe c - 1 : Nat) : Int); omega]
  have loop : ∀ f i, i + f = 2 ^ nCe c → ∀ v : PV, Wp (d + 2) 121 26 [vR 32, vI (lainS c s : Int), vI (bxF c s i : Int), vI (i : Int), v] [] M K Q := by
    intro f9
    induction f9 with
    | zero =>
      intro i hi v
      have hin : i = 2 ^ nCe c := by omega
      subst hin
      exact u121_26 hK hX ⟨cm, a, b, fun _ => k, fun h9 => absurd (by rw [e5, jshl_1 (by omega)]; omega) h9⟩
    | succ f9 ih =>
      intro i hi v
      have nx := ih (i + 1) (by omega)
      have hb := (bxF_ok (s := s) hw i (by omega)).1.1
      have sl : seenS c i < 4096 := Nat.lt_of_lt_of_le (bitsF_lt _) p2
      simp only [bxF] at nx
      refine u121_26 hK hX ⟨cm, a, b, fun h9 => absurd h9 (by rw [e5, jshl_1 (by omega)]; omega), fun _ => ?_⟩
      refine g289 hK hX (by omega) (Bk_v (u121_43 hK hX ?_))
      refine g289 hK hX (by omega) (Bk_v (u121_47 hK hX ⟨fun h9 => ?_, fun h9 => ⟨cm, a, b, c, i, ⟨rfl, e.1, hw, by omega⟩, ?_⟩⟩))
      · rw [if_neg (fun h => by omega)] at nx
        rw [w1 (by omega)]; exact nx _
      · rw [w1 (by omega), jandn_n (by omega) (by omega)]
        refine ⟨fun h8 => ?_, fun h8 => ?_⟩
        · rw [if_neg (fun h => h8 (by have := h.2; unfold cvB at this; omega))] at nx; exact nx _
        · rw [if_pos ⟨by omega, by unfold cvB; omega⟩] at nx; exact nx _
  exact loop _ 0 (Nat.zero_add _) vU
theorem c122 {v : Int} (hK : K.1 = 923) (hX : FX M) (h : GC M c L s) (k : QC Q M K True (0 ≤ v ∧ v < ((2 ^ nCe c : Nat) : Int)) (vI (seenS c v.toNat : Int))) : Wm (d + 2) 122 [vR 32, vI v] M K Q := by
  obtain ⟨cm, l, a, b, e, f⟩ := h
  have hw := e.2.1
  have hC := hw.n.2.1
  have p2 := p12 hC.2
  have e5 := (e.1.g hw).1
  refine u122_0 hK hX ⟨cm, a, b, ?_⟩
  rw [e5, Int.toNat_natCast]
  exact ⟨by omega, fun hv => ⟨c, v.toNat, ⟨by omega, e.1, hw, by omega⟩, k.ok trivial hv hX⟩, k.2.1 trivial⟩
theorem g233 {n : Nat} (hK : K.1 = 923) (hX : FX M) (hn : n < 4096) (k : Q (.inl (some (vI (pcn 12 n : Int)))) M K) : Wm d 233 [vI (n : Int)] M K Q := by
  refine u233_0 hK hX ?_
  have loop : ∀ f i, i + f = 12 → Wp d 233 4 [vI (n : Int), vI (pcs n i : Int), vI (i : Int)] [] M K Q := by
    intro f
    induction f with
    | zero =>
      intro i hi
      have hin : i = 12 := by omega
      subst hin
      rw [pcn_pcs] at k
      exact u233_4 hK hX ⟨fun _ => k, fun h9 => absurd (by decide) h9⟩
    | succ f ih =>
      intro i hi
      have nx := ih (i + 1) (by omega)
      have pl := pcs_le n i
      refine u233_4 hK hX ⟨fun h9 => absurd h9 (by omega), fun _ => ?_⟩
      have e9 : w32 ((pcs n i : Int) + jand (jshr (n : Int) (i : Int)) 1) = (pcs n (i + 1) : Int) := by
        rw [bit_n (by omega) (by omega)]
        simp only [pcs]
        split
        · rw [w32_id (by omega)]; omega
        · rw [w32_id (by omega)]; omega
      rw [e9, w1 (by omega)]
      exact nx
  exact loop 12 0 rfl
theorem g232 {x y : Int} (hK : K.1 = 923) (hX : FX M) (hx : 0 ≤ x ∧ x ≤ 20) (hy : 0 ≤ y ∧ y ≤ 20) (k : Q (.inl (some (vI ((x - y).natAbs : Int)))) M K) : Wm d 232 [vI x, vI y] M K Q := by
  refine u232_0 hK hX ⟨fun h => ?_, fun h => ?_⟩
  · rw [w32_id (by omega), show y - x = ((x - y).natAbs : Int) by omega]; exact k
  · rw [w32_id (by omega), show x - y = ((x - y).natAbs : Int) by omega]; exact k
theorem g235 (hK : K.1 = 923) (hX : FX M) (h : GM M c L s) (k : Q (.inl (some (vI (lainS c s : Int)))) M K) : Wm (d + 2) 235 [vR 440] M K Q := by
  have hC := h.1.2.1.n.2.1
  have e443 := h.cen.1
  refine u235_0 hK hX ?_
  have loop : ∀ f i, i + f = nCe c → Wp (d + 2) 235 4 [vR 440, vI (bitsF (fun cell => decide (lyOn c s (cell : Int) ≠ -1)) i : Int), vI (i : Int)] [] M K Q := by
    intro f
    induction f with
    | zero =>
      intro i hi
      have hin : i = nCe c := by omega
      subst hin
      exact u235_4 hK hX ⟨fun _ => k, fun h9 => absurd (by omega) h9⟩
    | succ f ih =>
      intro i hi
      have nx := ih (i + 1) (by omega)
      have hl := bitsF_lt (P := fun cell => decide (lyOn c s (cell : Int) ≠ -1)) i
      have p2 := p12 (n := i) (by omega)
      have p3 := p12 (n := i) (by omega)
      simp only [bitsF] at nx
      refine u235_4 hK hX ⟨fun h9 => absurd h9 (by omega), fun _ => ⟨c, s, -1, h.1, fun h9 => ?_, fun h9 => ?_⟩⟩
      · rw [if_pos (decide_eq_true h9)] at nx
        rw [jshl_1 (by omega), jor_n (by omega) (by omega), w1 (by omega)]; exact nx
      · rw [if_neg (by simp [h9]), Nat.or_zero] at nx
        rw [jor_0 (by omega), w1 (by omega)]; exact nx
  exact loop (nCe c) 0 (Nat.zero_add _)
/-- seen from the boxes below b, and of box b the cells below e -/
abbrev snQ (c : Mem) (S b e : Nat) (B : Nat) : Prop := B < 4096 ∧ ∀ i, B.testBit i = true ↔ i < nCe c ∧ ∃ q, (q < b ∨ (q = b ∧ i < e)) ∧ S.testBit q = true ∧ ((q : Int) - (i : Int)).natAbs ≤ (c 0 5).toNat
theorem g234 {S : Nat} (hK : K.1 = 923) (hX : FX M) (h : GM M c L s) (hS : S < 4096) (k : Q (.inl (some (vI (seenS c S : Int)))) M K) : Wm (d + 1) 234 [vR 440, vI (S : Int)] M K Q := by
  have hw := h.1.2.1
  have hC := hw.n.2.1
  have e443 := h.cen.1
  have e5 := h.1.1.1 5 (by decide)
  have h5 : 0 ≤ c 0 5 ∧ c 0 5 ≤ 4 := hw.2.2.2.2.2.1
  refine u234_0 hK hX ?_
  have loop : ∀ f b, b + f = nCe c → ∀ (v : PV) (B : Nat), snQ c S b 0 B → Wp (d + 1) 234 4 [vR 440, vI (S : Int), vI (B : Int), vI (b : Int), v] [] M K Q := by
    intro f
    induction f with
    | zero =>
      intro b hb v B hB
      have hin : b = nCe c := by omega
      subst hin
      have : B = seenS c S := by
        refine eq_tb (fun i => ?_)
        rw [Bool.eq_iff_iff, hB.2 i, ← swF_eq, swF_tb _ (Nat.le_refl _)]
        constructor
        · rintro ⟨h1, q, h2, h3⟩; exact ⟨h1, q, by omega, h3⟩
        · rintro ⟨h1, q, h2, h3⟩; exact ⟨h1, q, by omega, h3⟩
      subst this
      exact u234_4 hK hX ⟨fun _ => k, fun h9 => absurd (by omega) h9⟩
    | succ f ih =>
      intro b hb v B hB
      refine u234_4 hK hX ⟨fun h9 => absurd h9 (by omega), fun _ => ?_⟩
      have inner : ∀ fe e, e + fe = nCe c → ∀ B : Nat, snQ c S b e B → Wp (d + 1) 234 17 [vR 440, vI (S : Int), vI (B : Int), vI (b : Int), vI (e : Int)] [] M K Q := by
        intro fe
        induction fe with
        | zero =>
          intro e he B hB
          have hen : e = nCe c := by omega
          subst hen
          refine u234_17 hK hX ⟨fun _ => ?_, fun h9 => absurd (by omega) h9⟩
          rw [w1 (by omega)]
          refine ih (b + 1) (by omega) _ B ⟨hB.1, fun i => ?_⟩
          rw [hB.2 i]
          constructor
          · rintro ⟨h1, q, h2, h3⟩; exact ⟨h1, q, by omega, h3⟩
          · rintro ⟨h1, q, h2, h3⟩; exact ⟨h1, q, by omega, h3⟩
        | succ fe ihe =>
          intro e he B hB
          have no : ¬ (S.testBit b = true ∧ ((b : Int) - (e : Int)).natAbs ≤ (c 0 5).toNat) → Wp (d + 1) 234 17 [vR 440, vI (S : Int), vI (jor (B : Int) 0), vI (b : Int), vI (w32 ((e : Int) + 1))] [] M K Q := by
            intro hn
            rw [jor_0 (by have := hB.1; omega), w1 (by omega)]
            refine ihe (e + 1) (by omega) B ⟨hB.1, fun i => ?_⟩
            rw [hB.2 i]
            constructor
            · rintro ⟨h1, q, h2, h3⟩; exact ⟨h1, q, by omega, h3⟩
            · rintro ⟨h1, q, h2, h3⟩
              by_cases hie : q = b ∧ i = e
              · obtain ⟨rfl, rfl⟩ := hie; exact absurd h3 hn
              · exact ⟨h1, q, by omega, h3⟩
          refine u234_17 hK hX ⟨fun h9 => absurd h9 (by omega), fun _ => ?_⟩
          rw [bit_1 (by omega) (by omega)]
          refine ⟨fun h9 => no (fun h => h9 h.1), fun h9 => ?_⟩
          refine g232 hK hX (by omega) (by omega) (Bk_v (u234_43 hK hX ⟨fun h8 => ?_, fun h8 => ?_⟩))
          · exact no (fun h => by have := h.2; omega)
          · have p2 : 2 ^ e < 4096 := by
              have : 2 ^ e < 2 ^ 12 := Nat.pow_lt_pow_right (by decide) (by omega)
              exact this
            rw [jshl_1 (by omega), jor_n (by have := hB.1; omega) (by omega), w1 (by omega)]
            refine ihe (e + 1) (by omega) _ ⟨Nat.or_lt_two_pow (n := 12) hB.1 p2, fun i => ?_⟩
            rw [Nat.testBit_or, Bool.or_eq_true, hB.2 i, tb_pow, decide_eq_true_eq]
            constructor
            · rintro (⟨h1, q, h2, h3⟩ | rfl)
              · exact ⟨h1, q, by omega, h3⟩
              · exact ⟨by omega, b, by omega, h9, by omega⟩
            · rintro ⟨h1, q, h2, h3⟩
              by_cases hie : q = b ∧ i = e
              · exact Or.inr hie.2.symm
              · exact Or.inl ⟨h1, q, by omega, h3⟩
      refine inner (nCe c) 0 (Nat.zero_add _) B ⟨hB.1, fun i => ?_⟩
      rw [hB.2 i]
  refine loop (nCe c) 0 (Nat.zero_add _) vU 0 ⟨by decide, fun i => ?_⟩
  rw [Nat.zero_testBit]
  constructor
  · intro h9; exact absurd h9 (by decide)
  · rintro ⟨h1, q, h2, h3⟩; exact absurd h2 (by omega)
theorem m237 {v : Int} (hK : K.1 = 923) (hX : FX M) (h : GM M c L s) (k : QM Q M K True (0 ≤ v ∧ v < ((2 ^ nCe c : Nat) : Int)) 1 (vI 0) (vI (seenS c v.toNat : Int))) : Wm (d + 2) 237 [vR 440, vI v] M K Q := by
  have hC := h.1.2.1.n.2.1
  have p2 := p12 hC.2
  have p0 : 0 < 2 ^ nCe c := Nat.pow_pos (by decide)
  refine u237_0 hK hX ?_
  rw [h.cen.1, jshl_1 (by omega), w32_id (by omega)]
  refine ⟨fun hv => ?_, fun hv => k.bad trivial (by omega)⟩
  have k := k.ok trivial (by omega) hX
  obtain ⟨n, rfl⟩ : ∃ n : Nat, v = (n : Int) := ⟨v.toNat, by omega⟩
  rw [Int.toNat_natCast] at k
  exact g234 hK hX.t0 (h.q FrQm.t0) (by omega) (Bk_v (u237_44 hK hX.t0 k))
theorem m236 (hK : K.1 = 923) (hX : FX M) (h : GM M c L s) (k : QM Q M K True True 1 (vI 0) (vI (bxF c s (2 ^ nCe c) : Int))) : Wm (d + 3) 236 [vR 440] M K Q := by
  have hw := h.1.2.1
  have hC := hw.n.2.1
  have p2 := p12 hC.2
  have p0 : 0 < 2 ^ nCe c := Nat.pow_pos (by decide)
  have k := k.ok trivial trivial hX
  have ll := lain_lt (s := s) hw
  obtain ⟨⟨w1', w2⟩, w3⟩ := bxF_ok (s := s) hw (2 ^ nCe c) (Nat.le_refl _)
  refine u236_0 hK hX ?_
  rw [h.cen.1, jshl_1 (by omega), w32_id (by omega), show ((2 ^ nCe c : Nat) : Int) - 1 = ((2 ^ nCe c - 1 : Nat) : Int) by omega]
  have h' := h.q FrQm.t0
  have x1 := hX.t0
  generalize mset M 440 0 0 = M1 at *
  -- boxes from i on have been tried, b the best of them
  have loop : ∀ i, i ≤ 2 ^ nCe c → ∀ b : Nat, (b < 2 ^ nCe c ∧ cvB c s b) → (∀ S, i ≤ S → S < 2 ^ nCe c → cvB c s S → pcn 12 b < pcn 12 S ∨ (pcn 12 b = pcn 12 S ∧ b ≤ S)) → (b = 2 ^ nCe c - 1 ∨ i ≤ b) → Wp (d + 3) 236 18 [vR 440, vI (b : Int), vI ((i : Int) - 1)] [] M1 K Q := by
    intro i
    induction i with
    | zero =>
      intro _ b hb hmin _
      have : b = bxF c s (2 ^ nCe c) := by
        have h1 := hmin _ (Nat.zero_le _) w1' w2
        have h2 := w3 b hb.1 hb.2
        omega
      subst this
      exact u236_18 hK x1 ⟨fun _ => k, fun h9 => absurd (by omega) h9⟩
    | succ i ih =>
      intro hi b hb hmin hbi
      rw [show ((i + 1 : Nat) : Int) - 1 = (i : Int) by omega]
      have sl : seenS c i < 4096 := Nat.lt_of_lt_of_le (bitsF_lt _) p2
      have ei : w32 ((i : Int) + -1) = (i : Int) - 1 := by rw [w32_id (by omega)]; omega
      have keep : (cvB c s i → pcn 12 b < pcn 12 i) → Wp (d + 3) 236 18 [vR 440, vI (b : Int), vI ((i : Int) - 1)] [] M1 K Q := fun h9 => ih (by omega) b hb (fun S h1 h2 h3 => by
        by_cases hSi : S = i
        · subst hSi; exact Or.inl (h9 h3)
        · exact hmin S (by omega) h2 h3) (by omega)
      refine u236_18 hK x1 ⟨fun h9 => absurd h9 (by omega), fun _ => ?_⟩
      refine g233 hK x1 (by omega) (Bk_v (u236_26 hK x1 ?_))
      refine g233 hK x1 (by omega) (Bk_v (u236_30 hK x1 ?_))
      rw [ei]
      clear ei
      refine ⟨fun h9 => keep (fun _ => by omega), fun h9 => ?_⟩
      refine g235 (L := L) hK x1 h' (Bk_v (u236_37 hK x1 ?_))
      refine g234 (L := L) (s := s) hK x1 h' (by omega) (Bk_v (u236_42 hK x1 ?_))
      rw [jandn_n (by omega) (by omega), show w32 ((i : Int) + -1) = (i : Int) - 1 by rw [w32_id (by omega)]; omega]
      refine ⟨fun h8 => keep (fun h7 => absurd h7 (by unfold cvB; omega)), fun h8 => ?_⟩
      refine ih (by omega) i ⟨by omega, by unfold cvB; omega⟩ (fun S h1 h2 h3 => ?_) (Or.inr (Nat.le_refl _))
      by_cases hSi : S = i
      · subst hSi; exact Or.inr ⟨rfl, Nat.le_refl _⟩
      · have := hmin S (by omega) h2 h3; omega
  have := loop (2 ^ nCe c) (Nat.le_refl _) (2 ^ nCe c - 1) ⟨by omega, cv_all hw⟩ (fun S h1 h2 => absurd h1 (by omega)) (Or.inl rfl)
  rw [show ((2 ^ nCe c : Nat) : Int) - 1 = ((2 ^ nCe c - 1 : Nat) : Int) by omega] at this
  exact this
end OP4
