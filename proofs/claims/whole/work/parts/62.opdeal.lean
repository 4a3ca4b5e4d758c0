theorem o915 : isO 923 915 20 = true := by decide +kernel
theorem l915 : ln 915 = 21 := by decide +kernel
theorem u116_0 {d : Nat} {l1 : Int} {M : Mem} {K : KK} {Q : RR → Mem → KK → Prop} (hK : K.1 = 923) (hX : FX M)  (h : (((0 : Int) ≤ l1 ∧ l1 ≤ (20 : Int)) → ∃ b1 : Nat, (M 32 11) = (b1 : Int) ∧ isO 923 b1 0 = true ∧ Wm d 14 [vR 139, vR b1, vR 40, vI l1] M K (Bk d 116 24 27 14 [vR 32, vI l1] [] Q)) ∧ (¬ ((0 : Int) ≤ l1 ∧ l1 ≤ (20 : Int)) → Q (.inr 0) (mset M 32 19 (w32 ((M 32 19) + 1))) (K.1, K.2.1 + 1, K.2.2 + 6))) : Wp (d + 1) 116 0 [vR 32, vI l1] [] M K Q := by
  refine r_aload_n c116_0 rfl ?_
  refine r_iload_n c116_1 rfl ?_
  refine r_iconst c116_2 ?_
  refine r_bipush c116_3 ?_
  refine r_call c116_5 rfl rfl (Nat.le_of_ble_eq_true rfl) (okc_s rfl rfl rfl) (g142 hK hX  (Bk_v ?_))
  refine r_call c116_8 rfl rfl (Nat.le_of_ble_eq_true rfl) (okc_r rfl rfl (oK hK o32)) (n136b hK hX (fun hc => Bk_n ?_) (fun hc => Bk_e rfl rfl rfl ?_))
  · replace h := h.1 hc
    refine r_aload_n c116_11 rfl ?_
    refine r_getR c116_12 (oK hK o32) (FX.get (b := 139) hX (by decide) (by decide +kernel) (by decide)) (by decide) ?_
    refine r_aload_n c116_15 rfl ?_
    obtain ⟨b1, h⟩ := h
    obtain ⟨e2, h⟩ := h
    obtain ⟨k3, h⟩ := h
    refine r_getR c116_16 (oK hK o32) e2 (by have := (isO_d k3).1; omega) ?_
    refine r_aload_n c116_19 rfl ?_
    refine r_getR c116_20 (oK hK o32) (FX.get (b := 40) hX (by decide) (by decide +kernel) (by decide)) (by decide) ?_
    refine r_iload_n c116_23 rfl ?_
    exact r_call c116_24 rfl rfl (Nat.le_of_ble_eq_true rfl) (okc_r rfl rfl (oK hK o139)) h
  · replace h := h.2 hc
    exact h
theorem u116_27 {d : Nat} {l1 : Int} {t0 : Int} {M : Mem} {K : KK} {Q : RR → Mem → KK → Prop} (hK : K.1 = 923) (hX : FX M)  (h : Q (.inl (some (vI t0))) M K) : Wp (d + 1) 116 27 [vR 32, vI l1] [vI t0] M K Q := by
  exact r_iret c116_27 (Or.inl rfl) h
theorem u117_0 {d : Nat} {l1 : Int} {l2 : Int} {M : Mem} {K : KK} {Q : RR → Mem → KK → Prop} (hK : K.1 = 923) (hX : FX M)  (h : ∃ n1 : Nat, StN M n1 ∧ ((0 ≤ l2 ∧ l2 < (n1 : Int)) → (((0 : Int) ≤ l1 ∧ l1 ≤ (20 : Int)) → ∃ b3 : Nat, (M 32 11) = (b3 : Int) ∧ isO 923 b3 0 = true ∧ Wm (d + 1) 14 [vR 139, vR b3, vR 40, vI l1] M K (Bk (d + 1) 117 29 32 14 [vR 32, vI l1, vI l2] [] Q)) ∧ (¬ ((0 : Int) ≤ l1 ∧ l1 ≤ (20 : Int)) → Q (.inr 0) (mset M 32 19 (w32 ((M 32 19) + 1))) (K.1, K.2.1 + 1, K.2.2 + 6))) ∧ (¬ (0 ≤ l2 ∧ l2 < (n1 : Int)) → Q (.inr 1) (mset M 32 18 (w32 ((M 32 18) + 1))) (K.1, K.2.1 + 1, K.2.2 + 6))) : Wp (d + 2) 117 0 [vR 32, vI l1, vI l2] [] M K Q := by
  refine r_aload_n c117_0 rfl ?_
  refine r_iload_n c117_1 rfl ?_
  obtain ⟨n1, h⟩ := h
  obtain ⟨p2, h⟩ := h
  refine r_call c117_2 rfl rfl (Nat.le_of_ble_eq_true rfl) (okc_r rfl rfl (oK hK o32)) (n138 hK hX p2 (fun hc => Bk_n ?_) (fun hc => Bk_e rfl rfl rfl ?_))
  · replace h := h.1 hc
    refine r_aload_n c117_5 rfl ?_
    refine r_iload_n c117_6 rfl ?_
    refine r_iconst c117_7 ?_
    refine r_bipush c117_8 ?_
    refine r_call c117_10 rfl rfl (Nat.le_of_ble_eq_true rfl) (okc_s rfl rfl rfl) (g142 hK hX  (Bk_v ?_))
    refine r_call c117_13 rfl rfl (Nat.le_of_ble_eq_true rfl) (okc_r rfl rfl (oK hK o32)) (n136b hK hX (fun hc => Bk_n ?_) (fun hc => Bk_e rfl rfl rfl ?_))
    · replace h := h.1 hc
      refine r_aload_n c117_16 rfl ?_
      refine r_getR c117_17 (oK hK o32) (FX.get (b := 139) hX (by decide) (by decide +kernel) (by decide)) (by decide) ?_
      refine r_aload_n c117_20 rfl ?_
      obtain ⟨b3, h⟩ := h
      obtain ⟨e4, h⟩ := h
      obtain ⟨k5, h⟩ := h
      refine r_getR c117_21 (oK hK o32) e4 (by have := (isO_d k5).1; omega) ?_
      refine r_aload_n c117_24 rfl ?_
      refine r_getR c117_25 (oK hK o32) (FX.get (b := 40) hX (by decide) (by decide +kernel) (by decide)) (by decide) ?_
      refine r_iload_n c117_28 rfl ?_
      exact r_call c117_29 rfl rfl (Nat.le_of_ble_eq_true rfl) (okc_r rfl rfl (oK hK o139)) h
    · replace h := h.2 hc
      exact h
  · replace h := h.2 hc
    exact h
theorem u117_32 {d : Nat} {l1 : Int} {l2 : Int} {t0 : Int} {M : Mem} {K : KK} {Q : RR → Mem → KK → Prop} (hK : K.1 = 923) (hX : FX M)  (h : (¬ t0 = (-1 : Int) → (0 ≤ l2 ∧ l2 < (6 : Int)) ∧ Q (.inl (some (vI (M 143 (Int.toNat l2))))) M K) ∧ (t0 = (-1 : Int) → Q (.inl (some (vI (-1 : Int)))) M K)) : Wp (d + 2) 117 32 [vR 32, vI l1, vI l2] [vI t0] M K Q := by
  refine r_iconst c117_32 ?_
  refine r_icmpP (P := ¬ t0 = (-1 : Int)) c117_33 rfl (fun hc1 => ?_) (fun hc1 => ?_)
  · replace h := h.1 hc1
    refine r_aload_n c117_40 rfl ?_
    refine r_getR c117_41 (oK hK o32) (FX.get (b := 139) hX (by decide) (by decide +kernel) (by decide)) (by decide) ?_
    refine r_getR c117_44 (oK hK o139) (FX.get (b := 143) hX (by decide) (by decide +kernel) (by decide)) (by decide) ?_
    refine r_iload_n c117_47 rfl ?_
    obtain ⟨s3, h⟩ := h
    refine r_iae c117_48 (oK hK o143) (bd l143 s3) rfl ?_
    exact r_iret c117_49 (Or.inl rfl) h
  · have hc2 := Classical.not_not.mp hc1
    replace h := h.2 hc2
    refine r_iconst c117_36 ?_
    refine r_goto c117_37 ?_
    exact r_iret c117_49 (Or.inl rfl) h
theorem u118_0 {d : Nat} {l1 : Int} {l2 : Int} {l3 : Int} {l4 : Int} {l5 : Int} {M : Mem} {K : KK} {Q : RR → Mem → KK → Prop} (hK : K.1 = 923) (hX : FX M)  (h : ∃ n1 : Nat, StN M n1 ∧ ((0 ≤ l1 ∧ l1 < (n1 : Int)) → (¬ ((0 : Int) ≤ l2 ∧ l2 ≤ (16 : Int)) → Q (.inr 0) (mset M 32 19 (w32 ((M 32 19) + 1))) (K.1, K.2.1 + 1, K.2.2 + 6)) ∧ (((0 : Int) ≤ l2 ∧ l2 ≤ (16 : Int)) → (¬ ((0 : Int) ≤ l3 ∧ l3 ≤ (9 : Int)) → Q (.inr 0) (mset M 32 19 (w32 ((M 32 19) + 1))) (K.1, K.2.1 + 1, K.2.2 + 6)) ∧ (((0 : Int) ≤ l3 ∧ l3 ≤ (9 : Int)) → (¬ ((0 : Int) ≤ l4 ∧ l4 ≤ (8 : Int)) → Q (.inr 0) (mset M 32 19 (w32 ((M 32 19) + 1))) (K.1, K.2.1 + 1, K.2.2 + 6)) ∧ (((0 : Int) ≤ l4 ∧ l4 ≤ (8 : Int)) → (¬ ((0 : Int) ≤ l5 ∧ l5 ≤ (1 : Int)) → Q (.inr 0) (mset M 32 19 (w32 ((M 32 19) + 1))) (K.1, K.2.1 + 1, K.2.2 + 6)) ∧ (((0 : Int) ≤ l5 ∧ l5 ≤ (1 : Int)) → ∃ b11 : Nat, (M 32 11) = (b11 : Int) ∧ isO 923 b11 0 = true ∧ Wm (d + 1) 48 [vR 144, vR b11, vR 40, vI l1, vI l2, vI l3, vI l4] M K (Bk (d + 1) 118 72 75 48 [vR 32, vI l1, vI l2, vI l3, vI l4, vI l5] [] Q)))))) ∧ (¬ (0 ≤ l1 ∧ l1 < (n1 : Int)) → Q (.inr 1) (mset M 32 18 (w32 ((M 32 18) + 1))) (K.1, K.2.1 + 1, K.2.2 + 6))) : Wp (d + 2) 118 0 [vR 32, vI l1, vI l2, vI l3, vI l4, vI l5] [] M K Q := by
  refine r_aload_n c118_0 rfl ?_
  refine r_iload_n c118_1 rfl ?_
  obtain ⟨n1, h⟩ := h
  obtain ⟨p2, h⟩ := h
  refine r_call c118_2 rfl rfl (Nat.le_of_ble_eq_true rfl) (okc_r rfl rfl (oK hK o32)) (n138 hK hX p2 (fun hc => Bk_n ?_) (fun hc => Bk_e rfl rfl rfl ?_))
  · replace h := h.1 hc
    refine r_aload_n c118_5 rfl ?_
    refine r_iload_n c118_6 rfl ?_
    refine r_iconst c118_7 ?_
    refine r_bipush c118_8 ?_
    refine r_call c118_10 rfl rfl (Nat.le_of_ble_eq_true rfl) (okc_s rfl rfl rfl) (g142 hK hX  (Bk_v ?_))
    refine r_ifP (P := ¬ ((0 : Int) ≤ l2 ∧ l2 ≤ (16 : Int))) c118_13 bI_eq (fun hc3 => ?_) (fun hc3 => ?_)
    · replace h := h.1 hc3
      refine r_iconst c118_51 ?_
      refine r_call c118_52 rfl rfl (Nat.le_of_ble_eq_true rfl) (okc_r rfl rfl (oK hK o32)) (n136_0 hK hX (Bk_e rfl rfl rfl ?_))
      exact h
    · have hc4 := Classical.not_not.mp hc3
      replace h := h.2 hc4
      refine r_iload_n c118_16 rfl ?_
      refine r_iconst c118_17 ?_
      refine r_bipush c118_18 ?_
      refine r_call c118_20 rfl rfl (Nat.le_of_ble_eq_true rfl) (okc_s rfl rfl rfl) (g142 hK hX  (Bk_v ?_))
      refine r_ifP (P := ¬ ((0 : Int) ≤ l3 ∧ l3 ≤ (9 : Int))) c118_23 bI_eq (fun hc5 => ?_) (fun hc5 => ?_)
      · replace h := h.1 hc5
        refine r_iconst c118_51 ?_
        refine r_call c118_52 rfl rfl (Nat.le_of_ble_eq_true rfl) (okc_r rfl rfl (oK hK o32)) (n136_0 hK hX (Bk_e rfl rfl rfl ?_))
        exact h
      · have hc6 := Classical.not_not.mp hc5
        replace h := h.2 hc6
        refine r_iload c118_26 rfl ?_
        refine r_iconst c118_28 ?_
        refine r_bipush c118_29 ?_
        refine r_call c118_31 rfl rfl (Nat.le_of_ble_eq_true rfl) (okc_s rfl rfl rfl) (g142 hK hX  (Bk_v ?_))
        refine r_ifP (P := ¬ ((0 : Int) ≤ l4 ∧ l4 ≤ (8 : Int))) c118_34 bI_eq (fun hc7 => ?_) (fun hc7 => ?_)
        · replace h := h.1 hc7
          refine r_iconst c118_51 ?_
          refine r_call c118_52 rfl rfl (Nat.le_of_ble_eq_true rfl) (okc_r rfl rfl (oK hK o32)) (n136_0 hK hX (Bk_e rfl rfl rfl ?_))
          exact h
        · have hc8 := Classical.not_not.mp hc7
          replace h := h.2 hc8
          refine r_iload c118_37 rfl ?_
          refine r_iconst c118_39 ?_
          refine r_iconst c118_40 ?_
          refine r_call c118_41 rfl rfl (Nat.le_of_ble_eq_true rfl) (okc_s rfl rfl rfl) (g142 hK hX  (Bk_v ?_))
          refine r_ifP (P := ¬ ((0 : Int) ≤ l5 ∧ l5 ≤ (1 : Int))) c118_44 bI_eq (fun hc9 => ?_) (fun hc9 => ?_)
          · replace h := h.1 hc9
            refine r_iconst c118_51 ?_
            refine r_call c118_52 rfl rfl (Nat.le_of_ble_eq_true rfl) (okc_r rfl rfl (oK hK o32)) (n136_0 hK hX (Bk_e rfl rfl rfl ?_))
            exact h
          · have hc10 := Classical.not_not.mp hc9
            replace h := h.2 hc10
            refine r_iconst c118_47 ?_
            refine r_goto c118_48 ?_
            refine r_call c118_52 rfl rfl (Nat.le_of_ble_eq_true rfl) (okc_r rfl rfl (oK hK o32)) (n136_1 hK hX (Bk_n ?_))
            refine r_aload_n c118_55 rfl ?_
            refine r_getR c118_56 (oK hK o32) (FX.get (b := 144) hX (by decide) (by decide +kernel) (by decide)) (by decide) ?_
            refine r_aload_n c118_59 rfl ?_
            obtain ⟨b11, h⟩ := h
            obtain ⟨e12, h⟩ := h
            obtain ⟨k13, h⟩ := h
            refine r_getR c118_60 (oK hK o32) e12 (by have := (isO_d k13).1; omega) ?_
            refine r_aload_n c118_63 rfl ?_
            refine r_getR c118_64 (oK hK o32) (FX.get (b := 40) hX (by decide) (by decide +kernel) (by decide)) (by decide) ?_
            refine r_iload_n c118_67 rfl ?_
            refine r_iload_n c118_68 rfl ?_
            refine r_iload_n c118_69 rfl ?_
            refine r_iload c118_70 rfl ?_
            exact r_call c118_72 rfl rfl (Nat.le_of_ble_eq_true rfl) (okc_r rfl rfl (oK hK o144)) h
  · replace h := h.2 hc
    exact h
theorem u118_75 {d : Nat} {l1 : Int} {l2 : Int} {l3 : Int} {l4 : Int} {l5 : Int} {M : Mem} {K : KK} {Q : RR → Mem → KK → Prop} (hK : K.1 = 923) (hX : FX M)  (h : (¬ l5 = (0 : Int) → Q (.inl (some (vL (M 144 3)))) M K) ∧ (l5 = (0 : Int) → Q (.inl (some (vL (M 144 2)))) M K)) : Wp (d + 2) 118 75 [vR 32, vI l1, vI l2, vI l3, vI l4, vI l5] [] M K Q := by
  refine r_iload c118_75 rfl ?_
  refine r_ifP (P := ¬ l5 = (0 : Int)) c118_77 rfl (fun hc1 => ?_) (fun hc1 => ?_)
  · replace h := h.1 hc1
    refine r_aload_n c118_90 rfl ?_
    refine r_getR c118_91 (oK hK o32) (FX.get (b := 144) hX (by decide) (by decide +kernel) (by decide)) (by decide) ?_
    refine r_getLe c118_94 (oK hK o144) rfl ?_
    exact r_lret c118_97 h
  · have hc2 := Classical.not_not.mp hc1
    replace h := h.2 hc2
    refine r_aload_n c118_80 rfl ?_
    refine r_getR c118_81 (oK hK o32) (FX.get (b := 144) hX (by decide) (by decide +kernel) (by decide)) (by decide) ?_
    refine r_getLe c118_84 (oK hK o144) rfl ?_
    refine r_goto c118_87 ?_
    exact r_lret c118_97 h
theorem u224_0 {d : Nat} {l1 : Int} {M : Mem} {K : KK} {Q : RR → Mem → KK → Prop} (hK : K.1 = 923) (hX : FX M)  (h : (((0 : Int) ≤ l1 ∧ l1 ≤ (20 : Int)) → Wm d 223 [vR 440] (mset M 440 0 (0 : Int)) K (Bk d 224 32 35 223 [vR 440, vI l1] [] Q)) ∧ (¬ ((0 : Int) ≤ l1 ∧ l1 ≤ (20 : Int)) → (∀ (M5 : Mem), FX M5 → BadM 1 1 (mset M 440 0 (0 : Int)) M5 → Q (.inl (some (vI (0 : Int)))) M5 K))) : Wp (d + 1) 224 0 [vR 440, vI l1] [] M K Q := by
  refine r_aload_n c224_0 rfl ?_
  refine r_iconst c224_1 ?_
  refine r_putI c224_2 (oK hK o440) ?_
  have x1 := FX.set (v := (0 : Int)) (a := 440) (k := 0) hX (by decide +kernel)
  refine r_aload_n c224_5 rfl ?_
  refine r_iload_n c224_6 rfl ?_
  refine r_iconst c224_7 ?_
  refine r_bipush c224_8 ?_
  refine r_call c224_10 rfl rfl (Nat.le_of_ble_eq_true rfl) (okc_s rfl rfl rfl) (g153 hK x1  (Bk_v ?_))
  refine r_ifP (P := ((0 : Int) ≤ l1 ∧ l1 ≤ (20 : Int))) c224_13 bI_ne (fun hc2 => ?_) (fun hc2 => ?_)
  · replace h := h.1 hc2
    refine r_iconst c224_20 ?_
    refine r_iconst c224_21 ?_
    refine r_iconst c224_22 ?_
    refine r_call c224_23 rfl rfl (Nat.le_of_ble_eq_true rfl) (okc_r rfl rfl (oK hK o440)) (b152_0 hK x1 ms_eq (Bk_v ?_))
    refine r_ifP (P := (0 : Int) = (0 : Int)) c224_26 rfl (fun hc => ?_) (fun hc => absurd (by decide) hc)
    refine r_aload_n c224_31 rfl ?_
    exact r_call c224_32 rfl rfl (Nat.le_of_ble_eq_true rfl) (okc_r rfl rfl (oK hK o440)) h
  · replace h := h.2 hc2
    refine r_iconst c224_16 ?_
    refine r_goto c224_17 ?_
    refine r_iconst c224_21 ?_
    refine r_iconst c224_22 ?_
    refine r_call c224_23 rfl rfl (Nat.le_of_ble_eq_true rfl) (okc_r rfl rfl (oK hK o440)) (b152_1 (cd := 1) (ix := 1) hK x1 ms_eq (by decide) (by decide) (fun M5 x3 p4 => Bk_v ?_))
    replace h := h M5 x3 p4
    refine r_ifP (P := (1 : Int) = (0 : Int)) c224_26 rfl (fun hc => absurd hc (by decide)) (fun hc => ?_)
    refine r_iconst c224_29 ?_
    exact r_iret c224_30 (Or.inl rfl) h
theorem u224_35 {d : Nat} {l1 : Int} {M : Mem} {K : KK} {Q : RR → Mem → KK → Prop} (hK : K.1 = 923) (hX : FX M)  (h : (0 ≤ l1 ∧ l1 < (21 : Int)) ∧ Q (.inl (some (vI (M 915 (Int.toNat l1))))) M K) : Wp (d + 1) 224 35 [vR 440, vI l1] [] M K Q := by
  refine r_aload_n c224_35 rfl ?_
  refine r_getR c224_36 (oK hK o440) (FX.get (b := 914) hX (by decide) (by decide +kernel) (by decide)) (by decide) ?_
  refine r_iconst c224_39 ?_
  refine r_aa c224_40 (mrw o914 hK) (bd l914 (by decide)) (FX.get (b := 915) hX (by decide) (by decide +kernel) (by decide)) (by decide) ?_
  refine r_iload_n c224_41 rfl ?_
  obtain ⟨s1, h⟩ := h
  refine r_iae c224_42 (oK hK o915) (bd l915 s1) rfl ?_
  exact r_iret c224_43 (Or.inl rfl) h
theorem u225_0 {d : Nat} {l1 : Int} {l2 : Int} {M : Mem} {K : KK} {Q : RR → Mem → KK → Prop} (hK : K.1 = 923) (hX : FX M)  (h : ∃ n2 : Nat, StM (mset M 440 0 (0 : Int)) n2 ∧ ((0 ≤ l2 ∧ l2 < (n2 : Int)) → (((0 : Int) ≤ l1 ∧ l1 ≤ (20 : Int)) → Wm (d + 1) 223 [vR 440] (mset M 440 0 (0 : Int)) K (Bk (d + 1) 225 54 57 223 [vR 440, vI l1, vI l2, vU, vU, vU] [] Q)) ∧ (¬ ((0 : Int) ≤ l1 ∧ l1 ≤ (20 : Int)) → (∀ (M8 : Mem), FX M8 → BadM 2 1 (mset M 440 0 (0 : Int)) M8 → Q (.inl (some (vI (0 : Int)))) M8 K))) ∧ (¬ (0 ≤ l2 ∧ l2 < (n2 : Int)) → (∀ (M11 : Mem), FX M11 → BadM 1 0 (mset M 440 0 (0 : Int)) M11 → Q (.inl (some (vI (0 : Int)))) M11 K))) : Wp (d + 2) 225 0 [vR 440, vI l1, vI l2, vU, vU, vU] [] M K Q := by
  refine r_aload_n c225_0 rfl ?_
  refine r_iconst c225_1 ?_
  refine r_putI c225_2 (oK hK o440) ?_
  have x1 := FX.set (v := (0 : Int)) (a := 440) (k := 0) hX (by decide +kernel)
  refine r_aload_n c225_5 rfl ?_
  refine r_aload_n c225_6 rfl ?_
  refine r_iload_n c225_7 rfl ?_
  obtain ⟨n2, h⟩ := h
  obtain ⟨p3, h⟩ := h
  refine r_call c225_8 rfl rfl (Nat.le_of_ble_eq_true rfl) (okc_r rfl rfl (oK hK o440)) (g208 hK x1 p3 (Bk_v ?_))
  refine r_ifP (P := (0 ≤ l2 ∧ l2 < (n2 : Int))) c225_11 bI_ne (fun hc4 => ?_) (fun hc4 => ?_)
  · replace h := h.1 hc4
    refine r_iconst c225_18 ?_
    refine r_iconst c225_19 ?_
    refine r_iconst c225_20 ?_
    refine r_call c225_21 rfl rfl (Nat.le_of_ble_eq_true rfl) (okc_r rfl rfl (oK hK o440)) (b152_0 hK x1 ms_eq (Bk_v ?_))
    refine r_ifP (P := ¬ (0 : Int) = (0 : Int)) c225_24 rfl (fun hc => absurd hc (by decide)) (fun hc => ?_)
    refine r_aload_n c225_27 rfl ?_
    refine r_iload_n c225_28 rfl ?_
    refine r_iconst c225_29 ?_
    refine r_bipush c225_30 ?_
    refine r_call c225_32 rfl rfl (Nat.le_of_ble_eq_true rfl) (okc_s rfl rfl rfl) (g153 hK x1  (Bk_v ?_))
    refine r_ifP (P := ((0 : Int) ≤ l1 ∧ l1 ≤ (20 : Int))) c225_35 bI_ne (fun hc5 => ?_) (fun hc5 => ?_)
    · replace h := h.1 hc5
      refine r_iconst c225_42 ?_
      refine r_iconst c225_43 ?_
      refine r_iconst c225_44 ?_
      refine r_call c225_45 rfl rfl (Nat.le_of_ble_eq_true rfl) (okc_r rfl rfl (oK hK o440)) (b152_0 hK x1 ms_eq (Bk_v ?_))
      refine r_ifP (P := (0 : Int) = (0 : Int)) c225_48 rfl (fun hc => ?_) (fun hc => absurd (by decide) hc)
      refine r_aload_n c225_53 rfl ?_
      exact r_call c225_54 rfl rfl (Nat.le_of_ble_eq_true rfl) (okc_r rfl rfl (oK hK o440)) h
    · replace h := h.2 hc5
      refine r_iconst c225_38 ?_
      refine r_goto c225_39 ?_
      refine r_iconst c225_43 ?_
      refine r_iconst c225_44 ?_
      refine r_call c225_45 rfl rfl (Nat.le_of_ble_eq_true rfl) (okc_r rfl rfl (oK hK o440)) (b152_1 (cd := 2) (ix := 1) hK x1 ms_eq (by decide) (by decide) (fun M8 x6 p7 => Bk_v ?_))
      replace h := h M8 x6 p7
      refine r_ifP (P := (1 : Int) = (0 : Int)) c225_48 rfl (fun hc => absurd hc (by decide)) (fun hc => ?_)
      refine r_iconst c225_51 ?_
      exact r_iret c225_52 (Or.inl rfl) h
  · replace h := h.2 hc4
    refine r_iconst c225_14 ?_
    refine r_goto c225_15 ?_
    refine r_iconst c225_19 ?_
    refine r_iconst c225_20 ?_
    refine r_call c225_21 rfl rfl (Nat.le_of_ble_eq_true rfl) (okc_r rfl rfl (oK hK o440)) (b152_1 (cd := 1) (ix := 0) hK x1 ms_eq (by decide) (by decide) (fun M11 x9 p10 => Bk_v ?_))
    replace h := h M11 x9 p10
    refine r_ifP (P := ¬ (1 : Int) = (0 : Int)) c225_24 rfl (fun hc => ?_) (fun hc => absurd (by decide) hc)
    refine r_iconst c225_51 ?_
    exact r_iret c225_52 (Or.inl rfl) h
theorem u225_57 {d : Nat} {l1 : Int} {l2 : Int} {M : Mem} {K : KK} {Q : RR → Mem → KK → Prop} (hK : K.1 = 923) (hX : FX M)  (h : (0 ≤ l1 ∧ l1 < (21 : Int)) ∧ (¬ (M 915 (Int.toNat l1)) = (-1 : Int) → Wp (d + 2) 225 79 [vR 440, vI l1, vI l2, vI l1, vI (0 : Int), vI (0 : Int)] [] M K Q) ∧ ((M 915 (Int.toNat l1)) = (-1 : Int) → Q (.inl (some (vI (-1 : Int)))) M K)) : Wp (d + 2) 225 57 [vR 440, vI l1, vI l2, vU, vU, vU] [] M K Q := by
  refine r_aload_n c225_57 rfl ?_
  refine r_getR c225_58 (oK hK o440) (FX.get (b := 914) hX (by decide) (by decide +kernel) (by decide)) (by decide) ?_
  refine r_iconst c225_61 ?_
  refine r_aa c225_62 (mrw o914 hK) (bd l914 (by decide)) (FX.get (b := 915) hX (by decide) (by decide +kernel) (by decide)) (by decide) ?_
  refine r_iload_n c225_63 rfl ?_
  obtain ⟨s1, h⟩ := h
  refine r_iae c225_64 (oK hK o915) (bd l915 s1) rfl ?_
  refine r_iconst c225_65 ?_
  refine r_icmpP (P := ¬ (M 915 (Int.toNat l1)) = (-1 : Int)) c225_66 rfl (fun hc2 => ?_) (fun hc2 => ?_)
  · replace h := h.1 hc2
    refine r_iload_n c225_71 rfl ?_
    refine r_istore_n c225_72 (Nat.le_of_ble_eq_true rfl) ?_
    refine r_iconst c225_73 ?_
    refine r_istore c225_74 (Nat.le_of_ble_eq_true rfl) ?_
    refine r_iconst c225_76 ?_
    refine r_istore c225_77 (Nat.le_of_ble_eq_true rfl) ?_
    exact h
  · have hc3 := Classical.not_not.mp hc2
    replace h := h.2 hc3
    refine r_iconst c225_69 ?_
    exact r_iret c225_70 (Or.inl rfl) h
theorem u225_79 {d : Nat} {l1 : Int} {l2 : Int} {l3 : Int} {l4 : Int} {l5 : Int} {M : Mem} {K : KK} {Q : RR → Mem → KK → Prop} (hK : K.1 = 923) (hX : FX M)  (h : (l2 < l5 → Q (.inl (some (vI l4))) M K) ∧ (¬ (l2 < l5) → Wp (d + 2) 225 88 [vR 440, vI l1, vI l2, vI l3, vI (0 : Int), vI l5] [] M K Q)) : Wp (d + 2) 225 79 [vR 440, vI l1, vI l2, vI l3, vI l4, vI l5] [] M K Q := by
  refine r_iload c225_79 rfl ?_
  refine r_iload_n c225_81 rfl ?_
  refine r_icmpP (P := l2 < l5) c225_82 rfl (fun hc1 => ?_) (fun hc1 => ?_)
  · replace h := h.1 hc1
    refine r_iload c225_170 rfl ?_
    exact r_iret c225_172 (Or.inl rfl) h
  · replace h := h.2 hc1
    refine r_iconst c225_85 ?_
    refine r_istore c225_86 (Nat.le_of_ble_eq_true rfl) ?_
    exact h
theorem u225_88 {d : Nat} {l1 : Int} {l2 : Int} {l3 : Int} {l4 : Int} {l5 : Int} {M : Mem} {K : KK} {Q : RR → Mem → KK → Prop} (hK : K.1 = 923) (hX : FX M)  (h : Wm (d + 1) 222 [vR 440, vI l5, vI l4] M K (Bk (d + 1) 225 93 96 222 [vR 440, vI l1, vI l2, vI l3, vI l4, vI l5] [] Q)) : Wp (d + 2) 225 88 [vR 440, vI l1, vI l2, vI l3, vI l4, vI l5] [] M K Q := by
  refine r_aload_n c225_88 rfl ?_
  refine r_iload c225_89 rfl ?_
  refine r_iload c225_91 rfl ?_
  exact r_call c225_93 rfl rfl (Nat.le_of_ble_eq_true rfl) (okc_r rfl rfl (oK hK o440)) h
theorem u225_96 {d : Nat} {l1 : Int} {l2 : Int} {l3 : Int} {l4 : Int} {l5 : Int} {t0 : Int} {M : Mem} {K : KK} {Q : RR → Mem → KK → Prop} (hK : K.1 = 923) (hX : FX M)  (h : (t0 = (-1 : Int) → Wp (d + 2) 225 88 [vR 440, vI l1, vI l2, vI l3, vI (w32 (l4 + 1)), vI l5] [] M K Q) ∧ (¬ (t0 = (-1 : Int)) → (0 ≤ (w32 (l5 + (1 : Int))) ∧ (w32 (l5 + (1 : Int))) < (7 : Int)) ∧ (0 ≤ (w32 (l3 - l4)) ∧ (w32 (l3 - l4)) < (21 : Int)) ∧ ((M (915 + Int.toNat (w32 (l5 + (1 : Int)))) (Int.toNat (w32 (l3 - l4)))) = (-1 : Int) → Wp (d + 2) 225 88 [vR 440, vI l1, vI l2, vI l3, vI (w32 (l4 + 1)), vI l5] [] M K Q) ∧ (¬ ((M (915 + Int.toNat (w32 (l5 + (1 : Int)))) (Int.toNat (w32 (l3 - l4)))) = (-1 : Int)) → Wm (d + 1) 222 [vR 440, vI l5, vI l4] M K (Bk (d + 1) 225 123 126 222 [vR 440, vI l1, vI l2, vI l3, vI l4, vI l5] [] Q)))) : Wp (d + 2) 225 96 [vR 440, vI l1, vI l2, vI l3, vI l4, vI l5] [vI t0] M K Q := by
  refine r_iconst c225_96 ?_
  refine r_icmpP (P := t0 = (-1 : Int)) c225_97 rfl (fun hc1 => ?_) (fun hc1 => ?_)
  · replace h := h.1 hc1
    refine r_iinc c225_153 rfl ?_
    refine r_goto c225_156 ?_
    exact h
  · replace h := h.2 hc1
    refine r_aload_n c225_100 rfl ?_
    refine r_getR c225_101 (oK hK o440) (FX.get (b := 914) hX (by decide) (by decide +kernel) (by decide)) (by decide) ?_
    refine r_iload c225_104 rfl ?_
    refine r_iconst c225_106 ?_
    refine r_iadd c225_107 ?_
    obtain ⟨s2, h⟩ := h
    refine r_aa c225_108 (mrw o914 hK) (bd l914 s2) (rf914 hX s2) (by omega) ?_
    refine r_iload_n c225_109 rfl ?_
    refine r_iload c225_110 rfl ?_
    refine r_isub c225_112 ?_
    obtain ⟨s3, h⟩ := h
    refine r_iae c225_113 (oK hK (ro914 s2)) (bd (rz914 s2) s3) rfl ?_
    refine r_iconst c225_114 ?_
    refine r_icmpP (P := (M (915 + Int.toNat (w32 (l5 + (1 : Int)))) (Int.toNat (w32 (l3 - l4)))) = (-1 : Int)) c225_115 rfl (fun hc4 => ?_) (fun hc4 => ?_)
    · replace h := h.1 hc4
      refine r_iinc c225_153 rfl ?_
      refine r_goto c225_156 ?_
      exact h
    · replace h := h.2 hc4
      refine r_aload_n c225_118 rfl ?_
      refine r_iload c225_119 rfl ?_
      refine r_iload c225_121 rfl ?_
      exact r_call c225_123 rfl rfl (Nat.le_of_ble_eq_true rfl) (okc_r rfl rfl (oK hK o440)) h
theorem u225_126 {d : Nat} {l1 : Int} {l2 : Int} {l3 : Int} {l4 : Int} {l5 : Int} {t0 : Int} {M : Mem} {K : KK} {Q : RR → Mem → KK → Prop} (hK : K.1 = 923) (hX : FX M)  (h : (0 ≤ (w32 (l5 + (1 : Int))) ∧ (w32 (l5 + (1 : Int))) < (7 : Int)) ∧ (0 ≤ (w32 (l3 - l4)) ∧ (w32 (l3 - l4)) < (21 : Int)) ∧ (0 ≤ l5 ∧ l5 < (7 : Int)) ∧ (0 ≤ l3 ∧ l3 < (21 : Int)) ∧ ((w32 (t0 + (M (915 + Int.toNat (w32 (l5 + (1 : Int)))) (Int.toNat (w32 (l3 - l4)))))) = (M (915 + Int.toNat l5) (Int.toNat l3)) → Wp (d + 2) 225 79 [vR 440, vI l1, vI l2, vI (w32 (l3 - l4)), vI l4, vI (w32 (l5 + 1))] [] M K Q) ∧ (¬ ((w32 (t0 + (M (915 + Int.toNat (w32 (l5 + (1 : Int)))) (Int.toNat (w32 (l3 - l4)))))) = (M (915 + Int.toNat l5) (Int.toNat l3))) → Wp (d + 2) 225 88 [vR 440, vI l1, vI l2, vI l3, vI (w32 (l4 + 1)), vI l5] [] M K Q)) : Wp (d + 2) 225 126 [vR 440, vI l1, vI l2, vI l3, vI l4, vI l5] [vI t0] M K Q := by
  refine r_aload_n c225_126 rfl ?_
  refine r_getR c225_127 (oK hK o440) (FX.get (b := 914) hX (by decide) (by decide +kernel) (by decide)) (by decide) ?_
  refine r_iload c225_130 rfl ?_
  refine r_iconst c225_132 ?_
  refine r_iadd c225_133 ?_
  obtain ⟨s1, h⟩ := h
  refine r_aa c225_134 (mrw o914 hK) (bd l914 s1) (rf914 hX s1) (by omega) ?_
  refine r_iload_n c225_135 rfl ?_
  refine r_iload c225_136 rfl ?_
  refine r_isub c225_138 ?_
  obtain ⟨s2, h⟩ := h
  refine r_iae c225_139 (oK hK (ro914 s1)) (bd (rz914 s1) s2) rfl ?_
  refine r_iadd c225_140 ?_
  refine r_aload_n c225_141 rfl ?_
  refine r_getR c225_142 (oK hK o440) (FX.get (b := 914) hX (by decide) (by decide +kernel) (by decide)) (by decide) ?_
  refine r_iload c225_145 rfl ?_
  obtain ⟨s3, h⟩ := h
  refine r_aa c225_147 (mrw o914 hK) (bd l914 s3) (rf914 hX s3) (by omega) ?_
  refine r_iload_n c225_148 rfl ?_
  obtain ⟨s4, h⟩ := h
  refine r_iae c225_149 (oK hK (ro914 s3)) (bd (rz914 s3) s4) rfl ?_
  refine r_icmpP (P := (w32 (t0 + (M (915 + Int.toNat (w32 (l5 + (1 : Int)))) (Int.toNat (w32 (l3 - l4)))))) = (M (915 + Int.toNat l5) (Int.toNat l3))) c225_150 rfl (fun hc5 => ?_) (fun hc5 => ?_)
  · replace h := h.1 hc5
    refine r_iload_n c225_159 rfl ?_
    refine r_iload c225_160 rfl ?_
    refine r_isub c225_162 ?_
    refine r_istore_n c225_163 (Nat.le_of_ble_eq_true rfl) ?_
    refine r_iinc c225_164 rfl ?_
    refine r_goto c225_167 ?_
    exact h
  · replace h := h.2 hc5
    refine r_iinc c225_153 rfl ?_
    refine r_goto c225_156 ?_
    exact h
theorem u227_0 {d : Nat} {l1 : Int} {l2 : Int} {l3 : Int} {l4 : Int} {l5 : Int} {M : Mem} {K : KK} {Q : RR → Mem → KK → Prop} (hK : K.1 = 923) (hX : FX M)  (h : ∃ n2 : Nat, StM (mset M 440 0 (0 : Int)) n2 ∧ ((0 ≤ l1 ∧ l1 < (n2 : Int)) → (¬ ((0 : Int) ≤ l2 ∧ l2 ≤ (16 : Int)) → (∀ (M9 : Mem), FX M9 → BadM 2 1 (mset M 440 0 (0 : Int)) M9 → Q (.inl (some (vL (0 : Int)))) M9 K)) ∧ (((0 : Int) ≤ l2 ∧ l2 ≤ (16 : Int)) → (¬ ((0 : Int) ≤ l3 ∧ l3 ≤ (9 : Int)) → (∀ (M14 : Mem), FX M14 → BadM 2 1 (mset M 440 0 (0 : Int)) M14 → Q (.inl (some (vL (0 : Int)))) M14 K)) ∧ (((0 : Int) ≤ l3 ∧ l3 ≤ (9 : Int)) → (¬ ((0 : Int) ≤ l4 ∧ l4 ≤ (8 : Int)) → (∀ (M19 : Mem), FX M19 → BadM 2 1 (mset M 440 0 (0 : Int)) M19 → Q (.inl (some (vL (0 : Int)))) M19 K)) ∧ (((0 : Int) ≤ l4 ∧ l4 ≤ (8 : Int)) → (((0 : Int) ≤ l5 ∧ l5 ≤ (1 : Int)) → (0 ≤ (w32 ((0 : Int) + l1)) ∧ (w32 ((0 : Int) + l1)) < (27 : Int)) ∧ (¬ (M 888 (Int.toNat (w32 ((0 : Int) + l1)))) = (-1 : Int) → (0 ≤ (w32 ((6 : Int) + l1)) ∧ (w32 ((6 : Int) + l1)) < (27 : Int)) ∧ (0 ≤ (w32 ((12 : Int) + l1)) ∧ (w32 ((12 : Int) + l1)) < (27 : Int)) ∧ (0 ≤ (w32 ((18 : Int) + l1)) ∧ (w32 ((18 : Int) + l1)) < (27 : Int)) ∧ Wm (d + 1) 226 [vR 440, vR 888, vI l1, vI l2, vI l3, vI l4, vI (M 888 (Int.toNat (w32 ((6 : Int) + l1)))), vI (M 888 24), vI (M 888 (Int.toNat (w32 ((12 : Int) + l1)))), vI (M 888 (Int.toNat (w32 ((18 : Int) + l1))))] (mset M 440 0 (0 : Int)) K (Bk (d + 1) 227 169 172 226 [vR 440, vI l1, vI l2, vI l3, vI l4, vI l5, vL (jlshl (1 : Int) (w32 ((4 : Int) * l4))), vU, vU, vU, vU, vU, vU, vU, vU, vU] [] Q)) ∧ ((M 888 (Int.toNat (w32 ((0 : Int) + l1)))) = (-1 : Int) → (0 ≤ (w32 ((6 : Int) + l1)) ∧ (w32 ((6 : Int) + l1)) < (27 : Int)) ∧ (¬ (M 888 (Int.toNat (w32 ((6 : Int) + l1)))) = (0 : Int) → Wp (d + 2) 227 172 [vR 440, vI l1, vI l2, vI l3, vI l4, vI l5, vL (jlshl (1 : Int) (w32 ((4 : Int) * l4))), vU, vU, vU, vU, vU, vU, vU, vU, vU] [vL (0 : Int)] (mset M 440 0 (0 : Int)) K Q) ∧ ((M 888 (Int.toNat (w32 ((6 : Int) + l1)))) = (0 : Int) → Wp (d + 2) 227 172 [vR 440, vI l1, vI l2, vI l3, vI l4, vI l5, vL (jlshl (1 : Int) (w32 ((4 : Int) * l4))), vU, vU, vU, vU, vU, vU, vU, vU, vU] [vL (jlshl (1 : Int) (w32 ((4 : Int) * l4)))] (mset M 440 0 (0 : Int)) K Q))) ∧ (¬ ((0 : Int) ≤ l5 ∧ l5 ≤ (1 : Int)) → (∀ (M32 : Mem), FX M32 → BadM 2 1 (mset M 440 0 (0 : Int)) M32 → Q (.inl (some (vL (0 : Int)))) M32 K)))))) ∧ (¬ (0 ≤ l1 ∧ l1 < (n2 : Int)) → (∀ (M35 : Mem), FX M35 → BadM 1 0 (mset M 440 0 (0 : Int)) M35 → Q (.inl (some (vL (0 : Int)))) M35 K))) : Wp (d + 2) 227 0 [vR 440, vI l1, vI l2, vI l3, vI l4, vI l5, vU, vU, vU, vU, vU, vU, vU, vU, vU, vU] [] M K Q := by
  refine r_aload_n c227_0 rfl ?_
  refine r_iconst c227_1 ?_
  refine r_putI c227_2 (oK hK o440) ?_
  have x1 := FX.set (v := (0 : Int)) (a := 440) (k := 0) hX (by decide +kernel)
  refine r_aload_n c227_5 rfl ?_
  refine r_aload_n c227_6 rfl ?_
  refine r_iload_n c227_7 rfl ?_
  obtain ⟨n2, h⟩ := h
  obtain ⟨p3, h⟩ := h
  refine r_call c227_8 rfl rfl (Nat.le_of_ble_eq_true rfl) (okc_r rfl rfl (oK hK o440)) (g208 hK x1 p3 (Bk_v ?_))
  refine r_ifP (P := (0 ≤ l1 ∧ l1 < (n2 : Int))) c227_11 bI_ne (fun hc4 => ?_) (fun hc4 => ?_)
  · replace h := h.1 hc4
    refine r_iconst c227_18 ?_
    refine r_iconst c227_19 ?_
    refine r_iconst c227_20 ?_
    refine r_call c227_21 rfl rfl (Nat.le_of_ble_eq_true rfl) (okc_r rfl rfl (oK hK o440)) (b152_0 hK x1 ms_eq (Bk_v ?_))
    refine r_ifP (P := ¬ (0 : Int) = (0 : Int)) c227_24 rfl (fun hc => absurd hc (by decide)) (fun hc => ?_)
    refine r_aload_n c227_27 rfl ?_
    refine r_iload_n c227_28 rfl ?_
    refine r_iconst c227_29 ?_
    refine r_bipush c227_30 ?_
    refine r_call c227_32 rfl rfl (Nat.le_of_ble_eq_true rfl) (okc_s rfl rfl rfl) (g153 hK x1  (Bk_v ?_))
    refine r_ifP (P := ¬ ((0 : Int) ≤ l2 ∧ l2 ≤ (16 : Int))) c227_35 bI_eq (fun hc5 => ?_) (fun hc5 => ?_)
    · replace h := h.1 hc5
      refine r_iconst c227_69 ?_
      refine r_goto c227_70 ?_
      refine r_iconst c227_74 ?_
      refine r_iconst c227_75 ?_
      refine r_call c227_76 rfl rfl (Nat.le_of_ble_eq_true rfl) (okc_r rfl rfl (oK hK o440)) (b152_1 (cd := 2) (ix := 1) hK x1 ms_eq (by decide) (by decide) (fun M9 x7 p8 => Bk_v ?_))
      replace h := h M9 x7 p8
      refine r_ifP (P := (1 : Int) = (0 : Int)) c227_79 rfl (fun hc => absurd hc (by decide)) (fun hc => ?_)
      refine r_lconst c227_82 ?_
      exact r_lret c227_83 h
    · have hc6 := Classical.not_not.mp hc5
      replace h := h.2 hc6
      refine r_iload_n c227_38 rfl ?_
      refine r_iconst c227_39 ?_
      refine r_bipush c227_40 ?_
      refine r_call c227_42 rfl rfl (Nat.le_of_ble_eq_true rfl) (okc_s rfl rfl rfl) (g153 hK x1  (Bk_v ?_))
      refine r_ifP (P := ¬ ((0 : Int) ≤ l3 ∧ l3 ≤ (9 : Int))) c227_45 bI_eq (fun hc10 => ?_) (fun hc10 => ?_)
      · replace h := h.1 hc10
        refine r_iconst c227_69 ?_
        refine r_goto c227_70 ?_
        refine r_iconst c227_74 ?_
        refine r_iconst c227_75 ?_
        refine r_call c227_76 rfl rfl (Nat.le_of_ble_eq_true rfl) (okc_r rfl rfl (oK hK o440)) (b152_1 (cd := 2) (ix := 1) hK x1 ms_eq (by decide) (by decide) (fun M14 x12 p13 => Bk_v ?_))
        replace h := h M14 x12 p13
        refine r_ifP (P := (1 : Int) = (0 : Int)) c227_79 rfl (fun hc => absurd hc (by decide)) (fun hc => ?_)
        refine r_lconst c227_82 ?_
        exact r_lret c227_83 h
      · have hc11 := Classical.not_not.mp hc10
        replace h := h.2 hc11
        refine r_iload c227_48 rfl ?_
        refine r_iconst c227_50 ?_
        refine r_bipush c227_51 ?_
        refine r_call c227_53 rfl rfl (Nat.le_of_ble_eq_true rfl) (okc_s rfl rfl rfl) (g153 hK x1  (Bk_v ?_))
        refine r_ifP (P := ¬ ((0 : Int) ≤ l4 ∧ l4 ≤ (8 : Int))) c227_56 bI_eq (fun hc15 => ?_) (fun hc15 => ?_)
        · replace h := h.1 hc15
          refine r_iconst c227_69 ?_
          refine r_goto c227_70 ?_
          refine r_iconst c227_74 ?_
          refine r_iconst c227_75 ?_
          refine r_call c227_76 rfl rfl (Nat.le_of_ble_eq_true rfl) (okc_r rfl rfl (oK hK o440)) (b152_1 (cd := 2) (ix := 1) hK x1 ms_eq (by decide) (by decide) (fun M19 x17 p18 => Bk_v ?_))
          replace h := h M19 x17 p18
          refine r_ifP (P := (1 : Int) = (0 : Int)) c227_79 rfl (fun hc => absurd hc (by decide)) (fun hc => ?_)
          refine r_lconst c227_82 ?_
          exact r_lret c227_83 h
        · have hc16 := Classical.not_not.mp hc15
          replace h := h.2 hc16
          refine r_iload c227_59 rfl ?_
          refine r_iconst c227_61 ?_
          refine r_iconst c227_62 ?_
          refine r_call c227_63 rfl rfl (Nat.le_of_ble_eq_true rfl) (okc_s rfl rfl rfl) (g153 hK x1  (Bk_v ?_))
          refine r_ifP (P := ((0 : Int) ≤ l5 ∧ l5 ≤ (1 : Int))) c227_66 bI_ne (fun hc20 => ?_) (fun hc20 => ?_)
          · replace h := h.1 hc20
            refine r_iconst c227_73 ?_
            refine r_iconst c227_74 ?_
            refine r_iconst c227_75 ?_
            refine r_call c227_76 rfl rfl (Nat.le_of_ble_eq_true rfl) (okc_r rfl rfl (oK hK o440)) (b152_0 hK x1 ms_eq (Bk_v ?_))
            refine r_ifP (P := (0 : Int) = (0 : Int)) c227_79 rfl (fun hc => ?_) (fun hc => absurd (by decide) hc)
            refine r_lconst c227_84 ?_
            refine r_iconst c227_85 ?_
            refine r_iload c227_86 rfl ?_
            refine r_imul c227_88 ?_
            refine r_lshl c227_89 ?_
            refine r_lstore c227_90 (Nat.le_of_ble_eq_true rfl) ?_
            refine r_aload_n c227_92 rfl ?_
            refine r_getR c227_93 (oK hK o440) (FX.get (b := 888) x1 (by decide) (by decide +kernel) (by decide)) (by decide) ?_
            refine r_iconst c227_96 ?_
            refine r_iload_n c227_97 rfl ?_
            refine r_iadd c227_98 ?_
            obtain ⟨s21, h⟩ := h
            refine r_iae c227_99 (oK hK o888) (bd l888 s21) (ms_na (by decide)) ?_
            refine r_iconst c227_100 ?_
            refine r_icmpP (P := ¬ (M 888 (Int.toNat (w32 ((0 : Int) + l1)))) = (-1 : Int)) c227_101 rfl (fun hc22 => ?_) (fun hc22 => ?_)
            · replace h := h.1 hc22
              refine r_aload_n c227_125 rfl ?_
              refine r_aload_n c227_126 rfl ?_
              refine r_getR c227_127 (oK hK o440) (FX.get (b := 888) x1 (by decide) (by decide +kernel) (by decide)) (by decide) ?_
              refine r_iload_n c227_130 rfl ?_
              refine r_iload_n c227_131 rfl ?_
              refine r_iload_n c227_132 rfl ?_
              refine r_iload c227_133 rfl ?_
              refine r_aload_n c227_135 rfl ?_
              refine r_getR c227_136 (oK hK o440) (FX.get (b := 888) x1 (by decide) (by decide +kernel) (by decide)) (by decide) ?_
              refine r_bipush c227_139 ?_
              refine r_iload_n c227_141 rfl ?_
              refine r_iadd c227_142 ?_
              obtain ⟨s24, h⟩ := h
              refine r_iae c227_143 (oK hK o888) (bd l888 s24) (ms_na (by decide)) ?_
              refine r_aload_n c227_144 rfl ?_
              refine r_getR c227_145 (oK hK o440) (FX.get (b := 888) x1 (by decide) (by decide +kernel) (by decide)) (by decide) ?_
              refine r_bipush c227_148 ?_
              refine r_iae c227_150 (oK hK o888) (bd l888 (by decide)) (ms_na (by decide)) ?_
              refine r_aload_n c227_151 rfl ?_
              refine r_getR c227_152 (oK hK o440) (FX.get (b := 888) x1 (by decide) (by decide +kernel) (by decide)) (by decide) ?_
              refine r_bipush c227_155 ?_
              refine r_iload_n c227_157 rfl ?_
              refine r_iadd c227_158 ?_
              obtain ⟨s25, h⟩ := h
              refine r_iae c227_159 (oK hK o888) (bd l888 s25) (ms_na (by decide)) ?_
              refine r_aload_n c227_160 rfl ?_
              refine r_getR c227_161 (oK hK o440) (FX.get (b := 888) x1 (by decide) (by decide +kernel) (by decide)) (by decide) ?_
              refine r_bipush c227_164 ?_
              refine r_iload_n c227_166 rfl ?_
              refine r_iadd c227_167 ?_
              obtain ⟨s26, h⟩ := h
              refine r_iae c227_168 (oK hK o888) (bd l888 s26) (ms_na (by decide)) ?_
              exact r_call c227_169 rfl rfl (Nat.le_of_ble_eq_true rfl) (okc_r rfl rfl (oK hK o440)) h
            · have hc23 := Classical.not_not.mp hc22
              replace h := h.2 hc23
              refine r_aload_n c227_104 rfl ?_
              refine r_getR c227_105 (oK hK o440) (FX.get (b := 888) x1 (by decide) (by decide +kernel) (by decide)) (by decide) ?_
              refine r_bipush c227_108 ?_
              refine r_iload_n c227_110 rfl ?_
              refine r_iadd c227_111 ?_
              obtain ⟨s27, h⟩ := h
              refine r_iae c227_112 (oK hK o888) (bd l888 s27) (ms_na (by decide)) ?_
              refine r_ifP (P := ¬ (M 888 (Int.toNat (w32 ((6 : Int) + l1)))) = (0 : Int)) c227_113 rfl (fun hc28 => ?_) (fun hc28 => ?_)
              · replace h := h.1 hc28
                refine r_lconst c227_121 ?_
                refine r_goto c227_122 ?_
                exact h
              · have hc29 := Classical.not_not.mp hc28
                replace h := h.2 hc29
                refine r_lload c227_116 rfl ?_
                refine r_goto c227_118 ?_
                exact h
          · replace h := h.2 hc20
            refine r_iconst c227_69 ?_
            refine r_goto c227_70 ?_
            refine r_iconst c227_74 ?_
            refine r_iconst c227_75 ?_
            refine r_call c227_76 rfl rfl (Nat.le_of_ble_eq_true rfl) (okc_r rfl rfl (oK hK o440)) (b152_1 (cd := 2) (ix := 1) hK x1 ms_eq (by decide) (by decide) (fun M32 x30 p31 => Bk_v ?_))
            replace h := h M32 x30 p31
            refine r_ifP (P := (1 : Int) = (0 : Int)) c227_79 rfl (fun hc => absurd hc (by decide)) (fun hc => ?_)
            refine r_lconst c227_82 ?_
            exact r_lret c227_83 h
  · replace h := h.2 hc4
    refine r_iconst c227_14 ?_
    refine r_goto c227_15 ?_
    refine r_iconst c227_19 ?_
    refine r_iconst c227_20 ?_
    refine r_call c227_21 rfl rfl (Nat.le_of_ble_eq_true rfl) (okc_r rfl rfl (oK hK o440)) (b152_1 (cd := 1) (ix := 0) hK x1 ms_eq (by decide) (by decide) (fun M35 x33 p34 => Bk_v ?_))
    replace h := h M35 x33 p34
    refine r_ifP (P := ¬ (1 : Int) = (0 : Int)) c227_24 rfl (fun hc => ?_) (fun hc => absurd (by decide) hc)
    refine r_lconst c227_82 ?_
    exact r_lret c227_83 h
theorem u227_172 {d : Nat} {l1 : Int} {l2 : Int} {l3 : Int} {l4 : Int} {l5 : Int} {l6 : Int} {t0 : Int} {M : Mem} {K : KK} {Q : RR → Mem → KK → Prop} (hK : K.1 = 923) (hX : FX M)  (h : Wp (d + 2) 227 182 [vR 440, vI l1, vI l2, vI l3, vI l4, vI l5, vL l6, vU, vL t0, vU, vL l6, vU, vL t0, vU, vU, vU] [] M K Q) : Wp (d + 2) 227 172 [vR 440, vI l1, vI l2, vI l3, vI l4, vI l5, vL l6, vU, vU, vU, vU, vU, vU, vU, vU, vU] [vL t0] M K Q := by
  refine r_lstore c227_172 (Nat.le_of_ble_eq_true rfl) ?_
  refine r_lload c227_174 rfl ?_
  refine r_lstore c227_176 (Nat.le_of_ble_eq_true rfl) ?_
  refine r_lload c227_178 rfl ?_
  refine r_lstore c227_180 (Nat.le_of_ble_eq_true rfl) ?_
  exact h
theorem u227_182 {d : Nat} {l1 : Int} {l2 : Int} {l3 : Int} {l4 : Int} {l5 : Int} {l6 : Int} {l8 : Int} {l10 : Int} {l12 : Int} {l14 : PV} {M : Mem} {K : KK} {Q : RR → Mem → KK → Prop} (hK : K.1 = 923) (hX : FX M)  (h : ((jcmp l12 (0 : Int)) = (0 : Int) → (¬ l5 = (0 : Int) → l10 ≠ 0 ∧ Q (.inl (some (vL (w64 (Int.tdiv l6 l10))))) M K) ∧ (l5 = (0 : Int) → l10 ≠ 0 ∧ Q (.inl (some (vL (w64 (Int.tdiv l8 l10))))) M K)) ∧ (¬ ((jcmp l12 (0 : Int)) = (0 : Int)) → l12 ≠ 0 ∧ Wp (d + 2) 227 182 [vR 440, vI l1, vI l2, vI l3, vI l4, vI l5, vL l6, vU, vL l8, vU, vL l12, vU, vL (Int.tmod l10 l12), vU, vL (Int.tmod l10 l12), vU] [] M K Q)) : Wp (d + 2) 227 182 [vR 440, vI l1, vI l2, vI l3, vI l4, vI l5, vL l6, vU, vL l8, vU, vL l10, vU, vL l12, vU, l14, vU] [] M K Q := by
  refine r_lload c227_182 rfl ?_
  refine r_lconst c227_184 ?_
  refine r_lcmp c227_185 ?_
  refine r_ifP (P := (jcmp l12 (0 : Int)) = (0 : Int)) c227_186 rfl (fun hc1 => ?_) (fun hc1 => ?_)
  · replace h := h.1 hc1
    refine r_iload c227_207 rfl ?_
    refine r_ifP (P := ¬ l5 = (0 : Int)) c227_209 rfl (fun hc2 => ?_) (fun hc2 => ?_)
    · replace h := h.1 hc2
      refine r_lload c227_220 rfl ?_
      refine r_lload c227_222 rfl ?_
      obtain ⟨s4, h⟩ := h
      refine r_ldiv c227_224 s4 ?_
      exact r_lret c227_225 h
    · have hc3 := Classical.not_not.mp hc2
      replace h := h.2 hc3
      refine r_lload c227_212 rfl ?_
      refine r_lload c227_214 rfl ?_
      obtain ⟨s5, h⟩ := h
      refine r_ldiv c227_216 s5 ?_
      refine r_goto c227_217 ?_
      exact r_lret c227_225 h
  · replace h := h.2 hc1
    refine r_lload c227_189 rfl ?_
    refine r_lload c227_191 rfl ?_
    obtain ⟨s6, h⟩ := h
    refine r_lrem c227_193 s6 ?_
    refine r_lstore c227_194 (Nat.le_of_ble_eq_true rfl) ?_
    refine r_lload c227_196 rfl ?_
    refine r_lstore c227_198 (Nat.le_of_ble_eq_true rfl) ?_
    refine r_lload c227_200 rfl ?_
    refine r_lstore c227_202 (Nat.le_of_ble_eq_true rfl) ?_
    refine r_goto c227_204 ?_
    exact h
/-! the questions wets, wetted, likely -/
def wtS (c s : Mem) (L : LC) (n p : Nat) : Int := if dR (gdS c s L) (nSt c) 0 n = -1 then -1 else (cR (gdS c s L) (nSt c) p (lfS (gdS c s L) (nSt c) n p) : Int)
section OPD
variable {d : Nat} {M M' : Mem} {K : KK} {Q : RR → Mem → KK → Prop} {c s : Mem} {L : LC}
theorem c116 {v : Int} (hK : K.1 = 923) (hX : FX M) (h : GC M c L s) (kb : ¬ (0 ≤ v ∧ v ≤ 20) → Q (.inr 0) (inc M 19) (K9 K)) (k : (0 ≤ v ∧ v ≤ 20) → ∀ M', FX M' → FrQc M M' → Q (.inl (some (vI (dR (gdS c s L) (nSt c) 0 v.toNat)))) M' K) : Wm (d + 4) 116 [vR 32, vI v] M K Q := by
  obtain ⟨cm, l, a, b, e, f⟩ := h
  refine u116_0 hK hX ⟨fun hv => ⟨cm, a, b, ?_⟩, kb⟩
  have g := g14 (d := d) (n := v.toNat) (Q := Bk (d + 3) 116 24 27 14 [vR 32, vI v] [] Q) hK hX b (by decide +kernel) (by omega) e f (by omega) (fun M1 x1 f1 _ => Bk_v (u116_27 hK x1 (k hv M1 x1 f1.qc)))
  rw [Int.toNat_of_nonneg hv.1] at g; exact g
theorem c117 {v w : Int} (hK : K.1 = 923) (hX : FX M) (h : GC M c L s) (kn : ¬ (0 ≤ w ∧ w < (nSt c : Int)) → Q (.inr 1) (inc M 18) (K9 K)) (kb : (0 ≤ w ∧ w < (nSt c : Int)) → ¬ (0 ≤ v ∧ v ≤ 20) → Q (.inr 0) (inc M 19) (K9 K)) (k : (0 ≤ w ∧ w < (nSt c : Int)) → (0 ≤ v ∧ v ≤ 20) → ∀ M', FX M' → FrQc M M' → Q (.inl (some (vI (wtS c s L v.toNat w.toNat)))) M' K) : Wm (d + 4) 117 [vR 32, vI v, vI w] M K Q := by
  have hst := h.stn
  obtain ⟨cm, l, a, b, e, f⟩ := h
  have hN := e.2.1.2.1
  refine u117_0 hK hX ⟨nSt c, hst, fun hw => ⟨fun hv => ⟨cm, a, b, ?_⟩, kb hw⟩, kn⟩
  have g := g14 (d := d) (n := v.toNat) (Q := Bk (d + 3) 117 29 32 14 [vR 32, vI v, vI w] [] Q) hK hX b (by decide +kernel) (by omega) e f (by omega) (fun M1 x1 f1 hg => Bk_v (u117_32 hK x1 (by
    have := k hw hv M1 x1 f1.qc
    unfold wtS at this
    refine ⟨fun h9 => ⟨by unfold nSt at hw; omega, ?_⟩, fun h9 => ?_⟩
    · rw [if_neg h9] at this
      rw [hg w.toNat (by omega)]; exact this
    · rw [if_pos h9] at this; exact this)))
  rw [Int.toNat_of_nonneg hv.1] at g; exact g
theorem FrOd.qc (h : FrOd M M') (h2 : OWx M') : FrQc M M' := ⟨fun b k p => h b k (fun e => p (Or.inl e)) (fun e => p (Or.inr (Or.inr (by omega)))), fun _ => h2⟩
/-- the fraction -/
def lkS (c s : Mem) (L : LC) (p : Nat) (q r : Int) (n : Nat) (part : Int) : Int := if part = 0 then odU n (odW c s L p q r n) else odB n (odW c s L p q r n)
abbrev lkOK (q r n part : Int) : Prop := (0 ≤ q ∧ q ≤ 16) ∧ (0 ≤ r ∧ r ≤ 9) ∧ (0 ≤ n ∧ n ≤ 8) ∧ (0 ≤ part ∧ part ≤ 1)
theorem c118 {w q r n part : Int} (hK : K.1 = 923) (hX : FX M) (h : GC M c L s) (hO : OWx M) (kn : ¬ (0 ≤ w ∧ w < (nSt c : Int)) → Q (.inr 1) (inc M 18) (K9 K)) (kb : (0 ≤ w ∧ w < (nSt c : Int)) → ¬ lkOK q r n part → Q (.inr 0) (inc M 19) (K9 K)) (k : (0 ≤ w ∧ w < (nSt c : Int)) → lkOK q r n part → ∀ M', FX M' → FrQc M M' → Q (.inl (some (vL (lkS c s L w.toNat q r n.toNat part)))) M' K) : Wm (d + 5) 118 [vR 32, vI w, vI q, vI r, vI n, vI part] M K Q := by
  have hst := h.stn
  obtain ⟨cm, l, a, b, e, f⟩ := h
  obtain ⟨wa, wb, hO⟩ := hO
  refine u118_0 hK hX ⟨nSt c, hst, fun hw => ⟨fun h1 => kb hw (fun h9 => h1 h9.1), fun h1 => ⟨fun h2 => kb hw (fun h9 => h2 h9.2.1), fun h2 => ⟨fun h3 => kb hw (fun h9 => h3 h9.2.2.1), fun h3 => ⟨fun h4 => kb hw (fun h9 => h4 h9.2.2.2), fun h4 => ⟨cm, a, b, ?_⟩⟩⟩⟩⟩, kn⟩
  have g := g48 (d := d) (n := n.toNat) (p := w.toNat) (q := q) (r := r) (Q := Bk (d + 4) 118 72 75 48 [vR 32, vI w, vI q, vI r, vI n, vI part] [] Q) hK hX b (by decide +kernel) (by omega) e f (by omega) h1 hO (by omega) (fun M1 x1 f1 hO1 r1 r2 => Bk_n (u118_75 hK x1 (by
    have := k hw ⟨h1, h2, h3, h4⟩ M1 x1 (f1.qc hO1)
    unfold lkS at this
    refine ⟨fun h9 => ?_, fun h9 => ?_⟩
    · rw [if_neg h9] at this; rw [r2]; exact this
    · rw [if_pos h9] at this; rw [r1]; exact this)))
  rw [Int.toNat_of_nonneg hw.1, Int.toNat_of_nonneg h3.1] at g; exact g
theorem m224 {v : Int} (hK : K.1 = 923) (hX : FX M) (h : GM M c L s) (kb : ¬ (0 ≤ v ∧ v ≤ 20) → ∀ M', FX M' → BadM 1 1 M M' → Q (.inl (some (vI 0))) M' K) (k : (0 ≤ v ∧ v ≤ 20) → ∀ M', FX M' → FrQm M M' → M' 440 0 = 0 → Q (.inl (some (vI (dR (gdS c s L) (nSt c) 0 v.toNat)))) M' K) : Wm (d + 6) 224 [vR 440, vI v] M K Q := by
  refine u224_0 hK hX ⟨fun hv => ?_, fun hv M1 x1 b1 => kb hv M1 x1 (BadM.of FrQm.t0 b1 (by decide))⟩
  refine g223 (d := d) hK hX.t0 (h.q FrQm.t0) (fun M1 x1 f1 w1' => Bk_n (u224_35 hK x1 ⟨by omega, ?_⟩))
  have := w1' 0 v.toNat (by omega) (by omega)
  rw [show (915 : Nat) + 0 = 915 from rfl] at this
  rw [this]
  exact k hv M1 x1 (FrQm.t0.tr f1.q) ((f1 440 0 (by decide) (by decide) (by decide)).trans ms_eq)
theorem m225 {v w : Int} (hK : K.1 = 923) (hX : FX M) (h : GM M c L s) (kn : ¬ (0 ≤ w ∧ w < (nSt c : Int)) → ∀ M', FX M' → BadM 1 0 M M' → Q (.inl (some (vI 0))) M' K) (kb : (0 ≤ w ∧ w < (nSt c : Int)) → ¬ (0 ≤ v ∧ v ≤ 20) → ∀ M', FX M' → BadM 2 1 M M' → Q (.inl (some (vI 0))) M' K) (k : (0 ≤ w ∧ w < (nSt c : Int)) → (0 ≤ v ∧ v ≤ 20) → ∀ M', FX M' → FrQm M M' → M' 440 0 = 0 → Q (.inl (some (vI (wtS c s L v.toNat w.toNat)))) M' K) : Wm (d + 6) 225 [vR 440, vI v, vI w] M K Q := by
  have hst := h.stn
  have hN : nSt c ≤ 6 := hst.2
  have gr := gdS_rg (L := L) h.1.2.2.2.1
  refine u225_0 hK hX ⟨nSt c, hst.t0, fun hw => ⟨fun hv => ?_, fun hv M1 x1 b1 => kb hw hv M1 x1 (BadM.of FrQm.t0 b1 (by decide))⟩, fun hw M1 x1 b1 => kn hw M1 x1 (BadM.of FrQm.t0 b1 (by decide))⟩
  obtain ⟨n, rfl⟩ : ∃ n : Nat, v = (n : Int) := ⟨v.toNat, by omega⟩
  obtain ⟨p, rfl⟩ : ∃ p : Nat, w = (p : Int) := ⟨w.toNat, by omega⟩
  have hgr : ∀ i m, -1 ≤ dR (gdS c s L) (nSt c) i m ∧ dR (gdS c s L) (nSt c) i m ≤ 594 := fun i m => dR_rg hN gr m
  refine g223 (d := d) hK hX.t0 (h.q FrQm.t0) (fun M1 x1 f1 w1' => Bk_n (u225_57 hK x1 ⟨by omega, ?_⟩))
  have kk := k hw hv
  rw [Int.toNat_natCast, Int.toNat_natCast] at kk
  unfold wtS at kk
  have e0 := w1' 0 n (by omega) (by omega)
  rw [show (915 : Nat) + 0 = 915 from rfl] at e0
  rw [Int.toNat_natCast, e0]
  have t1 : FrQm M M1 := FrQm.t0.tr f1.q
  have z1 : M1 440 0 = 0 := (f1 440 0 (by decide) (by decide) (by decide)).trans ms_eq
  refine ⟨fun h9 => ?_, fun h9 => ?_⟩
  · rw [if_neg h9] at kk
    -- strip by strip
    have strips : ∀ f i, i + f = p + 1 → (i < nSt c → dR (gdS c s L) (nSt c) i (lfS (gdS c s L) (nSt c) n i) ≠ -1) → ∀ (x : Int) M2, FX M2 → FrV M1 M2 → (i = p + 1 → x = (cR (gdS c s L) (nSt c) p (lfS (gdS c s L) (nSt c) n p) : Int)) → Wp (d + 6) 225 79 [vR 440, vI (n : Int), vI (p : Int), vI (lfS (gdS c s L) (nSt c) n i : Int), vI x, vI (i : Int)] [] M2 K Q := by
      intro f
      induction f with
      | zero =>
        intro i hi hne x M2 x2 f2 hx
        refine u225_79 hK x2 ⟨fun _ => ?_, fun h => absurd (by omega) h⟩
        rw [hx (by omega)]
        exact kk M2 x2 (t1.tr f2.q) ((f2 440 0 (by decide) (by decide)).trans z1)
      | succ f ih =>
        intro i hi hne x M2 x2 f2 hx
        refine u225_79 hK x2 ⟨fun h => absurd h (by omega), fun _ => ?_⟩
        have hiN : i < nSt c := by omega
        have hlf := lfS_le (g := gdS c s L) (N := nSt c) (n := n) i
        have hne := hne hiN
        have hds := dR_s (g := gdS c s L) hiN (lfS (gdS c s L) (nSt c) n i)
        generalize hm : lfS (gdS c s L) (nSt c) n i = m at *
        obtain ⟨-, ff⟩ := fdS_first (g := gdS c s L i) (D := dR (gdS c s L) (nSt c) (i + 1)) (m := m) (fun k => (gr i k).1) (fun k => (hgr (i + 1) k).1) (m + 1)
        rw [hds] at hne
        obtain ⟨fa, fb, fc, fd, fe⟩ := ff hne
        have hC : (fdS (gdS c s L i) (dR (gdS c s L) (nSt c) (i + 1)) m (m + 1)).2 = cR (gdS c s L) (nSt c) i m := rfl
        rw [hC] at fa fb fc fd fe
        rw [← hds] at fc fe
        have loop : ∀ fk k, k + fk = cR (gdS c s L) (nSt c) i m → ∀ M3, FX M3 → FrV M1 M3 → Wp (d + 6) 225 88 [vR 440, vI (n : Int), vI (p : Int), vI (m : Int), vI (k : Int), vI (i : Int)] [] M3 K Q := by
          intro fk
          induction fk with
          | zero =>
            intro k hk M3 x3 f3
            have hkC : k = cR (gdS c s L) (nSt c) i m := by omega
            subst hkC
            refine u225_88 hK x3 ?_
            refine g222 hK x3 (h.q (t1.tr f3.q)) hiN (by omega) (fun M4 x4 f4 => Bk_v ?_)
            have f4' := f3.tr f4
            have row : ∀ M5, FrV M1 M5 → ∀ q m, q ≤ nSt c → m ≤ 20 → M5 (915 + q) m = dR (gdS c s L) (nSt c) q m := fun M5 f5 q m hq hm => (f5 _ _ (by omega) (by omega)).trans (w1' q m hq hm)
            refine u225_96 hK x4 ⟨fun h8 => absurd h8 fa, fun _ => ⟨bq7 (by omega), bm21 (by omega), ?_⟩⟩
            rw [iq7 (by omega), im21 (by omega), row M4 f4' (i + 1) _ (by omega) (by omega)]
            refine ⟨fun h8 => absurd h8 fb, fun _ => ?_⟩
            refine g222 hK x4 (h.q (t1.tr f4'.q)) hiN (by omega) (fun M5 x5 f5 => Bk_v ?_)
            have f5' := f4'.tr f5
            refine u225_126 hK x5 ⟨bq7 (by omega), bm21 (by omega), by omega, by omega, ?_⟩
            rw [iq7 (by omega), im21 (by omega), row M5 f5' (i + 1) _ (by omega) (by omega), Int.toNat_natCast, Int.toNat_natCast, row M5 f5' i m (by omega) (by omega)]
            have g1 := gr i (cR (gdS c s L) (nSt c) i m)
            have g2 := hgr (i + 1) (m - cR (gdS c s L) (nSt c) i m)
            rw [w32_id (z := gdS c s L i _ + _) (by omega)]
            refine ⟨fun _ => ?_, fun h8 => absurd fc h8⟩
            have hl1 : lfS (gdS c s L) (nSt c) n (i + 1) = m - cR (gdS c s L) (nSt c) i m := by simp only [lfS]; rw [hm]
            have e9 : w32 ((m : Int) - (cR (gdS c s L) (nSt c) i m : Int)) = (lfS (gdS c s L) (nSt c) n (i + 1) : Int) := by rw [hl1, w32_id (by omega)]; omega
            rw [e9, w1 (by omega)]
            refine ih (i + 1) (by omega) (fun h8 => ?_) _ M5 x5 f5' (fun h8 => ?_)
            · rw [hl1]; exact fb
            · have : i = p := by omega
              subst this
              rw [hm]
          | succ fk ihk =>
            intro k hk M3 x3 f3
            refine u225_88 hK x3 ?_
            refine g222 hK x3 (h.q (t1.tr f3.q)) hiN (by omega) (fun M4 x4 f4 => Bk_v ?_)
            have f4' := f3.tr f4
            have row : ∀ M5, FrV M1 M5 → ∀ q m, q ≤ nSt c → m ≤ 20 → M5 (915 + q) m = dR (gdS c s L) (nSt c) q m := fun M5 f5 q m hq hm => (f5 _ _ (by omega) (by omega)).trans (w1' q m hq hm)
            have nx : ∀ M5, FX M5 → FrV M1 M5 → Wp (d + 6) 225 88 [vR 440, vI (n : Int), vI (p : Int), vI (m : Int), vI (w32 ((k : Int) + 1)), vI (i : Int)] [] M5 K Q := by
              intro M5 x5 f5
              rw [w1 (by omega)]
              exact ihk (k + 1) (by omega) M5 x5 f5
            refine u225_96 hK x4 ⟨fun _ => nx M4 x4 f4', fun h8 => ⟨bq7 (by omega), bm21 (by omega), ?_⟩⟩
            rw [iq7 (by omega), im21 (by omega), row M4 f4' (i + 1) _ (by omega) (by omega)]
            refine ⟨fun _ => nx M4 x4 f4', fun h7 => ?_⟩
            refine g222 hK x4 (h.q (t1.tr f4'.q)) hiN (by omega) (fun M5 x5 f5 => Bk_v ?_)
            have f5' := f4'.tr f5
            refine u225_126 hK x5 ⟨bq7 (by omega), bm21 (by omega), by omega, by omega, ?_⟩
            rw [iq7 (by omega), im21 (by omega), row M5 f5' (i + 1) _ (by omega) (by omega), Int.toNat_natCast, Int.toNat_natCast, row M5 f5' i m (by omega) (by omega)]
            have g1 := gr i k
            have g2 := hgr (i + 1) (m - k)
            rw [w32_id (z := gdS c s L i _ + _) (by omega)]
            exact ⟨fun h6 => absurd h6 (fe k (by omega) h8 h7), fun _ => nx M5 x5 f5'⟩
        exact loop (cR (gdS c s L) (nSt c) i m) 0 (Nat.zero_add _) M2 x2 f2
    exact strips (p + 1) 0 (by omega) (fun _ => h9) 0 M1 x1 FrV.rf (fun h => absurd h (by omega))
  · rw [if_pos h9] at kk
    exact kk M1 x1 t1 z1
/-! the fraction of the model -/
theorem day_id {W : Nat → Int} {q : Int} (hW : ∀ i, 0 ≤ W i) : ∀ k j, dayW W (fun g => g) (fun g => g) q k j = if j < k then 16 * W j else 0 := by
  intro k
  induction k with
  | zero => intro j; rw [if_neg (by omega)]; rfl
  | succ k ih =>
    intro j
    simp only [dayW]
    split
    · rename_i h
      unfold updW
      by_cases hj : j = k
      · subst hj
        rw [if_pos rfl, if_pos rfl, ih j, if_neg (by omega), if_pos (by omega), Int.mul_sub]; omega
      · rw [if_neg hj, if_neg hj, ih j]
        by_cases h2 : j < k
        · rw [if_pos h2, if_pos (by omega)]
        · rw [if_neg h2, if_neg (by omega)]
    · have h0 := hW k
      rw [ih j]
      by_cases hj : j = k
      · subst hj; rw [if_neg (by omega), if_pos (by omega)]; omega
      · by_cases h2 : j < k
        · rw [if_pos h2, if_pos (by omega)]
        · rw [if_neg h2, if_neg (by omega)]
theorem ways_no {p : Nat} {q r dy wet milk : Int} {g0 : Nat} (hq : 0 ≤ q ∧ q ≤ 16) : ∀ i g, g < 100 → waysN c L p (-1) q r dy wet milk g0 i g = if g = g0 then ((16 ^ i : Nat) : Int) else 0 := by
  intro i
  induction i with
  | zero => intro g _; rfl
  | succ i ih =>
    intro g hg
    simp only [waysN]
    have e : ∀ rn a b y, (nxG c L p (-1) rn a b y) = fun g => g := fun rn a b y => funext fun g => by unfold nxG; rw [if_pos rfl]
    rw [e, e, day_id (waysN_nn hq i) 100 g, if_pos hg, ih g hg]
    split
    · rw [Nat.pow_succ]; omega
    · rfl
theorem jl16 : ∀ n : Nat, n ≤ 8 → jlshl 1 (w32 (4 * (n : Int))) = ((16 ^ n : Nat) : Int) := by
  intro n hn
  rcases (show n = 0 ∨ n = 1 ∨ n = 2 ∨ n = 3 ∨ n = 4 ∨ n = 5 ∨ n = 6 ∨ n = 7 ∨ n = 8 by omega) with rfl | rfl | rfl | rfl | rfl | rfl | rfl | rfl | rfl <;> decide +kernel
theorem gcd_loop {w q r n part : Int} {W U G : Nat} (hK : K.1 = 923) (hX : FX M) (hW : 0 < W ∧ W ≤ 4294967296) (hU : U ≤ 4294967296) (hG : Nat.gcd W U = G) (k : Q (.inl (some (vL (if part = 0 then ((U / G : Nat) : Int) else ((W / G : Nat) : Int))))) M K) : ∀ (B A : Nat), Nat.gcd A B = G → ∀ (v : PV), Wp (d + 2) 227 182 [vR 440, vI w, vI q, vI r, vI n, vI part, vL (W : Int), vU, vL (U : Int), vU, vL (A : Int), vU, vL (B : Int), vU, v, vU] [] M K Q := by
  intro B
  have hG0 : 0 < G := by rw [← hG]; exact Nat.gcd_pos_of_pos_left _ hW.1
  induction B using Nat.strongRecOn with
  | ind B ih =>
    intro A hA v
    refine u227_182 hK hX ⟨fun h => ?_, fun h => ?_⟩
    · rw [jcmp_0 (by omega)] at h
      have hB : B = 0 := by omega
      subst hB
      rw [Nat.gcd_zero_right] at hA
      subst hA
      have e1 : w64 (Int.tdiv (W : Int) (A : Int)) = ((W / A : Nat) : Int) := by
        rw [Int.tdiv_eq_ediv_of_nonneg (by omega), ← Int.natCast_ediv]
        have h9 := Nat.div_le_self W A
        generalize W / A = z at h9 ⊢
        exact w64_id (by omega)
      have e2 : w64 (Int.tdiv (U : Int) (A : Int)) = ((U / A : Nat) : Int) := by
        rw [Int.tdiv_eq_ediv_of_nonneg (by omega), ← Int.natCast_ediv]
        have h9 := Nat.div_le_self U A
        generalize U / A = z at h9 ⊢
        exact w64_id (by omega)
      rw [e1, e2]
      refine ⟨fun h9 => ⟨by omega, ?_⟩, fun h9 => ⟨by omega, ?_⟩⟩
      · rw [if_neg h9] at k; exact k
      · rw [if_pos h9] at k; exact k
    · rw [jcmp_0 (by omega)] at h
      have e : Int.tmod (A : Int) (B : Int) = ((A % B : Nat) : Int) := by rw [Int.tmod_eq_emod_of_nonneg (by omega), ← Int.natCast_emod]
      rw [e]
      refine ⟨by omega, ih (A % B) (Nat.mod_lt _ (by omega)) B ?_ _⟩
      rw [← hA, Nat.gcd_comm A B, Nat.gcd_rec B A, Nat.gcd_comm]
theorem m227 {w q r n part : Int} (hK : K.1 = 923) (hX : FX M) (h : GM M c L s) (hD : s 4 0 ≤ 500) (kn : ¬ (0 ≤ w ∧ w < (nSt c : Int)) → ∀ M', FX M' → BadM 1 0 M M' → Q (.inl (some (vL 0))) M' K) (kb : (0 ≤ w ∧ w < (nSt c : Int)) → ¬ lkOK q r n part → ∀ M', FX M' → BadM 2 1 M M' → Q (.inl (some (vL 0))) M' K) (k : (0 ≤ w ∧ w < (nSt c : Int)) → lkOK q r n part → ∀ M', FX M' → FrQm M M' → M' 440 0 = 0 → Q (.inl (some (vL (lkS c s L w.toNat q r n.toNat part)))) M' K) : Wm (d + 13) 227 [vR 440, vI w, vI q, vI r, vI n, vI part] M K Q := by
  have hst := h.stn
  have bad2 : (0 ≤ w ∧ w < (nSt c : Int)) → ¬ lkOK q r n part → ∀ M', FX M' → BadM 2 1 (mset M 440 0 0) M' → Q (.inl (some (vL 0))) M' K := fun hw hn M1 x1 b1 => kb hw hn M1 x1 (BadM.of FrQm.t0 b1 (by decide))
  refine u227_0 hK hX ⟨nSt c, hst.t0, fun hw => ⟨fun h1 => bad2 hw (fun h9 => h1 h9.1), fun h1 => ⟨fun h2 => bad2 hw (fun h9 => h2 h9.2.1), fun h2 => ⟨fun h3 => bad2 hw (fun h9 => h3 h9.2.2.1), fun h3 => ⟨fun h4 => ?_, fun h4 => bad2 hw (fun h9 => h4 h9.2.2.2)⟩⟩⟩⟩, fun hw M1 x1 b1 => kn hw M1 x1 (BadM.of FrQm.t0 b1 (by decide))⟩
  have kk := k hw ⟨h1, h2, h3, h4⟩
  obtain ⟨p, rfl⟩ : ∃ p : Nat, w = (p : Int) := ⟨w.toNat, by omega⟩
  obtain ⟨m, rfl⟩ : ∃ m : Nat, n = (m : Int) := ⟨n.toNat, by omega⟩
  rw [Int.toNat_natCast, Int.toNat_natCast] at kk
  have hp : p < nSt c := by omega
  have hp6 : p < 6 := by have := hst.2; omega
  have h' := h.q FrQm.t0
  obtain ⟨⟨hc, hw', hl, hlw, hdr⟩, hLM⟩ := h'
  have hlp := hlw.1 p hp
  have hdy := hlw.2.1
  obtain ⟨e0, e1, e2, e3⟩ := h.1.2.2.1.1 p hp
  have e4 := h.1.2.2.1.2.1
  have jl := jl16 m (by omega)
  have pw := pow16_le (n := m) (by omega)
  have pw0 : 0 < 16 ^ m := Nat.pow_pos (by decide)
  rw [ix0 hp6, ix6 hp6, ix12 hp6, ix18 hp6, e0, e1, e2, e3, e4, jl]
  have fin : ∀ U : Nat, (U : Int) = odW c s L p q r m → U ≤ 16 ^ m → ∀ M1, FX M1 → FrQm M M1 → M1 440 0 = 0 → Wp (d + 13) 227 172 [vR 440, vI (p : Int), vI q, vI r, vI (m : Int), vI part, vL ((16 ^ m : Nat) : Int), vU, vU, vU, vU, vU, vU, vU, vU, vU] [vL (U : Int)] M1 K Q := by
    intro U hU hle M1 x1 f1 z1
    refine u227_172 hK x1 ?_
    refine gcd_loop (d := d + 11) (G := Nat.gcd (16 ^ m) U) hK x1 ⟨pw0, pw⟩ (by omega) rfl ?_ U (16 ^ m) rfl vU
    have := kk M1 x1 f1 z1
    unfold lkS odU odB at this
    rw [← hU, Int.toNat_natCast, pow16] at this
    exact this
  refine ⟨bx0 hp6, fun h9 => ⟨bx6 hp6, bx12 hp6, bx18 hp6, ?_⟩, fun h9 => ⟨bx6 hp6, fun h8 => ?_, fun h8 => ?_⟩⟩
  · have ho := oddF_rg (c := c) (L := L) (p := p) (x := s 0 p) (q := q) (r := r) h1 m (s 4 0) (s 2 p) (s 3 p) (s 1 p)
    refine g226 h1 (by omega) hw' hp m (by omega) (d + 12) _ K _ (s 4 0) (s 2 p) (s 3 p) (s 1 p) (by omega) hK hX.t0 hc hLM ((ms_na (by decide)).trans e0) hlp.2.1 (by omega) (fun M1 x1 f1 => Bk_v ?_)
    have hU : (((oddF c L p (s 0 p) q r m (s 4 0) (s 2 p) (s 3 p) (s 1 p)).toNat : Nat) : Int) = oddF c L p (s 0 p) q r m (s 4 0) (s 2 p) (s 3 p) (s 1 p) := by omega
    rw [← hU]
    refine fin _ ?_ (by omega) M1 x1 (FrQm.t0.tr f1.q) ((f1 440 0 (by decide) (by decide)).trans ms_eq)
    rw [hU]
    unfold odW
    rw [ways_lies h1 h9 (by omega)]
    congr 1; omega
  · have hU : odW c s L p q r m = 0 := by
      unfold odW; rw [h9, ways_no h1 m 0 (by omega), if_neg (by omega)]
    exact fin 0 (by rw [hU]; rfl) (by omega) _ hX.t0 FrQm.t0 ms_eq
  · have hU : odW c s L p q r m = ((16 ^ m : Nat) : Int) := by
      unfold odW; rw [h9, ways_no h1 m 0 (by omega), if_pos (by omega)]
    exact fin (16 ^ m) hU.symm (Nat.le_refl _) _ hX.t0 FrQm.t0 ms_eq
end OPD
