/-! the model reads its law -/
theorem u180_0 {d : Nat} {l1 : Int} {l2 : Int} {M : Mem} {K : KK} {Q : RR → Mem → KK → Prop} (hK : K.1 = 923) (hX : FX M)  (h : ((M 440 5) = (0 : Int) → (0 ≤ (M 440 22) ∧ (M 440 22) < (160 : Int)) ∧ (0 ≤ (M 440 22) ∧ (M 440 22) < (160 : Int)) ∧ Q (.inl none) (mset (mset (mset M (627 + Int.toNat (M 440 22)) 0 l1) (627 + Int.toNat (M 440 22)) 1 l2) 440 22 (w32 ((M 440 22) + (1 : Int)))) K) ∧ (¬ ((M 440 5) = (0 : Int)) → Q (.inl none) M K)) : Wp d 180 0 [vR 440, vI l1, vI l2] [] M K Q := by
  refine r_aload_n c180_0 rfl ?_
  refine r_getIe c180_1 (oK hK o440) rfl ?_
  refine r_ifP (P := (M 440 5) = (0 : Int)) c180_4 rfl (fun hc1 => ?_) (fun hc1 => ?_)
  · replace h := h.1 hc1
    refine r_aload_n c180_8 rfl ?_
    refine r_getR c180_9 (oK hK o440) (FX.get (b := 626) hX (by decide) (by decide +kernel) (by decide)) (by decide) ?_
    refine r_aload_n c180_12 rfl ?_
    refine r_getIe c180_13 (oK hK o440) rfl ?_
    obtain ⟨s2, h⟩ := h
    refine r_aa c180_16 (mrw o626 hK) (bd l626 s2) (rf626 hX s2) (by omega) ?_
    refine r_iconst c180_17 ?_
    refine r_iload_n c180_18 rfl ?_
    refine r_ias c180_19 (oK hK (ro626 s2)) (bd (rz626 s2) (by decide)) ?_
    have x3 := FX.set (v := l1) (a := (627 + Int.toNat (M 440 22))) (k := 0) hX (nfa (ro626 s2) _)
    refine r_aload_n c180_20 rfl ?_
    refine r_getR c180_21 (oK hK o440) (FX.get (b := 626) x3 (by decide) (by decide +kernel) (by decide)) (by decide) ?_
    refine r_aload_n c180_24 rfl ?_
    refine r_getIe c180_25 (oK hK o440) (ms_na (by omega)) ?_
    obtain ⟨s4, h⟩ := h
    refine r_aa c180_28 (mrw o626 hK) (bd l626 s4) (rf626 x3 s4) (by omega) ?_
    refine r_iconst c180_29 ?_
    refine r_iload_n c180_30 rfl ?_
    refine r_ias c180_31 (oK hK (ro626 s4)) (bd (rz626 s4) (by decide)) ?_
    have x5 := FX.set (v := l2) (a := (627 + Int.toNat (M 440 22))) (k := 1) x3 (nfa (ro626 s4) _)
    refine r_aload_n c180_32 rfl ?_
    refine r_dupr c180_33 ?_
    refine r_getIe c180_34 (oK hK o440) (Eq.trans (ms_na (by omega)) (ms_na (by omega))) ?_
    refine r_iconst c180_37 ?_
    refine r_iadd c180_38 ?_
    refine r_putI c180_39 (oK hK o440) ?_
    have x6 := FX.set (v := (w32 ((M 440 22) + (1 : Int)))) (a := 440) (k := 22) x5 (by decide +kernel)
    exact r_ret c180_42 h
  · replace h := h.2 hc1
    exact r_ret c180_7 h
theorem u181_0 {d : Nat}  {M : Mem} {K : KK} {Q : RR → Mem → KK → Prop} (hK : K.1 = 923) (hX : FX M)  (h : (¬ (M 440 5) = (0 : Int) → Q (.inl (some (vI (0 : Int)))) M K) ∧ ((M 440 5) = (0 : Int) → (¬ (M 440 8) = (6 : Int) → Q (.inl (some (vI (1 : Int)))) (mset M 440 8 (w32 ((M 440 8) + (1 : Int)))) K) ∧ ((M 440 8) = (6 : Int) → ∃ B6 : BY, ∃ n7 : Nat, ∃ st8 : ST, (TM B6 n7 M st8 ∧ (3 : Int) ≠ 0) ∧ (∀ (M12 : Mem), FX M12 → (FrM M M12 ∧ TM B6 n7 M12 (tFail (3 : Int) (M 440 4) st8) ∧ M12 440 4 = M 440 4) → (¬ (M12 440 5) = (0 : Int) → Q (.inl (some (vI (0 : Int)))) M12 K) ∧ ((M12 440 5) = (0 : Int) → Q (.inl (some (vI (1 : Int)))) M12 K))))) : Wp (d + 1) 181 0 [vR 440] [] M K Q := by
  refine r_aload_n c181_0 rfl ?_
  refine r_getIe c181_1 (oK hK o440) rfl ?_
  refine r_ifP (P := ¬ (M 440 5) = (0 : Int)) c181_4 rfl (fun hc1 => ?_) (fun hc1 => ?_)
  · replace h := h.1 hc1
    refine r_aload_n c181_28 rfl ?_
    refine r_getIe c181_29 (oK hK o440) rfl ?_
    refine r_ifP (P := ¬ (M 440 5) = (0 : Int)) c181_32 rfl (fun hc => ?_) (fun hc => absurd hc1 hc)
    refine r_aload_n c181_45 rfl ?_
    refine r_getIe c181_46 (oK hK o440) rfl ?_
    refine r_ifP (P := ¬ (M 440 5) = (0 : Int)) c181_49 rfl (fun hc => ?_) (fun hc => absurd hc1 hc)
    refine r_iconst c181_56 ?_
    exact r_iret c181_57 (by decide) h
  · have hc2 := Classical.not_not.mp hc1
    replace h := h.2 hc2
    refine r_aload_n c181_7 rfl ?_
    refine r_getIe c181_8 (oK hK o440) rfl ?_
    refine r_bipush c181_11 ?_
    refine r_icmpP (P := ¬ (M 440 8) = (6 : Int)) c181_13 rfl (fun hc3 => ?_) (fun hc3 => ?_)
    · replace h := h.1 hc3
      refine r_aload_n c181_28 rfl ?_
      refine r_getIe c181_29 (oK hK o440) rfl ?_
      refine r_ifP (P := ¬ (M 440 5) = (0 : Int)) c181_32 rfl (fun hc => absurd hc2 hc) (fun hc => ?_)
      refine r_aload_n c181_35 rfl ?_
      refine r_dupr c181_36 ?_
      refine r_getIe c181_37 (oK hK o440) rfl ?_
      refine r_iconst c181_40 ?_
      refine r_iadd c181_41 ?_
      refine r_putI c181_42 (oK hK o440) ?_
      have x5 := FX.set (v := (w32 ((M 440 8) + (1 : Int)))) (a := 440) (k := 8) hX (by decide +kernel)
      refine r_aload_n c181_45 rfl ?_
      refine r_getIe c181_46 (oK hK o440) (ms_nk (by decide)) ?_
      refine r_ifP (P := ¬ (M 440 5) = (0 : Int)) c181_49 rfl (fun hc => absurd hc2 hc) (fun hc => ?_)
      refine r_iconst c181_52 ?_
      refine r_goto c181_53 ?_
      exact r_iret c181_57 (by decide) h
    · have hc4 := Classical.not_not.mp hc3
      replace h := h.2 hc4
      refine r_aload_n c181_16 rfl ?_
      refine r_iconst c181_17 ?_
      refine r_aload_n c181_18 rfl ?_
      refine r_getIe c181_19 (oK hK o440) rfl ?_
      obtain ⟨B6, h⟩ := h
      obtain ⟨n7, h⟩ := h
      obtain ⟨st8, h⟩ := h
      obtain ⟨p9, h⟩ := h
      refine r_call c181_22 rfl rfl (Nat.le_of_ble_eq_true rfl) (okc_r rfl rfl (oK hK o440)) (g160 hK hX p9 (fun M12 x10 p11 => Bk_n ?_))
      replace h := h M12 x10 p11
      refine r_goto c181_25 ?_
      refine r_aload_n c181_45 rfl ?_
      refine r_getIe c181_46 (oK hK o440) rfl ?_
      refine r_ifP (P := ¬ (M12 440 5) = (0 : Int)) c181_49 rfl (fun hc13 => ?_) (fun hc13 => ?_)
      · replace h := h.1 hc13
        refine r_iconst c181_56 ?_
        exact r_iret c181_57 (by decide) h
      · have hc14 := Classical.not_not.mp hc13
        replace h := h.2 hc14
        refine r_iconst c181_52 ?_
        refine r_goto c181_53 ?_
        exact r_iret c181_57 (by decide) h
theorem u184_0 {d : Nat}  {M : Mem} {K : KK} {Q : RR → Mem → KK → Prop} (hK : K.1 = 923) (hX : FX M)  (h : ∃ B1 : BY, ∃ n2 : Nat, ∃ st3 : ST, ∃ s4 : Nat, (TM B1 n2 M st3 ∧ WC (19 : Int) (21 : Int) (14 : Int) (0 : Int) (0 : Int) (0 : Int) s4) ∧ (∀ (M8 : Mem), FX M8 → (FrM M M8 ∧ TM B1 n2 M8 (tTakes B1 n2 st3 s4) ∧ (¬ isWd B1 n2 st3 s4 = true → AtM M8 st3)) → (¬ (isWd B1 n2 st3 s4 = true) → ∃ B11 : BY, ∃ n12 : Nat, ∃ st13 : ST, ∃ s14 : Nat, (TM B11 n12 M8 st13 ∧ WC (25 : Int) (1 : Int) (18 : Int) (4 : Int) (19 : Int) (0 : Int) s14) ∧ (∀ (M18 : Mem), FX M18 → (FrM M8 M18 ∧ TM B11 n12 M18 (tTakes B11 n12 st13 s14) ∧ (¬ isWd B11 n12 st13 s14 = true → AtM M18 st13)) → (¬ (isWd B11 n12 st13 s14 = true) → ∃ B21 : BY, ∃ n22 : Nat, ∃ st23 : ST, ∃ s24 : Nat, (TM B21 n22 M18 st23 ∧ WC (7 : Int) (18 : Int) (5 : Int) (25 : Int) (0 : Int) (0 : Int) s24) ∧ (∀ (M28 : Mem), FX M28 → (FrM M18 M28 ∧ TM B21 n22 M28 (tTakes B21 n22 st23 s24) ∧ (¬ isWd B21 n22 st23 s24 = true → AtM M28 st23)) → (¬ (isWd B21 n22 st23 s24 = true) → ∃ B31 : BY, ∃ n32 : Nat, ∃ st33 : ST, ∃ s34 : Nat, (TM B31 n32 M28 st33 ∧ WC (18 : Int) (1 : Int) (9 : Int) (14 : Int) (0 : Int) (0 : Int) s34) ∧ (∀ (M38 : Mem), FX M38 → (FrM M28 M38 ∧ TM B31 n32 M38 (tTakes B31 n32 st33 s34) ∧ (¬ isWd B31 n32 st33 s34 = true → AtM M38 st33)) → (¬ (isWd B31 n32 st33 s34 = true) → ∃ B41 : BY, ∃ n42 : Nat, ∃ st43 : ST, ∃ s44 : Nat, (TM B41 n42 M38 st43 ∧ WC (23 : Int) (5 : Int) (20 : Int) (0 : Int) (0 : Int) (0 : Int) s44) ∧ (∀ (M48 : Mem), FX M48 → (FrM M38 M48 ∧ TM B41 n42 M48 (tTakes B41 n42 st43 s44) ∧ (¬ isWd B41 n42 st43 s44 = true → AtM M48 st43)) → (¬ (isWd B41 n42 st43 s44 = true) → ∃ B51 : BY, ∃ n52 : Nat, ∃ st53 : ST, ∃ s54 : Nat, (TM B51 n52 M48 st53 ∧ WC (13 : Int) (9 : Int) (12 : Int) (11 : Int) (0 : Int) (0 : Int) s54) ∧ (∀ (M58 : Mem), FX M58 → (FrM M48 M58 ∧ TM B51 n52 M58 (tTakes B51 n52 st53 s54) ∧ (¬ isWd B51 n52 st53 s54 = true → AtM M58 st53)) → (¬ (isWd B51 n52 st53 s54 = true) → ∃ B61 : BY, ∃ n62 : Nat, ∃ st63 : ST, ∃ s64 : Nat, (TM B61 n62 M58 st63 ∧ WC (4 : Int) (1 : Int) (25 : Int) (0 : Int) (0 : Int) (0 : Int) s64) ∧ (∀ (M68 : Mem), FX M68 → (FrM M58 M68 ∧ TM B61 n62 M68 (tTakes B61 n62 st63 s64) ∧ (¬ isWd B61 n62 st63 s64 = true → AtM M68 st63)) → (¬ (isWd B61 n62 st63 s64 = true) → ∃ B71 : BY, ∃ n72 : Nat, ∃ st73 : ST, ∃ s74 : Nat, (TM B71 n72 M68 st73 ∧ WC (6 : Int) (9 : Int) (18 : Int) (19 : Int) (20 : Int) (0 : Int) s74) ∧ (∀ (M78 : Mem), FX M78 → (FrM M68 M78 ∧ TM B71 n72 M78 (tTakes B71 n72 st73 s74) ∧ (¬ isWd B71 n72 st73 s74 = true → AtM M78 st73)) → (¬ (isWd B71 n72 st73 s74 = true) → Q (.inl (some (vI (-1 : Int)))) M78 K) ∧ ((isWd B71 n72 st73 s74 = true) → Q (.inl (some (vI (7 : Int)))) M78 K))) ∧ ((isWd B61 n62 st63 s64 = true) → Q (.inl (some (vI (6 : Int)))) M68 K))) ∧ ((isWd B51 n52 st53 s54 = true) → Q (.inl (some (vI (5 : Int)))) M58 K))) ∧ ((isWd B41 n42 st43 s44 = true) → Q (.inl (some (vI (4 : Int)))) M48 K))) ∧ ((isWd B31 n32 st33 s34 = true) → Q (.inl (some (vI (3 : Int)))) M38 K))) ∧ ((isWd B21 n22 st23 s24 = true) → Q (.inl (some (vI (2 : Int)))) M28 K))) ∧ ((isWd B11 n12 st13 s14 = true) → Q (.inl (some (vI (1 : Int)))) M18 K))) ∧ ((isWd B1 n2 st3 s4 = true) → Q (.inl (some (vI (0 : Int)))) M8 K))) : Wp (d + 5) 184 0 [vR 440] [] M K Q := by
  refine r_aload_n c184_0 rfl ?_
  refine r_bipush c184_1 ?_
  refine r_bipush c184_3 ?_
  refine r_bipush c184_5 ?_
  refine r_iconst c184_7 ?_
  refine r_iconst c184_8 ?_
  refine r_iconst c184_9 ?_
  obtain ⟨B1, h⟩ := h
  obtain ⟨n2, h⟩ := h
  obtain ⟨st3, h⟩ := h
  obtain ⟨s4, h⟩ := h
  obtain ⟨p5, h⟩ := h
  refine r_call c184_10 rfl rfl (Nat.le_of_ble_eq_true rfl) (okc_r rfl rfl (oK hK o440)) (g168 hK hX p5 (fun M8 x6 p7 => Bk_v ?_))
  replace h := h M8 x6 p7
  refine r_ifP (P := ¬ (isWd B1 n2 st3 s4 = true)) c184_13 bI_eq (fun hc9 => ?_) (fun hc9 => ?_)
  · replace h := h.1 hc9
    refine r_aload_n c184_18 rfl ?_
    refine r_bipush c184_19 ?_
    refine r_iconst c184_21 ?_
    refine r_bipush c184_22 ?_
    refine r_iconst c184_24 ?_
    refine r_bipush c184_25 ?_
    refine r_iconst c184_27 ?_
    obtain ⟨B11, h⟩ := h
    obtain ⟨n12, h⟩ := h
    obtain ⟨st13, h⟩ := h
    obtain ⟨s14, h⟩ := h
    obtain ⟨p15, h⟩ := h
    refine r_call c184_28 rfl rfl (Nat.le_of_ble_eq_true rfl) (okc_r rfl rfl (oK hK o440)) (g168 hK x6 p15 (fun M18 x16 p17 => Bk_v ?_))
    replace h := h M18 x16 p17
    refine r_ifP (P := ¬ (isWd B11 n12 st13 s14 = true)) c184_31 bI_eq (fun hc19 => ?_) (fun hc19 => ?_)
    · replace h := h.1 hc19
      refine r_aload_n c184_36 rfl ?_
      refine r_bipush c184_37 ?_
      refine r_bipush c184_39 ?_
      refine r_iconst c184_41 ?_
      refine r_bipush c184_42 ?_
      refine r_iconst c184_44 ?_
      refine r_iconst c184_45 ?_
      obtain ⟨B21, h⟩ := h
      obtain ⟨n22, h⟩ := h
      obtain ⟨st23, h⟩ := h
      obtain ⟨s24, h⟩ := h
      obtain ⟨p25, h⟩ := h
      refine r_call c184_46 rfl rfl (Nat.le_of_ble_eq_true rfl) (okc_r rfl rfl (oK hK o440)) (g168 hK x16 p25 (fun M28 x26 p27 => Bk_v ?_))
      replace h := h M28 x26 p27
      refine r_ifP (P := ¬ (isWd B21 n22 st23 s24 = true)) c184_49 bI_eq (fun hc29 => ?_) (fun hc29 => ?_)
      · replace h := h.1 hc29
        refine r_aload_n c184_54 rfl ?_
        refine r_bipush c184_55 ?_
        refine r_iconst c184_57 ?_
        refine r_bipush c184_58 ?_
        refine r_bipush c184_60 ?_
        refine r_iconst c184_62 ?_
        refine r_iconst c184_63 ?_
        obtain ⟨B31, h⟩ := h
        obtain ⟨n32, h⟩ := h
        obtain ⟨st33, h⟩ := h
        obtain ⟨s34, h⟩ := h
        obtain ⟨p35, h⟩ := h
        refine r_call c184_64 rfl rfl (Nat.le_of_ble_eq_true rfl) (okc_r rfl rfl (oK hK o440)) (g168 hK x26 p35 (fun M38 x36 p37 => Bk_v ?_))
        replace h := h M38 x36 p37
        refine r_ifP (P := ¬ (isWd B31 n32 st33 s34 = true)) c184_67 bI_eq (fun hc39 => ?_) (fun hc39 => ?_)
        · replace h := h.1 hc39
          refine r_aload_n c184_72 rfl ?_
          refine r_bipush c184_73 ?_
          refine r_iconst c184_75 ?_
          refine r_bipush c184_76 ?_
          refine r_iconst c184_78 ?_
          refine r_iconst c184_79 ?_
          refine r_iconst c184_80 ?_
          obtain ⟨B41, h⟩ := h
          obtain ⟨n42, h⟩ := h
          obtain ⟨st43, h⟩ := h
          obtain ⟨s44, h⟩ := h
          obtain ⟨p45, h⟩ := h
          refine r_call c184_81 rfl rfl (Nat.le_of_ble_eq_true rfl) (okc_r rfl rfl (oK hK o440)) (g168 hK x36 p45 (fun M48 x46 p47 => Bk_v ?_))
          replace h := h M48 x46 p47
          refine r_ifP (P := ¬ (isWd B41 n42 st43 s44 = true)) c184_84 bI_eq (fun hc49 => ?_) (fun hc49 => ?_)
          · replace h := h.1 hc49
            refine r_aload_n c184_89 rfl ?_
            refine r_bipush c184_90 ?_
            refine r_bipush c184_92 ?_
            refine r_bipush c184_94 ?_
            refine r_bipush c184_96 ?_
            refine r_iconst c184_98 ?_
            refine r_iconst c184_99 ?_
            obtain ⟨B51, h⟩ := h
            obtain ⟨n52, h⟩ := h
            obtain ⟨st53, h⟩ := h
            obtain ⟨s54, h⟩ := h
            obtain ⟨p55, h⟩ := h
            refine r_call c184_100 rfl rfl (Nat.le_of_ble_eq_true rfl) (okc_r rfl rfl (oK hK o440)) (g168 hK x46 p55 (fun M58 x56 p57 => Bk_v ?_))
            replace h := h M58 x56 p57
            refine r_ifP (P := ¬ (isWd B51 n52 st53 s54 = true)) c184_103 bI_eq (fun hc59 => ?_) (fun hc59 => ?_)
            · replace h := h.1 hc59
              refine r_aload_n c184_108 rfl ?_
              refine r_iconst c184_109 ?_
              refine r_iconst c184_110 ?_
              refine r_bipush c184_111 ?_
              refine r_iconst c184_113 ?_
              refine r_iconst c184_114 ?_
              refine r_iconst c184_115 ?_
              obtain ⟨B61, h⟩ := h
              obtain ⟨n62, h⟩ := h
              obtain ⟨st63, h⟩ := h
              obtain ⟨s64, h⟩ := h
              obtain ⟨p65, h⟩ := h
              refine r_call c184_116 rfl rfl (Nat.le_of_ble_eq_true rfl) (okc_r rfl rfl (oK hK o440)) (g168 hK x56 p65 (fun M68 x66 p67 => Bk_v ?_))
              replace h := h M68 x66 p67
              refine r_ifP (P := ¬ (isWd B61 n62 st63 s64 = true)) c184_119 bI_eq (fun hc69 => ?_) (fun hc69 => ?_)
              · replace h := h.1 hc69
                refine r_aload_n c184_125 rfl ?_
                refine r_bipush c184_126 ?_
                refine r_bipush c184_128 ?_
                refine r_bipush c184_130 ?_
                refine r_bipush c184_132 ?_
                refine r_bipush c184_134 ?_
                refine r_iconst c184_136 ?_
                obtain ⟨B71, h⟩ := h
                obtain ⟨n72, h⟩ := h
                obtain ⟨st73, h⟩ := h
                obtain ⟨s74, h⟩ := h
                obtain ⟨p75, h⟩ := h
                refine r_call c184_137 rfl rfl (Nat.le_of_ble_eq_true rfl) (okc_r rfl rfl (oK hK o440)) (g168 hK x66 p75 (fun M78 x76 p77 => Bk_v ?_))
                replace h := h M78 x76 p77
                refine r_ifP (P := ¬ (isWd B71 n72 st73 s74 = true)) c184_140 bI_eq (fun hc79 => ?_) (fun hc79 => ?_)
                · replace h := h.1 hc79
                  refine r_iconst c184_148 ?_
                  exact r_iret c184_149 (Or.inl rfl) h
                · have hc80 := Classical.not_not.mp hc79
                  replace h := h.2 hc80
                  refine r_bipush c184_143 ?_
                  refine r_goto c184_145 ?_
                  exact r_iret c184_149 (Or.inl rfl) h
              · have hc70 := Classical.not_not.mp hc69
                replace h := h.2 hc70
                refine r_bipush c184_122 ?_
                exact r_iret c184_124 (Or.inl rfl) h
            · have hc60 := Classical.not_not.mp hc59
              replace h := h.2 hc60
              refine r_iconst c184_106 ?_
              exact r_iret c184_107 (Or.inl rfl) h
          · have hc50 := Classical.not_not.mp hc49
            replace h := h.2 hc50
            refine r_iconst c184_87 ?_
            exact r_iret c184_88 (Or.inl rfl) h
        · have hc40 := Classical.not_not.mp hc39
          replace h := h.2 hc40
          refine r_iconst c184_70 ?_
          exact r_iret c184_71 (Or.inl rfl) h
      · have hc30 := Classical.not_not.mp hc29
        replace h := h.2 hc30
        refine r_iconst c184_52 ?_
        exact r_iret c184_53 (Or.inl rfl) h
    · have hc20 := Classical.not_not.mp hc19
      replace h := h.2 hc20
      refine r_iconst c184_34 ?_
      exact r_iret c184_35 (Or.inl rfl) h
  · have hc10 := Classical.not_not.mp hc9
    replace h := h.2 hc10
    refine r_iconst c184_16 ?_
    exact r_iret c184_17 (Or.inl rfl) h
/-- codes L as the model has read them -/
def CM (M : Mem) (L : LC) : Prop := M 440 22 = (L.length : Int) ∧ ∀ i, i < L.length → M (627 + i) 0 = (L.getD i (0, 0)).1 ∧ M (627 + i) 1 = (L.getD i (0, 0)).2
def CMo (M : Mem) : Option LC → Prop
  | some L => CM M L
  | none => True
def FrN (M M' : Mem) : Prop := ∀ a k, ¬ (627 ≤ a ∧ a < 787) → ¬ (a = 440 ∧ (k = 8 ∨ k = 22 ∨ (4 ≤ k ∧ k ≤ 6))) → M' a k = M a k
theorem FrN.rf {M : Mem} : FrN M M := fun _ _ _ _ => rfl
theorem FrN.tr {M M1 M2 : Mem} (h1 : FrN M M1) (h2 : FrN M1 M2) : FrN M M2 := fun a k p q => (h2 a k p q).trans (h1 a k p q)
theorem FrM.N {M M' : Mem} (h : FrM M M') : FrN M M' := fun a k _ q => h a k (fun r => q ⟨r.1, Or.inr (Or.inr r.2)⟩)
/-- only what a reading changes, and open -/
def FrO (M M' : Mem) : Prop := ∀ a k, ¬ (a = 440 ∧ (k = 8 ∨ (4 ≤ k ∧ k ≤ 6))) → M' a k = M a k
theorem FrO.N {M M' : Mem} (h : FrO M M') : FrN M M' := fun a k _ q => h a k (fun r => q ⟨r.1, by omega⟩)
theorem FrM.O {M M' : Mem} (h : FrM M M') : FrO M M' := fun a k q => h a k (fun r => q ⟨r.1, by omega⟩)
theorem CMo.m {M M' : Mem} {o : Option LC} (hf : FrM M M') (h : CMo M o) : CMo M' o := by
  cases o with
  | none => trivial
  | some L => exact ⟨(hf 440 22 (by decide)).trans h.1, fun i hi => ⟨(hf _ 0 (by omega)).trans (h.2 i hi).1, (hf _ 1 (by omega)).trans (h.2 i hi).2⟩⟩
def tOpen (op : Int) : ST → ST
  | .inl p => if op = 6 then .inr (3, (p : Int)) else .inl p
  | .inr f => .inr f
def kwn (B : BY) (n : Nat) : ST → Int
  | .inl p => nmOf (wdL B p (sp isS B n p)) [10, 11, 12, 13, 14, 15, 16, 17] 0
  | .inr _ => -1
section NA
variable {d : Nat} {M : Mem} {K : KK} {Q : RR → Mem → KK → Prop} {B : BY} {n : Nat} {st : ST}
theorem g180 {u v : Int} {L : LC} (hK : K.1 = 923) (hX : FX M) (h : TM B n M st ∧ CMo M (oo (st, L)) ∧ ∀ p, st = .inl p → L.length < 160) (k : ∀ M', FX M' → (FrN M M' ∧ TM B n M' st ∧ CMo M' (oo (st, L ++ [(u, v)])) ∧ M' 440 8 = M 440 8) → Q (.inl none) M' K) : Wm d 180 [vR 440, vI u, vI v] M K Q := by
  obtain ⟨ht, hc, hb⟩ := h
  refine u180_0 hK hX ⟨fun h0 => ?_, fun h0 => ?_⟩
  · obtain ⟨p, rfl⟩ := (TM_0 ht).mp h0
    have hb := hb p rfl
    have hc : CM M L := hc
    obtain ⟨h1, h2⟩ := hc
    refine ⟨by omega, by omega, ?_⟩
    rw [h1, Int.toNat_natCast, w1 (by omega)]
    have hx : FX (mset (mset (mset M (627 + L.length) 0 u) (627 + L.length) 1 v) 440 22 ((L.length + 1 : Nat) : Int)) := by
      have hr := ro626_all L.length hb
      exact ((hX.set (nfa hr.1 _)).set (nfa hr.1 _)).set (by decide +kernel)
    have hf : FrN M (mset (mset (mset M (627 + L.length) 0 u) (627 + L.length) 1 v) 440 22 ((L.length + 1 : Nat) : Int)) := by
      intro a k' h3 h4
      simp only [mset]
      rw [if_neg (by omega), if_neg (by omega), if_neg (by omega)]
    refine k _ hx ⟨hf, ?_, ⟨by rw [ms_eq]; simp, fun i hi => ?_⟩, ms_nk (by decide) |>.trans ((ms_na (by omega)).trans (ms_na (by omega)))⟩
    · obtain ⟨⟨a1, a2, a3⟩, a, h4, h5, h6⟩ := ht
      have e : ∀ k', k' ≠ 22 → mset (mset (mset M (627 + L.length) 0 u) (627 + L.length) 1 v) 440 22 ((L.length + 1 : Nat) : Int) 440 k' = M 440 k' := fun k' hk => (ms_nk hk).trans ((ms_na (by omega)).trans (ms_na (by omega)))
      exact ⟨⟨(e 2 (by decide)).trans a1, a2, fun i hi => (hf 441 i (by omega) (by omega)).trans (a3 i hi)⟩, a, (e 4 (by decide)).trans h4, h5, (e 5 (by decide)).trans h6.1, h6.2⟩
    · simp only [List.length_append, List.length_cons, List.length_nil] at hi
      rw [getD_snoc (by omega)]
      by_cases hii : i = L.length
      · subst hii
        rw [if_pos rfl]
        exact ⟨(ms_na (by omega)).trans ((ms_nk (by decide)).trans ms_eq), (ms_na (by omega)).trans ms_eq⟩
      · rw [if_neg hii]
        have := h2 i (by omega)
        exact ⟨(ms_na (by omega)).trans ((ms_na (by omega)).trans ((ms_na (by omega)).trans this.1)), (ms_na (by omega)).trans ((ms_na (by omega)).trans ((ms_na (by omega)).trans this.2))⟩
  · cases st with
    | inl p => exact absurd ((TM_0 ht).mpr ⟨p, rfl⟩) h0
    | inr f => exact k M hX ⟨FrN.rf, ht, trivial, rfl⟩
theorem g181 {op : Int} (hK : K.1 = 923) (hX : FX M) (h : TM B n M st ∧ AtM M st ∧ ∀ p, st = .inl p → M 440 8 = op ∧ 0 ≤ op ∧ op ≤ 6) (k : ∀ M', FX M' → (FrO M M' ∧ TM B n M' (tOpen op st) ∧ (∀ o, CMo M o → CMo M' o) ∧ ((st.isLeft = true ∧ op ≠ 6) → M' 440 8 = op + 1 ∧ AtM M' st)) → Q (.inl (some (vI (bI (st.isLeft = true ∧ op ≠ 6))))) M' K) : Wm (d + 1) 181 [vR 440] M K Q := by
  obtain ⟨ht, hat, hb⟩ := h
  refine u181_0 hK hX ⟨fun h0 => ?_, fun h0 => ?_⟩
  · cases st with
    | inl p => exact absurd ((TM_0 ht).mpr ⟨p, rfl⟩) h0
    | inr f =>
      have := k M hX ⟨fun _ _ _ => rfl, ht, fun _ h => h, fun h => by cases h.1⟩
      rwa [bI_f (by rintro ⟨h, -⟩; cases h)] at this
  · obtain ⟨p, rfl⟩ := (TM_0 ht).mp h0
    obtain ⟨h8, h8a, h8b⟩ := hb p rfl
    have hat : M 440 4 = (p : Int) := hat
    refine ⟨fun hne => ?_, fun he => ⟨B, n, _, ⟨ht, by decide⟩, fun M1 x1 p1 => ⟨fun h1 => ?_, fun h1 => ?_⟩⟩⟩
    · have hop : op ≠ 6 := by omega
      rw [h8, w32_id (by omega)]
      have hf : FrO M (mset M 440 8 (op + 1)) := by
        intro a k' h3
        simp only [mset]
        rw [if_neg (by omega)]
      have e : ∀ k', k' ≠ 8 → mset M 440 8 (op + 1) 440 k' = M 440 k' := fun k' hk => ms_nk hk
      have := k _ (hX.set (by decide +kernel)) ⟨hf, ?_, ?_, fun _ => ⟨ms_eq, (e 4 (by decide)).trans hat⟩⟩
      · rwa [bI_t ⟨rfl, hop⟩] at this
      · simp only [tOpen]; rw [if_neg hop]
        obtain ⟨⟨a1, a2, a3⟩, a, h4, h5, h6⟩ := ht
        exact ⟨⟨(e 2 (by decide)).trans a1, a2, fun i hi => (ms_na (by decide)).trans (a3 i hi)⟩, a, (e 4 (by decide)).trans h4, h5, (e 5 (by decide)).trans h6.1, h6.2⟩
      · intro o ho
        cases o with
        | none => trivial
        | some L => exact ⟨(e 22 (by decide)).trans ho.1, fun i hi => ⟨(ms_na (by omega)).trans (ho.2 i hi).1, (ms_na (by omega)).trans (ho.2 i hi).2⟩⟩
    · have hop : op = 6 := by omega
      have t1 := p1.2.1
      rw [hat] at t1
      have := k M1 x1 ⟨p1.1.O, by simp only [tOpen]; rw [if_pos hop]; exact t1, fun o ho => ho.m p1.1, fun h => absurd hop h.2⟩
      rwa [bI_f (fun h => h.2 hop)] at this
    · obtain ⟨p', hp'⟩ := (TM_0 p1.2.1).mp h1
      simp only [tFail] at hp'; cases hp'
theorem g184 (hK : K.1 = 923) (hX : FX M) (h : TM B n M st) (k : ∀ M', FX M' → (FrM M M' ∧ TM B n M' (if kwn B n st = -1 then st else tWord B n st)) → Q (.inl (some (vI (kwn B n st)))) M' K) : Wm (d + 5) 184 [vR 440] M K Q := by
  have hW : ∀ s, isWd B n st s = true → ∃ p, st = .inl p ∧ wdL B p (sp isS B n p) = wL s := by
    intro s hs
    cases st with
    | inl p => exact ⟨p, rfl, by simpa [isWd] using hs⟩
    | inr f => cases hs
  have hN : ∀ s p, st = .inl p → ¬ isWd B n st s = true → ¬ wdL B p (sp isS B n p) = wL s := by
    intro s p hp hs hw
    subst hp
    exact hs (by simp [isWd, hw])
  have hT : ∀ s M', TM B n M' (tTakes B n st s) → ¬ isWd B n st s = true → TM B n M' st := by
    intro s M' ht hs
    unfold tTakes at ht; rwa [if_neg hs] at ht
  have hT2 : ∀ s M', TM B n M' (tTakes B n st s) → isWd B n st s = true → TM B n M' (tWord B n st) := by
    intro s M' ht hs
    unfold tTakes at ht; rwa [if_pos hs] at ht
  refine u184_0 hK hX ⟨B, n, st, 10, ⟨h, by decide +kernel⟩, fun M1 x1 p1 => ⟨fun n0 => ⟨B, n, st, 11, ⟨hT 10 M1 p1.2.1 n0, by decide +kernel⟩, fun M2 x2 p2 => ⟨fun n1 => ⟨B, n, st, 12, ⟨hT 11 M2 p2.2.1 n1, by decide +kernel⟩, fun M3 x3 p3 => ⟨fun n2 => ⟨B, n, st, 13, ⟨hT 12 M3 p3.2.1 n2, by decide +kernel⟩, fun M4 x4 p4 => ⟨fun n3 => ⟨B, n, st, 14, ⟨hT 13 M4 p4.2.1 n3, by decide +kernel⟩, fun M5 x5 p5 => ⟨fun n4 => ⟨B, n, st, 15, ⟨hT 14 M5 p5.2.1 n4, by decide +kernel⟩, fun M6 x6 p6 => ⟨fun n5 => ⟨B, n, st, 16, ⟨hT 15 M6 p6.2.1 n5, by decide +kernel⟩, fun M7 x7 p7 => ⟨fun n6 => ⟨B, n, st, 17, ⟨hT 16 M7 p7.2.1 n6, by decide +kernel⟩, fun M8 x8 p8 => ⟨fun n7 => ?_, fun y7 => ?_⟩⟩, fun y6 => ?_⟩⟩, fun y5 => ?_⟩⟩, fun y4 => ?_⟩⟩, fun y3 => ?_⟩⟩, fun y2 => ?_⟩⟩, fun y1 => ?_⟩⟩, fun y0 => ?_⟩⟩
  · have e : kwn B n st = -1 := by
      cases st with
      | inr f => rfl
      | inl p => simp only [kwn, nmOf]; rw [if_neg (hN 10 p rfl n0), if_neg (hN 11 p rfl n1), if_neg (hN 12 p rfl n2), if_neg (hN 13 p rfl n3), if_neg (hN 14 p rfl n4), if_neg (hN 15 p rfl n5), if_neg (hN 16 p rfl n6), if_neg (hN 17 p rfl n7)]
    have := k M8 x8 ⟨(((((((p1.1).tr p2.1).tr p3.1).tr p4.1).tr p5.1).tr p6.1).tr p7.1).tr p8.1, by rw [if_pos e]; exact hT 17 M8 p8.2.1 n7⟩
    rwa [e] at this
  · have e : kwn B n st = 7 := by
      obtain ⟨p, rfl, hw⟩ := hW 17 y7
      simp only [kwn, nmOf]; rw [if_neg (hN 10 p rfl n0), if_neg (hN 11 p rfl n1), if_neg (hN 12 p rfl n2), if_neg (hN 13 p rfl n3), if_neg (hN 14 p rfl n4), if_neg (hN 15 p rfl n5), if_neg (hN 16 p rfl n6), if_pos hw]; rfl
    have := k M8 x8 ⟨(((((((p1.1).tr p2.1).tr p3.1).tr p4.1).tr p5.1).tr p6.1).tr p7.1).tr p8.1, by rw [if_neg (by rw [e]; decide)]; exact hT2 17 M8 p8.2.1 y7⟩
    rwa [e] at this
  · have e : kwn B n st = 6 := by
      obtain ⟨p, rfl, hw⟩ := hW 16 y6
      simp only [kwn, nmOf]; rw [if_neg (hN 10 p rfl n0), if_neg (hN 11 p rfl n1), if_neg (hN 12 p rfl n2), if_neg (hN 13 p rfl n3), if_neg (hN 14 p rfl n4), if_neg (hN 15 p rfl n5), if_pos hw]; rfl
    have := k M7 x7 ⟨((((((p1.1).tr p2.1).tr p3.1).tr p4.1).tr p5.1).tr p6.1).tr p7.1, by rw [if_neg (by rw [e]; decide)]; exact hT2 16 M7 p7.2.1 y6⟩
    rwa [e] at this
  · have e : kwn B n st = 5 := by
      obtain ⟨p, rfl, hw⟩ := hW 15 y5
      simp only [kwn, nmOf]; rw [if_neg (hN 10 p rfl n0), if_neg (hN 11 p rfl n1), if_neg (hN 12 p rfl n2), if_neg (hN 13 p rfl n3), if_neg (hN 14 p rfl n4), if_pos hw]; rfl
    have := k M6 x6 ⟨(((((p1.1).tr p2.1).tr p3.1).tr p4.1).tr p5.1).tr p6.1, by rw [if_neg (by rw [e]; decide)]; exact hT2 15 M6 p6.2.1 y5⟩
    rwa [e] at this
  · have e : kwn B n st = 4 := by
      obtain ⟨p, rfl, hw⟩ := hW 14 y4
      simp only [kwn, nmOf]; rw [if_neg (hN 10 p rfl n0), if_neg (hN 11 p rfl n1), if_neg (hN 12 p rfl n2), if_neg (hN 13 p rfl n3), if_pos hw]; rfl
    have := k M5 x5 ⟨((((p1.1).tr p2.1).tr p3.1).tr p4.1).tr p5.1, by rw [if_neg (by rw [e]; decide)]; exact hT2 14 M5 p5.2.1 y4⟩
    rwa [e] at this
  · have e : kwn B n st = 3 := by
      obtain ⟨p, rfl, hw⟩ := hW 13 y3
      simp only [kwn, nmOf]; rw [if_neg (hN 10 p rfl n0), if_neg (hN 11 p rfl n1), if_neg (hN 12 p rfl n2), if_pos hw]; rfl
    have := k M4 x4 ⟨(((p1.1).tr p2.1).tr p3.1).tr p4.1, by rw [if_neg (by rw [e]; decide)]; exact hT2 13 M4 p4.2.1 y3⟩
    rwa [e] at this
  · have e : kwn B n st = 2 := by
      obtain ⟨p, rfl, hw⟩ := hW 12 y2
      simp only [kwn, nmOf]; rw [if_neg (hN 10 p rfl n0), if_neg (hN 11 p rfl n1), if_pos hw]; rfl
    have := k M3 x3 ⟨((p1.1).tr p2.1).tr p3.1, by rw [if_neg (by rw [e]; decide)]; exact hT2 12 M3 p3.2.1 y2⟩
    rwa [e] at this
  · have e : kwn B n st = 1 := by
      obtain ⟨p, rfl, hw⟩ := hW 11 y1
      simp only [kwn, nmOf]; rw [if_neg (hN 10 p rfl n0), if_pos hw]; rfl
    have := k M2 x2 ⟨(p1.1).tr p2.1, by rw [if_neg (by rw [e]; decide)]; exact hT2 11 M2 p2.2.1 y1⟩
    rwa [e] at this
  · have e : kwn B n st = 0 := by
      obtain ⟨p, rfl, hw⟩ := hW 10 y0
      simp only [kwn, nmOf]; rw [if_pos hw]
    have := k M1 x1 ⟨p1.1, by rw [if_neg (by rw [e]; decide)]; exact hT2 10 M1 p1.2.1 y0⟩
    rwa [e] at this
end NA
theorem u182_0 {d : Nat}  {M : Mem} {K : KK} {Q : RR → Mem → KK → Prop} (hK : K.1 = 923) (hX : FX M)  (h : Wm (d + 2) 183 [vR 440] M K (Bk (d + 2) 182 1 4 183 [vR 440, vU] [] Q)) : Wp (d + 3) 182 0 [vR 440, vU] [] M K Q := by
  refine r_aload_n c182_0 rfl ?_
  exact r_call c182_1 rfl rfl (Nat.le_of_ble_eq_true rfl) (okc_r rfl rfl (oK hK o440)) h
theorem u182_4 {d : Nat} {l1 : PV} {M : Mem} {K : KK} {Q : RR → Mem → KK → Prop} (hK : K.1 = 923) (hX : FX M)  (h : (¬ (M 440 5) = (0 : Int) → Q (.inl none) M K) ∧ ((M 440 5) = (0 : Int) → ∃ B3 : BY, ∃ n4 : Nat, ∃ st5 : ST, (TM B3 n4 M st5 ∧ (43 : Int) ≠ -1) ∧ (∀ (M9 : Mem), FX M9 → (FrM M M9 ∧ TM B3 n4 M9 (tTake B3 n4 (43 : Int) st5)) → (¬ (pk B3 n4 st5 = (43 : Int)) → ∃ B12 : BY, ∃ n13 : Nat, ∃ st14 : ST, (TM B12 n13 M9 st14 ∧ (45 : Int) ≠ -1) ∧ (∀ (M18 : Mem), FX M18 → (FrM M9 M18 ∧ TM B12 n13 M18 (tTake B12 n13 (45 : Int) st14)) → (¬ (pk B12 n13 st14 = (45 : Int)) → Q (.inl none) M18 K) ∧ ((pk B12 n13 st14 = (45 : Int)) → Wm (d + 2) 183 [vR 440] M18 K (Bk (d + 2) 182 46 49 183 [vR 440, vI (3 : Int)] [] Q)))) ∧ ((pk B3 n4 st5 = (43 : Int)) → Wm (d + 2) 183 [vR 440] M9 K (Bk (d + 2) 182 46 49 183 [vR 440, vI (2 : Int)] [] Q))))) : Wp (d + 3) 182 4 [vR 440, l1] [] M K Q := by
  refine r_aload_n c182_4 rfl ?_
  refine r_getIe c182_5 (oK hK o440) rfl ?_
  refine r_ifP (P := ¬ (M 440 5) = (0 : Int)) c182_8 rfl (fun hc1 => ?_) (fun hc1 => ?_)
  · replace h := h.1 hc1
    exact r_ret c182_58 h
  · have hc2 := Classical.not_not.mp hc1
    replace h := h.2 hc2
    refine r_aload_n c182_11 rfl ?_
    refine r_bipush c182_12 ?_
    obtain ⟨B3, h⟩ := h
    obtain ⟨n4, h⟩ := h
    obtain ⟨st5, h⟩ := h
    obtain ⟨p6, h⟩ := h
    refine r_call c182_14 rfl rfl (Nat.le_of_ble_eq_true rfl) (okc_r rfl rfl (oK hK o440)) (g170 hK hX p6 (fun M9 x7 p8 => Bk_v ?_))
    replace h := h M9 x7 p8
    refine r_ifP (P := ¬ (pk B3 n4 st5 = (43 : Int))) c182_17 bI_eq (fun hc10 => ?_) (fun hc10 => ?_)
    · replace h := h.1 hc10
      refine r_aload_n c182_24 rfl ?_
      refine r_bipush c182_25 ?_
      obtain ⟨B12, h⟩ := h
      obtain ⟨n13, h⟩ := h
      obtain ⟨st14, h⟩ := h
      obtain ⟨p15, h⟩ := h
      refine r_call c182_27 rfl rfl (Nat.le_of_ble_eq_true rfl) (okc_r rfl rfl (oK hK o440)) (g170 hK x7 p15 (fun M18 x16 p17 => Bk_v ?_))
      replace h := h M18 x16 p17
      refine r_ifP (P := ¬ (pk B12 n13 st14 = (45 : Int))) c182_30 bI_eq (fun hc19 => ?_) (fun hc19 => ?_)
      · replace h := h.1 hc19
        refine r_iconst c182_37 ?_
        refine r_istore_n c182_38 (Nat.le_of_ble_eq_true rfl) ?_
        refine r_iload_n c182_39 rfl ?_
        refine r_iconst c182_40 ?_
        refine r_icmpP (P := ¬ (-1 : Int) = (-1 : Int)) c182_41 rfl (fun hc => absurd hc (by decide)) (fun hc => ?_)
        exact r_ret c182_44 h
      · have hc20 := Classical.not_not.mp hc19
        replace h := h.2 hc20
        refine r_iconst c182_33 ?_
        refine r_goto c182_34 ?_
        refine r_istore_n c182_38 (Nat.le_of_ble_eq_true rfl) ?_
        refine r_iload_n c182_39 rfl ?_
        refine r_iconst c182_40 ?_
        refine r_icmpP (P := ¬ (3 : Int) = (-1 : Int)) c182_41 rfl (fun hc => ?_) (fun hc => absurd (by decide) hc)
        refine r_aload_n c182_45 rfl ?_
        exact r_call c182_46 rfl rfl (Nat.le_of_ble_eq_true rfl) (okc_r rfl rfl (oK hK o440)) h
    · have hc11 := Classical.not_not.mp hc10
      replace h := h.2 hc11
      refine r_iconst c182_20 ?_
      refine r_goto c182_21 ?_
      refine r_istore_n c182_38 (Nat.le_of_ble_eq_true rfl) ?_
      refine r_iload_n c182_39 rfl ?_
      refine r_iconst c182_40 ?_
      refine r_icmpP (P := ¬ (2 : Int) = (-1 : Int)) c182_41 rfl (fun hc => ?_) (fun hc => absurd (by decide) hc)
      refine r_aload_n c182_45 rfl ?_
      exact r_call c182_46 rfl rfl (Nat.le_of_ble_eq_true rfl) (okc_r rfl rfl (oK hK o440)) h
theorem u182_49 {d : Nat} {l1 : Int} {M : Mem} {K : KK} {Q : RR → Mem → KK → Prop} (hK : K.1 = 923) (hX : FX M)  (h : ∃ B1 : BY, ∃ n2 : Nat, ∃ st3 : ST, ∃ L4 : LC, (TM B1 n2 M st3 ∧ CMo M (oo (st3, L4)) ∧ ∀ p, st3 = .inl p → L4.length < 160) ∧ (∀ (M8 : Mem), FX M8 → (FrN M M8 ∧ TM B1 n2 M8 st3 ∧ CMo M8 (oo (st3, L4 ++ [(l1, (0 : Int))])) ∧ M8 440 8 = M 440 8) → Wp (d + 3) 182 4 [vR 440, vI l1] [] M8 K Q)) : Wp (d + 3) 182 49 [vR 440, vI l1] [] M K Q := by
  refine r_aload_n c182_49 rfl ?_
  refine r_iload_n c182_50 rfl ?_
  refine r_iconst c182_51 ?_
  obtain ⟨B1, h⟩ := h
  obtain ⟨n2, h⟩ := h
  obtain ⟨st3, h⟩ := h
  obtain ⟨L4, h⟩ := h
  obtain ⟨p5, h⟩ := h
  refine r_call c182_52 rfl rfl (Nat.le_of_ble_eq_true rfl) (okc_r rfl rfl (oK hK o440)) (g180 hK hX p5 (fun M8 x6 p7 => Bk_n ?_))
  replace h := h M8 x6 p7
  refine r_goto c182_55 ?_
  exact h
theorem u183_0 {d : Nat}  {M : Mem} {K : KK} {Q : RR → Mem → KK → Prop} (hK : K.1 = 923) (hX : FX M)  (h : Wm (d + 2) 185 [vR 440] M K (Bk (d + 2) 183 1 4 185 [vR 440, vU] [] Q)) : Wp (d + 3) 183 0 [vR 440, vU] [] M K Q := by
  refine r_aload_n c183_0 rfl ?_
  exact r_call c183_1 rfl rfl (Nat.le_of_ble_eq_true rfl) (okc_r rfl rfl (oK hK o440)) h
theorem u183_4 {d : Nat} {l1 : PV} {M : Mem} {K : KK} {Q : RR → Mem → KK → Prop} (hK : K.1 = 923) (hX : FX M)  (h : (¬ (M 440 5) = (0 : Int) → Q (.inl none) M K) ∧ ((M 440 5) = (0 : Int) → ∃ B3 : BY, ∃ n4 : Nat, ∃ st5 : ST, (TM B3 n4 M st5 ∧ (42 : Int) ≠ -1) ∧ (∀ (M9 : Mem), FX M9 → (FrM M M9 ∧ TM B3 n4 M9 (tTake B3 n4 (42 : Int) st5)) → (¬ (pk B3 n4 st5 = (42 : Int)) → ∃ B12 : BY, ∃ n13 : Nat, ∃ st14 : ST, (TM B12 n13 M9 st14 ∧ (47 : Int) ≠ -1) ∧ (∀ (M18 : Mem), FX M18 → (FrM M9 M18 ∧ TM B12 n13 M18 (tTake B12 n13 (47 : Int) st14)) → (¬ (pk B12 n13 st14 = (47 : Int)) → ∃ B21 : BY, ∃ n22 : Nat, ∃ st23 : ST, (TM B21 n22 M18 st23 ∧ (37 : Int) ≠ -1) ∧ (∀ (M27 : Mem), FX M27 → (FrM M18 M27 ∧ TM B21 n22 M27 (tTake B21 n22 (37 : Int) st23)) → (¬ (pk B21 n22 st23 = (37 : Int)) → Q (.inl none) M27 K) ∧ ((pk B21 n22 st23 = (37 : Int)) → Wm (d + 2) 185 [vR 440] M27 K (Bk (d + 2) 183 60 63 185 [vR 440, vI (6 : Int)] [] Q)))) ∧ ((pk B12 n13 st14 = (47 : Int)) → Wm (d + 2) 185 [vR 440] M18 K (Bk (d + 2) 183 60 63 185 [vR 440, vI (5 : Int)] [] Q)))) ∧ ((pk B3 n4 st5 = (42 : Int)) → Wm (d + 2) 185 [vR 440] M9 K (Bk (d + 2) 183 60 63 185 [vR 440, vI (4 : Int)] [] Q))))) : Wp (d + 3) 183 4 [vR 440, l1] [] M K Q := by
  refine r_aload_n c183_4 rfl ?_
  refine r_getIe c183_5 (oK hK o440) rfl ?_
  refine r_ifP (P := ¬ (M 440 5) = (0 : Int)) c183_8 rfl (fun hc1 => ?_) (fun hc1 => ?_)
  · replace h := h.1 hc1
    exact r_ret c183_72 h
  · have hc2 := Classical.not_not.mp hc1
    replace h := h.2 hc2
    refine r_aload_n c183_11 rfl ?_
    refine r_bipush c183_12 ?_
    obtain ⟨B3, h⟩ := h
    obtain ⟨n4, h⟩ := h
    obtain ⟨st5, h⟩ := h
    obtain ⟨p6, h⟩ := h
    refine r_call c183_14 rfl rfl (Nat.le_of_ble_eq_true rfl) (okc_r rfl rfl (oK hK o440)) (g170 hK hX p6 (fun M9 x7 p8 => Bk_v ?_))
    replace h := h M9 x7 p8
    refine r_ifP (P := ¬ (pk B3 n4 st5 = (42 : Int))) c183_17 bI_eq (fun hc10 => ?_) (fun hc10 => ?_)
    · replace h := h.1 hc10
      refine r_aload_n c183_24 rfl ?_
      refine r_bipush c183_25 ?_
      obtain ⟨B12, h⟩ := h
      obtain ⟨n13, h⟩ := h
      obtain ⟨st14, h⟩ := h
      obtain ⟨p15, h⟩ := h
      refine r_call c183_27 rfl rfl (Nat.le_of_ble_eq_true rfl) (okc_r rfl rfl (oK hK o440)) (g170 hK x7 p15 (fun M18 x16 p17 => Bk_v ?_))
      replace h := h M18 x16 p17
      refine r_ifP (P := ¬ (pk B12 n13 st14 = (47 : Int))) c183_30 bI_eq (fun hc19 => ?_) (fun hc19 => ?_)
      · replace h := h.1 hc19
        refine r_aload_n c183_37 rfl ?_
        refine r_bipush c183_38 ?_
        obtain ⟨B21, h⟩ := h
        obtain ⟨n22, h⟩ := h
        obtain ⟨st23, h⟩ := h
        obtain ⟨p24, h⟩ := h
        refine r_call c183_40 rfl rfl (Nat.le_of_ble_eq_true rfl) (okc_r rfl rfl (oK hK o440)) (g170 hK x16 p24 (fun M27 x25 p26 => Bk_v ?_))
        replace h := h M27 x25 p26
        refine r_ifP (P := ¬ (pk B21 n22 st23 = (37 : Int))) c183_43 bI_eq (fun hc28 => ?_) (fun hc28 => ?_)
        · replace h := h.1 hc28
          refine r_iconst c183_51 ?_
          refine r_istore_n c183_52 (Nat.le_of_ble_eq_true rfl) ?_
          refine r_iload_n c183_53 rfl ?_
          refine r_iconst c183_54 ?_
          refine r_icmpP (P := ¬ (-1 : Int) = (-1 : Int)) c183_55 rfl (fun hc => absurd hc (by decide)) (fun hc => ?_)
          exact r_ret c183_58 h
        · have hc29 := Classical.not_not.mp hc28
          replace h := h.2 hc29
          refine r_bipush c183_46 ?_
          refine r_goto c183_48 ?_
          refine r_istore_n c183_52 (Nat.le_of_ble_eq_true rfl) ?_
          refine r_iload_n c183_53 rfl ?_
          refine r_iconst c183_54 ?_
          refine r_icmpP (P := ¬ (6 : Int) = (-1 : Int)) c183_55 rfl (fun hc => ?_) (fun hc => absurd (by decide) hc)
          refine r_aload_n c183_59 rfl ?_
          exact r_call c183_60 rfl rfl (Nat.le_of_ble_eq_true rfl) (okc_r rfl rfl (oK hK o440)) h
      · have hc20 := Classical.not_not.mp hc19
        replace h := h.2 hc20
        refine r_iconst c183_33 ?_
        refine r_goto c183_34 ?_
        refine r_istore_n c183_52 (Nat.le_of_ble_eq_true rfl) ?_
        refine r_iload_n c183_53 rfl ?_
        refine r_iconst c183_54 ?_
        refine r_icmpP (P := ¬ (5 : Int) = (-1 : Int)) c183_55 rfl (fun hc => ?_) (fun hc => absurd (by decide) hc)
        refine r_aload_n c183_59 rfl ?_
        exact r_call c183_60 rfl rfl (Nat.le_of_ble_eq_true rfl) (okc_r rfl rfl (oK hK o440)) h
    · have hc11 := Classical.not_not.mp hc10
      replace h := h.2 hc11
      refine r_iconst c183_20 ?_
      refine r_goto c183_21 ?_
      refine r_istore_n c183_52 (Nat.le_of_ble_eq_true rfl) ?_
      refine r_iload_n c183_53 rfl ?_
      refine r_iconst c183_54 ?_
      refine r_icmpP (P := ¬ (4 : Int) = (-1 : Int)) c183_55 rfl (fun hc => ?_) (fun hc => absurd (by decide) hc)
      refine r_aload_n c183_59 rfl ?_
      exact r_call c183_60 rfl rfl (Nat.le_of_ble_eq_true rfl) (okc_r rfl rfl (oK hK o440)) h
theorem u183_63 {d : Nat} {l1 : Int} {M : Mem} {K : KK} {Q : RR → Mem → KK → Prop} (hK : K.1 = 923) (hX : FX M)  (h : ∃ B1 : BY, ∃ n2 : Nat, ∃ st3 : ST, ∃ L4 : LC, (TM B1 n2 M st3 ∧ CMo M (oo (st3, L4)) ∧ ∀ p, st3 = .inl p → L4.length < 160) ∧ (∀ (M8 : Mem), FX M8 → (FrN M M8 ∧ TM B1 n2 M8 st3 ∧ CMo M8 (oo (st3, L4 ++ [(l1, (0 : Int))])) ∧ M8 440 8 = M 440 8) → Wp (d + 3) 183 4 [vR 440, vI l1] [] M8 K Q)) : Wp (d + 3) 183 63 [vR 440, vI l1] [] M K Q := by
  refine r_aload_n c183_63 rfl ?_
  refine r_iload_n c183_64 rfl ?_
  refine r_iconst c183_65 ?_
  obtain ⟨B1, h⟩ := h
  obtain ⟨n2, h⟩ := h
  obtain ⟨st3, h⟩ := h
  obtain ⟨L4, h⟩ := h
  obtain ⟨p5, h⟩ := h
  refine r_call c183_66 rfl rfl (Nat.le_of_ble_eq_true rfl) (okc_r rfl rfl (oK hK o440)) (g180 hK hX p5 (fun M8 x6 p7 => Bk_n ?_))
  replace h := h M8 x6 p7
  refine r_goto c183_69 ?_
  exact h
theorem u185_0 {d : Nat}  {M : Mem} {K : KK} {Q : RR → Mem → KK → Prop} (hK : K.1 = 923) (hX : FX M)  (h : ((M 440 5) = (0 : Int) → ∃ B2 : BY, ∃ n3 : Nat, ∃ st4 : ST, TM B2 n3 M st4 ∧ (∀ (M8 : Mem), FX M8 → (FrM M M8 ∧ TM B2 n3 M8 st4 ∧ AtM M8 st4) → ∃ B9 : BY, ∃ n10 : Nat, ∃ st11 : ST, ∃ s12 : Nat, (TM B9 n10 M8 st11 ∧ WC (12 : Int) (5 : Int) (1 : Int) (19 : Int) (20 : Int) (0 : Int) s12) ∧ (∀ (M16 : Mem), FX M16 → (FrM M8 M16 ∧ TM B9 n10 M16 st11 ∧ AtM M16 st11) → (¬ (isWd B9 n10 st11 s12 = true) → ∃ B19 : BY, ∃ n20 : Nat, ∃ st21 : ST, ∃ s22 : Nat, (TM B19 n20 M16 st21 ∧ WC (13 : Int) (15 : Int) (19 : Int) (20 : Int) (0 : Int) (0 : Int) s22) ∧ (∀ (M26 : Mem), FX M26 → (FrM M16 M26 ∧ TM B19 n20 M26 st21 ∧ AtM M26 st21) → (¬ (isWd B19 n20 st21 s22 = true) → Wp (d + 6) 185 56 [vR 440, vU, vU] [vI (-1 : Int)] M26 K Q) ∧ ((isWd B19 n20 st21 s22 = true) → Wp (d + 6) 185 56 [vR 440, vU, vU] [vI (8 : Int)] M26 K Q))) ∧ ((isWd B9 n10 st11 s12 = true) → Wp (d + 6) 185 56 [vR 440, vU, vU] [vI (7 : Int)] M16 K Q)))) ∧ (¬ ((M 440 5) = (0 : Int)) → Q (.inl none) M K)) : Wp (d + 6) 185 0 [vR 440, vU, vU] [] M K Q := by
  refine r_aload_n c185_0 rfl ?_
  refine r_getIe c185_1 (oK hK o440) rfl ?_
  refine r_ifP (P := (M 440 5) = (0 : Int)) c185_4 rfl (fun hc1 => ?_) (fun hc1 => ?_)
  · replace h := h.1 hc1
    refine r_aload_n c185_8 rfl ?_
    obtain ⟨B2, h⟩ := h
    obtain ⟨n3, h⟩ := h
    obtain ⟨st4, h⟩ := h
    obtain ⟨p5, h⟩ := h
    refine r_call c185_9 rfl rfl (Nat.le_of_ble_eq_true rfl) (okc_r rfl rfl (oK hK o440)) (g159 hK hX p5 (fun M8 x6 p7 => Bk_n ?_))
    replace h := h M8 x6 p7
    refine r_aload_n c185_12 rfl ?_
    refine r_bipush c185_13 ?_
    refine r_iconst c185_15 ?_
    refine r_iconst c185_16 ?_
    refine r_bipush c185_17 ?_
    refine r_bipush c185_19 ?_
    refine r_iconst c185_21 ?_
    obtain ⟨B9, h⟩ := h
    obtain ⟨n10, h⟩ := h
    obtain ⟨st11, h⟩ := h
    obtain ⟨s12, h⟩ := h
    obtain ⟨p13, h⟩ := h
    refine r_call c185_22 rfl rfl (Nat.le_of_ble_eq_true rfl) (okc_r rfl rfl (oK hK o440)) (g166 hK x6 p13 (fun M16 x14 p15 => Bk_v ?_))
    replace h := h M16 x14 p15
    refine r_ifP (P := ¬ (isWd B9 n10 st11 s12 = true)) c185_25 bI_eq (fun hc17 => ?_) (fun hc17 => ?_)
    · replace h := h.1 hc17
      refine r_aload_n c185_33 rfl ?_
      refine r_bipush c185_34 ?_
      refine r_bipush c185_36 ?_
      refine r_bipush c185_38 ?_
      refine r_bipush c185_40 ?_
      refine r_iconst c185_42 ?_
      refine r_iconst c185_43 ?_
      obtain ⟨B19, h⟩ := h
      obtain ⟨n20, h⟩ := h
      obtain ⟨st21, h⟩ := h
      obtain ⟨s22, h⟩ := h
      obtain ⟨p23, h⟩ := h
      refine r_call c185_44 rfl rfl (Nat.le_of_ble_eq_true rfl) (okc_r rfl rfl (oK hK o440)) (g166 hK x14 p23 (fun M26 x24 p25 => Bk_v ?_))
      replace h := h M26 x24 p25
      refine r_ifP (P := ¬ (isWd B19 n20 st21 s22 = true)) c185_47 bI_eq (fun hc27 => ?_) (fun hc27 => ?_)
      · replace h := h.1 hc27
        refine r_iconst c185_55 ?_
        exact h
      · have hc28 := Classical.not_not.mp hc27
        replace h := h.2 hc28
        refine r_bipush c185_50 ?_
        refine r_goto c185_52 ?_
        exact h
    · have hc18 := Classical.not_not.mp hc17
      replace h := h.2 hc18
      refine r_bipush c185_28 ?_
      refine r_goto c185_30 ?_
      exact h
  · replace h := h.2 hc1
    exact r_ret c185_7 h
theorem u185_56 {d : Nat} {t0 : Int} {M : Mem} {K : KK} {Q : RR → Mem → KK → Prop} (hK : K.1 = 923) (hX : FX M)  (h : (t0 = (-1 : Int) → ∃ B2 : BY, ∃ n3 : Nat, (SB B2 n3 M ∧ 0 ≤ (M 440 4)) ∧ (¬ (bt B2 n3 (M 440 4)) = (40 : Int) → ∃ B7 : BY, ∃ n8 : Nat, ∃ st9 : ST, TM B7 n8 M st9 ∧ (∀ (M13 : Mem), FX M13 → (FrM M M13 ∧ TM B7 n8 M13 (if kwn B7 n8 st9 = -1 then st9 else tWord B7 n8 st9)) → ((kwn B7 n8 st9) = (-1 : Int) → ∃ B15 : BY, ∃ n16 : Nat, ∃ st17 : ST, TM B15 n16 M13 st17 ∧ (∀ (M21 : Mem), FX M21 → (FrM M13 M21 ∧ TM B15 n16 M21 (tNum B15 n16 (0 : Int) (999 : Int) st17).2) → ∃ B22 : BY, ∃ n23 : Nat, ∃ st24 : ST, ∃ L25 : LC, (TM B22 n23 M21 st24 ∧ CMo M21 (oo (st24, L25)) ∧ ∀ p, st24 = .inl p → L25.length < 160) ∧ (∀ (M29 : Mem), FX M29 → (FrN M21 M29 ∧ TM B22 n23 M29 st24 ∧ CMo M29 (oo (st24, L25 ++ [((0 : Int), (okv (tNum B15 n16 (0 : Int) (999 : Int) st17)))])) ∧ M29 440 8 = M21 440 8) → Q (.inl none) M29 K))) ∧ (¬ ((kwn B7 n8 st9) = (-1 : Int)) → ∃ B30 : BY, ∃ n31 : Nat, ∃ st32 : ST, ∃ L33 : LC, (TM B30 n31 M13 st32 ∧ CMo M13 (oo (st32, L33)) ∧ ∀ p, st32 = .inl p → L33.length < 160) ∧ (∀ (M37 : Mem), FX M37 → (FrN M13 M37 ∧ TM B30 n31 M37 st32 ∧ CMo M37 (oo (st32, L33 ++ [((1 : Int), (kwn B7 n8 st9))])) ∧ M37 440 8 = M13 440 8) → Q (.inl none) M37 K)))) ∧ ((bt B2 n3 (M 440 4)) = (40 : Int) → ∃ B38 : BY, ∃ n39 : Nat, ∃ st40 : ST, ∃ op41 : Int, (TM B38 n39 M st40 ∧ AtM M st40 ∧ ∀ p, st40 = .inl p → M 440 8 = op41 ∧ 0 ≤ op41 ∧ op41 ≤ 6) ∧ (∀ (M45 : Mem), FX M45 → (FrO M M45 ∧ TM B38 n39 M45 (tOpen op41 st40) ∧ (∀ o, CMo M o → CMo M45 o) ∧ ((st40.isLeft = true ∧ op41 ≠ 6) → M45 440 8 = op41 + 1 ∧ AtM M45 st40)) → ((st40.isLeft = true ∧ op41 ≠ 6) → Wm (d + 5) 182 [vR 440] (mset M45 440 4 (w32 ((M45 440 4) + (1 : Int)))) K (Bk (d + 5) 185 149 152 182 [vR 440, vI t0, vU] [] Q)) ∧ (¬ (st40.isLeft = true ∧ op41 ≠ 6) → Q (.inl none) M45 K)))) ∧ (¬ (t0 = (-1 : Int)) → ∃ B48 : BY, ∃ n49 : Nat, ∃ st50 : ST, ∃ op51 : Int, (TM B48 n49 M st50 ∧ AtM M st50 ∧ ∀ p, st50 = .inl p → M 440 8 = op51 ∧ 0 ≤ op51 ∧ op51 ≤ 6) ∧ (∀ (M55 : Mem), FX M55 → (FrO M M55 ∧ TM B48 n49 M55 (tOpen op51 st50) ∧ (∀ o, CMo M o → CMo M55 o) ∧ ((st50.isLeft = true ∧ op51 ≠ 6) → M55 440 8 = op51 + 1 ∧ AtM M55 st50)) → ((st50.isLeft = true ∧ op51 ≠ 6) → ∃ B57 : BY, ∃ n58 : Nat, ∃ st59 : ST, (TM B57 n58 M55 st59 ∧ AtM M55 st59) ∧ (∀ (M63 : Mem), FX M63 → (FrM M55 M63 ∧ TM B57 n58 M63 (tWord B57 n58 st59)) → ∃ B64 : BY, ∃ n65 : Nat, ∃ st66 : ST, (TM B64 n65 M63 st66 ∧ (91 : Int) ≠ -1) ∧ (∀ (M70 : Mem), FX M70 → (FrM M63 M70 ∧ TM B64 n65 M70 (tSign B64 n65 (91 : Int) st66)) → Wm (d + 5) 182 [vR 440] M70 K (Bk (d + 5) 185 81 84 182 [vR 440, vI t0, vU] [] Q)))) ∧ (¬ (st50.isLeft = true ∧ op51 ≠ 6) → Q (.inl none) M55 K)))) : Wp (d + 6) 185 56 [vR 440, vU, vU] [vI t0] M K Q := by
  refine r_istore_n c185_56 (Nat.le_of_ble_eq_true rfl) ?_
  refine r_iload_n c185_57 rfl ?_
  refine r_iconst c185_58 ?_
  refine r_icmpP (P := t0 = (-1 : Int)) c185_59 rfl (fun hc1 => ?_) (fun hc1 => ?_)
  · replace h := h.1 hc1
    refine r_aload_n c185_117 rfl ?_
    refine r_aload_n c185_118 rfl ?_
    refine r_getIe c185_119 (oK hK o440) rfl ?_
    obtain ⟨B2, h⟩ := h
    obtain ⟨n3, h⟩ := h
    obtain ⟨p4, h⟩ := h
    refine r_call c185_122 rfl rfl (Nat.le_of_ble_eq_true rfl) (okc_r rfl rfl (oK hK o440)) (g158 hK hX p4 (Bk_v ?_))
    refine r_bipush c185_125 ?_
    refine r_icmpP (P := ¬ (bt B2 n3 (M 440 4)) = (40 : Int)) c185_127 rfl (fun hc5 => ?_) (fun hc5 => ?_)
    · replace h := h.1 hc5
      refine r_aload_n c185_169 rfl ?_
      obtain ⟨B7, h⟩ := h
      obtain ⟨n8, h⟩ := h
      obtain ⟨st9, h⟩ := h
      obtain ⟨p10, h⟩ := h
      refine r_call c185_170 rfl rfl (Nat.le_of_ble_eq_true rfl) (okc_r rfl rfl (oK hK o440)) (g184 hK hX p10 (fun M13 x11 p12 => Bk_v ?_))
      replace h := h M13 x11 p12
      refine r_istore_n c185_173 (Nat.le_of_ble_eq_true rfl) ?_
      refine r_iload_n c185_174 rfl ?_
      refine r_iconst c185_175 ?_
      refine r_icmpP (P := (kwn B7 n8 st9) = (-1 : Int)) c185_176 rfl (fun hc14 => ?_) (fun hc14 => ?_)
      · replace h := h.1 hc14
        refine r_aload_n c185_188 rfl ?_
        refine r_iconst c185_189 ?_
        refine r_aload_n c185_190 rfl ?_
        refine r_iconst c185_191 ?_
        refine r_sipush c185_192 ?_
        obtain ⟨B15, h⟩ := h
        obtain ⟨n16, h⟩ := h
        obtain ⟨st17, h⟩ := h
        obtain ⟨p18, h⟩ := h
        refine r_call c185_195 rfl rfl (Nat.le_of_ble_eq_true rfl) (okc_r rfl rfl (oK hK o440)) (g163 hK x11 p18 (fun M21 x19 p20 => Bk_v ?_))
        replace h := h M21 x19 p20
        obtain ⟨B22, h⟩ := h
        obtain ⟨n23, h⟩ := h
        obtain ⟨st24, h⟩ := h
        obtain ⟨L25, h⟩ := h
        obtain ⟨p26, h⟩ := h
        refine r_call c185_198 rfl rfl (Nat.le_of_ble_eq_true rfl) (okc_r rfl rfl (oK hK o440)) (g180 hK x19 p26 (fun M29 x27 p28 => Bk_n ?_))
        replace h := h M29 x27 p28
        exact r_ret c185_201 h
      · replace h := h.2 hc14
        refine r_aload_n c185_179 rfl ?_
        refine r_iconst c185_180 ?_
        refine r_iload_n c185_181 rfl ?_
        obtain ⟨B30, h⟩ := h
        obtain ⟨n31, h⟩ := h
        obtain ⟨st32, h⟩ := h
        obtain ⟨L33, h⟩ := h
        obtain ⟨p34, h⟩ := h
        refine r_call c185_182 rfl rfl (Nat.le_of_ble_eq_true rfl) (okc_r rfl rfl (oK hK o440)) (g180 hK x11 p34 (fun M37 x35 p36 => Bk_n ?_))
        replace h := h M37 x35 p36
        refine r_goto c185_185 ?_
        exact r_ret c185_201 h
    · have hc6 := Classical.not_not.mp hc5
      replace h := h.2 hc6
      refine r_aload_n c185_130 rfl ?_
      obtain ⟨B38, h⟩ := h
      obtain ⟨n39, h⟩ := h
      obtain ⟨st40, h⟩ := h
      obtain ⟨op41, h⟩ := h
      obtain ⟨p42, h⟩ := h
      refine r_call c185_131 rfl rfl (Nat.le_of_ble_eq_true rfl) (okc_r rfl rfl (oK hK o440)) (g181 hK hX p42 (fun M45 x43 p44 => Bk_v ?_))
      replace h := h M45 x43 p44
      refine r_ifP (P := (st40.isLeft = true ∧ op41 ≠ 6)) c185_134 bI_ne (fun hc46 => ?_) (fun hc46 => ?_)
      · replace h := h.1 hc46
        refine r_aload_n c185_138 rfl ?_
        refine r_dupr c185_139 ?_
        refine r_getIe c185_140 (oK hK o440) rfl ?_
        refine r_iconst c185_143 ?_
        refine r_iadd c185_144 ?_
        refine r_putI c185_145 (oK hK o440) ?_
        have x47 := FX.set (v := (w32 ((M45 440 4) + (1 : Int)))) (a := 440) (k := 4) x43 (by decide +kernel)
        refine r_aload_n c185_148 rfl ?_
        exact r_call c185_149 rfl rfl (Nat.le_of_ble_eq_true rfl) (okc_r rfl rfl (oK hK o440)) h
      · replace h := h.2 hc46
        exact r_ret c185_137 h
  · replace h := h.2 hc1
    refine r_aload_n c185_62 rfl ?_
    obtain ⟨B48, h⟩ := h
    obtain ⟨n49, h⟩ := h
    obtain ⟨st50, h⟩ := h
    obtain ⟨op51, h⟩ := h
    obtain ⟨p52, h⟩ := h
    refine r_call c185_63 rfl rfl (Nat.le_of_ble_eq_true rfl) (okc_r rfl rfl (oK hK o440)) (g181 hK hX p52 (fun M55 x53 p54 => Bk_v ?_))
    replace h := h M55 x53 p54
    refine r_ifP (P := (st50.isLeft = true ∧ op51 ≠ 6)) c185_66 bI_ne (fun hc56 => ?_) (fun hc56 => ?_)
    · replace h := h.1 hc56
      refine r_aload_n c185_70 rfl ?_
      obtain ⟨B57, h⟩ := h
      obtain ⟨n58, h⟩ := h
      obtain ⟨st59, h⟩ := h
      obtain ⟨p60, h⟩ := h
      refine r_call c185_71 rfl rfl (Nat.le_of_ble_eq_true rfl) (okc_r rfl rfl (oK hK o440)) (g167 hK x53 p60 (fun M63 x61 p62 => Bk_n ?_))
      replace h := h M63 x61 p62
      refine r_aload_n c185_74 rfl ?_
      refine r_bipush c185_75 ?_
      obtain ⟨B64, h⟩ := h
      obtain ⟨n65, h⟩ := h
      obtain ⟨st66, h⟩ := h
      obtain ⟨p67, h⟩ := h
      refine r_call c185_77 rfl rfl (Nat.le_of_ble_eq_true rfl) (okc_r rfl rfl (oK hK o440)) (g169 hK x61 p67 (fun M70 x68 p69 => Bk_n ?_))
      replace h := h M70 x68 p69
      refine r_aload_n c185_80 rfl ?_
      exact r_call c185_81 rfl rfl (Nat.le_of_ble_eq_true rfl) (okc_r rfl rfl (oK hK o440)) h
    · replace h := h.2 hc56
      exact r_ret c185_69 h
theorem u185_84 {d : Nat} {l1 : Int} {M : Mem} {K : KK} {Q : RR → Mem → KK → Prop} (hK : K.1 = 923) (hX : FX M)  (h : ∃ B1 : BY, ∃ n2 : Nat, ∃ st3 : ST, (TM B1 n2 M st3 ∧ (44 : Int) ≠ -1) ∧ (∀ (M7 : Mem), FX M7 → (FrM M M7 ∧ TM B1 n2 M7 (tSign B1 n2 (44 : Int) st3)) → Wm (d + 5) 182 [vR 440] M7 K (Bk (d + 5) 185 91 94 182 [vR 440, vI l1, vU] [] Q))) : Wp (d + 6) 185 84 [vR 440, vI l1, vU] [] M K Q := by
  refine r_aload_n c185_84 rfl ?_
  refine r_bipush c185_85 ?_
  obtain ⟨B1, h⟩ := h
  obtain ⟨n2, h⟩ := h
  obtain ⟨st3, h⟩ := h
  obtain ⟨p4, h⟩ := h
  refine r_call c185_87 rfl rfl (Nat.le_of_ble_eq_true rfl) (okc_r rfl rfl (oK hK o440)) (g169 hK hX p4 (fun M7 x5 p6 => Bk_n ?_))
  replace h := h M7 x5 p6
  refine r_aload_n c185_90 rfl ?_
  exact r_call c185_91 rfl rfl (Nat.le_of_ble_eq_true rfl) (okc_r rfl rfl (oK hK o440)) h
theorem u185_94 {d : Nat} {l1 : Int} {M : Mem} {K : KK} {Q : RR → Mem → KK → Prop} (hK : K.1 = 923) (hX : FX M)  (h : ∃ B1 : BY, ∃ n2 : Nat, ∃ st3 : ST, (TM B1 n2 M st3 ∧ (93 : Int) ≠ -1) ∧ (∀ (M7 : Mem), FX M7 → (FrM M M7 ∧ TM B1 n2 M7 (tSign B1 n2 (93 : Int) st3)) → ∃ B8 : BY, ∃ n9 : Nat, ∃ st10 : ST, ∃ L11 : LC, (TM B8 n9 M7 st10 ∧ CMo M7 (oo (st10, L11)) ∧ ∀ p, st10 = .inl p → L11.length < 160) ∧ (∀ (M15 : Mem), FX M15 → (FrN M7 M15 ∧ TM B8 n9 M15 st10 ∧ CMo M15 (oo (st10, L11 ++ [(l1, (0 : Int))])) ∧ M15 440 8 = M7 440 8) → Q (.inl none) (mset M15 440 8 (w32 ((M15 440 8) - (1 : Int)))) K))) : Wp (d + 6) 185 94 [vR 440, vI l1, vU] [] M K Q := by
  refine r_aload_n c185_94 rfl ?_
  refine r_bipush c185_95 ?_
  obtain ⟨B1, h⟩ := h
  obtain ⟨n2, h⟩ := h
  obtain ⟨st3, h⟩ := h
  obtain ⟨p4, h⟩ := h
  refine r_call c185_97 rfl rfl (Nat.le_of_ble_eq_true rfl) (okc_r rfl rfl (oK hK o440)) (g169 hK hX p4 (fun M7 x5 p6 => Bk_n ?_))
  replace h := h M7 x5 p6
  refine r_aload_n c185_100 rfl ?_
  refine r_iload_n c185_101 rfl ?_
  refine r_iconst c185_102 ?_
  obtain ⟨B8, h⟩ := h
  obtain ⟨n9, h⟩ := h
  obtain ⟨st10, h⟩ := h
  obtain ⟨L11, h⟩ := h
  obtain ⟨p12, h⟩ := h
  refine r_call c185_103 rfl rfl (Nat.le_of_ble_eq_true rfl) (okc_r rfl rfl (oK hK o440)) (g180 hK x5 p12 (fun M15 x13 p14 => Bk_n ?_))
  replace h := h M15 x13 p14
  refine r_aload_n c185_106 rfl ?_
  refine r_dupr c185_107 ?_
  refine r_getIe c185_108 (oK hK o440) rfl ?_
  refine r_iconst c185_111 ?_
  refine r_isub c185_112 ?_
  refine r_putI c185_113 (oK hK o440) ?_
  have x16 := FX.set (v := (w32 ((M15 440 8) - (1 : Int)))) (a := 440) (k := 8) x13 (by decide +kernel)
  exact r_ret c185_116 h
theorem u185_152 {d : Nat} {l1 : Int} {M : Mem} {K : KK} {Q : RR → Mem → KK → Prop} (hK : K.1 = 923) (hX : FX M)  (h : ∃ B1 : BY, ∃ n2 : Nat, ∃ st3 : ST, (TM B1 n2 M st3 ∧ (41 : Int) ≠ -1) ∧ (∀ (M7 : Mem), FX M7 → (FrM M M7 ∧ TM B1 n2 M7 (tSign B1 n2 (41 : Int) st3)) → Q (.inl none) (mset M7 440 8 (w32 ((M7 440 8) - (1 : Int)))) K)) : Wp (d + 6) 185 152 [vR 440, vI l1, vU] [] M K Q := by
  refine r_aload_n c185_152 rfl ?_
  refine r_bipush c185_153 ?_
  obtain ⟨B1, h⟩ := h
  obtain ⟨n2, h⟩ := h
  obtain ⟨st3, h⟩ := h
  obtain ⟨p4, h⟩ := h
  refine r_call c185_155 rfl rfl (Nat.le_of_ble_eq_true rfl) (okc_r rfl rfl (oK hK o440)) (g169 hK hX p4 (fun M7 x5 p6 => Bk_n ?_))
  replace h := h M7 x5 p6
  refine r_aload_n c185_158 rfl ?_
  refine r_dupr c185_159 ?_
  refine r_getIe c185_160 (oK hK o440) rfl ?_
  refine r_iconst c185_163 ?_
  refine r_isub c185_164 ?_
  refine r_putI c185_165 (oK hK o440) ?_
  have x8 := FX.set (v := (w32 ((M7 440 8) - (1 : Int)))) (a := 440) (k := 8) x5 (by decide +kernel)
  exact r_ret c185_168 h
/-! codes that a reading adds -/
def VX (e : Nat) (F : XL → XL) : Prop := ∀ st L p', (F (st, L)).1 = .inl p' → ∃ seg, (F (st, L)).2 = L ++ seg ∧ Vd seg e 1
section VV
variable {B : BY} {n : Nat}
theorem KO_op {k : Int} (h : 2 ≤ k ∧ k ≤ 8) : KO (k, 0) := Or.inr (Or.inr h)
theorem Vd_op {k : Int} (h : 2 ≤ k ∧ k ≤ 8) : Vd [(k, 0)] 2 1 := by
  simp only [Vd]
  refine ⟨KO_op h, ?_⟩
  rw [if_neg (by omega)]
  exact ⟨by omega, trivial⟩
theorem FL1.ok {F : XL → XL} (h : FL1 F) {x : XL} {p : Nat} (hp : (F x).1 = .inl p) : ∃ q, x.1 = .inl q := by
  obtain ⟨st, L⟩ := x
  cases st with
  | inl q => exact ⟨q, rfl⟩
  | inr f => rw [h f L] at hp; cases hp
theorem sign_ok {c : Int} {st : ST} {p : Nat} (h : tSign B n c st = .inl p) : ∃ q, st = .inl q := by
  cases st with
  | inl q => exact ⟨q, rfl⟩
  | inr f => cases h
theorem VX_pair {S : XL → XL} (hS : VX 0 S) (hF1 : FL1 S) {k : Int} (hk : 2 ≤ k ∧ k ≤ 8) : VX 0 (pairF B n S k) := by
  intro st L p' hp
  simp only [pairF] at hp ⊢
  obtain ⟨q1, h1⟩ := sign_ok hp
  obtain ⟨s2, e2, v2⟩ := hS _ _ _ h1
  have hF : ∃ q, (S (tSign B n 91 st, L)).1 = .inl q := by
    cases hh : (S (tSign B n 91 st, L)).1 with
    | inl q => exact ⟨q, rfl⟩
    | inr f =>
      exfalso
      rw [hh] at h1
      have := hF1 f (S (tSign B n 91 st, L)).2
      simp only [tSign] at h1 this
      rw [this] at h1
      cases h1
  obtain ⟨q0, h0⟩ := hF
  obtain ⟨s1, e1, v1⟩ := hS _ _ _ h0
  refine ⟨s1 ++ s2 ++ [(k, 0)], ?_, ?_⟩
  · rw [e2, e1]; simp
  · have := v1.app (v2.up 1)
    exact this.app (Vd_op hk)
theorem VX_u {O : Option (XL → XL)} (hO : ∀ S, O = some S → VX 0 S ∧ FL1 S) : VX 0 (uF B n O) := by
  intro st L p' hp
  cases st with
  | inr f => cases hp
  | inl p =>
    simp only [uF] at hp ⊢
    split at hp
    · rename_i h1
      rw [if_pos h1]
      have hb : 0 ≤ (tNum B n 0 999 (.inl p)).1 ∧ (tNum B n 0 999 (.inl p)).1 ≤ 999 := by
        simp only [tNum]
        split
        · split
          · dsimp only; omega
          · dsimp only; omega
        · dsimp only; omega
      refine ⟨[(0, (tNum B n 0 999 (.inl p)).1)], rfl, ?_⟩
      simp only [Vd]
      exact ⟨Or.inl ⟨rfl, hb.1, hb.2⟩, by rw [if_pos (by decide)]; trivial⟩
    · rename_i h1
      rw [if_neg h1]
      split at hp
      · rename_i h2
        rw [if_pos h2]
        cases O with
        | none => cases hp
        | some S =>
          obtain ⟨q1, h1'⟩ := sign_ok hp
          obtain ⟨s1, e1, v1⟩ := (hO S rfl).1 _ _ _ h1'
          exact ⟨s1, e1, v1⟩
      · rename_i h2
        rw [if_neg h2]
        split at hp
        · rename_i h3
          rw [if_pos h3]
          have := nmOf_lt (w := wdL B p (sp isS B n p)) [10, 11, 12, 13, 14, 15, 16, 17] 0
          simp only [List.length_cons, List.length_nil] at this
          refine ⟨_, rfl, ?_⟩
          simp only [Vd]
          refine ⟨Or.inr (Or.inl ⟨rfl, ?_⟩), by rw [if_pos (by decide)]; trivial⟩
          rcases this with h | ⟨h4, h5, -⟩
          · exact absurd h h3
          · dsimp only; omega
        · rename_i h3
          rw [if_neg h3]
          split at hp
          · rename_i h4
            rw [if_pos h4]
            cases O with
            | none => cases hp
            | some S => exact VX_pair (hO S rfl).1 (hO S rfl).2 (by split <;> decide) _ _ _ hp
          · cases hp
theorem VX_prodL {U : XL → XL} (hU : VX 0 U) (hF : FL1 U) : ∀ f, VX 1 (prodL B n U f) := by
  intro f
  induction f with
  | zero => intro st L p' hp; exact ⟨[], by simp [prodL], rfl⟩
  | succ f ih =>
    intro st L p' hp
    simp only [prodL] at hp ⊢
    split at hp
    · rename_i h1
      rw [if_pos h1]
      obtain ⟨s2, e2, v2⟩ := ih _ _ _ hp
      obtain ⟨q, hq⟩ := (FL1_prodL (B := B) (n := n) (U := U) f).ok hp
      obtain ⟨s1, e1, v1⟩ := hU _ _ _ hq
      refine ⟨s1 ++ [((if pk B n st = 42 then 4 else if pk B n st = 47 then 5 else 6), 0)] ++ s2, ?_, ?_⟩
      · rw [e2, e1]; simp
      · exact ((v1.up 1).app (Vd_op (by split; decide; split <;> decide))).app v2
    · rename_i h1
      rw [if_neg h1]
      exact ⟨[], by simp, rfl⟩
theorem VX_sumL {U : XL → XL} (hU : VX 0 U) (hF : FL1 U) : ∀ f, VX 1 (sumL B n U f) := by
  intro f
  induction f with
  | zero => intro st L p' hp; exact ⟨[], by simp [sumL], rfl⟩
  | succ f ih =>
    intro st L p' hp
    simp only [sumL] at hp ⊢
    split at hp
    · rename_i h1
      rw [if_pos h1]
      obtain ⟨s2, e2, v2⟩ := ih _ _ _ hp
      obtain ⟨q, hq⟩ := (FL1_sumL (B := B) (n := n) (U := U) f).ok hp
      obtain ⟨s1, e1, v1⟩ := hU _ _ _ hq
      refine ⟨s1 ++ [((if pk B n st = 43 then 2 else 3), 0)] ++ s2, ?_, ?_⟩
      · rw [e2, e1]; simp
      · exact ((v1.up 1).app (Vd_op (by split <;> decide))).app v2
    · rename_i h1
      rw [if_neg h1]
      exact ⟨[], by simp, rfl⟩
theorem VX_prodF {U : XL → XL} (hU : VX 0 U) (hF : FL1 U) : VX 0 (fun x => prodL B n U 150 (U x)) := by
  intro st L p' hp
  obtain ⟨q, hq⟩ := (FL1_prodL (B := B) (n := n) (U := U) 150).ok hp
  obtain ⟨s1, e1, v1⟩ := hU _ _ _ hq
  obtain ⟨s2, e2, v2⟩ := VX_prodL (B := B) (n := n) hU hF 150 (U (st, L)).1 (U (st, L)).2 p' hp
  exact ⟨s1 ++ s2, by rw [show (fun x => prodL B n U 150 (U x)) (st, L) = prodL B n U 150 ((U (st, L)).1, (U (st, L)).2) from rfl, e2, e1]; simp, v1.app v2⟩
theorem VX_sumF {U : XL → XL} (hU : VX 0 U) (hF : FL1 U) : VX 0 (fun x => sumL B n U 150 (U x)) := by
  intro st L p' hp
  obtain ⟨q, hq⟩ := (FL1_sumL (B := B) (n := n) (U := U) 150).ok hp
  obtain ⟨s1, e1, v1⟩ := hU _ _ _ hq
  obtain ⟨s2, e2, v2⟩ := VX_sumL (B := B) (n := n) hU hF 150 (U (st, L)).1 (U (st, L)).2 p' hp
  exact ⟨s1 ++ s2, by rw [show (fun x => sumL B n U 150 (U x)) (st, L) = sumL B n U 150 ((U (st, L)).1, (U (st, L)).2) from rfl, e2, e1]; simp, v1.app v2⟩
theorem VX_pSm : ∀ r, VX 0 (pSm B n r) := by
  intro r
  induction r with
  | zero => exact VX_sumF (VX_prodF (VX_u (fun S h => by cases h)) FL1_u) (FL1_prodF FL1_u)
  | succ r ih => exact VX_sumF (VX_prodF (VX_u (fun S h => by cases h; exact ⟨ih, FL1_pSm r⟩)) FL1_u) (FL1_prodF FL1_u)
/-- the law as it is read, where it is right -/
theorem pLaw_ok {p : Nat} (h : (pLaw B n).1 = .inl p) : Vd (pLaw B n).2 0 1 := by
  simp only [pLaw] at h ⊢
  cases hh : (pSm B n 6 (.inl (sk B n 0), [])).1 with
  | inr f => rw [hh] at h; cases h
  | inl q =>
    obtain ⟨s, e, v⟩ := VX_pSm 6 _ _ _ hh
    rw [e]; exact v
end VV
/-! the model's sum, product and unit -/
theorem TM.fr {B : BY} {n : Nat} {M M' : Mem} {st : ST} (h : TM B n M st) (h1 : ∀ k, k ≠ 8 → M' 440 k = M 440 k) (h2 : ∀ i, M' 441 i = M 441 i) : TM B n M' st := by
  obtain ⟨⟨a1, a2, a3⟩, a, h4, h5, h6⟩ := h
  refine ⟨⟨(h1 2 (by decide)).trans a1, a2, fun i hi => (h2 i).trans (a3 i hi)⟩, a, (h1 4 (by decide)).trans h4, h5, ?_⟩
  cases st with
  | inl p => exact ⟨(h1 5 (by decide)).trans h6.1, h6.2⟩
  | inr f => exact ⟨(h1 5 (by decide)).trans h6.1, (h1 6 (by decide)).trans h6.2.1, h6.2.2⟩
theorem TM.w {B : BY} {n : Nat} {M : Mem} {st : ST} (h : TM B n M st) : STw B n st := by
  obtain ⟨h1, a, h4, h5, h6⟩ := h
  cases st with
  | inl p => rw [← h6.2]; exact sk_w h5
  | inr f => exact h6.2.2
/-- the model's open has changed, nothing else -/
theorem s8 {M : Mem} {v : Int} : FrN M (mset M 440 8 v) ∧ (∀ {B : BY} {n : Nat} {st : ST}, TM B n M st → TM B n (mset M 440 8 v) st) ∧ (∀ o, CMo M o → CMo (mset M 440 8 v) o) := by
  refine ⟨fun a k h3 h4 => by simp only [mset]; rw [if_neg (by omega)], fun ht => ht.fr (fun k hk => ms_nk hk) (fun i => ms_na (by decide)), fun o ho => ?_⟩
  cases o with
  | none => trivial
  | some L => exact ⟨(ms_nk (by decide)).trans ho.1, fun i hi => ⟨(ms_na (by omega)).trans (ho.2 i hi).1, (ms_na (by omega)).trans (ho.2 i hi).2⟩⟩
def OpO (M : Mem) (op : Int) (st : ST) : Prop := ∀ p, st = .inl p → M 440 8 = op
def CtM (B : BY) (n D m : Nat) (op : Int) (F : XL → XL) : Prop := ∀ (d : Nat) (M : Mem) (K : KK) (Q : RR → Mem → KK → Prop) (x : XL) (s : Nat), D ≤ d → K.1 = 923 → FX M → TM B n M x.1 → CMo M (oo x) → OpO M op x.1 → GL s x → (∀ M', FX M' → FrN M M' → TM B n M' (F x).1 → CMo M' (oo (F x)) → OpO M' op (F x).1 → Q (.inl none) M' K) → Wm d m [vR 440] M K Q
section MM
variable {B : BY} {n : Nat}
theorem OpO.m {M M' : Mem} {op : Int} {st st' : ST} (h : OpO M op st) (he : M' 440 8 = M 440 8) (hs : ∀ p, st' = .inl p → ∃ q, st = .inl q) : OpO M' op st' := fun p hp => by
  obtain ⟨q, hq⟩ := hs p hp
  exact he.trans (h q hq)
theorem CMo.d {y : XL} {M M' : Mem} {st' : ST} (hf : FrM M M') (h : CMo M (oo y)) (hs : ∀ f, y.1 = .inr f → st' = .inr f) : CMo M' (oo (st', y.2)) := by
  obtain ⟨y1, y2⟩ := y
  cases y1 with
  | inr f =>
    have := hs f rfl
    subst this
    trivial
  | inl p =>
    cases st' with
    | inl q => exact CMo.m (o := some y2) hf h
    | inr g => trivial
theorem len_b {st : ST} {L : LC} {s : Nat} (hn : n ≤ 150) (hw : STw B n st) (hg : GL s (st, L)) : ∀ p, st = .inl p → L.length < 160 := by
  intro p hp
  have := hg p hp
  subst hp
  have := hw.1
  dsimp only at *
  omega
theorem mprod_ok {U : XL → XL} {D : Nat} {op : Int} (hn : n ≤ 150) (hU : CtM B n D 185 op U) (hG : GX1 B n U) (hF : FL1 U) (hV : VX 0 U) : CtM B n (D + 3) 183 op (fun x => prodL B n U 150 (U x)) := by
  intro d M K Q x s hd hK hX ht hc ho hg kk
  obtain ⟨d, rfl⟩ : ∃ d', d = d' + 3 := ⟨d - 3, by omega⟩
  have loop : ∀ (f : Nat) (x : XL) (M1 : Mem) (l1 : PV), (∀ p, x.1 = .inl p → n ≤ p + f) → FX M1 → FrN M M1 → TM B n M1 x.1 → CMo M1 (oo x) → OpO M1 op x.1 → GL s x → (∀ M', FX M' → FrN M M' → TM B n M' (prodL B n U f x).1 → CMo M' (oo (prodL B n U f x)) → OpO M' op (prodL B n U f x).1 → Q (.inl none) M' K) → Wp (d + 3) 183 4 [vR 440, l1] [] M1 K Q := by
    intro f
    induction f with
    | zero =>
      rintro ⟨st, L⟩ M1 l1 hi x1 f1 t1 c1 o1 g1 k1
      dsimp only at t1 hi o1
      refine u183_4 hK x1 ⟨fun _ => k1 M1 x1 f1 t1 c1 o1, fun h0 => ?_⟩
      obtain ⟨p, rfl⟩ := (TM_0 t1).mp h0
      have hpk : pk B n (.inl p) = -1 := by simp only [pk]; rw [if_neg (by have := hi p rfl; omega)]
      have hT : ∀ c M', TM B n M' (tTake B n c (.inl p)) → c ≠ -1 → TM B n M' (.inl p) := by
        intro c M' h hc; unfold tTake at h; rwa [if_neg (by rw [hpk]; exact fun e => hc e.symm)] at h
      refine ⟨B, n, _, ⟨t1, by decide⟩, fun M2 x2 p2 => ⟨fun h1 => ⟨B, n, _, ⟨hT _ _ p2.2 (by decide), by decide⟩, fun M3 x3 p3 => ⟨fun h2 => ⟨B, n, _, ⟨hT _ _ p3.2 (by decide), by decide⟩, fun M4 x4 p4 => ⟨fun h3 => ?_, fun h3 => ?_⟩⟩, fun h2 => ?_⟩⟩, fun h1 => ?_⟩⟩
      · exact k1 M4 x4 (((f1.tr p2.1.N).tr p3.1.N).tr p4.1.N) (hT _ _ p4.2 (by decide)) (((c1.m p2.1).m p3.1).m p4.1) (o1.m ((p4.1 440 8 (by decide)).trans ((p3.1 440 8 (by decide)).trans (p2.1 440 8 (by decide)))) (fun p hp => ⟨p, hp⟩))
      · rw [hpk] at h3; exact absurd h3 (by decide)
      · rw [hpk] at h2; exact absurd h2 (by decide)
      · rw [hpk] at h1; exact absurd h1 (by decide)
    | succ f ih =>
      rintro ⟨st, L⟩ M1 l1 hi x1 f1 t1 c1 o1 g1 k1
      dsimp only at t1 hi o1
      simp only [prodL] at k1
      -- a sign is there
      have go : ∀ (c : Int) (M3 : Mem), FX M3 → FrM M1 M3 → TM B n M3 (tSkip B n st) → (pk B n st = 42 ∨ pk B n st = 47 ∨ pk B n st = 37) → (c = if pk B n st = 42 then 4 else if pk B n st = 47 then 5 else 6) → Wm (d + 2) 185 [vR 440] M3 K (Bk (d + 2) 183 60 63 185 [vR 440, vI c] [] Q) := by
        intro c M3 x3 f3 t3 hp hcc
        rw [if_pos hp] at k1
        have hne : pk B n st ≠ -1 := by omega
        have c3 : CMo M3 (oo (tSkip B n st, L)) := CMo.d (y := (st, L)) f3 c1 (fun f hf => by dsimp only at hf; subst hf; rfl)
        have g3 := g_skip hne g1
        have o3 : OpO M3 op (tSkip B n st) := o1.m (f3 440 8 (by decide)) (fun p hp => by
          cases st with
          | inl q => exact ⟨q, rfl⟩
          | inr f => cases hp)
        have gU := hG _ _ (w_skip t1.w) g3
        refine hU (d + 2) M3 K _ (tSkip B n st, L) (s + 1) (by omega) hK x3 t3 c3 o3 g3 (fun M4 x4 f4 t4 c4 o4 => Bk_n ?_)
        refine u183_63 hK x4 ⟨B, n, _, (U (tSkip B n st, L)).2, ⟨t4, c4, len_b hn gU.1 gU.2⟩, fun M5 x5 p5 => ?_⟩
        subst hcc
        refine ih ((U (tSkip B n st, L)).1, (U (tSkip B n st, L)).2 ++ [((if pk B n st = 42 then 4 else if pk B n st = 47 then 5 else 6), 0)]) M5 _ ?_ x5 ((f1.tr f3.N).tr (f4.tr p5.1)) p5.2.1 p5.2.2.1 (o4.m p5.2.2.2 (fun p hp => ⟨p, hp⟩)) gU.2.add k1
        -- further on
        intro p hp
        dsimp only at hp
        obtain ⟨q, hq⟩ := FL1.ok (x := (tSkip B n st, L)) hF hp
        cases st with
        | inr g => cases hq
        | inl q0 =>
          have h0 := hi q0 rfl
          have hlt : q0 < n := by
            simp only [pk] at hne
            by_cases hh : q0 < n
            · exact hh
            · rw [if_neg hh] at hne; exact absurd rfl hne
          have hl := g1 q0 rfl
          dsimp only at hl
          have g0 : GL (q0 - L.length) ((.inl q0 : ST), L) := by
            intro p hp; cases hp; dsimp only; omega
          have g9 := (hG _ _ (w_skip t1.w) (g_skip hne g0)).2 p hp
          obtain ⟨seg, e, -⟩ := hV _ _ _ hp
          rw [e, List.length_append] at g9
          omega
      refine u183_4 hK x1 ⟨fun h0 => ?_, fun h0 => ?_⟩
      · cases st with
        | inl p => exact absurd ((TM_0 t1).mpr ⟨p, rfl⟩) h0
        | inr g =>
          rw [if_neg (by simp [pk])] at k1
          exact k1 M1 x1 f1 t1 c1 o1
      · have hT : ∀ c M', TM B n M' (tTake B n c st) → ¬ pk B n st = c → TM B n M' st := by
          intro c M' h hc; unfold tTake at h; rwa [if_neg hc] at h
        have hT2 : ∀ c M', TM B n M' (tTake B n c st) → pk B n st = c → TM B n M' (tSkip B n st) := by
          intro c M' h hc; unfold tTake at h; rwa [if_pos hc] at h
        refine ⟨B, n, _, ⟨t1, by decide⟩, fun M2 x2 p2 => ⟨fun h1 => ⟨B, n, _, ⟨hT _ _ p2.2 h1, by decide⟩, fun M3 x3 p3 => ⟨fun h2 => ⟨B, n, _, ⟨hT _ _ p3.2 h2, by decide⟩, fun M4 x4 p4 => ⟨fun h3 => ?_, fun h3 => ?_⟩⟩, fun h2 => ?_⟩⟩, fun h1 => ?_⟩⟩
        · rw [if_neg (by rintro (h | h | h); exact h1 h; exact h2 h; exact h3 h)] at k1
          exact k1 M4 x4 (((f1.tr p2.1.N).tr p3.1.N).tr p4.1.N) (hT _ _ p4.2 h3) (((c1.m p2.1).m p3.1).m p4.1) (o1.m ((p4.1 440 8 (by decide)).trans ((p3.1 440 8 (by decide)).trans (p2.1 440 8 (by decide)))) (fun p hp => ⟨p, hp⟩))
        · exact go 6 M4 x4 ((p2.1.tr p3.1).tr p4.1) (hT2 _ _ p4.2 h3) (Or.inr (Or.inr h3)) (by rw [if_neg h1, if_neg h2])
        · exact go 5 M3 x3 (p2.1.tr p3.1) (hT2 _ _ p3.2 h2) (Or.inr (Or.inl h2)) (by rw [if_neg h1, if_pos h2])
        · exact go 4 M2 x2 p2.1 (hT2 _ _ p2.2 h1) (Or.inl h1) (by rw [if_pos h1])
  refine u183_0 hK hX (hU (d + 2) M K _ x s (by omega) hK hX ht hc ho hg (fun M1 x1 f1 t1 c1 o1 => Bk_n ?_))
  exact loop 150 (U x) M1 vU (fun p hp => by omega) x1 f1 t1 c1 o1 (hG x s ht.w hg).2 kk
theorem msum_ok {U : XL → XL} {D : Nat} {op : Int} (hn : n ≤ 150) (hU : CtM B n D 183 op U) (hG : GX1 B n U) (hF : FL1 U) (hV : VX 0 U) : CtM B n (D + 3) 182 op (fun x => sumL B n U 150 (U x)) := by
  intro d M K Q x s hd hK hX ht hc ho hg kk
  obtain ⟨d, rfl⟩ : ∃ d', d = d' + 3 := ⟨d - 3, by omega⟩
  have loop : ∀ (f : Nat) (x : XL) (M1 : Mem) (l1 : PV), (∀ p, x.1 = .inl p → n ≤ p + f) → FX M1 → FrN M M1 → TM B n M1 x.1 → CMo M1 (oo x) → OpO M1 op x.1 → GL s x → (∀ M', FX M' → FrN M M' → TM B n M' (sumL B n U f x).1 → CMo M' (oo (sumL B n U f x)) → OpO M' op (sumL B n U f x).1 → Q (.inl none) M' K) → Wp (d + 3) 182 4 [vR 440, l1] [] M1 K Q := by
    intro f
    induction f with
    | zero =>
      rintro ⟨st, L⟩ M1 l1 hi x1 f1 t1 c1 o1 g1 k1
      dsimp only at t1 hi o1
      refine u182_4 hK x1 ⟨fun _ => k1 M1 x1 f1 t1 c1 o1, fun h0 => ?_⟩
      obtain ⟨p, rfl⟩ := (TM_0 t1).mp h0
      have hpk : pk B n (.inl p) = -1 := by simp only [pk]; rw [if_neg (by have := hi p rfl; omega)]
      have hT : ∀ c M', TM B n M' (tTake B n c (.inl p)) → c ≠ -1 → TM B n M' (.inl p) := by
        intro c M' h hc; unfold tTake at h; rwa [if_neg (by rw [hpk]; exact fun e => hc e.symm)] at h
      refine ⟨B, n, _, ⟨t1, by decide⟩, fun M2 x2 p2 => ⟨fun h1 => ⟨B, n, _, ⟨hT _ _ p2.2 (by decide), by decide⟩, fun M3 x3 p3 => ⟨fun h2 => ?_, fun h2 => ?_⟩⟩, fun h1 => ?_⟩⟩
      · exact k1 M3 x3 ((f1.tr p2.1.N).tr p3.1.N) (hT _ _ p3.2 (by decide)) ((c1.m p2.1).m p3.1) (o1.m ((p3.1 440 8 (by decide)).trans (p2.1 440 8 (by decide))) (fun p hp => ⟨p, hp⟩))
      · rw [hpk] at h2; exact absurd h2 (by decide)
      · rw [hpk] at h1; exact absurd h1 (by decide)
    | succ f ih =>
      rintro ⟨st, L⟩ M1 l1 hi x1 f1 t1 c1 o1 g1 k1
      dsimp only at t1 hi o1
      simp only [sumL] at k1
      -- a sign is there
      have go : ∀ (c : Int) (M3 : Mem), FX M3 → FrM M1 M3 → TM B n M3 (tSkip B n st) → (pk B n st = 43 ∨ pk B n st = 45) → (c = if pk B n st = 43 then 2 else 3) → Wm (d + 2) 183 [vR 440] M3 K (Bk (d + 2) 182 46 49 183 [vR 440, vI c] [] Q) := by
        intro c M3 x3 f3 t3 hp hcc
        rw [if_pos hp] at k1
        have hne : pk B n st ≠ -1 := by omega
        have c3 : CMo M3 (oo (tSkip B n st, L)) := CMo.d (y := (st, L)) f3 c1 (fun f hf => by dsimp only at hf; subst hf; rfl)
        have g3 := g_skip hne g1
        have o3 : OpO M3 op (tSkip B n st) := o1.m (f3 440 8 (by decide)) (fun p hp => by
          cases st with
          | inl q => exact ⟨q, rfl⟩
          | inr f => cases hp)
        have gU := hG _ _ (w_skip t1.w) g3
        refine hU (d + 2) M3 K _ (tSkip B n st, L) (s + 1) (by omega) hK x3 t3 c3 o3 g3 (fun M4 x4 f4 t4 c4 o4 => Bk_n ?_)
        refine u182_49 hK x4 ⟨B, n, _, (U (tSkip B n st, L)).2, ⟨t4, c4, len_b hn gU.1 gU.2⟩, fun M5 x5 p5 => ?_⟩
        subst hcc
        refine ih ((U (tSkip B n st, L)).1, (U (tSkip B n st, L)).2 ++ [((if pk B n st = 43 then 2 else 3), 0)]) M5 _ ?_ x5 ((f1.tr f3.N).tr (f4.tr p5.1)) p5.2.1 p5.2.2.1 (o4.m p5.2.2.2 (fun p hp => ⟨p, hp⟩)) gU.2.add k1
        -- further on
        intro p hp
        dsimp only at hp
        obtain ⟨q, hq⟩ := FL1.ok (x := (tSkip B n st, L)) hF hp
        cases st with
        | inr g => cases hq
        | inl q0 =>
          have h0 := hi q0 rfl
          have hlt : q0 < n := by
            simp only [pk] at hne
            by_cases hh : q0 < n
            · exact hh
            · rw [if_neg hh] at hne; exact absurd rfl hne
          have hl := g1 q0 rfl
          dsimp only at hl
          have g0 : GL (q0 - L.length) ((.inl q0 : ST), L) := by
            intro p hp; cases hp; dsimp only; omega
          have g9 := (hG _ _ (w_skip t1.w) (g_skip hne g0)).2 p hp
          obtain ⟨seg, e, -⟩ := hV _ _ _ hp
          rw [e, List.length_append] at g9
          omega
      refine u182_4 hK x1 ⟨fun h0 => ?_, fun h0 => ?_⟩
      · cases st with
        | inl p => exact absurd ((TM_0 t1).mpr ⟨p, rfl⟩) h0
        | inr g =>
          rw [if_neg (by simp [pk])] at k1
          exact k1 M1 x1 f1 t1 c1 o1
      · have hT : ∀ c M', TM B n M' (tTake B n c st) → ¬ pk B n st = c → TM B n M' st := by
          intro c M' h hc; unfold tTake at h; rwa [if_neg hc] at h
        have hT2 : ∀ c M', TM B n M' (tTake B n c st) → pk B n st = c → TM B n M' (tSkip B n st) := by
          intro c M' h hc; unfold tTake at h; rwa [if_pos hc] at h
        refine ⟨B, n, _, ⟨t1, by decide⟩, fun M2 x2 p2 => ⟨fun h1 => ⟨B, n, _, ⟨hT _ _ p2.2 h1, by decide⟩, fun M3 x3 p3 => ⟨fun h2 => ?_, fun h2 => ?_⟩⟩, fun h1 => ?_⟩⟩
        · rw [if_neg (by rintro (h | h); exact h1 h; exact h2 h)] at k1
          exact k1 M3 x3 ((f1.tr p2.1.N).tr p3.1.N) (hT _ _ p3.2 h2) ((c1.m p2.1).m p3.1) (o1.m ((p3.1 440 8 (by decide)).trans (p2.1 440 8 (by decide))) (fun p hp => ⟨p, hp⟩))
        · exact go 3 M3 x3 (p2.1.tr p3.1) (hT2 _ _ p3.2 h2) (Or.inr h2) (by rw [if_neg h1])
        · exact go 2 M2 x2 p2.1 (hT2 _ _ p2.2 h1) (Or.inl h1) (by rw [if_pos h1])
  refine u182_0 hK hX (hU (d + 2) M K _ x s (by omega) hK hX ht hc ho hg (fun M1 x1 f1 t1 c1 o1 => Bk_n ?_))
  exact loop 150 (U x) M1 vU (fun p hp => by omega) x1 f1 t1 c1 o1 (hG x s ht.w hg).2 kk
/-- a known word stands alone -/
theorem wd_alone {p a : Nat} (hp : p ≤ n) (h : wdL B p (sp isS B n p) = wL a) (ha : 2 ≤ a ∧ a < 25) : p < n ∧ isS (B p) = true := by
  have h3 : ∀ a, a < 25 → 2 ≤ a → 1 ≤ (wL a).length := by decide +kernel
  have h4 := congrArg List.length h
  rw [wdL_len] at h4
  have h5 := h3 a ha.2 ha.1
  have h6 := sp_ge (P := isS) (B := B) (n := n) (p := p) hp
  exact ⟨by omega, sp_in (P := isS) hp p (Nat.le_refl _) (by omega)⟩
theorem isS_no {p : Nat} (h : p < n ∧ isS (B p) = true) : ¬ isD (pk B n (.inl p)) = true ∧ ¬ pk B n (.inl p) = 40 := by
  have h1 := isS_iff.mp h.2
  simp only [pk]; rw [if_pos h.1, isD_iff]; omega
theorem nm8 : nmOf (wL 8) [10, 11, 12, 13, 14, 15, 16, 17] 0 = -1 ∧ nmOf (wL 9) [10, 11, 12, 13, 14, 15, 16, 17] 0 = -1 ∧ wL 9 ≠ wL 8 ∧ nmOf [] [10, 11, 12, 13, 14, 15, 16, 17] 0 = -1 := by decide +kernel
theorem munit_ok {O : Option (XL → XL)} {D : Nat} {op : Int} (hn : n ≤ 150) (hop : 0 ≤ op ∧ op ≤ 6) (hO : ∀ S, O = some S → op < 6 ∧ CtM B n D 182 (op + 1) S ∧ GX1 B n S ∧ FL1 S) (hN : O = none → op = 6) : CtM B n (D + 6) 185 op (uF B n O) := by
  rintro d M K Q ⟨st, L⟩ s hd hK hX ht hc ho hg kk
  obtain ⟨d, rfl⟩ : ∃ d', d = d' + 6 := ⟨d - 6, by omega⟩
  have hw := ht.w
  dsimp only at ht ho
  cases st with
  | inr f => exact u185_0 hK hX ⟨fun h0 => (by obtain ⟨p, hp⟩ := (TM_0 ht).mp h0; cases hp), fun h0 => kk M hX FrN.rf ht hc ho⟩
  | inl p =>
    have hpn : p ≤ n := hw.1
    have h8 := ho p rfl
    -- behind the two words that are asked for
    have u56 : ∀ (t : Int) (M1 : Mem), FX M1 → FrM M M1 → TM B n M1 (.inl p) → AtM M1 (.inl p) → (t = if wdL B p (sp isS B n p) = wL 8 then 7 else if wdL B p (sp isS B n p) = wL 9 then 8 else -1) → Wp (d + 6) 185 56 [vR 440, vU, vU] [vI t] M1 K Q := by
      intro t M1 x1 f1 t1 a1 htt
      have hat : M1 440 4 = (p : Int) := a1
      have c1 : CMo M1 (oo (.inl p, L)) := hc.m f1
      have h81 : M1 440 8 = op := (f1 440 8 (by decide)).trans h8
      refine u185_56 hK x1 ⟨fun ht1 => ⟨B, n, ⟨t1.1, by omega⟩, fun hnb => ⟨B, n, _, t1, fun M2 x2 p2 => ⟨fun hk => ?_, fun hk => ?_⟩⟩, fun hb => ?_⟩, fun ht1 => ?_⟩
      · -- a number, or nothing that can stand there
        have n8 : ¬ wdL B p (sp isS B n p) = wL 8 := fun h => by rw [if_pos h] at htt; omega
        have n9 : ¬ wdL B p (sp isS B n p) = wL 9 := fun h => by rw [if_neg n8, if_pos h] at htt; omega
        have hkk : nmOf (wdL B p (sp isS B n p)) [10, 11, 12, 13, 14, 15, 16, 17] 0 = -1 := hk
        rw [hat, pk_bt] at hnb
        have t2 := p2.2
        rw [if_pos hk] at t2
        refine ⟨B, n, _, t2, fun M3 x3 p3 => ?_⟩
        have hgn := g_num (lo := 0) (hi := 999) hw hg
        have c3 : CMo M3 (oo ((tNum B n 0 999 (.inl p)).2, L)) := CMo.d (y := (.inl p, L)) (p2.1.tr p3.1) c1 (fun f hf => by cases hf)
        refine ⟨B, n, _, L, ⟨p3.2, c3, len_b hn (w_num hw) hgn⟩, fun M4 x4 p4 => ?_⟩
        have o4 : M4 440 8 = op := p4.2.2.2.trans ((p3.1 440 8 (by decide)).trans ((p2.1 440 8 (by decide)).trans h81))
        by_cases hdg : isD (pk B n (.inl p)) = true
        · have hu : uF B n O (.inl p, L) = ((tNum B n 0 999 (.inl p)).2, L ++ [(0, (tNum B n 0 999 (.inl p)).1)]) := by
            simp only [uF]; rw [if_pos hdg]
          rw [hu] at kk
          refine kk M4 x4 (((f1.N.tr p2.1.N).tr p3.1.N).tr p4.1) p4.2.1 ?_ (fun _ _ => o4)
          have := p4.2.2.1
          cases hh : (tNum B n 0 999 (.inl p)).2 with
          | inr f => trivial
          | inl q => rw [hh] at this; simp only [okv, hh] at this; exact this
        · have hnum : tNum B n 0 999 (.inl p) = (0, .inr (1, (p : Int))) := by
            simp only [tNum]
            rw [if_neg]
            rintro ⟨h1, h2⟩
            simp only [pk] at hdg
            rw [if_pos h1] at hdg; exact hdg h2
          have hu : uF B n O (.inl p, L) = (.inr (1, (p : Int)), L) := by
            simp only [uF]; rw [if_neg hdg, if_neg hnb, if_neg (fun h => h hkk), if_neg (by rintro (h | h); exact n8 h; exact n9 h)]
          rw [hu] at kk
          have t4 := p4.2.1
          rw [hnum] at t4
          exact kk M4 x4 (((f1.N.tr p2.1.N).tr p3.1.N).tr p4.1) t4 trivial (fun _ _ => o4)
      · -- a fact
        have hkk : ¬ nmOf (wdL B p (sp isS B n p)) [10, 11, 12, 13, 14, 15, 16, 17] 0 = -1 := hk
        have t2 := p2.2
        rw [if_neg hk] at t2
        rcases nmOf_lt (w := wdL B p (sp isS B n p)) [10, 11, 12, 13, 14, 15, 16, 17] 0 with h | ⟨-, -, a, ha, hwa⟩
        · exact absurd h hkk
        · have ha' : 2 ≤ a ∧ a < 25 := by simp at ha; omega
          have hgw : GL (s + 1) (tWord B n (.inl p), L) := g_word hpn hwa ha' hg
          have hno := isS_no (wd_alone hpn hwa ha')
          have hu : uF B n O (.inl p, L) = (tWord B n (.inl p), L ++ [(1, nmOf (wdL B p (sp isS B n p)) [10, 11, 12, 13, 14, 15, 16, 17] 0)]) := by
            simp only [uF]; rw [if_neg hno.1, if_neg hno.2, if_pos hkk]
          rw [hu] at kk
          have c2 : CMo M2 (oo (tWord B n (.inl p), L)) := c1.m p2.1
          refine ⟨B, n, _, L, ⟨t2, c2, len_b hn (w_word hw) hgw⟩, fun M4 x4 p4 => kk M4 x4 ((f1.N.tr p2.1.N).tr p4.1) p4.2.1 p4.2.2.1 (fun _ _ => p4.2.2.2.trans ((p2.1 440 8 (by decide)).trans h81))⟩
      · -- a bracket
        rw [hat, pk_bt] at hb
        have hb' := (pk_ok (by decide)).mp hb
        have hnd : ¬ isD (pk B n (.inl p)) = true := by rw [hb]; decide
        refine ⟨B, n, _, op, ⟨t1, a1, fun _ _ => ⟨h81, hop⟩⟩, fun M2 x2 p2 => ⟨fun hop6 => ?_, fun hop6 => ?_⟩⟩
        · cases O with
          | none => exact absurd (hN rfl) hop6.2
          | some S =>
            obtain ⟨e1, e2, e3, e4⟩ := hO S rfl
            have hu : uF B n (some S) (.inl p, L) = (tSign B n 41 (S (tSign B n 40 (.inl p), L)).1, (S (tSign B n 40 (.inl p), L)).2) := by
              simp only [uF]; rw [if_neg hnd, if_pos hb]; rfl
            rw [hu] at kk
            have hsg : tSign B n 40 (.inl p) = .inl (sk B n (p + 1)) := by
              simp only [tSign]; rw [if_pos hb']
            have t2 : TM B n M2 (.inl p) := by have := p2.2.1; simp only [tOpen] at this; rw [if_neg hop6.2] at this; exact this
            have a2 := p2.2.2.2 hop6
            have t3 := TM_skip t2 a2.2 hb'.1
            rw [← hsg] at t3
            have f3 : FrM M2 (mset M2 440 4 (w32 (M2 440 4 + 1))) := FrM.rf.up (by decide)
            have c3 : CMo (mset M2 440 4 (w32 (M2 440 4 + 1))) (oo (tSign B n 40 (.inl p), L)) := by rw [hsg]; exact CMo.m (o := some L) f3 (p2.2.2.1 _ c1)
            have g3 := g_sign (c := 40) hw hg
            refine e2 (d + 5) _ K _ (tSign B n 40 (.inl p), L) (s + 1) (by omega) hK (f3.fx x2) t3 c3 (fun _ _ => (ms_nk (by decide)).trans a2.1) g3 (fun M4 x4 f4 t4 c4 o4 => Bk_n ?_)
            refine u185_152 hK x4 ⟨B, n, _, ⟨t4, by decide⟩, fun M5 x5 p5 => ?_⟩
            have c5 : CMo M5 (oo (tSign B n 41 (S (tSign B n 40 (.inl p), L)).1, (S (tSign B n 40 (.inl p), L)).2)) := CMo.d p5.1 c4 (fun f hf => by rw [hf]; rfl)
            have s88 := s8 (M := M5) (v := w32 (M5 440 8 - 1))
            refine kk _ (x5.set (by decide +kernel)) (((((f1.N.tr p2.1.N).tr f3.N).tr f4).tr p5.1.N).tr s88.1) (s88.2.1 p5.2) (s88.2.2 _ c5) (fun q hq => ?_)
            obtain ⟨q1, hq1⟩ := sign_ok hq
            rw [ms_eq, p5.1 440 8 (by decide), o4 q1 hq1, w32_id (by omega)]; omega
        · have h6 : op = 6 := by
            by_cases h : op = 6
            · exact h
            · exact absurd ⟨rfl, h⟩ hop6
          have ON : O = none := by
            cases O with
            | none => rfl
            | some S => have := (hO S rfl).1; omega
          subst ON
          have hu : uF B n none (.inl p, L) = (.inr (3, (p : Int)), L) := by
            simp only [uF]; rw [if_neg hnd, if_pos hb]; rfl
          rw [hu] at kk
          have t2 := p2.2.1
          simp only [tOpen] at t2
          rw [if_pos h6] at t2
          exact kk M2 x2 (f1.N.tr p2.1.N) t2 trivial (fun p hp => by cases hp)
      · -- least, most
        have hp8 : wdL B p (sp isS B n p) = wL 8 ∨ wdL B p (sp isS B n p) = wL 9 := by
          by_cases h : wdL B p (sp isS B n p) = wL 8
          · exact Or.inl h
          · rw [if_neg h] at htt
            by_cases h' : wdL B p (sp isS B n p) = wL 9
            · exact Or.inr h'
            · rw [if_neg h'] at htt; exact absurd htt ht1
        obtain ⟨a, ha', hwa⟩ : ∃ a, (2 ≤ a ∧ a < 25) ∧ wdL B p (sp isS B n p) = wL a := by
          rcases hp8 with h | h
          · exact ⟨8, by decide, h⟩
          · exact ⟨9, by decide, h⟩
        have hno := isS_no (wd_alone hpn hwa ha')
        have hkk : nmOf (wdL B p (sp isS B n p)) [10, 11, 12, 13, 14, 15, 16, 17] 0 = -1 := by
          rcases hp8 with h | h
          · rw [h]; exact nm8.1
          · rw [h]; exact nm8.2.1
        have htt' : t = if wdL B p (sp isS B n p) = wL 8 then 7 else 8 := by
          rcases hp8 with h | h
          · rw [htt, if_pos h, if_pos h]
          · have : ¬ wdL B p (sp isS B n p) = wL 8 := by rw [h]; exact nm8.2.2.1
            rw [htt, if_neg this, if_pos h, if_neg this]
        have hgw : GL (s + 1) (tWord B n (.inl p), L) := g_word hpn hwa ha' hg
        refine ⟨B, n, _, op, ⟨t1, a1, fun _ _ => ⟨h81, hop⟩⟩, fun M2 x2 p2 => ⟨fun hop6 => ?_, fun hop6 => ?_⟩⟩
        · cases O with
          | none => exact absurd (hN rfl) hop6.2
          | some S =>
            obtain ⟨e1, e2, e3, e4⟩ := hO S rfl
            have hu : uF B n (some S) (.inl p, L) = pairF B n S t (tWord B n (.inl p), L) := by
              simp only [uF]; rw [if_neg hno.1, if_neg hno.2, if_neg (fun h => h hkk), if_pos hp8, htt']; rfl
            rw [hu] at kk
            have t2 : TM B n M2 (.inl p) := by have := p2.2.1; simp only [tOpen] at this; rw [if_neg hop6.2] at this; exact this
            have a2 := p2.2.2.2 hop6
            refine ⟨B, n, _, ⟨t2, a2.2⟩, fun M3 x3 p3 => ⟨B, n, _, ⟨p3.2, by decide⟩, fun M4 x4 p4 => ?_⟩⟩
            have c3 : CMo M3 (oo (tWord B n (.inl p), L)) := CMo.m (o := some L) p3.1 (p2.2.2.1 _ c1)
            have c4 : CMo M4 (oo (tSign B n 91 (tWord B n (.inl p)), L)) := CMo.d (y := (tWord B n (.inl p), L)) p4.1 c3 (fun f hf => by cases hf)
            have o4 : M4 440 8 = op + 1 := (p4.1 440 8 (by decide)).trans ((p3.1 440 8 (by decide)).trans a2.1)
            have w4 := w_sign (c := 91) (w_word hw)
            have g4 := g_sign (c := 91) (w_word hw) hgw
            refine e2 (d + 5) M4 K _ (tSign B n 91 (tWord B n (.inl p)), L) (s + 2) (by omega) hK x4 p4.2 c4 (fun _ _ => o4) g4 (fun M5 x5 f5 t5 c5 o5 => Bk_n ?_)
            have gS := e3 _ _ w4 g4
            refine u185_84 hK x5 ⟨B, n, _, ⟨t5, by decide⟩, fun M6 x6 p6 => ?_⟩
            have c6 : CMo M6 (oo (tSign B n 44 (S (tSign B n 91 (tWord B n (.inl p)), L)).1, (S (tSign B n 91 (tWord B n (.inl p)), L)).2)) := CMo.d p6.1 c5 (fun f hf => by rw [hf]; rfl)
            have g6 := g_sign (c := 44) gS.1 gS.2
            refine e2 (d + 5) M6 K _ _ (s + 3) (by omega) hK x6 p6.2 c6 (o5.m (p6.1 440 8 (by decide)) (fun q hq => sign_ok hq)) g6 (fun M7 x7 f7 t7 c7 o7 => Bk_n ?_)
            have gS2 := e3 _ _ (w_sign (c := 44) gS.1) g6
            refine u185_94 hK x7 ⟨B, n, _, ⟨t7, by decide⟩, fun M8 x8 p8 => ?_⟩
            have c8 := CMo.d (st' := tSign B n 93 (S (tSign B n 44 (S (tSign B n 91 (tWord B n (.inl p)), L)).1, (S (tSign B n 91 (tWord B n (.inl p)), L)).2)).1) p8.1 c7 (fun f hf => by rw [hf]; rfl)
            have g8 := g_sign (c := 93) gS2.1 gS2.2
            refine ⟨B, n, _, (S (tSign B n 44 (S (tSign B n 91 (tWord B n (.inl p)), L)).1, (S (tSign B n 91 (tWord B n (.inl p)), L)).2)).2, ⟨p8.2, c8, len_b hn (w_sign gS2.1) g8⟩, fun M9 x9 p9 => ?_⟩
            have s88 := s8 (M := M9) (v := w32 (M9 440 8 - 1))
            refine kk _ (x9.set (by decide +kernel)) (((((((f1.N.tr p2.1.N).tr p3.1.N).tr p4.1.N).tr f5).tr p6.1.N).tr f7).tr ((p8.1.N.tr p9.1).tr s88.1)) (s88.2.1 p9.2.1) (s88.2.2 _ p9.2.2.1) (fun q hq => ?_)
            obtain ⟨q1, hq1⟩ := sign_ok hq
            rw [ms_eq, p9.2.2.2, p8.1 440 8 (by decide), o7 q1 hq1, w32_id (by omega)]; omega
        · have h6 : op = 6 := by
            by_cases h : op = 6
            · exact h
            · exact absurd ⟨rfl, h⟩ hop6
          have ON : O = none := by
            cases O with
            | none => rfl
            | some S => have := (hO S rfl).1; omega
          subst ON
          have hu : uF B n none (.inl p, L) = (.inr (3, (p : Int)), L) := by
            simp only [uF]; rw [if_neg hno.1, if_neg hno.2, if_neg (fun h => h hkk), if_pos hp8]; rfl
          rw [hu] at kk
          have t2 := p2.2.1
          simp only [tOpen] at t2
          rw [if_pos h6] at t2
          exact kk M2 x2 (f1.N.tr p2.1.N) t2 trivial (fun p hp => by cases hp)
    have hWd : ∀ a, isWd B n (.inl p) a = true ↔ wdL B p (sp isS B n p) = wL a := fun a => by simp [isWd]
    refine u185_0 hK hX ⟨fun h0 => ⟨B, n, _, ht, fun M1 x1 p1 => ⟨B, n, _, 8, ⟨p1.2.1, by decide +kernel⟩, fun M2 x2 p2 => ⟨fun n8 => ⟨B, n, _, 9, ⟨p2.2.1, by decide +kernel⟩, fun M3 x3 p3 => ⟨fun n9 => ?_, fun y9 => ?_⟩⟩, fun y8 => ?_⟩⟩⟩, fun h0 => absurd ((TM_0 ht).mpr ⟨p, rfl⟩) h0⟩
    · exact u56 (-1) M3 x3 ((p1.1.tr p2.1).tr p3.1) p3.2.1 p3.2.2 (by rw [if_neg (fun h => n8 ((hWd 8).mpr h)), if_neg (fun h => n9 ((hWd 9).mpr h))])
    · exact u56 8 M3 x3 ((p1.1.tr p2.1).tr p3.1) p3.2.1 p3.2.2 (by rw [if_neg (fun h => n8 ((hWd 8).mpr h)), if_pos ((hWd 9).mp y9)])
    · exact u56 7 M2 x2 (p1.1.tr p2.1) p2.2.1 p2.2.2 (by rw [if_pos ((hWd 8).mp y8)])
theorem CtM.cg {D m : Nat} {op : Int} {F : XL → XL} {D' : Nat} (h : CtM B n D m op F) (hd : D ≤ D') : CtM B n D' m op F := fun d M K Q x s h1 => h d M K Q x s (by omega)
theorem mSm_ok (hn : n ≤ 150) : ∀ r, r ≤ 6 → CtM B n (12 * r + 12) 182 (6 - (r : Int)) (pSm B n r) := by
  intro r
  induction r with
  | zero =>
    intro _
    exact (msum_ok hn (mprod_ok hn (munit_ok (D := 0) (O := none) hn (by omega) (fun S h => by cases h) (fun _ => by omega)) (uF_g (fun S h => by cases h)) FL1_u (VX_u (fun S h => by cases h))) (prodF_g (uF_g (fun S h => by cases h))) (FL1_prodF FL1_u) (VX_prodF (VX_u (fun S h => by cases h)) FL1_u)).cg (by omega)
  | succ r ih =>
    intro hr
    have ih' := ih (by omega)
    have e : (6 : Int) - ((r + 1 : Nat) : Int) + 1 = 6 - (r : Int) := by omega
    refine (msum_ok hn (mprod_ok hn (munit_ok (D := 12 * r + 12) (O := some (pSm B n r)) hn (by omega) (fun S h => ?_) (fun h => by cases h)) (uF_g (fun S h => by cases h; exact pSm_g r)) FL1_u (VX_u (fun S h => by cases h; exact ⟨VX_pSm r, FL1_pSm r⟩))) (prodF_g (uF_g (fun S h => by cases h; exact pSm_g r))) (FL1_prodF FL1_u) (VX_prodF (VX_u (fun S h => by cases h; exact ⟨VX_pSm r, FL1_pSm r⟩)) FL1_u)).cg (by omega)
    cases h
    rw [e]
    exact ⟨by omega, ih', pSm_g r, FL1_pSm r⟩
end MM
