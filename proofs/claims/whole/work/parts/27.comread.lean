/-! the class reads a common -/
theorem u1_0 {d : Nat} {l0 : Nat} {M : Mem} {K : KK} {Q : RR → Mem → KK → Prop} (hK : K.1 = 923) (hX : FX M) (k0 : isO 923 l0 0 = true) (h : ∃ b7 : Nat, (M l0 11) = (b7 : Int) ∧ isO 923 b7 2 = true ∧ (∀ (M12 : Mem), FX M12 → (FrC b7 (mset (mset (mset (mset (mset (mset M l0 5 (0 : Int)) l0 6 (0 : Int)) l0 7 (0 : Int)) l0 8 (0 : Int)) l0 9 (5 : Int)) l0 10 (1 : Int)) M12 ∧ CR M12 b7 PL) → Q (.inl none) M12 K)) : Wp (d + 2) 1 0 [vR l0] [] M K Q := by
  refine r_aload_n c1_0 rfl ?_
  refine r_iconst c1_1 ?_
  refine r_putI c1_2 (oK hK k0) ?_
  have x1 := FX.set (v := (0 : Int)) (a := l0) (k := 5) hX (nf0 k0 (by decide))
  refine r_aload_n c1_5 rfl ?_
  refine r_iconst c1_6 ?_
  refine r_putI c1_7 (oK hK k0) ?_
  have x2 := FX.set (v := (0 : Int)) (a := l0) (k := 6) x1 (nf0 k0 (by decide))
  refine r_aload_n c1_10 rfl ?_
  refine r_iconst c1_11 ?_
  refine r_putI c1_12 (oK hK k0) ?_
  have x3 := FX.set (v := (0 : Int)) (a := l0) (k := 7) x2 (nf0 k0 (by decide))
  refine r_aload_n c1_15 rfl ?_
  refine r_iconst c1_16 ?_
  refine r_putI c1_17 (oK hK k0) ?_
  have x4 := FX.set (v := (0 : Int)) (a := l0) (k := 8) x3 (nf0 k0 (by decide))
  refine r_aload_n c1_20 rfl ?_
  refine r_iconst c1_21 ?_
  refine r_putI c1_22 (oK hK k0) ?_
  have x5 := FX.set (v := (5 : Int)) (a := l0) (k := 9) x4 (nf0 k0 (by decide))
  refine r_aload_n c1_25 rfl ?_
  refine r_iconst c1_26 ?_
  refine r_putI c1_27 (oK hK k0) ?_
  have x6 := FX.set (v := (1 : Int)) (a := l0) (k := 10) x5 (nf0 k0 (by decide))
  refine r_aload_n c1_30 rfl ?_
  obtain ⟨b7, h⟩ := h
  obtain ⟨e8, h⟩ := h
  obtain ⟨k9, h⟩ := h
  refine r_getR c1_31 (oK hK k0) (Eq.trans (Eq.trans (ms_nk (by decide)) (Eq.trans (ms_nk (by decide)) (Eq.trans (ms_nk (by decide)) (Eq.trans (ms_nk (by decide)) (Eq.trans (ms_nk (by decide)) (ms_nk (by decide))))))) e8) (by have := (isO_d k9).1; omega) ?_
  refine r_call c1_34 rfl rfl (Nat.le_of_ble_eq_true rfl) (okc_r rfl rfl (oK hK k9)) (g18 hK x6 k9  (fun M12 x10 p11 => Bk_n ?_))
  replace h := h M12 x10 p11
  exact r_ret c1_37 h
theorem u4_0 {d : Nat}  {M : Mem} {K : KK} {Q : RR → Mem → KK → Prop} (hK : K.1 = 923) (hX : FX M)  (h : ∃ n1 : Nat, ∃ p2 : Nat, ∃ e3 : Nat, WA n1 M p2 e3 ∧ (¬ (wdL (M 34) p2 e3 = wL 2) → ∃ n7 : Nat, ∃ p8 : Nat, ∃ e9 : Nat, WA n7 M p8 e9 ∧ (¬ (wdL (M 34) p8 e9 = wL 3) → ∃ n13 : Nat, ∃ p14 : Nat, ∃ e15 : Nat, WA n13 M p14 e15 ∧ (¬ (wdL (M 34) p14 e15 = wL 4) → ∃ n19 : Nat, ∃ p20 : Nat, ∃ e21 : Nat, WA n19 M p20 e21 ∧ (¬ (wdL (M 34) p20 e21 = wL 5) → ∃ n25 : Nat, ∃ p26 : Nat, ∃ e27 : Nat, WA n25 M p26 e27 ∧ (¬ (wdL (M 34) p26 e27 = wL 6) → ∃ n31 : Nat, ∃ p32 : Nat, ∃ e33 : Nat, WA n31 M p32 e33 ∧ (¬ (wdL (M 34) p32 e33 = wL 7) → Q (.inl (some (vI (-1 : Int)))) M K) ∧ ((wdL (M 34) p32 e33 = wL 7) → Q (.inl (some (vI (6 : Int)))) M K)) ∧ ((wdL (M 34) p26 e27 = wL 6) → Q (.inl (some (vI (5 : Int)))) M K)) ∧ ((wdL (M 34) p20 e21 = wL 5) → Q (.inl (some (vI (4 : Int)))) M K)) ∧ ((wdL (M 34) p14 e15 = wL 4) → Q (.inl (some (vI (3 : Int)))) M K)) ∧ ((wdL (M 34) p8 e9 = wL 3) → Q (.inl (some (vI (2 : Int)))) M K)) ∧ ((wdL (M 34) p2 e3 = wL 2) → Q (.inl (some (vI (1 : Int)))) M K)) : Wp (d + 1) 4 0 [vR 33] [] M K Q := by
  refine r_aload_n c4_0 rfl ?_
  refine r_ldcs c4_1 ?_
  obtain ⟨n1, h⟩ := h
  obtain ⟨p2, h⟩ := h
  obtain ⟨e3, h⟩ := h
  obtain ⟨p4, h⟩ := h
  refine r_call c4_3 rfl rfl (Nat.le_of_ble_eq_true rfl) (okc_r rfl rfl (oK hK o33)) (g94 hK hX (by decide) p4 (Bk_v ?_))
  refine r_ifP (P := ¬ (wdL (M 34) p2 e3 = wL 2)) c4_6 bI_eq (fun hc5 => ?_) (fun hc5 => ?_)
  · replace h := h.1 hc5
    refine r_aload_n c4_13 rfl ?_
    refine r_ldcs c4_14 ?_
    obtain ⟨n7, h⟩ := h
    obtain ⟨p8, h⟩ := h
    obtain ⟨e9, h⟩ := h
    obtain ⟨p10, h⟩ := h
    refine r_call c4_16 rfl rfl (Nat.le_of_ble_eq_true rfl) (okc_r rfl rfl (oK hK o33)) (g94 hK hX (by decide) p10 (Bk_v ?_))
    refine r_ifP (P := ¬ (wdL (M 34) p8 e9 = wL 3)) c4_19 bI_eq (fun hc11 => ?_) (fun hc11 => ?_)
    · replace h := h.1 hc11
      refine r_aload_n c4_26 rfl ?_
      refine r_ldcs c4_27 ?_
      obtain ⟨n13, h⟩ := h
      obtain ⟨p14, h⟩ := h
      obtain ⟨e15, h⟩ := h
      obtain ⟨p16, h⟩ := h
      refine r_call c4_29 rfl rfl (Nat.le_of_ble_eq_true rfl) (okc_r rfl rfl (oK hK o33)) (g94 hK hX (by decide) p16 (Bk_v ?_))
      refine r_ifP (P := ¬ (wdL (M 34) p14 e15 = wL 4)) c4_32 bI_eq (fun hc17 => ?_) (fun hc17 => ?_)
      · replace h := h.1 hc17
        refine r_aload_n c4_39 rfl ?_
        refine r_ldcs c4_40 ?_
        obtain ⟨n19, h⟩ := h
        obtain ⟨p20, h⟩ := h
        obtain ⟨e21, h⟩ := h
        obtain ⟨p22, h⟩ := h
        refine r_call c4_42 rfl rfl (Nat.le_of_ble_eq_true rfl) (okc_r rfl rfl (oK hK o33)) (g94 hK hX (by decide) p22 (Bk_v ?_))
        refine r_ifP (P := ¬ (wdL (M 34) p20 e21 = wL 5)) c4_45 bI_eq (fun hc23 => ?_) (fun hc23 => ?_)
        · replace h := h.1 hc23
          refine r_aload_n c4_52 rfl ?_
          refine r_ldcs c4_53 ?_
          obtain ⟨n25, h⟩ := h
          obtain ⟨p26, h⟩ := h
          obtain ⟨e27, h⟩ := h
          obtain ⟨p28, h⟩ := h
          refine r_call c4_55 rfl rfl (Nat.le_of_ble_eq_true rfl) (okc_r rfl rfl (oK hK o33)) (g94 hK hX (by decide) p28 (Bk_v ?_))
          refine r_ifP (P := ¬ (wdL (M 34) p26 e27 = wL 6)) c4_58 bI_eq (fun hc29 => ?_) (fun hc29 => ?_)
          · replace h := h.1 hc29
            refine r_aload_n c4_65 rfl ?_
            refine r_ldcs c4_66 ?_
            obtain ⟨n31, h⟩ := h
            obtain ⟨p32, h⟩ := h
            obtain ⟨e33, h⟩ := h
            obtain ⟨p34, h⟩ := h
            refine r_call c4_68 rfl rfl (Nat.le_of_ble_eq_true rfl) (okc_r rfl rfl (oK hK o33)) (g94 hK hX (by decide) p34 (Bk_v ?_))
            refine r_ifP (P := ¬ (wdL (M 34) p32 e33 = wL 7)) c4_71 bI_eq (fun hc35 => ?_) (fun hc35 => ?_)
            · replace h := h.1 hc35
              refine r_iconst c4_79 ?_
              exact r_iret c4_80 (Or.inl rfl) h
            · have hc36 := Classical.not_not.mp hc35
              replace h := h.2 hc36
              refine r_bipush c4_74 ?_
              refine r_goto c4_76 ?_
              exact r_iret c4_80 (Or.inl rfl) h
          · have hc30 := Classical.not_not.mp hc29
            replace h := h.2 hc30
            refine r_iconst c4_61 ?_
            refine r_goto c4_62 ?_
            exact r_iret c4_80 (Or.inl rfl) h
        · have hc24 := Classical.not_not.mp hc23
          replace h := h.2 hc24
          refine r_iconst c4_48 ?_
          refine r_goto c4_49 ?_
          exact r_iret c4_80 (Or.inl rfl) h
      · have hc18 := Classical.not_not.mp hc17
        replace h := h.2 hc18
        refine r_iconst c4_35 ?_
        refine r_goto c4_36 ?_
        exact r_iret c4_80 (Or.inl rfl) h
    · have hc12 := Classical.not_not.mp hc11
      replace h := h.2 hc12
      refine r_iconst c4_22 ?_
      refine r_goto c4_23 ?_
      exact r_iret c4_80 (Or.inl rfl) h
  · have hc6 := Classical.not_not.mp hc5
    replace h := h.2 hc6
    refine r_iconst c4_9 ?_
    refine r_goto c4_10 ?_
    exact r_iret c4_80 (Or.inl rfl) h
theorem u5_0 {d : Nat} {l0 : Nat} {l1 : Int} {M : Mem} {K : KK} {Q : RR → Mem → KK → Prop} (hK : K.1 = 923) (hX : FX M) (k0 : isO 923 l0 0 = true) (h : (¬ l1 = (1 : Int) → (¬ l1 = (2 : Int) → Wp d 5 28 [vR l0, vI l1] [] M K Q) ∧ (l1 = (2 : Int) → ((6 : Int) ≤ (M l0 6) → Q (.inl (some (vI (1 : Int)))) M K) ∧ (¬ ((6 : Int) ≤ (M l0 6)) → Wp d 5 28 [vR l0, vI l1] [] M K Q))) ∧ (l1 = (1 : Int) → ((12 : Int) ≤ (M l0 5) → Q (.inl (some (vI (1 : Int)))) M K) ∧ (¬ ((12 : Int) ≤ (M l0 5)) → (¬ l1 = (2 : Int) → Wp d 5 28 [vR l0, vI l1] [] M K Q) ∧ (l1 = (2 : Int) → ((6 : Int) ≤ (M l0 6) → Q (.inl (some (vI (1 : Int)))) M K) ∧ (¬ ((6 : Int) ≤ (M l0 6)) → Wp d 5 28 [vR l0, vI l1] [] M K Q))))) : Wp d 5 0 [vR l0, vI l1] [] M K Q := by
  refine r_iload_n c5_0 rfl ?_
  refine r_iconst c5_1 ?_
  refine r_icmpP (P := ¬ l1 = (1 : Int)) c5_2 rfl (fun hc1 => ?_) (fun hc1 => ?_)
  · replace h := h.1 hc1
    refine r_iload_n c5_14 rfl ?_
    refine r_iconst c5_15 ?_
    refine r_icmpP (P := ¬ l1 = (2 : Int)) c5_16 rfl (fun hc3 => ?_) (fun hc3 => ?_)
    · replace h := h.1 hc3
      exact h
    · have hc4 := Classical.not_not.mp hc3
      replace h := h.2 hc4
      refine r_aload_n c5_19 rfl ?_
      refine r_getIe c5_20 (oK hK k0) rfl ?_
      refine r_bipush c5_23 ?_
      refine r_icmpP (P := (6 : Int) ≤ (M l0 6)) c5_25 rfl (fun hc5 => ?_) (fun hc5 => ?_)
      · replace h := h.1 hc5
        refine r_iconst c5_56 ?_
        refine r_goto c5_57 ?_
        exact r_iret c5_61 (by decide) h
      · replace h := h.2 hc5
        exact h
  · have hc2 := Classical.not_not.mp hc1
    replace h := h.2 hc2
    refine r_aload_n c5_5 rfl ?_
    refine r_getIe c5_6 (oK hK k0) rfl ?_
    refine r_bipush c5_9 ?_
    refine r_icmpP (P := (12 : Int) ≤ (M l0 5)) c5_11 rfl (fun hc6 => ?_) (fun hc6 => ?_)
    · replace h := h.1 hc6
      refine r_iconst c5_56 ?_
      refine r_goto c5_57 ?_
      exact r_iret c5_61 (by decide) h
    · replace h := h.2 hc6
      refine r_iload_n c5_14 rfl ?_
      refine r_iconst c5_15 ?_
      refine r_icmpP (P := ¬ l1 = (2 : Int)) c5_16 rfl (fun hc7 => ?_) (fun hc7 => ?_)
      · replace h := h.1 hc7
        exact h
      · have hc8 := Classical.not_not.mp hc7
        replace h := h.2 hc8
        refine r_aload_n c5_19 rfl ?_
        refine r_getIe c5_20 (oK hK k0) rfl ?_
        refine r_bipush c5_23 ?_
        refine r_icmpP (P := (6 : Int) ≤ (M l0 6)) c5_25 rfl (fun hc9 => ?_) (fun hc9 => ?_)
        · replace h := h.1 hc9
          refine r_iconst c5_56 ?_
          refine r_goto c5_57 ?_
          exact r_iret c5_61 (by decide) h
        · replace h := h.2 hc9
          exact h
theorem u5_28 {d : Nat} {l0 : Nat} {l1 : Int} {M : Mem} {K : KK} {Q : RR → Mem → KK → Prop} (hK : K.1 = 923) (hX : FX M) (k0 : isO 923 l0 0 = true) (h : (¬ l1 = (3 : Int) → (¬ l1 = (4 : Int) → Q (.inl (some (vI (0 : Int)))) M K) ∧ (l1 = (4 : Int) → ((M l0 8) < (7 : Int) → Q (.inl (some (vI (0 : Int)))) M K) ∧ (¬ ((M l0 8) < (7 : Int)) → Q (.inl (some (vI (1 : Int)))) M K))) ∧ (l1 = (3 : Int) → ((8 : Int) ≤ (M l0 7) → Q (.inl (some (vI (1 : Int)))) M K) ∧ (¬ ((8 : Int) ≤ (M l0 7)) → (¬ l1 = (4 : Int) → Q (.inl (some (vI (0 : Int)))) M K) ∧ (l1 = (4 : Int) → ((M l0 8) < (7 : Int) → Q (.inl (some (vI (0 : Int)))) M K) ∧ (¬ ((M l0 8) < (7 : Int)) → Q (.inl (some (vI (1 : Int)))) M K))))) : Wp d 5 28 [vR l0, vI l1] [] M K Q := by
  refine r_iload_n c5_28 rfl ?_
  refine r_iconst c5_29 ?_
  refine r_icmpP (P := ¬ l1 = (3 : Int)) c5_30 rfl (fun hc1 => ?_) (fun hc1 => ?_)
  · replace h := h.1 hc1
    refine r_iload_n c5_42 rfl ?_
    refine r_iconst c5_43 ?_
    refine r_icmpP (P := ¬ l1 = (4 : Int)) c5_44 rfl (fun hc3 => ?_) (fun hc3 => ?_)
    · replace h := h.1 hc3
      refine r_iconst c5_60 ?_
      exact r_iret c5_61 (by decide) h
    · have hc4 := Classical.not_not.mp hc3
      replace h := h.2 hc4
      refine r_aload_n c5_47 rfl ?_
      refine r_getIe c5_48 (oK hK k0) rfl ?_
      refine r_bipush c5_51 ?_
      refine r_icmpP (P := (M l0 8) < (7 : Int)) c5_53 rfl (fun hc5 => ?_) (fun hc5 => ?_)
      · replace h := h.1 hc5
        refine r_iconst c5_60 ?_
        exact r_iret c5_61 (by decide) h
      · replace h := h.2 hc5
        refine r_iconst c5_56 ?_
        refine r_goto c5_57 ?_
        exact r_iret c5_61 (by decide) h
  · have hc2 := Classical.not_not.mp hc1
    replace h := h.2 hc2
    refine r_aload_n c5_33 rfl ?_
    refine r_getIe c5_34 (oK hK k0) rfl ?_
    refine r_bipush c5_37 ?_
    refine r_icmpP (P := (8 : Int) ≤ (M l0 7)) c5_39 rfl (fun hc6 => ?_) (fun hc6 => ?_)
    · replace h := h.1 hc6
      refine r_iconst c5_56 ?_
      refine r_goto c5_57 ?_
      exact r_iret c5_61 (by decide) h
    · replace h := h.2 hc6
      refine r_iload_n c5_42 rfl ?_
      refine r_iconst c5_43 ?_
      refine r_icmpP (P := ¬ l1 = (4 : Int)) c5_44 rfl (fun hc7 => ?_) (fun hc7 => ?_)
      · replace h := h.1 hc7
        refine r_iconst c5_60 ?_
        exact r_iret c5_61 (by decide) h
      · have hc8 := Classical.not_not.mp hc7
        replace h := h.2 hc8
        refine r_aload_n c5_47 rfl ?_
        refine r_getIe c5_48 (oK hK k0) rfl ?_
        refine r_bipush c5_51 ?_
        refine r_icmpP (P := (M l0 8) < (7 : Int)) c5_53 rfl (fun hc9 => ?_) (fun hc9 => ?_)
        · replace h := h.1 hc9
          refine r_iconst c5_60 ?_
          exact r_iret c5_61 (by decide) h
        · replace h := h.2 hc9
          refine r_iconst c5_56 ?_
          refine r_goto c5_57 ?_
          exact r_iret c5_61 (by decide) h
theorem u6_0 {d : Nat} {l0 : Nat} {l2 : Int} {M : Mem} {K : KK} {Q : RR → Mem → KK → Prop} (hK : K.1 = 923) (hX : FX M) (k0 : isO 923 l0 0 = true) (h : (l2 = (1 : Int) → ∃ B1 : BY, ∃ n2 : Nat, ∃ st3 : ST, TR B1 n2 M st3 ∧ (∀ (M7 : Mem), FX M7 → (FrT M M7 ∧ TR B1 n2 M7 (tNum B1 n2 (0 : Int) (9 : Int) st3).2) → (0 ≤ (M l0 5) ∧ (M l0 5) < (12 : Int)) ∧ Q (.inl none) (mset (mset M7 (l0 + 1) (Int.toNat (M l0 5)) ((tNum B1 n2 (0 : Int) (9 : Int) st3).1)) l0 5 (w32 ((M7 l0 5) + (1 : Int)))) K)) ∧ (l2 = (2 : Int) → ∃ B11 : BY, ∃ n12 : Nat, ∃ st13 : ST, TR B11 n12 M st13 ∧ (∀ (M17 : Mem), FX M17 → (FrT M M17 ∧ TR B11 n12 M17 (tNum B11 n12 (1 : Int) (6 : Int) st13).2) → (0 ≤ (M l0 6) ∧ (M l0 6) < (6 : Int)) ∧ ∃ B20 : BY, ∃ n21 : Nat, ∃ st22 : ST, TR B20 n21 (mset M17 (l0 + 2) (Int.toNat (M l0 6)) ((tNum B11 n12 (1 : Int) (6 : Int) st13).1)) st22 ∧ (∀ (M26 : Mem), FX M26 → (FrT (mset M17 (l0 + 2) (Int.toNat (M l0 6)) ((tNum B11 n12 (1 : Int) (6 : Int) st13).1)) M26 ∧ TR B20 n21 M26 (tNum B20 n21 (1 : Int) (99 : Int) st22).2) → (0 ≤ (M17 l0 6) ∧ (M17 l0 6) < (6 : Int)) ∧ Q (.inl none) (mset (mset M26 (l0 + 3) (Int.toNat (M17 l0 6)) ((tNum B20 n21 (1 : Int) (99 : Int) st22).1)) l0 6 (w32 ((M26 l0 6) + (1 : Int)))) K))) ∧ (l2 = (3 : Int) → ∃ B30 : BY, ∃ n31 : Nat, ∃ st32 : ST, TR B30 n31 M st32 ∧ (∀ (M36 : Mem), FX M36 → (FrT M M36 ∧ TR B30 n31 M36 (tNum B30 n31 (1 : Int) (9 : Int) st32).2) → (0 ≤ (M l0 7) ∧ (M l0 7) < (8 : Int)) ∧ Q (.inl none) (mset (mset M36 (l0 + 4) (Int.toNat (M l0 7)) ((tNum B30 n31 (1 : Int) (9 : Int) st32).1)) l0 7 (w32 ((M36 l0 7) + (1 : Int)))) K)) ∧ (l2 = (4 : Int) → ∃ B40 : BY, ∃ n41 : Nat, ∃ st42 : ST, TR B40 n41 M st42 ∧ (∀ (M46 : Mem), FX M46 → (FrT M M46 ∧ TR B40 n41 M46 (tNum B40 n41 (0 : Int) (9 : Int) st42).2) → (0 ≤ (M l0 8) ∧ (M l0 8) < (7 : Int)) ∧ Q (.inl none) (mset (mset M46 (l0 + 5) (Int.toNat (M l0 8)) ((tNum B40 n41 (0 : Int) (9 : Int) st42).1)) l0 8 (w32 ((M46 l0 8) + (1 : Int)))) K)) ∧ (l2 = (5 : Int) → ∃ B50 : BY, ∃ n51 : Nat, ∃ st52 : ST, TR B50 n51 M st52 ∧ (∀ (M56 : Mem), FX M56 → (FrT M M56 ∧ TR B50 n51 M56 (tNum B50 n51 (0 : Int) (99 : Int) st52).2) → Q (.inl none) (mset M56 l0 9 ((tNum B50 n51 (0 : Int) (99 : Int) st52).1)) K)) ∧ (l2 < (1 : Int) ∨ (5 : Int) < l2 → ∃ B58 : BY, ∃ n59 : Nat, ∃ st60 : ST, TR B58 n59 M st60 ∧ (∀ (M64 : Mem), FX M64 → (FrT M M64 ∧ TR B58 n59 M64 (tNum B58 n59 (0 : Int) (4 : Int) st60).2) → Q (.inl none) (mset M64 l0 10 ((tNum B58 n59 (0 : Int) (4 : Int) st60).1)) K))) : Wp (d + 3) 6 0 [vR l0, vR 33, vI l2] [] M K Q := by
  refine r_iload_n c6_0 rfl ?_
  refine r_tsw c6_1 ?_
  by_cases hv0 : l2 = (1 : Int)
  · rw [show tsw 1 181 1 5 #[35, 64, 109, 138, 167] l2 = 36 from by rw [hv0]; decide]
    replace h := h.1 hv0
    refine r_aload_n c6_36 rfl ?_
    refine r_getR c6_37 (oK hK k0) (fx0_0 hX k0) (by omega) ?_
    refine r_aload_n c6_40 rfl ?_
    refine r_getIe c6_41 (oK hK k0) rfl ?_
    refine r_aload_n c6_44 rfl ?_
    refine r_iconst c6_45 ?_
    refine r_bipush c6_46 ?_
    obtain ⟨B1, h⟩ := h
    obtain ⟨n2, h⟩ := h
    obtain ⟨st3, h⟩ := h
    obtain ⟨p4, h⟩ := h
    refine r_call c6_48 rfl rfl (Nat.le_of_ble_eq_true rfl) (okc_r rfl rfl (oK hK o33)) (g92 hK hX p4 (fun M7 x5 p6 => Bk_v ?_))
    replace h := h M7 x5 p6
    obtain ⟨s8, h⟩ := h
    refine r_ias c6_51 (oK hK (q0_0 k0)) (bd (z0_0 k0) s8) ?_
    have x9 := FX.set (v := ((tNum B1 n2 (0 : Int) (9 : Int) st3).1)) (a := (l0 + 1)) (k := (Int.toNat (M l0 5))) x5 (nfa (q0_0 k0) _)
    refine r_aload_n c6_52 rfl ?_
    refine r_dupr c6_53 ?_
    refine r_getIe c6_54 (oK hK k0) (ms_na (by omega)) ?_
    refine r_iconst c6_57 ?_
    refine r_iadd c6_58 ?_
    refine r_putI c6_59 (oK hK k0) ?_
    have x10 := FX.set (v := (w32 ((M7 l0 5) + (1 : Int)))) (a := l0) (k := 5) x9 (nf0 k0 (by decide))
    refine r_goto c6_62 ?_
    exact r_ret c6_192 h
  by_cases hv1 : l2 = (2 : Int)
  · rw [show tsw 1 181 1 5 #[35, 64, 109, 138, 167] l2 = 65 from by rw [hv1]; decide]
    replace h := h.2.1 hv1
    refine r_aload_n c6_65 rfl ?_
    refine r_getR c6_66 (oK hK k0) (fx0_1 hX k0) (by omega) ?_
    refine r_aload_n c6_69 rfl ?_
    refine r_getIe c6_70 (oK hK k0) rfl ?_
    refine r_aload_n c6_73 rfl ?_
    refine r_iconst c6_74 ?_
    refine r_bipush c6_75 ?_
    obtain ⟨B11, h⟩ := h
    obtain ⟨n12, h⟩ := h
    obtain ⟨st13, h⟩ := h
    obtain ⟨p14, h⟩ := h
    refine r_call c6_77 rfl rfl (Nat.le_of_ble_eq_true rfl) (okc_r rfl rfl (oK hK o33)) (g92 hK hX p14 (fun M17 x15 p16 => Bk_v ?_))
    replace h := h M17 x15 p16
    obtain ⟨s18, h⟩ := h
    refine r_ias c6_80 (oK hK (q0_1 k0)) (bd (z0_1 k0) s18) ?_
    have x19 := FX.set (v := ((tNum B11 n12 (1 : Int) (6 : Int) st13).1)) (a := (l0 + 2)) (k := (Int.toNat (M l0 6))) x15 (nfa (q0_1 k0) _)
    refine r_aload_n c6_81 rfl ?_
    refine r_getR c6_82 (oK hK k0) (fx0_2 x19 k0) (by omega) ?_
    refine r_aload_n c6_85 rfl ?_
    refine r_getIe c6_86 (oK hK k0) (ms_na (by omega)) ?_
    refine r_aload_n c6_89 rfl ?_
    refine r_iconst c6_90 ?_
    refine r_bipush c6_91 ?_
    obtain ⟨B20, h⟩ := h
    obtain ⟨n21, h⟩ := h
    obtain ⟨st22, h⟩ := h
    obtain ⟨p23, h⟩ := h
    refine r_call c6_93 rfl rfl (Nat.le_of_ble_eq_true rfl) (okc_r rfl rfl (oK hK o33)) (g92 hK x19 p23 (fun M26 x24 p25 => Bk_v ?_))
    replace h := h M26 x24 p25
    obtain ⟨s27, h⟩ := h
    refine r_ias c6_96 (oK hK (q0_2 k0)) (bd (z0_2 k0) s27) ?_
    have x28 := FX.set (v := ((tNum B20 n21 (1 : Int) (99 : Int) st22).1)) (a := (l0 + 3)) (k := (Int.toNat (M17 l0 6))) x24 (nfa (q0_2 k0) _)
    refine r_aload_n c6_97 rfl ?_
    refine r_dupr c6_98 ?_
    refine r_getIe c6_99 (oK hK k0) (ms_na (by omega)) ?_
    refine r_iconst c6_102 ?_
    refine r_iadd c6_103 ?_
    refine r_putI c6_104 (oK hK k0) ?_
    have x29 := FX.set (v := (w32 ((M26 l0 6) + (1 : Int)))) (a := l0) (k := 6) x28 (nf0 k0 (by decide))
    refine r_goto c6_107 ?_
    exact r_ret c6_192 h
  by_cases hv2 : l2 = (3 : Int)
  · rw [show tsw 1 181 1 5 #[35, 64, 109, 138, 167] l2 = 110 from by rw [hv2]; decide]
    replace h := h.2.2.1 hv2
    refine r_aload_n c6_110 rfl ?_
    refine r_getR c6_111 (oK hK k0) (fx0_3 hX k0) (by omega) ?_
    refine r_aload_n c6_114 rfl ?_
    refine r_getIe c6_115 (oK hK k0) rfl ?_
    refine r_aload_n c6_118 rfl ?_
    refine r_iconst c6_119 ?_
    refine r_bipush c6_120 ?_
    obtain ⟨B30, h⟩ := h
    obtain ⟨n31, h⟩ := h
    obtain ⟨st32, h⟩ := h
    obtain ⟨p33, h⟩ := h
    refine r_call c6_122 rfl rfl (Nat.le_of_ble_eq_true rfl) (okc_r rfl rfl (oK hK o33)) (g92 hK hX p33 (fun M36 x34 p35 => Bk_v ?_))
    replace h := h M36 x34 p35
    obtain ⟨s37, h⟩ := h
    refine r_ias c6_125 (oK hK (q0_3 k0)) (bd (z0_3 k0) s37) ?_
    have x38 := FX.set (v := ((tNum B30 n31 (1 : Int) (9 : Int) st32).1)) (a := (l0 + 4)) (k := (Int.toNat (M l0 7))) x34 (nfa (q0_3 k0) _)
    refine r_aload_n c6_126 rfl ?_
    refine r_dupr c6_127 ?_
    refine r_getIe c6_128 (oK hK k0) (ms_na (by omega)) ?_
    refine r_iconst c6_131 ?_
    refine r_iadd c6_132 ?_
    refine r_putI c6_133 (oK hK k0) ?_
    have x39 := FX.set (v := (w32 ((M36 l0 7) + (1 : Int)))) (a := l0) (k := 7) x38 (nf0 k0 (by decide))
    refine r_goto c6_136 ?_
    exact r_ret c6_192 h
  by_cases hv3 : l2 = (4 : Int)
  · rw [show tsw 1 181 1 5 #[35, 64, 109, 138, 167] l2 = 139 from by rw [hv3]; decide]
    replace h := h.2.2.2.1 hv3
    refine r_aload_n c6_139 rfl ?_
    refine r_getR c6_140 (oK hK k0) (fx0_4 hX k0) (by omega) ?_
    refine r_aload_n c6_143 rfl ?_
    refine r_getIe c6_144 (oK hK k0) rfl ?_
    refine r_aload_n c6_147 rfl ?_
    refine r_iconst c6_148 ?_
    refine r_bipush c6_149 ?_
    obtain ⟨B40, h⟩ := h
    obtain ⟨n41, h⟩ := h
    obtain ⟨st42, h⟩ := h
    obtain ⟨p43, h⟩ := h
    refine r_call c6_151 rfl rfl (Nat.le_of_ble_eq_true rfl) (okc_r rfl rfl (oK hK o33)) (g92 hK hX p43 (fun M46 x44 p45 => Bk_v ?_))
    replace h := h M46 x44 p45
    obtain ⟨s47, h⟩ := h
    refine r_ias c6_154 (oK hK (q0_4 k0)) (bd (z0_4 k0) s47) ?_
    have x48 := FX.set (v := ((tNum B40 n41 (0 : Int) (9 : Int) st42).1)) (a := (l0 + 5)) (k := (Int.toNat (M l0 8))) x44 (nfa (q0_4 k0) _)
    refine r_aload_n c6_155 rfl ?_
    refine r_dupr c6_156 ?_
    refine r_getIe c6_157 (oK hK k0) (ms_na (by omega)) ?_
    refine r_iconst c6_160 ?_
    refine r_iadd c6_161 ?_
    refine r_putI c6_162 (oK hK k0) ?_
    have x49 := FX.set (v := (w32 ((M46 l0 8) + (1 : Int)))) (a := l0) (k := 8) x48 (nf0 k0 (by decide))
    refine r_goto c6_165 ?_
    exact r_ret c6_192 h
  by_cases hv4 : l2 = (5 : Int)
  · rw [show tsw 1 181 1 5 #[35, 64, 109, 138, 167] l2 = 168 from by rw [hv4]; decide]
    replace h := h.2.2.2.2.1 hv4
    refine r_aload_n c6_168 rfl ?_
    refine r_aload_n c6_169 rfl ?_
    refine r_iconst c6_170 ?_
    refine r_bipush c6_171 ?_
    obtain ⟨B50, h⟩ := h
    obtain ⟨n51, h⟩ := h
    obtain ⟨st52, h⟩ := h
    obtain ⟨p53, h⟩ := h
    refine r_call c6_173 rfl rfl (Nat.le_of_ble_eq_true rfl) (okc_r rfl rfl (oK hK o33)) (g92 hK hX p53 (fun M56 x54 p55 => Bk_v ?_))
    replace h := h M56 x54 p55
    refine r_putI c6_176 (oK hK k0) ?_
    have x57 := FX.set (v := ((tNum B50 n51 (0 : Int) (99 : Int) st52).1)) (a := l0) (k := 9) x54 (nf0 k0 (by decide))
    refine r_goto c6_179 ?_
    exact r_ret c6_192 h
  have hvd : l2 < (1 : Int) ∨ (5 : Int) < l2 := by omega
  rw [show tsw 1 181 1 5 #[35, 64, 109, 138, 167] l2 = 182 from by unfold tsw; rw [if_pos hvd]; decide]
  replace h := h.2.2.2.2.2 hvd
  refine r_aload_n c6_182 rfl ?_
  refine r_aload_n c6_183 rfl ?_
  refine r_iconst c6_184 ?_
  refine r_iconst c6_185 ?_
  obtain ⟨B58, h⟩ := h
  obtain ⟨n59, h⟩ := h
  obtain ⟨st60, h⟩ := h
  obtain ⟨p61, h⟩ := h
  refine r_call c6_186 rfl rfl (Nat.le_of_ble_eq_true rfl) (okc_r rfl rfl (oK hK o33)) (g92 hK hX p61 (fun M64 x62 p63 => Bk_v ?_))
  replace h := h M64 x62 p63
  refine r_putI c6_189 (oK hK k0) ?_
  have x65 := FX.set (v := ((tNum B58 n59 (0 : Int) (4 : Int) st60).1)) (a := l0) (k := 10) x62 (nf0 k0 (by decide))
  exact r_ret c6_192 h
theorem g4 {d : Nat} {M : Mem} {K : KK} {Q : RR → Mem → KK → Prop} {n p e : Nat} (hK : K.1 = 923) (hX : FX M) (h : WA n M p e) (k : Q (.inl (some (vI (nmOf (wdL (M 34) p e) [2, 3, 4, 5, 6, 7] 1)))) M K) : Wm (d + 1) 4 [vR 33] M K Q := by
  simp only [nmOf] at k
  refine u4_0 hK hX ⟨n, p, e, h, fun h1 => ⟨n, p, e, h, fun h2 => ⟨n, p, e, h, fun h3 => ⟨n, p, e, h, fun h4 => ⟨n, p, e, h, fun h5 => ⟨n, p, e, h, fun h6 => ?_, fun h6 => ?_⟩, fun h5 => ?_⟩, fun h4 => ?_⟩, fun h3 => ?_⟩, fun h2 => ?_⟩, fun h1 => ?_⟩
  · rw [if_neg h1, if_neg h2, if_neg h3, if_neg h4, if_neg h5, if_neg h6] at k; exact k
  · rw [if_neg h1, if_neg h2, if_neg h3, if_neg h4, if_neg h5, if_pos h6] at k; exact k
  · rw [if_neg h1, if_neg h2, if_neg h3, if_neg h4, if_pos h5] at k; exact k
  · rw [if_neg h1, if_neg h2, if_neg h3, if_pos h4] at k; exact k
  · rw [if_neg h1, if_neg h2, if_pos h3] at k; exact k
  · rw [if_neg h1, if_pos h2] at k; exact k
  · rw [if_pos h1] at k; exact k
/-- what a reading of the common at cm with the law l changes -/
def FrY (cm l : Nat) (M M' : Mem) : Prop := ∀ a k, ¬ (cm + 1 ≤ a ∧ a ≤ cm + 5) → a ≠ l + 2 → ¬ (a = cm ∧ 5 ≤ k ∧ k ≤ 10) → ¬ (a = l ∧ k = 3) → ¬ (a = 33 ∧ 3 ≤ k ∧ k ≤ 7) → M' a k = M a k
theorem FrY.rf {cm l : Nat} {M : Mem} : FrY cm l M M := fun _ _ _ _ _ _ _ => rfl
theorem FrY.tr {cm l : Nat} {M M1 M2 : Mem} (h1 : FrY cm l M M1) (h2 : FrY cm l M1 M2) : FrY cm l M M2 := fun a k p q r s t => (h2 a k p q r s t).trans (h1 a k p q r s t)
theorem FrT.Y {cm l : Nat} {M M' : Mem} (h : FrT M M') : FrY cm l M M' := fun a k _ _ _ _ t => h a k t
theorem FrY.st {cm l : Nat} {M M1 : Mem} {a k : Nat} {v : Int} (h : FrY cm l M M1) (ha : (cm + 1 ≤ a ∧ a ≤ cm + 5) ∨ (a = cm ∧ 5 ≤ k ∧ k ≤ 10)) : FrY cm l M (mset M1 a k v) := by
  intro b j p q r s t
  unfold mset
  rw [if_neg (by rintro ⟨rfl, rfl⟩; rcases ha with ha | ha; exact p ha; exact r ha)]
  exact h b j p q r s t
abbrev isFullP (M : Mem) (cm : Nat) (k : Int) : Prop := (k = 1 ∧ 12 ≤ M cm 5) ∨ (k = 2 ∧ 6 ≤ M cm 6) ∨ (k = 3 ∧ 8 ≤ M cm 7) ∨ (k = 4 ∧ 7 ≤ M cm 8)
section YA
variable {d : Nat} {M : Mem} {K : KK} {Q : RR → Mem → KK → Prop} {B : BY} {n : Nat} {st : ST} {cm l : Nat} {c : Mem}
theorem CC.frC (hcm : isO 923 cm 0 = true) (hl : isO 923 l 2 = true) {M' : Mem} (hf : FrC l M M') (h : CC M cm c) : CC M' cm c := by
  have hr := rg0 hcm
  have hr2 := rg2 hl
  exact ⟨fun k hk => (hf cm (5 + k) (by omega) (by omega)).trans (h.1 k hk), fun a h1 h2 i hi => (hf (cm + a) i (by omega) (by omega)).trans (h.2 a h1 h2 i hi)⟩
theorem g1 (hK : K.1 = 923) (hX : FX M) (hcm : isO 923 cm 0 = true) (h : M cm 11 = (l : Int) ∧ isO 923 l 2 = true) (k : ∀ M', FX M' → (FrY cm l M M' ∧ CC M' cm c00 ∧ CR M' l PL ∧ ∀ k, M' 33 k = M 33 k) → Q (.inl none) M' K) : Wm (d + 2) 1 [vR cm] M K Q := by
  refine u1_0 hK hX hcm ⟨l, h.1, h.2, fun M1 x1 p1 => k M1 x1 ⟨?_, ?_, p1.2, ?_⟩⟩
  · intro a j p q r s t
    rw [p1.1 a j q s]
    simp only [mset]
    rw [if_neg (by omega), if_neg (by omega), if_neg (by omega), if_neg (by omega), if_neg (by omega), if_neg (by omega)]
  · refine CC.frC hcm h.2 p1.1 ⟨fun j hj => ?_, fun a h1 h2 i hi => ?_⟩
    · rcases (show j = 0 ∨ j = 1 ∨ j = 2 ∨ j = 3 ∨ j = 4 ∨ j = 5 by omega) with rfl | rfl | rfl | rfl | rfl | rfl <;> (simp [mset, c00])
    · exfalso
      have : c00 0 (cntOf a) = 0 := by
        have : cntOf a < 4 := by unfold cntOf; split; omega; split; omega; split; omega; split <;> omega
        simp only [c00, if_true]; rw [if_neg (by omega), if_neg (by omega)]
      omega
  · intro j
    have hr := rg0 hcm
    have hr2 := rg2 h.2
    rw [p1.1 33 j (by omega) (by omega)]
    simp only [mset]
    rw [if_neg (by omega), if_neg (by omega), if_neg (by omega), if_neg (by omega), if_neg (by omega), if_neg (by omega)]
theorem g5 {k9 : Int} (hK : K.1 = 923) (hX : FX M) (hcm : isO 923 cm 0 = true) (k : Q (.inl (some (vI (bI (isFullP M cm k9))))) M K) : Wm d 5 [vR cm, vI k9] M K Q := by
  have k0 : ¬ isFullP M cm k9 → Q (.inl (some (vI 0))) M K := fun h => by rw [bI_f h] at k; exact k
  have k1 : isFullP M cm k9 → Q (.inl (some (vI 1))) M K := fun h => by rw [bI_t h] at k; exact k
  have tail : ¬ (k9 = 1 ∧ 12 ≤ M cm 5) → ¬ (k9 = 2 ∧ 6 ≤ M cm 6) → Wp d 5 28 [vR cm, vI k9] [] M K Q := by
    intro n1 n2
    refine u5_28 hK hX hcm ⟨fun h => ⟨fun h' => k0 ?_, fun h' => ⟨fun h9 => k0 ?_, fun h9 => k1 ?_⟩⟩, fun h => ⟨fun h9 => k1 ?_, fun h9 => ⟨fun h' => k0 ?_, fun h' => ⟨fun _ => k0 ?_, fun _ => by omega⟩⟩⟩⟩ <;> unfold isFullP <;> omega
  refine u5_0 hK hX hcm ⟨fun h => ⟨fun h' => tail (by omega) (by omega), fun h' => ⟨fun h9 => k1 ?_, fun h9 => tail (by omega) (by omega)⟩⟩, fun h => ⟨fun h9 => k1 ?_, fun h9 => ⟨fun h' => tail (by omega) (by omega), fun h' => by omega⟩⟩⟩ <;> unfold isFullP <;> omega
theorem TR.y {M' : Mem} (h : TR B n M st) (h33 : ∀ k, M' 33 k = M 33 k) (h34 : ∀ k, M' 34 k = M 34 k) : TR B n M' st := by
  obtain ⟨h1, h2, h3, a, h4, h5, h6⟩ := h
  refine ⟨(h33 2).trans h1, h2, fun i hi => (h34 i).trans (h3 i hi), a, (h33 3).trans h4, h5, ?_⟩
  cases st with
  | inl p => exact ⟨⟨(h33 6).trans h6.1.1, (h33 7).trans h6.1.2⟩, h6.2⟩
  | inr f => exact ⟨(h33 6).trans h6.1, (h33 7).trans h6.2.1, h6.2.2⟩
theorem TR.set {a k : Nat} {v : Int} (h : TR B n M st) (ha : a ≠ 33 ∧ a ≠ 34) : TR B n (mset M a k v) st := h.y (fun _ => ms_na (fun e => ha.1 e.symm)) (fun _ => ms_na (fun e => ha.2 e.symm))
theorem g6 {kk : Int} (hK : K.1 = 923) (hX : FX M) (hcm : isO 923 cm 0 = true) (h : TR B n M st ∧ CC M cm c ∧ CW c ∧ ∃ k, (0 ≤ k ∧ k ≤ 5) ∧ kk = k + 1 ∧ ¬ (k < 4 ∧ capF k ≤ c 0 k.toNat)) (k : ∀ M', FX M' → ((∀ l9, FrY cm l9 M M') ∧ TR B n M' (kdF B n (kk - 1) st c).1 ∧ CC M' cm (kdF B n (kk - 1) st c).2) → Q (.inl none) M' K) : Wm (d + 3) 6 [vR cm, vR 33, vI kk] M K Q := by
  obtain ⟨ht, hc, hw, k9, hk, rfl, hf⟩ := h
  obtain ⟨w0, w1', w2, w3, w4, w5, -⟩ := hw
  have hr := rg0 hcm
  rw [show k9 + 1 - 1 = k9 from by omega] at k
  have e5 : ∀ j, j < 6 → M cm (5 + j) = c 0 j := hc.1
  -- one number into the array a, counted at j
  have one : ∀ (a j : Nat) (lo hi : Int) (M1 : Mem), FX M1 → FrT M M1 → (1 ≤ a ∧ a ≤ 5) → j < 4 → cntOf a = j → (∀ b, 1 ≤ b → b ≤ 5 → cntOf b = j → b = a) → 0 ≤ c 0 j → c 0 j ≤ 20 → (tNum B n lo hi st).2 = (kdF B n k9 st c).1 → (kdF B n k9 st c).2 = mset (mset c a (c 0 j).toNat (tNum B n lo hi st).1) 0 j (c 0 j + 1) → TR B n M1 (tNum B n lo hi st).2 → FX (mset (mset M1 (cm + a) (Int.toNat (M cm (5 + j))) (tNum B n lo hi st).1) cm (5 + j) (w32 (M1 cm (5 + j) + 1))) → Q (.inl none) (mset (mset M1 (cm + a) (Int.toNat (M cm (5 + j))) (tNum B n lo hi st).1) cm (5 + j) (w32 (M1 cm (5 + j) + 1))) K := by
    intro a j lo hi M1 x1 f1 ha hj hcj hu hc0 hc1 e1 e2 t1 xx
    have hc2 := hc.t hcm f1
    have ee : M1 cm (5 + j) = c 0 j := hc2.1 j (by omega)
    refine k _ xx ⟨fun l9 => (f1.Y.st (Or.inl (by omega))).st (Or.inr ⟨rfl, by omega⟩), ?_, ?_⟩
    · rw [← e1]; exact (t1.set (by omega)).set (by omega)
    · rw [e2, e5 j (by omega), ee, w32_id (by omega)]
      have h9 := hc2.arr (a := a) (n := (c 0 j).toNat) (v := (tNum B n lo hi st).1) ha (by rw [hcj]; omega)
      have := h9.cnt (k := j) (n := (c 0 j).toNat) hj (by rw [ms_na (by omega)]; omega) (fun b hb1 hb2 hbj => by rw [hu b hb1 hb2 hbj, ms_eq, ms_eq])
      rw [ms_na (by omega)] at this
      exact this
  have un : ∀ b, 1 ≤ b → b ≤ 5 → (cntOf b = 0 → b = 1) ∧ (cntOf b = 2 → b = 4) ∧ (cntOf b = 3 → b = 5) := by
    intro b h1 h2
    rcases (show b = 1 ∨ b = 2 ∨ b = 3 ∨ b = 4 ∨ b = 5 by omega) with rfl | rfl | rfl | rfl | rfl <;> decide
  refine u6_0 hK hX hcm ⟨fun e => ?_, fun e => ?_, fun e => ?_, fun e => ?_, fun e => ?_, fun e => ?_⟩
  · have : k9 = 0 := by omega
    subst this
    have hcap : c 0 0 < 12 := by simp [capF] at hf; omega
    have e9 : M cm 5 = c 0 0 := e5 0 (by decide)
    refine ⟨B, n, st, ht, fun M1 x1 p1 => ⟨by omega, ?_⟩⟩
    exact one 1 0 0 9 M1 x1 p1.1 (by decide) (by decide) rfl (fun b h1 h2 => (un b h1 h2).1) (by omega) (by omega) rfl rfl p1.2 ((x1.set (nfa (q0_0 hcm) _)).set (nf0 hcm (by decide)))
  · have : k9 = 1 := by omega
    subst this
    have hcap : c 0 1 < 6 := by simp [capF] at hf; omega
    have e6 : M cm 6 = c 0 1 := e5 1 (by decide)
    refine ⟨B, n, st, ht, fun M1 x1 p1 => ⟨by omega, B, n, _, p1.2.set (by omega), fun M2 x2 p2 => ⟨?_, ?_⟩⟩⟩
    · have := p1.1 cm 6 (by omega); omega
    · have hc2 := hc.t hcm p1.1
      have h9 := hc2.arr (a := 2) (n := (c 0 1).toNat) (v := (tNum B n 1 6 st).1) (by decide) (by show c 0 1 ≤ _; omega)
      have e61 : M1 cm 6 = c 0 1 := (p1.1 cm 6 (by omega)).trans e6
      rw [e6] at p2
      rw [e61]
      have h10 := h9.t hcm p2.1
      have e62 : M2 cm 6 = c 0 1 := (p2.1 cm 6 (by omega)).trans ((ms_na (by omega)).trans e61)
      rw [e62, w32_id (by omega)]
      have h11 := h10.arr (a := 3) (n := (c 0 1).toNat) (v := (tNum B n 1 99 (tNum B n 1 6 st).2).1) (by decide) (by show mset c 2 _ _ 0 1 ≤ _; rw [ms_na (by decide)]; omega)
      have h12 := h11.cnt (k := 1) (n := (c 0 1).toNat) (by decide) (by rw [ms_na (by decide), ms_na (by decide)]; omega) (fun b hb1 hb2 hbj => by
        have hb : b = 2 ∨ b = 3 := by
          rcases (show b = 1 ∨ b = 2 ∨ b = 3 ∨ b = 4 ∨ b = 5 by omega) with rfl | rfl | rfl | rfl | rfl
          · exact absurd hbj (by decide)
          · exact Or.inl rfl
          · exact Or.inr rfl
          · exact absurd hbj (by decide)
          · exact absurd hbj (by decide)
        rcases hb with rfl | rfl
        · rw [ms_na (by omega), ms_na (by omega), ms_eq, p2.1 _ _ (by omega), ms_eq]
        · rw [ms_eq, ms_eq])
      rw [ms_na (by decide), ms_na (by decide)] at h12
      refine k _ ((x2.set (nfa (q0_2 hcm) _)).set (nf0 hcm (by decide))) ⟨fun l9 => ((((p1.1.Y).st (Or.inl (by omega))).tr p2.1.Y).st (Or.inl (by omega))).st (Or.inr ⟨rfl, by omega⟩), ?_, h12⟩
      exact (p2.2.set (by omega)).set (by omega)
  · have : k9 = 2 := by omega
    subst this
    have hcap : c 0 2 < 8 := by simp [capF] at hf; omega
    have e9 : M cm 7 = c 0 2 := e5 2 (by decide)
    refine ⟨B, n, st, ht, fun M1 x1 p1 => ⟨by omega, ?_⟩⟩
    exact one 4 2 1 9 M1 x1 p1.1 (by decide) (by decide) rfl (fun b h1 h2 => (un b h1 h2).2.1) (by omega) (by omega) rfl rfl p1.2 ((x1.set (nfa (q0_3 hcm) _)).set (nf0 hcm (by decide)))
  · have : k9 = 3 := by omega
    subst this
    have hcap : c 0 3 < 7 := by simp [capF] at hf; omega
    have e9 : M cm 8 = c 0 3 := e5 3 (by decide)
    refine ⟨B, n, st, ht, fun M1 x1 p1 => ⟨by omega, ?_⟩⟩
    exact one 5 3 0 9 M1 x1 p1.1 (by decide) (by decide) rfl (fun b h1 h2 => (un b h1 h2).2.2) (by omega) (by omega) rfl rfl p1.2 ((x1.set (nfa (q0_4 hcm) _)).set (nf0 hcm (by decide)))
  · have : k9 = 4 := by omega
    subst this
    refine ⟨B, n, st, ht, fun M1 x1 p1 => ?_⟩
    exact k _ (x1.set (nf0 hcm (by decide))) ⟨fun l9 => (p1.1.Y).st (Or.inr ⟨rfl, by omega⟩), p1.2.set (by omega), (hc.t hcm p1.1).val (k := 4) (by decide)⟩
  · have : k9 = 5 := by omega
    subst this
    refine ⟨B, n, st, ht, fun M1 x1 p1 => ?_⟩
    exact k _ (x1.set (nf0 hcm (by decide))) ⟨fun l9 => (p1.1.Y).st (Or.inr ⟨rfl, by omega⟩), p1.2.set (by omega), (hc.t hcm p1.1).val (k := 5) (by decide)⟩
end YA
theorem u3_0 {d : Nat} {l0 : Nat} {l2 : Int} {M : Mem} {K : KK} {Q : RR → Mem → KK → Prop} (hK : K.1 = 923) (hX : FX M) (k0 : isO 923 l0 0 = true) (h : ∃ B1 : BY, ∃ n2 : Nat, ∃ st3 : ST, TR B1 n2 M st3 ∧ (∀ (M7 : Mem), FX M7 → (FrT M M7 ∧ TR B1 n2 M7 (tWord B1 n2 st3) ∧ ∃ p e, WA n2 M7 p e ∧ WQ B1 n2 st3 p e) → ∃ n8 : Nat, ∃ p9 : Nat, ∃ e10 : Nat, WA n8 M7 p9 e10 ∧ (¬ (nmOf (wdL (M7 34) p9 e10) [2, 3, 4, 5, 6, 7] 1) = (-1 : Int) → ((60 : Int) ≤ l2 → ∃ B15 : BY, ∃ n16 : Nat, ∃ st17 : ST, ∃ p18 : Nat, ∃ e19 : Nat, (TR B15 n16 M7 st17 ∧ (3 : Int) ≠ 0 ∧ WA n16 M7 p18 e19) ∧ (∀ (M23 : Mem), FX M23 → (FrT M7 M23 ∧ TR B15 n16 M23 (tFail (3 : Int) (p18 : Int) st17)) → Q (.inl none) M23 K)) ∧ (¬ ((60 : Int) ≤ l2) → (¬ (isFullP M7 l0 (nmOf (wdL (M7 34) p9 e10) [2, 3, 4, 5, 6, 7] 1)) → ∃ B26 : BY, ∃ n27 : Nat, ∃ st28 : ST, ∃ c29 : Mem, (TR B26 n27 M7 st28 ∧ CC M7 l0 c29 ∧ CW c29 ∧ ∃ k, (0 ≤ k ∧ k ≤ 5) ∧ (nmOf (wdL (M7 34) p9 e10) [2, 3, 4, 5, 6, 7] 1) = k + 1 ∧ ¬ (k < 4 ∧ capF k ≤ c29 0 k.toNat)) ∧ (∀ (M33 : Mem), FX M33 → ((∀ l9, FrY l0 l9 M7 M33) ∧ TR B26 n27 M33 (kdF B26 n27 ((nmOf (wdL (M7 34) p9 e10) [2, 3, 4, 5, 6, 7] 1) - 1) st28 c29).1 ∧ CC M33 l0 (kdF B26 n27 ((nmOf (wdL (M7 34) p9 e10) [2, 3, 4, 5, 6, 7] 1) - 1) st28 c29).2) → ∃ B34 : BY, ∃ n35 : Nat, ∃ st36 : ST, (TR B34 n35 M33 st36 ∧ (59 : Int) ≠ -1) ∧ (∀ (M40 : Mem), FX M40 → (FrT M33 M40 ∧ TR B34 n35 M40 (tSign B34 n35 (59 : Int) st36)) → Q (.inl none) M40 K))) ∧ ((isFullP M7 l0 (nmOf (wdL (M7 34) p9 e10) [2, 3, 4, 5, 6, 7] 1)) → ∃ B41 : BY, ∃ n42 : Nat, ∃ st43 : ST, ∃ p44 : Nat, ∃ e45 : Nat, (TR B41 n42 M7 st43 ∧ (3 : Int) ≠ 0 ∧ WA n42 M7 p44 e45) ∧ (∀ (M49 : Mem), FX M49 → (FrT M7 M49 ∧ TR B41 n42 M49 (tFail (3 : Int) (p44 : Int) st43)) → Q (.inl none) M49 K)))) ∧ ((nmOf (wdL (M7 34) p9 e10) [2, 3, 4, 5, 6, 7] 1) = (-1 : Int) → ∃ B50 : BY, ∃ n51 : Nat, ∃ st52 : ST, ∃ p53 : Nat, ∃ e54 : Nat, (TR B50 n51 M7 st52 ∧ (1 : Int) ≠ 0 ∧ WA n51 M7 p53 e54) ∧ (∀ (M58 : Mem), FX M58 → (FrT M7 M58 ∧ TR B50 n51 M58 (tFail (1 : Int) (p53 : Int) st52)) → Q (.inl none) M58 K)))) : Wp (d + 4) 3 0 [vR l0, vR 33, vI l2, vU] [] M K Q := by
  refine r_aload_n c3_0 rfl ?_
  obtain ⟨B1, h⟩ := h
  obtain ⟨n2, h⟩ := h
  obtain ⟨st3, h⟩ := h
  obtain ⟨p4, h⟩ := h
  refine r_call c3_1 rfl rfl (Nat.le_of_ble_eq_true rfl) (okc_r rfl rfl (oK hK o33)) (g93 hK hX p4 (fun M7 x5 p6 => Bk_n ?_))
  replace h := h M7 x5 p6
  refine r_aload_n c3_4 rfl ?_
  obtain ⟨n8, h⟩ := h
  obtain ⟨p9, h⟩ := h
  obtain ⟨e10, h⟩ := h
  obtain ⟨p11, h⟩ := h
  refine r_call c3_5 rfl rfl (Nat.le_of_ble_eq_true rfl) (okc_s rfl rfl rfl) (g4 hK x5 p11 (Bk_v ?_))
  refine r_istore_n c3_8 (Nat.le_of_ble_eq_true rfl) ?_
  refine r_iload_n c3_9 rfl ?_
  refine r_iconst c3_10 ?_
  refine r_icmpP (P := ¬ (nmOf (wdL (M7 34) p9 e10) [2, 3, 4, 5, 6, 7] 1) = (-1 : Int)) c3_11 rfl (fun hc12 => ?_) (fun hc12 => ?_)
  · replace h := h.1 hc12
    refine r_iload_n c3_22 rfl ?_
    refine r_bipush c3_23 ?_
    refine r_icmpP (P := (60 : Int) ≤ l2) c3_25 rfl (fun hc14 => ?_) (fun hc14 => ?_)
    · replace h := h.1 hc14
      refine r_aload_n c3_36 rfl ?_
      refine r_iconst c3_37 ?_
      obtain ⟨B15, h⟩ := h
      obtain ⟨n16, h⟩ := h
      obtain ⟨st17, h⟩ := h
      obtain ⟨p18, h⟩ := h
      obtain ⟨e19, h⟩ := h
      obtain ⟨p20, h⟩ := h
      refine r_call c3_38 rfl rfl (Nat.le_of_ble_eq_true rfl) (okc_r rfl rfl (oK hK o33)) (g95 hK x5 p20 (fun M23 x21 p22 => Bk_n ?_))
      replace h := h M23 x21 p22
      refine r_goto c3_41 ?_
      exact r_ret c3_56 h
    · replace h := h.2 hc14
      refine r_aload_n c3_28 rfl ?_
      refine r_iload_n c3_29 rfl ?_
      refine r_call c3_30 rfl rfl (Nat.le_of_ble_eq_true rfl) (okc_r rfl rfl (oK hK k0)) (g5 hK x5 k0  (Bk_v ?_))
      refine r_ifP (P := ¬ (isFullP M7 l0 (nmOf (wdL (M7 34) p9 e10) [2, 3, 4, 5, 6, 7] 1))) c3_33 bI_eq (fun hc24 => ?_) (fun hc24 => ?_)
      · replace h := h.1 hc24
        refine r_aload_n c3_44 rfl ?_
        refine r_aload_n c3_45 rfl ?_
        refine r_iload_n c3_46 rfl ?_
        obtain ⟨B26, h⟩ := h
        obtain ⟨n27, h⟩ := h
        obtain ⟨st28, h⟩ := h
        obtain ⟨c29, h⟩ := h
        obtain ⟨p30, h⟩ := h
        refine r_call c3_47 rfl rfl (Nat.le_of_ble_eq_true rfl) (okc_r rfl rfl (oK hK k0)) (g6 hK x5 k0 p30 (fun M33 x31 p32 => Bk_n ?_))
        replace h := h M33 x31 p32
        refine r_aload_n c3_50 rfl ?_
        refine r_bipush c3_51 ?_
        obtain ⟨B34, h⟩ := h
        obtain ⟨n35, h⟩ := h
        obtain ⟨st36, h⟩ := h
        obtain ⟨p37, h⟩ := h
        refine r_call c3_53 rfl rfl (Nat.le_of_ble_eq_true rfl) (okc_r rfl rfl (oK hK o33)) (g91 hK x31 p37 (fun M40 x38 p39 => Bk_n ?_))
        replace h := h M40 x38 p39
        exact r_ret c3_56 h
      · have hc25 := Classical.not_not.mp hc24
        replace h := h.2 hc25
        refine r_aload_n c3_36 rfl ?_
        refine r_iconst c3_37 ?_
        obtain ⟨B41, h⟩ := h
        obtain ⟨n42, h⟩ := h
        obtain ⟨st43, h⟩ := h
        obtain ⟨p44, h⟩ := h
        obtain ⟨e45, h⟩ := h
        obtain ⟨p46, h⟩ := h
        refine r_call c3_38 rfl rfl (Nat.le_of_ble_eq_true rfl) (okc_r rfl rfl (oK hK o33)) (g95 hK x5 p46 (fun M49 x47 p48 => Bk_n ?_))
        replace h := h M49 x47 p48
        refine r_goto c3_41 ?_
        exact r_ret c3_56 h
  · have hc13 := Classical.not_not.mp hc12
    replace h := h.2 hc13
    refine r_aload_n c3_14 rfl ?_
    refine r_iconst c3_15 ?_
    obtain ⟨B50, h⟩ := h
    obtain ⟨n51, h⟩ := h
    obtain ⟨st52, h⟩ := h
    obtain ⟨p53, h⟩ := h
    obtain ⟨e54, h⟩ := h
    obtain ⟨p55, h⟩ := h
    refine r_call c3_16 rfl rfl (Nat.le_of_ble_eq_true rfl) (okc_r rfl rfl (oK hK o33)) (g95 hK x5 p55 (fun M58 x56 p57 => Bk_n ?_))
    replace h := h M58 x56 p57
    refine r_goto c3_19 ?_
    exact r_ret c3_56 h
section YB
variable {d : Nat} {M : Mem} {K : KK} {Q : RR → Mem → KK → Prop} {B : BY} {n : Nat} {st : ST} {cm l : Nat} {c : Mem}
theorem nmOf_up {w : List Int} : ∀ (l : List Nat) (i : Int), 0 ≤ i → nmOf w l (i + 1) = if nmOf w l i = -1 then -1 else nmOf w l i + 1 := by
  intro l
  induction l with
  | nil => intro i _; rfl
  | cons a l ih =>
    intro i hi
    by_cases h : w = wL a
    · have e1 : nmOf w (a :: l) (i + 1) = i + 1 := if_pos h
      have e2 : nmOf w (a :: l) i = i := if_pos h
      rw [e1, e2, if_neg (by omega)]
    · have e1 : nmOf w (a :: l) (i + 1) = nmOf w l (i + 1 + 1) := if_neg h
      have e2 : nmOf w (a :: l) i = nmOf w l (i + 1) := if_neg h
      rw [e1, e2]; exact ih (i + 1) (by omega)
theorem g3 {cl : Nat} {u : Int} (hK : K.1 = 923) (hX : FX M) (hcm : isO 923 cm 0 = true) (h : TR B n M st ∧ CC M cm c ∧ CW c ∧ (∃ p, st = .inl p) ∧ u = (cl : Int)) (k : ∀ M', FX M' → ((∀ l9, FrY cm l9 M M') ∧ TR B n M' (clF B n cl (st, c)).1 ∧ CC M' cm (clF B n cl (st, c)).2) → Q (.inl none) M' K) : Wm (d + 4) 3 [vR cm, vR 33, vI u] M K Q := by
  obtain ⟨ht, hc, hw, ⟨p, rfl⟩, rfl⟩ := h
  refine u3_0 hK hX hcm ⟨B, n, _, ht, fun M1 x1 p1 => ?_⟩
  obtain ⟨f1, t1, p', e, wa, wq⟩ := p1
  obtain ⟨hpp, he⟩ := wq p rfl
  subst hpp
  have hwd : wdL (M1 34) p' e = wdL B p' (sp isS B n p') := by rw [wdL_c t1 wa.2.2.2.1, he]
  have hk : nmOf (wdL (M1 34) p' e) [2, 3, 4, 5, 6, 7] 1 = if kWd B n (.inl p') = -1 then -1 else kWd B n (.inl p') + 1 := by
    rw [hwd]; exact nmOf_up _ 0 (by decide)
  have hrg := kWd_rg (B := B) (n := n) (st := .inl p')
  have hc1 := hc.t hcm f1
  refine ⟨n, p', e, wa, ?_⟩
  rw [hk]
  have e5 : ∀ j, j < 6 → M1 cm (5 + j) = c 0 j := hc1.1
  have hfull : 0 ≤ kWd B n (.inl p') → kWd B n (.inl p') ≤ 5 → (isFullP M1 cm (kWd B n (.inl p') + 1) ↔ kWd B n (.inl p') < 4 ∧ capF (kWd B n (.inl p')) ≤ c 0 (kWd B n (.inl p')).toNat) := by
    intro h1 h2
    have a0 : M1 cm 5 = c 0 0 := e5 0 (by decide)
    have a1 : M1 cm 6 = c 0 1 := e5 1 (by decide)
    have a2 : M1 cm 7 = c 0 2 := e5 2 (by decide)
    have a3 : M1 cm 8 = c 0 3 := e5 3 (by decide)
    generalize kWd B n (.inl p') = q at h1 h2
    unfold isFullP
    rw [a0, a1, a2, a3]
    rcases (show q = 0 ∨ q = 1 ∨ q = 2 ∨ q = 3 ∨ q = 4 ∨ q = 5 by omega) with rfl | rfl | rfl | rfl | rfl | rfl <;> simp [capF]
  refine ⟨fun hne => ⟨fun hge => ⟨B, n, _, p', e, ⟨t1, by decide, wa⟩, fun M2 x2 p2 => ?_⟩, fun hlt => ⟨fun hnf => ?_, fun hf => ⟨B, n, _, p', e, ⟨t1, by decide, wa⟩, fun M2 x2 p2 => ?_⟩⟩⟩, fun heq => ⟨B, n, _, p', e, ⟨t1, by decide, wa⟩, fun M2 x2 p2 => ?_⟩⟩
  · have hk1 : ¬ kWd B n (.inl p') = -1 := fun h => hne (if_pos h)
    have hu : clF B n cl (.inl p', c) = (.inr (3, (p' : Int)), c) := by
      simp only [clF]; rw [if_neg hk1, if_pos (Or.inl (by omega))]
    rw [hu] at k
    exact k M2 x2 ⟨fun l9 => f1.Y.tr p2.1.Y, p2.2, hc1.t hcm p2.1⟩
  · have hk1 : ¬ kWd B n (.inl p') = -1 := fun h => hne (if_pos h)
    rw [if_neg hk1] at hnf ⊢
    rcases hrg with h | ⟨h1, h2, -⟩
    · exact absurd h hk1
    · have hno : ¬ (kWd B n (.inl p') < 4 ∧ capF (kWd B n (.inl p')) ≤ c 0 (kWd B n (.inl p')).toNat) := fun h => hnf ((hfull h1 h2).mpr h)
      have hu : clF B n cl (.inl p', c) = (tSign B n 59 (kdF B n (kWd B n (.inl p')) (tWord B n (.inl p')) c).1, (kdF B n (kWd B n (.inl p')) (tWord B n (.inl p')) c).2) := by
        simp only [clF]; rw [if_neg hk1, if_neg (by rintro (h | h); omega; exact hno h)]
      rw [hu] at k
      refine ⟨B, n, _, c, ⟨t1, hc1, hw, _, ⟨h1, h2⟩, rfl, hno⟩, fun M2 x2 p2 => ⟨B, n, _, ⟨p2.2.1, by decide⟩, fun M3 x3 p3 => ?_⟩⟩
      rw [show kWd B n (.inl p') + 1 - 1 = kWd B n (.inl p') from by omega] at p2 p3
      exact k M3 x3 ⟨fun l9 => (f1.Y.tr (p2.1 l9)).tr p3.1.Y, p3.2, p2.2.2.t hcm p3.1⟩
  · have hk1 : ¬ kWd B n (.inl p') = -1 := fun h => hne (if_pos h)
    rw [if_neg hk1] at hf
    rcases hrg with h | ⟨h1, h2, -⟩
    · exact absurd h hk1
    · have hu : clF B n cl (.inl p', c) = (.inr (3, (p' : Int)), c) := by
        simp only [clF]; rw [if_neg hk1, if_pos (Or.inr ((hfull h1 h2).mp hf))]
      rw [hu] at k
      exact k M2 x2 ⟨fun l9 => f1.Y.tr p2.1.Y, p2.2, hc1.t hcm p2.1⟩
  · have hk1 : kWd B n (.inl p') = -1 := by
      rcases hrg with h | ⟨h1, h2, -⟩
      · exact h
      · rw [if_neg (by omega)] at heq; omega
    have hu : clF B n cl (.inl p', c) = (.inr (1, (p' : Int)), c) := by
      simp only [clF]; rw [if_pos hk1]
    rw [hu] at k
    exact k M2 x2 ⟨fun l9 => f1.Y.tr p2.1.Y, p2.2, hc1.t hcm p2.1⟩
end YB
theorem u2_0 {d : Nat} {l0 : Nat} {M : Mem} {K : KK} {Q : RR → Mem → KK → Prop} (hK : K.1 = 923) (hX : FX M) (k0 : isO 923 l0 0 = true) (h : ∃ l1 : Nat, (M l0 11 = (l1 : Int) ∧ isO 923 l1 2 = true) ∧ (∀ (M5 : Mem), FX M5 → (FrY l0 l1 M M5 ∧ CC M5 l0 c00 ∧ CR M5 l1 PL ∧ ∀ k, M5 33 k = M 33 k) → Wp (d + 5) 2 6 [vR l0, vR 33, vI (0 : Int)] [] M5 K Q)) : Wp (d + 5) 2 0 [vR l0, vR 33, vU] [] M K Q := by
  refine r_aload_n c2_0 rfl ?_
  obtain ⟨l1, h⟩ := h
  obtain ⟨p2, h⟩ := h
  refine r_call c2_1 rfl rfl (Nat.le_of_ble_eq_true rfl) (okc_r rfl rfl (oK hK k0)) (g1 hK hX k0 p2 (fun M5 x3 p4 => Bk_n ?_))
  replace h := h M5 x3 p4
  refine r_iconst c2_4 ?_
  refine r_istore_n c2_5 (Nat.le_of_ble_eq_true rfl) ?_
  exact h
theorem u2_6 {d : Nat} {l0 : Nat} {l2 : Int} {M : Mem} {K : KK} {Q : RR → Mem → KK → Prop} (hK : K.1 = 923) (hX : FX M) (k0 : isO 923 l0 0 = true) (h : ((60 : Int) < l2 → Q (.inl none) M K) ∧ (¬ ((60 : Int) < l2) → ∃ B2 : BY, ∃ n3 : Nat, ∃ st4 : ST, TR B2 n3 M st4 ∧ (∀ (M8 : Mem), FX M8 → (FrT M M8 ∧ TR B2 n3 M8 st4 ∧ AtE M8 st4) → ((pk B2 n3 st4) = (-1 : Int) → Q (.inl none) M8 K) ∧ (¬ ((pk B2 n3 st4) = (-1 : Int)) → ∃ B10 : BY, ∃ n11 : Nat, ∃ st12 : ST, ∃ c13 : Mem, ∃ cl14 : Nat, (TR B10 n11 M8 st12 ∧ CC M8 l0 c13 ∧ CW c13 ∧ (∃ p, st12 = .inl p) ∧ l2 = (cl14 : Int)) ∧ (∀ (M18 : Mem), FX M18 → ((∀ l9, FrY l0 l9 M8 M18) ∧ TR B10 n11 M18 (clF B10 n11 cl14 (st12, c13)).1 ∧ CC M18 l0 (clF B10 n11 cl14 (st12, c13)).2) → Wp (d + 5) 2 6 [vR l0, vR 33, vI (w32 (l2 + 1))] [] M18 K Q))))) : Wp (d + 5) 2 6 [vR l0, vR 33, vI l2] [] M K Q := by
  refine r_iload_n c2_6 rfl ?_
  refine r_bipush c2_7 ?_
  refine r_icmpP (P := (60 : Int) < l2) c2_9 rfl (fun hc1 => ?_) (fun hc1 => ?_)
  · replace h := h.1 hc1
    exact r_ret c2_32 h
  · replace h := h.2 hc1
    refine r_aload_n c2_12 rfl ?_
    obtain ⟨B2, h⟩ := h
    obtain ⟨n3, h⟩ := h
    obtain ⟨st4, h⟩ := h
    obtain ⟨p5, h⟩ := h
    refine r_call c2_13 rfl rfl (Nat.le_of_ble_eq_true rfl) (okc_r rfl rfl (oK hK o33)) (g88 hK hX p5 (fun M8 x6 p7 => Bk_v ?_))
    replace h := h M8 x6 p7
    refine r_iconst c2_16 ?_
    refine r_icmpP (P := (pk B2 n3 st4) = (-1 : Int)) c2_17 rfl (fun hc9 => ?_) (fun hc9 => ?_)
    · replace h := h.1 hc9
      exact r_ret c2_32 h
    · replace h := h.2 hc9
      refine r_aload_n c2_20 rfl ?_
      refine r_aload_n c2_21 rfl ?_
      refine r_iload_n c2_22 rfl ?_
      obtain ⟨B10, h⟩ := h
      obtain ⟨n11, h⟩ := h
      obtain ⟨st12, h⟩ := h
      obtain ⟨c13, h⟩ := h
      obtain ⟨cl14, h⟩ := h
      obtain ⟨p15, h⟩ := h
      refine r_call c2_23 rfl rfl (Nat.le_of_ble_eq_true rfl) (okc_r rfl rfl (oK hK k0)) (g3 hK x6 k0 p15 (fun M18 x16 p17 => Bk_n ?_))
      replace h := h M18 x16 p17
      refine r_iinc c2_26 rfl ?_
      refine r_goto c2_29 ?_
      exact h
section YC
variable {d : Nat} {M : Mem} {K : KK} {Q : RR → Mem → KK → Prop} {B : BY} {n : Nat} {cm l : Nat}
theorem clF_ok {cl : Nat} {x : XC} : ∀ f, x.1 = .inr f → (clF B n cl x).1 = .inr f := by
  intro f h
  obtain ⟨st, c⟩ := x
  dsimp only at h
  subst h; rfl
theorem g2 (hK : K.1 = 923) (hX : FX M) (hcm : isO 923 cm 0 = true) (h : TR B n M (.inl (sk B n 0)) ∧ (∀ i, i < n → 0 ≤ B i) ∧ M cm 11 = (l : Int) ∧ isO 923 l 2 = true) (k : ∀ M', FX M' → (FrY cm l M M' ∧ TR B n M' (pCom B n).1 ∧ CC M' cm (pCom B n).2 ∧ CR M' l PL) → Q (.inl none) M' K) : Wm (d + 5) 2 [vR cm, vR 33] M K Q := by
  obtain ⟨ht, hB, hl⟩ := h
  have hr := rg0 hcm
  have hr2 := rg2 hl.2
  refine u2_0 hK hX hcm ⟨l, hl, fun M1 x1 p1 => ?_⟩
  obtain ⟨f1, c1, cr1, h33⟩ := p1
  have t1 : TR B n M1 (.inl (sk B n 0)) := ht.y h33 (fun j => f1 34 j (by omega) (by omega) (by omega) (by omega) (by omega))
  have loop : ∀ (f cl : Nat) (x : XC) (M2 : Mem), f + cl = 61 → FX M2 → FrY cm l M M2 → TR B n M2 x.1 → CC M2 cm x.2 → CR M2 l PL → CW x.2 → (∀ M', FX M' → FrY cm l M M' → TR B n M' (clL B n f cl x).1 → CC M' cm (clL B n f cl x).2 → CR M' l PL → Q (.inl none) M' K) → Wp (d + 5) 2 6 [vR cm, vR 33, vI (cl : Int)] [] M2 K Q := by
    intro f
    induction f with
    | zero =>
      intro cl x M2 hcl x2 f2 t2 c2 r2 w2 kk
      exact u2_6 hK x2 hcm ⟨fun _ => kk M2 x2 f2 t2 c2 r2, fun h => by omega⟩
    | succ f ih =>
      rintro cl ⟨st, c⟩ M2 hcl x2 f2 t2 c2 r2 w2 kk
      dsimp only at t2 c2 w2
      simp only [clL] at kk
      have crt : ∀ {M3 M4 : Mem}, CR M3 l PL → (∀ k, M4 l k = M3 l k) → (∀ k, M4 (l + 2) k = M3 (l + 2) k) → CR M4 l PL := fun h h1 h2 => ⟨(h1 3).trans h.1, h.2.1, fun i hi => (h2 i).trans (h.2.2 i hi)⟩
      refine u2_6 hK x2 hcm ⟨fun h => by omega, fun _ => ⟨B, n, st, t2, fun M3 x3 p3 => ⟨fun he => ?_, fun hne => ?_⟩⟩⟩
      · rw [if_pos he] at kk
        exact kk M3 x3 (f2.tr p3.1.Y) p3.2.1 (c2.t hcm p3.1) (crt r2 (fun j => p3.1 l j (by omega)) (fun j => p3.1 _ j (by omega)))
      · rw [if_neg hne] at kk
        obtain ⟨p, rfl⟩ : ∃ p, st = .inl p := by
          cases st with
          | inl p => exact ⟨p, rfl⟩
          | inr f => exact absurd rfl hne
        refine ⟨B, n, _, c, cl, ⟨p3.2.1, c2.t hcm p3.1, w2, ⟨p, rfl⟩, rfl⟩, fun M4 x4 p4 => ?_⟩
        rw [w1 (by omega)]
        refine ih (cl + 1) (clF B n cl (.inl p, c)) M4 (by omega) x4 ((f2.tr p3.1.Y).tr (p4.1 l)) p4.2.1 p4.2.2 ?_ (clF_w w2) kk
        exact crt r2 (fun j => (p4.1 0 l j (by omega) (by omega) (by omega) (by omega) (by omega)).trans (p3.1 l j (by omega))) (fun j => (p4.1 0 _ j (by omega) (by omega) (by omega) (by omega) (by omega)).trans (p3.1 _ j (by omega)))
  exact loop 61 0 (.inl (sk B n 0), c00) M1 rfl x1 f1 t1 c1 cr1 CW00 (fun M' x' f' t' c' r' => k M' x' ⟨f', t', c', r'⟩)
end YC
