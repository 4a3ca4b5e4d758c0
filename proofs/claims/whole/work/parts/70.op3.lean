theorem u125_0 {d : Nat} {l1 : Int} {M : Mem} {K : KK} {Q : RR → Mem → KK → Prop} (hK : K.1 = 923) (hX : FX M)  (h : (((0 : Int) ≤ l1 ∧ l1 ≤ (1 : Int)) → ∃ b1 : Nat, (M 32 11) = (b1 : Int) ∧ isO 923 b1 0 = true ∧ ∃ c4 : Mem, ∃ s5 : Mem, SKc M b1 40 c4 s5 ∧ Wp (d + 2) 125 33 [vR 32, vI l1, vI (lainS c4 s5 : Int), vI (0 : Int), vI (-1 : Int), vI (0 : Int), vI (0 : Int)] [] M K Q) ∧ (¬ ((0 : Int) ≤ l1 ∧ l1 ≤ (1 : Int)) → Q (.inr 0) (mset M 32 19 (w32 ((M 32 19) + 1))) (K.1, K.2.1 + 1, K.2.2 + 6))) : Wp (d + 2) 125 0 [vR 32, vI l1, vU, vU, vU, vU, vU] [] M K Q := by
  refine r_aload_n c125_0 rfl ?_
  refine r_iload_n c125_1 rfl ?_
  refine r_iconst c125_2 ?_
  refine r_iconst c125_3 ?_
  refine r_call c125_4 rfl rfl (Nat.le_of_ble_eq_true rfl) (okc_s rfl rfl rfl) (g142 hK hX  (Bk_v ?_))
  refine r_call c125_7 rfl rfl (Nat.le_of_ble_eq_true rfl) (okc_r rfl rfl (oK hK o32)) (n136b hK hX (fun hc => Bk_n ?_) (fun hc => Bk_e rfl rfl rfl ?_))
  · replace h := h.1 hc
    refine r_aload_n c125_10 rfl ?_
    refine r_getR c125_11 (oK hK o32) (FX.get (b := 40) hX (by decide) (by decide +kernel) (by decide)) (by decide) ?_
    refine r_aload_n c125_14 rfl ?_
    obtain ⟨b1, h⟩ := h
    obtain ⟨e2, h⟩ := h
    obtain ⟨k3, h⟩ := h
    refine r_getR c125_15 (oK hK o32) e2 (by have := (isO_d k3).1; omega) ?_
    obtain ⟨c4, h⟩ := h
    obtain ⟨s5, h⟩ := h
    obtain ⟨p6, h⟩ := h
    refine r_call c125_18 rfl rfl (Nat.le_of_ble_eq_true rfl) (okc_r rfl rfl (oK hK o40)) (g39 hK hX o40 k3 p6 (Bk_v ?_))
    refine r_istore_n c125_21 (Nat.le_of_ble_eq_true rfl) ?_
    refine r_iconst c125_22 ?_
    refine r_istore_n c125_23 (Nat.le_of_ble_eq_true rfl) ?_
    refine r_iconst c125_24 ?_
    refine r_istore c125_25 (Nat.le_of_ble_eq_true rfl) ?_
    refine r_iconst c125_27 ?_
    refine r_istore c125_28 (Nat.le_of_ble_eq_true rfl) ?_
    refine r_iconst c125_30 ?_
    refine r_istore c125_31 (Nat.le_of_ble_eq_true rfl) ?_
    exact h
  · replace h := h.2 hc
    exact h
theorem u125_33 {d : Nat} {l1 : Int} {l2 : Int} {l3 : Int} {l4 : Int} {l5 : Int} {l6 : Int} {M : Mem} {K : KK} {Q : RR → Mem → KK → Prop} (hK : K.1 = 923) (hX : FX M)  (h : ∃ b1 : Nat, (M 32 11) = (b1 : Int) ∧ isO 923 b1 0 = true ∧ ((M b1 5) ≤ l6 → (¬ l1 = (0 : Int) → Q (.inl (some (vI l4))) M K) ∧ (l1 = (0 : Int) → Q (.inl (some (vI l3))) M K)) ∧ (¬ ((M b1 5) ≤ l6) → (¬ (jand (jshr l2 l6) (1 : Int)) = (1 : Int) → ((w32 (l5 + (1 : Int))) ≤ l3 → Wp (d + 2) 125 33 [vR 32, vI l1, vI l2, vI l3, vI l4, vI (w32 (l5 + (1 : Int))), vI (w32 (l6 + 1))] [] M K Q) ∧ (¬ ((w32 (l5 + (1 : Int))) ≤ l3) → Wp (d + 2) 125 33 [vR 32, vI l1, vI l2, vI (w32 (l5 + (1 : Int))), vI (w32 ((w32 (l6 - (w32 (l5 + (1 : Int))))) + (1 : Int))), vI (w32 (l5 + (1 : Int))), vI (w32 (l6 + 1))] [] M K Q)) ∧ ((jand (jshr l2 l6) (1 : Int)) = (1 : Int) → ((0 : Int) ≤ l3 → Wp (d + 2) 125 33 [vR 32, vI l1, vI l2, vI l3, vI l4, vI (0 : Int), vI (w32 (l6 + 1))] [] M K Q) ∧ (¬ ((0 : Int) ≤ l3) → Wp (d + 2) 125 33 [vR 32, vI l1, vI l2, vI (0 : Int), vI (w32 ((w32 (l6 - (0 : Int))) + (1 : Int))), vI (0 : Int), vI (w32 (l6 + 1))] [] M K Q)))) : Wp (d + 2) 125 33 [vR 32, vI l1, vI l2, vI l3, vI l4, vI l5, vI l6] [] M K Q := by
  refine r_iload c125_33 rfl ?_
  refine r_aload_n c125_35 rfl ?_
  obtain ⟨b1, h⟩ := h
  obtain ⟨e2, h⟩ := h
  obtain ⟨k3, h⟩ := h
  refine r_getR c125_36 (oK hK o32) e2 (by have := (isO_d k3).1; omega) ?_
  refine r_getIe c125_39 (oK hK k3) rfl ?_
  refine r_icmpP (P := (M b1 5) ≤ l6) c125_42 rfl (fun hc4 => ?_) (fun hc4 => ?_)
  · replace h := h.1 hc4
    refine r_iload_n c125_89 rfl ?_
    refine r_ifP (P := ¬ l1 = (0 : Int)) c125_90 rfl (fun hc5 => ?_) (fun hc5 => ?_)
    · replace h := h.1 hc5
      refine r_iload c125_97 rfl ?_
      exact r_iret c125_99 (Or.inl rfl) h
    · have hc6 := Classical.not_not.mp hc5
      replace h := h.2 hc6
      refine r_iload_n c125_93 rfl ?_
      refine r_goto c125_94 ?_
      exact r_iret c125_99 (Or.inl rfl) h
  · replace h := h.2 hc4
    refine r_iload_n c125_45 rfl ?_
    refine r_iload c125_46 rfl ?_
    refine r_ishr c125_48 ?_
    refine r_iconst c125_49 ?_
    refine r_iand c125_50 ?_
    refine r_iconst c125_51 ?_
    refine r_icmpP (P := ¬ (jand (jshr l2 l6) (1 : Int)) = (1 : Int)) c125_52 rfl (fun hc7 => ?_) (fun hc7 => ?_)
    · replace h := h.1 hc7
      refine r_iload c125_59 rfl ?_
      refine r_iconst c125_61 ?_
      refine r_iadd c125_62 ?_
      refine r_istore c125_63 (Nat.le_of_ble_eq_true rfl) ?_
      refine r_iload c125_65 rfl ?_
      refine r_iload_n c125_67 rfl ?_
      refine r_icmpP (P := (w32 (l5 + (1 : Int))) ≤ l3) c125_68 rfl (fun hc9 => ?_) (fun hc9 => ?_)
      · replace h := h.1 hc9
        refine r_iinc c125_83 rfl ?_
        refine r_goto c125_86 ?_
        exact h
      · replace h := h.2 hc9
        refine r_iload c125_71 rfl ?_
        refine r_istore_n c125_73 (Nat.le_of_ble_eq_true rfl) ?_
        refine r_iload c125_74 rfl ?_
        refine r_iload c125_76 rfl ?_
        refine r_isub c125_78 ?_
        refine r_iconst c125_79 ?_
        refine r_iadd c125_80 ?_
        refine r_istore c125_81 (Nat.le_of_ble_eq_true rfl) ?_
        refine r_iinc c125_83 rfl ?_
        refine r_goto c125_86 ?_
        exact h
    · have hc8 := Classical.not_not.mp hc7
      replace h := h.2 hc8
      refine r_iconst c125_55 ?_
      refine r_goto c125_56 ?_
      refine r_istore c125_63 (Nat.le_of_ble_eq_true rfl) ?_
      refine r_iload c125_65 rfl ?_
      refine r_iload_n c125_67 rfl ?_
      refine r_icmpP (P := (0 : Int) ≤ l3) c125_68 rfl (fun hc10 => ?_) (fun hc10 => ?_)
      · replace h := h.1 hc10
        refine r_iinc c125_83 rfl ?_
        refine r_goto c125_86 ?_
        exact h
      · replace h := h.2 hc10
        refine r_iload c125_71 rfl ?_
        refine r_istore_n c125_73 (Nat.le_of_ble_eq_true rfl) ?_
        refine r_iload c125_74 rfl ?_
        refine r_iload c125_76 rfl ?_
        refine r_isub c125_78 ?_
        refine r_iconst c125_79 ?_
        refine r_iadd c125_80 ?_
        refine r_istore c125_81 (Nat.le_of_ble_eq_true rfl) ?_
        refine r_iinc c125_83 rfl ?_
        refine r_goto c125_86 ?_
        exact h
theorem u126_0 {d : Nat} {l1 : Int} {M : Mem} {K : KK} {Q : RR → Mem → KK → Prop} (hK : K.1 = 923) (hX : FX M)  (h : (((0 : Int) ≤ l1 ∧ l1 ≤ (1 : Int)) → Wp (d + 1) 126 17 [vR 32, vI l1, vI (-1 : Int), vI (-1 : Int), vI (0 : Int)] [] M K Q) ∧ (¬ ((0 : Int) ≤ l1 ∧ l1 ≤ (1 : Int)) → Q (.inr 0) (mset M 32 19 (w32 ((M 32 19) + 1))) (K.1, K.2.1 + 1, K.2.2 + 6))) : Wp (d + 1) 126 0 [vR 32, vI l1, vU, vU, vU] [] M K Q := by
  refine r_aload_n c126_0 rfl ?_
  refine r_iload_n c126_1 rfl ?_
  refine r_iconst c126_2 ?_
  refine r_iconst c126_3 ?_
  refine r_call c126_4 rfl rfl (Nat.le_of_ble_eq_true rfl) (okc_s rfl rfl rfl) (g142 hK hX  (Bk_v ?_))
  refine r_call c126_7 rfl rfl (Nat.le_of_ble_eq_true rfl) (okc_r rfl rfl (oK hK o32)) (n136b hK hX (fun hc => Bk_n ?_) (fun hc => Bk_e rfl rfl rfl ?_))
  · replace h := h.1 hc
    refine r_iconst c126_10 ?_
    refine r_istore_n c126_11 (Nat.le_of_ble_eq_true rfl) ?_
    refine r_iconst c126_12 ?_
    refine r_istore_n c126_13 (Nat.le_of_ble_eq_true rfl) ?_
    refine r_iconst c126_14 ?_
    refine r_istore c126_15 (Nat.le_of_ble_eq_true rfl) ?_
    exact h
  · replace h := h.2 hc
    exact h
theorem u126_17 {d : Nat} {l1 : Int} {l2 : Int} {l3 : Int} {l4 : Int} {M : Mem} {K : KK} {Q : RR → Mem → KK → Prop} (hK : K.1 = 923) (hX : FX M)  (h : ∃ b1 : Nat, (M 32 11) = (b1 : Int) ∧ isO 923 b1 0 = true ∧ ((M b1 6) ≤ l4 → (¬ l1 = (0 : Int) → Q (.inl (some (vI l3))) M K) ∧ (l1 = (0 : Int) → Q (.inl (some (vI l2))) M K)) ∧ (¬ ((M b1 6) ≤ l4) → (0 ≤ l4 ∧ l4 < (6 : Int)) ∧ ((M 42 (Int.toNat l4)) = (-1 : Int) → Wp (d + 1) 126 17 [vR 32, vI l1, vI l2, vI l3, vI (w32 (l4 + 1))] [] M K Q) ∧ (¬ ((M 42 (Int.toNat l4)) = (-1 : Int)) → (0 ≤ l4 ∧ l4 < (6 : Int)) ∧ ((M 41 (Int.toNat l4)) ≤ l3 → Wp (d + 1) 126 17 [vR 32, vI l1, vI l2, vI l3, vI (w32 (l4 + 1))] [] M K Q) ∧ (¬ ((M 41 (Int.toNat l4)) ≤ l3) → (0 ≤ l4 ∧ l4 < (6 : Int)) ∧ Wp (d + 1) 126 17 [vR 32, vI l1, vI l4, vI (M 41 (Int.toNat l4)), vI (w32 (l4 + 1))] [] M K Q)))) : Wp (d + 1) 126 17 [vR 32, vI l1, vI l2, vI l3, vI l4] [] M K Q := by
  refine r_iload c126_17 rfl ?_
  refine r_aload_n c126_19 rfl ?_
  obtain ⟨b1, h⟩ := h
  obtain ⟨e2, h⟩ := h
  obtain ⟨k3, h⟩ := h
  refine r_getR c126_20 (oK hK o32) e2 (by have := (isO_d k3).1; omega) ?_
  refine r_getIe c126_23 (oK hK k3) rfl ?_
  refine r_icmpP (P := (M b1 6) ≤ l4) c126_26 rfl (fun hc4 => ?_) (fun hc4 => ?_)
  · replace h := h.1 hc4
    refine r_iload_n c126_77 rfl ?_
    refine r_ifP (P := ¬ l1 = (0 : Int)) c126_78 rfl (fun hc5 => ?_) (fun hc5 => ?_)
    · replace h := h.1 hc5
      refine r_iload_n c126_85 rfl ?_
      exact r_iret c126_86 (Or.inl rfl) h
    · have hc6 := Classical.not_not.mp hc5
      replace h := h.2 hc6
      refine r_iload_n c126_81 rfl ?_
      refine r_goto c126_82 ?_
      exact r_iret c126_86 (Or.inl rfl) h
  · replace h := h.2 hc4
    refine r_aload_n c126_29 rfl ?_
    refine r_getR c126_30 (oK hK o32) (FX.get (b := 40) hX (by decide) (by decide +kernel) (by decide)) (by decide) ?_
    refine r_getR c126_33 (oK hK o40) (FX.get (b := 42) hX (by decide) (by decide +kernel) (by decide)) (by decide) ?_
    refine r_iload c126_36 rfl ?_
    obtain ⟨s7, h⟩ := h
    refine r_iae c126_38 (oK hK o42) (bd l42 s7) rfl ?_
    refine r_iconst c126_39 ?_
    refine r_icmpP (P := (M 42 (Int.toNat l4)) = (-1 : Int)) c126_40 rfl (fun hc8 => ?_) (fun hc8 => ?_)
    · replace h := h.1 hc8
      refine r_iinc c126_71 rfl ?_
      refine r_goto c126_74 ?_
      exact h
    · replace h := h.2 hc8
      refine r_aload_n c126_43 rfl ?_
      refine r_getR c126_44 (oK hK o32) (FX.get (b := 40) hX (by decide) (by decide +kernel) (by decide)) (by decide) ?_
      refine r_getR c126_47 (oK hK o40) (FX.get (b := 41) hX (by decide) (by decide +kernel) (by decide)) (by decide) ?_
      refine r_iload c126_50 rfl ?_
      obtain ⟨s9, h⟩ := h
      refine r_iae c126_52 (oK hK o41) (bd l41 s9) rfl ?_
      refine r_iload_n c126_53 rfl ?_
      refine r_icmpP (P := (M 41 (Int.toNat l4)) ≤ l3) c126_54 rfl (fun hc10 => ?_) (fun hc10 => ?_)
      · replace h := h.1 hc10
        refine r_iinc c126_71 rfl ?_
        refine r_goto c126_74 ?_
        exact h
      · replace h := h.2 hc10
        refine r_iload c126_57 rfl ?_
        refine r_istore_n c126_59 (Nat.le_of_ble_eq_true rfl) ?_
        refine r_aload_n c126_60 rfl ?_
        refine r_getR c126_61 (oK hK o32) (FX.get (b := 40) hX (by decide) (by decide +kernel) (by decide)) (by decide) ?_
        refine r_getR c126_64 (oK hK o40) (FX.get (b := 41) hX (by decide) (by decide +kernel) (by decide)) (by decide) ?_
        refine r_iload c126_67 rfl ?_
        obtain ⟨s11, h⟩ := h
        refine r_iae c126_69 (oK hK o41) (bd l41 s11) rfl ?_
        refine r_istore_n c126_70 (Nat.le_of_ble_eq_true rfl) ?_
        refine r_iinc c126_71 rfl ?_
        refine r_goto c126_74 ?_
        exact h
theorem u127_0 {d : Nat} {l1 : Int} {l2 : Int} {M : Mem} {K : KK} {Q : RR → Mem → KK → Prop} (hK : K.1 = 923) (hX : FX M)  (h : ∃ n1 : Nat, StN M n1 ∧ ((0 ≤ l1 ∧ l1 < (n1 : Int)) → (((0 : Int) ≤ l2 ∧ l2 ≤ (1 : Int)) → Wp (d + 3) 127 23 [vR 32, vI l1, vI l2, vI (-1 : Int), vI (-1 : Int), vI (0 : Int), vU] [] M K Q) ∧ (¬ ((0 : Int) ≤ l2 ∧ l2 ≤ (1 : Int)) → Q (.inr 0) (mset M 32 19 (w32 ((M 32 19) + 1))) (K.1, K.2.1 + 1, K.2.2 + 6))) ∧ (¬ (0 ≤ l1 ∧ l1 < (n1 : Int)) → Q (.inr 1) (mset M 32 18 (w32 ((M 32 18) + 1))) (K.1, K.2.1 + 1, K.2.2 + 6))) : Wp (d + 3) 127 0 [vR 32, vI l1, vI l2, vU, vU, vU, vU] [] M K Q := by
  refine r_aload_n c127_0 rfl ?_
  refine r_iload_n c127_1 rfl ?_
  obtain ⟨n1, h⟩ := h
  obtain ⟨p2, h⟩ := h
  refine r_call c127_2 rfl rfl (Nat.le_of_ble_eq_true rfl) (okc_r rfl rfl (oK hK o32)) (n138 hK hX p2 (fun hc => Bk_n ?_) (fun hc => Bk_e rfl rfl rfl ?_))
  · replace h := h.1 hc
    refine r_aload_n c127_5 rfl ?_
    refine r_iload_n c127_6 rfl ?_
    refine r_iconst c127_7 ?_
    refine r_iconst c127_8 ?_
    refine r_call c127_9 rfl rfl (Nat.le_of_ble_eq_true rfl) (okc_s rfl rfl rfl) (g142 hK hX  (Bk_v ?_))
    refine r_call c127_12 rfl rfl (Nat.le_of_ble_eq_true rfl) (okc_r rfl rfl (oK hK o32)) (n136b hK hX (fun hc => Bk_n ?_) (fun hc => Bk_e rfl rfl rfl ?_))
    · replace h := h.1 hc
      refine r_iconst c127_15 ?_
      refine r_istore_n c127_16 (Nat.le_of_ble_eq_true rfl) ?_
      refine r_iconst c127_17 ?_
      refine r_istore c127_18 (Nat.le_of_ble_eq_true rfl) ?_
      refine r_iconst c127_20 ?_
      refine r_istore c127_21 (Nat.le_of_ble_eq_true rfl) ?_
      exact h
    · replace h := h.2 hc
      exact h
  · replace h := h.2 hc
    exact h
theorem u127_23 {d : Nat} {l1 : Int} {l2 : Int} {l3 : Int} {l4 : Int} {l5 : Int} {l6 : PV} {M : Mem} {K : KK} {Q : RR → Mem → KK → Prop} (hK : K.1 = 923) (hX : FX M)  (h : ∃ b1 : Nat, (M 32 11) = (b1 : Int) ∧ isO 923 b1 0 = true ∧ (0 ≤ l1 ∧ l1 < (6 : Int)) ∧ ((M b1 5) < (w32 (l5 + (M (b1 + 2) (Int.toNat l1)))) → (¬ l2 = (0 : Int) → Q (.inl (some (vI l4))) M K) ∧ (l2 = (0 : Int) → Q (.inl (some (vI l3))) M K)) ∧ (¬ ((M b1 5) < (w32 (l5 + (M (b1 + 2) (Int.toNat l1))))) → ∃ c8 : Mem, ∃ s9 : Mem, ∃ L10 : LC, ∃ la11 : Nat, ∃ p12 : Nat, (l1 = (p12 : Int) ∧ SKc M b1 40 c8 s9 ∧ LWC M b1 L10 la11 ∧ p12 < nSt c8 ∧ (l5 = -1 ∨ (0 ≤ l5 ∧ l5 + c8 2 p12 ≤ c8 0 0))) ∧ (∀ (M16 : Mem), FX M16 → FrW M M16 → ((whD c8 s9 L10 p12 l5) ≤ l4 → Wp (d + 3) 127 23 [vR 32, vI l1, vI l2, vI l3, vI l4, vI (w32 (l5 + 1)), vI (whD c8 s9 L10 p12 l5)] [] M16 K Q) ∧ (¬ ((whD c8 s9 L10 p12 l5) ≤ l4) → Wp (d + 3) 127 23 [vR 32, vI l1, vI l2, vI l5, vI (whD c8 s9 L10 p12 l5), vI (w32 (l5 + 1)), vI (whD c8 s9 L10 p12 l5)] [] M16 K Q)))) : Wp (d + 3) 127 23 [vR 32, vI l1, vI l2, vI l3, vI l4, vI l5, l6] [] M K Q := by
  refine r_iload c127_23 rfl ?_
  refine r_aload_n c127_25 rfl ?_
  obtain ⟨b1, h⟩ := h
  obtain ⟨e2, h⟩ := h
  obtain ⟨k3, h⟩ := h
  refine r_getR c127_26 (oK hK o32) e2 (by have := (isO_d k3).1; omega) ?_
  refine r_getR c127_29 (oK hK k3) (fx0_1 hX k3) (by omega) ?_
  refine r_iload_n c127_32 rfl ?_
  obtain ⟨s4, h⟩ := h
  refine r_iae c127_33 (oK hK (q0_1 k3)) (bd (z0_1 k3) s4) rfl ?_
  refine r_iadd c127_34 ?_
  refine r_aload_n c127_35 rfl ?_
  refine r_getR c127_36 (oK hK o32) e2 (by have := (isO_d k3).1; omega) ?_
  refine r_getIe c127_39 (oK hK k3) rfl ?_
  refine r_icmpP (P := (M b1 5) < (w32 (l5 + (M (b1 + 2) (Int.toNat l1))))) c127_42 rfl (fun hc5 => ?_) (fun hc5 => ?_)
  · replace h := h.1 hc5
    refine r_iload_n c127_81 rfl ?_
    refine r_ifP (P := ¬ l2 = (0 : Int)) c127_82 rfl (fun hc6 => ?_) (fun hc6 => ?_)
    · replace h := h.1 hc6
      refine r_iload c127_89 rfl ?_
      exact r_iret c127_91 (Or.inl rfl) h
    · have hc7 := Classical.not_not.mp hc6
      replace h := h.2 hc7
      refine r_iload_n c127_85 rfl ?_
      refine r_goto c127_86 ?_
      exact r_iret c127_91 (Or.inl rfl) h
  · replace h := h.2 hc5
    refine r_aload_n c127_45 rfl ?_
    refine r_getR c127_46 (oK hK o32) (FX.get (b := 40) hX (by decide) (by decide +kernel) (by decide)) (by decide) ?_
    refine r_aload_n c127_49 rfl ?_
    refine r_getR c127_50 (oK hK o32) e2 (by have := (isO_d k3).1; omega) ?_
    refine r_iload_n c127_53 rfl ?_
    refine r_iload c127_54 rfl ?_
    obtain ⟨c8, h⟩ := h
    obtain ⟨s9, h⟩ := h
    obtain ⟨L10, h⟩ := h
    obtain ⟨la11, h⟩ := h
    obtain ⟨p12, h⟩ := h
    obtain ⟨p13, h⟩ := h
    refine r_call c127_56 rfl rfl (Nat.le_of_ble_eq_true rfl) (okc_r rfl rfl (oK hK o40)) (g45 hK hX o40 k3 p13 (fun M16 x14 p15 => Bk_v ?_))
    replace h := h M16 x14 p15
    refine r_istore c127_59 (Nat.le_of_ble_eq_true rfl) ?_
    refine r_iload c127_61 rfl ?_
    refine r_iload c127_63 rfl ?_
    refine r_icmpP (P := (whD c8 s9 L10 p12 l5) ≤ l4) c127_65 rfl (fun hc17 => ?_) (fun hc17 => ?_)
    · replace h := h.1 hc17
      refine r_iinc c127_75 rfl ?_
      refine r_goto c127_78 ?_
      exact h
    · replace h := h.2 hc17
      refine r_iload c127_68 rfl ?_
      refine r_istore_n c127_70 (Nat.le_of_ble_eq_true rfl) ?_
      refine r_iload c127_71 rfl ?_
      refine r_istore c127_73 (Nat.le_of_ble_eq_true rfl) ?_
      refine r_iinc c127_75 rfl ?_
      refine r_goto c127_78 ?_
      exact h
theorem u128_0 {d : Nat} {l1 : Int} {l2 : Int} {M : Mem} {K : KK} {Q : RR → Mem → KK → Prop} (hK : K.1 = 923) (hX : FX M)  (h : (¬ ((1 : Int) ≤ l1 ∧ l1 ≤ (12 : Int)) → Q (.inr 0) (mset M 32 19 (w32 ((M 32 19) + 1))) (K.1, K.2.1 + 1, K.2.2 + 6)) ∧ (((1 : Int) ≤ l1 ∧ l1 ≤ (12 : Int)) → (¬ ((0 : Int) ≤ l2 ∧ l2 ≤ (1 : Int)) → Q (.inr 0) (mset M 32 19 (w32 ((M 32 19) + 1))) (K.1, K.2.1 + 1, K.2.2 + 6)) ∧ (((0 : Int) ≤ l2 ∧ l2 ≤ (1 : Int)) → ∃ b5 : Nat, (M 32 11) = (b5 : Int) ∧ isO 923 b5 0 = true ∧ ∃ c8 : Mem, ∃ s9 : Mem, SKc M b5 40 c8 s9 ∧ Wp (d + 2) 128 49 [vR 32, vI l1, vI l2, vI (lainS c8 s9 : Int), vI (-1 : Int), vI (-1 : Int), vI (0 : Int), vU] [] M K Q))) : Wp (d + 2) 128 0 [vR 32, vI l1, vI l2, vU, vU, vU, vU, vU] [] M K Q := by
  refine r_aload_n c128_0 rfl ?_
  refine r_iload_n c128_1 rfl ?_
  refine r_iconst c128_2 ?_
  refine r_bipush c128_3 ?_
  refine r_call c128_5 rfl rfl (Nat.le_of_ble_eq_true rfl) (okc_s rfl rfl rfl) (g142 hK hX  (Bk_v ?_))
  refine r_ifP (P := ¬ ((1 : Int) ≤ l1 ∧ l1 ≤ (12 : Int))) c128_8 bI_eq (fun hc1 => ?_) (fun hc1 => ?_)
  · replace h := h.1 hc1
    refine r_iconst c128_24 ?_
    refine r_call c128_25 rfl rfl (Nat.le_of_ble_eq_true rfl) (okc_r rfl rfl (oK hK o32)) (n136_0 hK hX (Bk_e rfl rfl rfl ?_))
    exact h
  · have hc2 := Classical.not_not.mp hc1
    replace h := h.2 hc2
    refine r_iload_n c128_11 rfl ?_
    refine r_iconst c128_12 ?_
    refine r_iconst c128_13 ?_
    refine r_call c128_14 rfl rfl (Nat.le_of_ble_eq_true rfl) (okc_s rfl rfl rfl) (g142 hK hX  (Bk_v ?_))
    refine r_ifP (P := ¬ ((0 : Int) ≤ l2 ∧ l2 ≤ (1 : Int))) c128_17 bI_eq (fun hc3 => ?_) (fun hc3 => ?_)
    · replace h := h.1 hc3
      refine r_iconst c128_24 ?_
      refine r_call c128_25 rfl rfl (Nat.le_of_ble_eq_true rfl) (okc_r rfl rfl (oK hK o32)) (n136_0 hK hX (Bk_e rfl rfl rfl ?_))
      exact h
    · have hc4 := Classical.not_not.mp hc3
      replace h := h.2 hc4
      refine r_iconst c128_20 ?_
      refine r_goto c128_21 ?_
      refine r_call c128_25 rfl rfl (Nat.le_of_ble_eq_true rfl) (okc_r rfl rfl (oK hK o32)) (n136_1 hK hX (Bk_n ?_))
      refine r_aload_n c128_28 rfl ?_
      refine r_getR c128_29 (oK hK o32) (FX.get (b := 40) hX (by decide) (by decide +kernel) (by decide)) (by decide) ?_
      refine r_aload_n c128_32 rfl ?_
      obtain ⟨b5, h⟩ := h
      obtain ⟨e6, h⟩ := h
      obtain ⟨k7, h⟩ := h
      refine r_getR c128_33 (oK hK o32) e6 (by have := (isO_d k7).1; omega) ?_
      obtain ⟨c8, h⟩ := h
      obtain ⟨s9, h⟩ := h
      obtain ⟨p10, h⟩ := h
      refine r_call c128_36 rfl rfl (Nat.le_of_ble_eq_true rfl) (okc_r rfl rfl (oK hK o40)) (g39 hK hX o40 k7 p10 (Bk_v ?_))
      refine r_istore_n c128_39 (Nat.le_of_ble_eq_true rfl) ?_
      refine r_iconst c128_40 ?_
      refine r_istore c128_41 (Nat.le_of_ble_eq_true rfl) ?_
      refine r_iconst c128_43 ?_
      refine r_istore c128_44 (Nat.le_of_ble_eq_true rfl) ?_
      refine r_iconst c128_46 ?_
      refine r_istore c128_47 (Nat.le_of_ble_eq_true rfl) ?_
      exact h
theorem u128_49 {d : Nat} {l1 : Int} {l2 : Int} {l3 : Int} {l4 : Int} {l5 : Int} {l6 : Int} {l7 : PV} {M : Mem} {K : KK} {Q : RR → Mem → KK → Prop} (hK : K.1 = 923) (hX : FX M)  (h : ∃ b1 : Nat, (M 32 11) = (b1 : Int) ∧ isO 923 b1 0 = true ∧ ((M b1 5) < (w32 (l6 + l1)) → (¬ l2 = (0 : Int) → Q (.inl (some (vI l5))) M K) ∧ (l2 = (0 : Int) → Q (.inl (some (vI l4))) M K)) ∧ (¬ ((M b1 5) < (w32 (l6 + l1))) → ∃ c7 : Mem, (CC M b1 c7 ∧ CW c7 ∧ (l6 = -1 ∨ (0 ≤ l6 ∧ l6 + l1 ≤ c7 0 0)) ∧ 0 ≤ l1 ∧ l1 ≤ 12) ∧ ((0 ≤ l6 ∧ 0 ≤ l1) ∧ l6 + l1 ≤ 12) ∧ (¬ (jand l3 (rowB l6.toNat l1.toNat : Int)) = (0 : Int) → Wp (d + 2) 128 49 [vR 32, vI l1, vI l2, vI l3, vI l4, vI l5, vI (w32 (l6 + 1)), vI (sunS c7 l6 l1)] [] M K Q) ∧ ((jand l3 (rowB l6.toNat l1.toNat : Int)) = (0 : Int) → ((sunS c7 l6 l1) ≤ l5 → Wp (d + 2) 128 49 [vR 32, vI l1, vI l2, vI l3, vI l4, vI l5, vI (w32 (l6 + 1)), vI (sunS c7 l6 l1)] [] M K Q) ∧ (¬ ((sunS c7 l6 l1) ≤ l5) → Wp (d + 2) 128 49 [vR 32, vI l1, vI l2, vI l3, vI l6, vI (sunS c7 l6 l1), vI (w32 (l6 + 1)), vI (sunS c7 l6 l1)] [] M K Q)))) : Wp (d + 2) 128 49 [vR 32, vI l1, vI l2, vI l3, vI l4, vI l5, vI l6, l7] [] M K Q := by
  refine r_iload c128_49 rfl ?_
  refine r_iload_n c128_51 rfl ?_
  refine r_iadd c128_52 ?_
  refine r_aload_n c128_53 rfl ?_
  obtain ⟨b1, h⟩ := h
  obtain ⟨e2, h⟩ := h
  obtain ⟨k3, h⟩ := h
  refine r_getR c128_54 (oK hK o32) e2 (by have := (isO_d k3).1; omega) ?_
  refine r_getIe c128_57 (oK hK k3) rfl ?_
  refine r_icmpP (P := (M b1 5) < (w32 (l6 + l1))) c128_60 rfl (fun hc4 => ?_) (fun hc4 => ?_)
  · replace h := h.1 hc4
    refine r_iload_n c128_107 rfl ?_
    refine r_ifP (P := ¬ l2 = (0 : Int)) c128_108 rfl (fun hc5 => ?_) (fun hc5 => ?_)
    · replace h := h.1 hc5
      refine r_iload c128_116 rfl ?_
      exact r_iret c128_118 (Or.inl rfl) h
    · have hc6 := Classical.not_not.mp hc5
      replace h := h.2 hc6
      refine r_iload c128_111 rfl ?_
      refine r_goto c128_113 ?_
      exact r_iret c128_118 (Or.inl rfl) h
  · replace h := h.2 hc4
    refine r_aload_n c128_63 rfl ?_
    refine r_getR c128_64 (oK hK o32) e2 (by have := (isO_d k3).1; omega) ?_
    refine r_iload c128_67 rfl ?_
    refine r_iload_n c128_69 rfl ?_
    obtain ⟨c7, h⟩ := h
    obtain ⟨p8, h⟩ := h
    refine r_call c128_70 rfl rfl (Nat.le_of_ble_eq_true rfl) (okc_r rfl rfl (oK hK k3)) (g8 hK hX k3 p8 (Bk_v ?_))
    refine r_istore c128_73 (Nat.le_of_ble_eq_true rfl) ?_
    refine r_iload_n c128_75 rfl ?_
    refine r_iload c128_76 rfl ?_
    refine r_iload_n c128_78 rfl ?_
    obtain ⟨p9, h⟩ := h
    refine r_call c128_79 rfl rfl (Nat.le_of_ble_eq_true rfl) (okc_s rfl rfl rfl) (g144 hK hX p9 (Bk_v ?_))
    refine r_iand c128_82 ?_
    refine r_ifP (P := ¬ (jand l3 (rowB l6.toNat l1.toNat : Int)) = (0 : Int)) c128_83 rfl (fun hc10 => ?_) (fun hc10 => ?_)
    · replace h := h.1 hc10
      refine r_iinc c128_101 rfl ?_
      refine r_goto c128_104 ?_
      exact h
    · have hc11 := Classical.not_not.mp hc10
      replace h := h.2 hc11
      refine r_iload c128_86 rfl ?_
      refine r_iload c128_88 rfl ?_
      refine r_icmpP (P := (sunS c7 l6 l1) ≤ l5) c128_90 rfl (fun hc12 => ?_) (fun hc12 => ?_)
      · replace h := h.1 hc12
        refine r_iinc c128_101 rfl ?_
        refine r_goto c128_104 ?_
        exact h
      · replace h := h.2 hc12
        refine r_iload c128_93 rfl ?_
        refine r_istore c128_95 (Nat.le_of_ble_eq_true rfl) ?_
        refine r_iload c128_97 rfl ?_
        refine r_istore c128_99 (Nat.le_of_ble_eq_true rfl) ?_
        refine r_iinc c128_101 rfl ?_
        refine r_goto c128_104 ?_
        exact h
theorem u129_0 {d : Nat}  {M : Mem} {K : KK} {Q : RR → Mem → KK → Prop} (hK : K.1 = 923) (hX : FX M)  (h : Wp d 129 4 [vR 32, vI (0 : Int), vI (0 : Int)] [] M K Q) : Wp d 129 0 [vR 32, vU, vU] [] M K Q := by
  refine r_iconst c129_0 ?_
  refine r_istore_n c129_1 (Nat.le_of_ble_eq_true rfl) ?_
  refine r_iconst c129_2 ?_
  refine r_istore_n c129_3 (Nat.le_of_ble_eq_true rfl) ?_
  exact h
theorem u129_4 {d : Nat} {l1 : Int} {l2 : Int} {M : Mem} {K : KK} {Q : RR → Mem → KK → Prop} (hK : K.1 = 923) (hX : FX M)  (h : ∃ b1 : Nat, (M 32 11) = (b1 : Int) ∧ isO 923 b1 0 = true ∧ ((M b1 6) ≤ l2 → Q (.inl (some (vI l1))) M K) ∧ (¬ ((M b1 6) ≤ l2) → (0 ≤ l2 ∧ l2 < (6 : Int)) ∧ (¬ (M 42 (Int.toNat l2)) = (-1 : Int) → (0 ≤ l2 ∧ l2 < (6 : Int)) ∧ Wp d 129 4 [vR 32, vI (w32 (l1 + (w32 ((9 : Int) - (M 43 (Int.toNat l2)))))), vI (w32 (l2 + 1))] [] M K Q) ∧ ((M 42 (Int.toNat l2)) = (-1 : Int) → Wp d 129 4 [vR 32, vI (w32 (l1 + (0 : Int))), vI (w32 (l2 + 1))] [] M K Q))) : Wp d 129 4 [vR 32, vI l1, vI l2] [] M K Q := by
  refine r_iload_n c129_4 rfl ?_
  refine r_aload_n c129_5 rfl ?_
  obtain ⟨b1, h⟩ := h
  obtain ⟨e2, h⟩ := h
  obtain ⟨k3, h⟩ := h
  refine r_getR c129_6 (oK hK o32) e2 (by have := (isO_d k3).1; omega) ?_
  refine r_getIe c129_9 (oK hK k3) rfl ?_
  refine r_icmpP (P := (M b1 6) ≤ l2) c129_12 rfl (fun hc4 => ?_) (fun hc4 => ?_)
  · replace h := h.1 hc4
    refine r_iload_n c129_53 rfl ?_
    exact r_iret c129_54 (Or.inl rfl) h
  · replace h := h.2 hc4
    refine r_iload_n c129_15 rfl ?_
    refine r_aload_n c129_16 rfl ?_
    refine r_getR c129_17 (oK hK o32) (FX.get (b := 40) hX (by decide) (by decide +kernel) (by decide)) (by decide) ?_
    refine r_getR c129_20 (oK hK o40) (FX.get (b := 42) hX (by decide) (by decide +kernel) (by decide)) (by decide) ?_
    refine r_iload_n c129_23 rfl ?_
    obtain ⟨s5, h⟩ := h
    refine r_iae c129_24 (oK hK o42) (bd l42 s5) rfl ?_
    refine r_iconst c129_25 ?_
    refine r_icmpP (P := ¬ (M 42 (Int.toNat l2)) = (-1 : Int)) c129_26 rfl (fun hc6 => ?_) (fun hc6 => ?_)
    · replace h := h.1 hc6
      refine r_bipush c129_33 ?_
      refine r_aload_n c129_35 rfl ?_
      refine r_getR c129_36 (oK hK o32) (FX.get (b := 40) hX (by decide) (by decide +kernel) (by decide)) (by decide) ?_
      refine r_getR c129_39 (oK hK o40) (FX.get (b := 43) hX (by decide) (by decide +kernel) (by decide)) (by decide) ?_
      refine r_iload_n c129_42 rfl ?_
      obtain ⟨s8, h⟩ := h
      refine r_iae c129_43 (oK hK o43) (bd l43 s8) rfl ?_
      refine r_isub c129_44 ?_
      refine r_iadd c129_45 ?_
      refine r_istore_n c129_46 (Nat.le_of_ble_eq_true rfl) ?_
      refine r_iinc c129_47 rfl ?_
      refine r_goto c129_50 ?_
      exact h
    · have hc7 := Classical.not_not.mp hc6
      replace h := h.2 hc7
      refine r_iconst c129_29 ?_
      refine r_goto c129_30 ?_
      refine r_iadd c129_45 ?_
      refine r_istore_n c129_46 (Nat.le_of_ble_eq_true rfl) ?_
      refine r_iinc c129_47 rfl ?_
      refine r_goto c129_50 ?_
      exact h
theorem u242_0 {d : Nat} {l1 : Int} {M : Mem} {K : KK} {Q : RR → Mem → KK → Prop} (hK : K.1 = 923) (hX : FX M)  (h : (((0 : Int) ≤ l1 ∧ l1 ≤ (1 : Int)) → Wp (d + 2) 242 40 [vR 440, vI l1, vI (0 : Int), vI (-1 : Int), vI (0 : Int), vI (0 : Int)] [] (mset M 440 0 (0 : Int)) K Q) ∧ (¬ ((0 : Int) ≤ l1 ∧ l1 ≤ (1 : Int)) → (∀ (M5 : Mem), FX M5 → BadM 1 1 (mset M 440 0 (0 : Int)) M5 → Q (.inl (some (vI (0 : Int)))) M5 K))) : Wp (d + 2) 242 0 [vR 440, vI l1, vU, vU, vU, vU] [] M K Q := by
  refine r_aload_n c242_0 rfl ?_
  refine r_iconst c242_1 ?_
  refine r_putI c242_2 (oK hK o440) ?_
  have x1 := FX.set (v := (0 : Int)) (a := 440) (k := 0) hX (by decide +kernel)
  refine r_aload_n c242_5 rfl ?_
  refine r_iload_n c242_6 rfl ?_
  refine r_iconst c242_7 ?_
  refine r_iconst c242_8 ?_
  refine r_call c242_9 rfl rfl (Nat.le_of_ble_eq_true rfl) (okc_s rfl rfl rfl) (g153 hK x1  (Bk_v ?_))
  refine r_ifP (P := ((0 : Int) ≤ l1 ∧ l1 ≤ (1 : Int))) c242_12 bI_ne (fun hc2 => ?_) (fun hc2 => ?_)
  · replace h := h.1 hc2
    refine r_iconst c242_19 ?_
    refine r_iconst c242_20 ?_
    refine r_iconst c242_21 ?_
    refine r_call c242_22 rfl rfl (Nat.le_of_ble_eq_true rfl) (okc_r rfl rfl (oK hK o440)) (b152_0 hK x1 ms_eq (Bk_v ?_))
    refine r_ifP (P := (0 : Int) = (0 : Int)) c242_25 rfl (fun hc => ?_) (fun hc => absurd (by decide) hc)
    refine r_iconst c242_30 ?_
    refine r_istore_n c242_31 (Nat.le_of_ble_eq_true rfl) ?_
    refine r_iconst c242_32 ?_
    refine r_istore_n c242_33 (Nat.le_of_ble_eq_true rfl) ?_
    refine r_iconst c242_34 ?_
    refine r_istore c242_35 (Nat.le_of_ble_eq_true rfl) ?_
    refine r_iconst c242_37 ?_
    refine r_istore c242_38 (Nat.le_of_ble_eq_true rfl) ?_
    exact h
  · replace h := h.2 hc2
    refine r_iconst c242_15 ?_
    refine r_goto c242_16 ?_
    refine r_iconst c242_20 ?_
    refine r_iconst c242_21 ?_
    refine r_call c242_22 rfl rfl (Nat.le_of_ble_eq_true rfl) (okc_r rfl rfl (oK hK o440)) (b152_1 (cd := 1) (ix := 1) hK x1 ms_eq (by decide) (by decide) (fun M5 x3 p4 => Bk_v ?_))
    replace h := h M5 x3 p4
    refine r_ifP (P := (1 : Int) = (0 : Int)) c242_25 rfl (fun hc => absurd hc (by decide)) (fun hc => ?_)
    refine r_iconst c242_28 ?_
    exact r_iret c242_29 (Or.inl rfl) h
theorem u242_40 {d : Nat} {l1 : Int} {l2 : Int} {l3 : Int} {l4 : Int} {l5 : Int} {M : Mem} {K : KK} {Q : RR → Mem → KK → Prop} (hK : K.1 = 923) (hX : FX M)  (h : ((M 444 0) ≤ l5 → (¬ l1 = (0 : Int) → Q (.inl (some (vI l3))) M K) ∧ (l1 = (0 : Int) → Q (.inl (some (vI l2))) M K)) ∧ (¬ ((M 444 0) ≤ l5) → ∃ c4 : Mem, ∃ s5 : Mem, ∃ dr6 : Int, SM M 888 c4 s5 dr6 ∧ (¬ (lyOn c4 s5 l5) = (-1 : Int) → (l2 < (0 : Int) → Wp (d + 2) 242 40 [vR 440, vI l1, vI (0 : Int), vI (w32 ((w32 (l5 - (0 : Int))) + (1 : Int))), vI (0 : Int), vI (w32 (l5 + 1))] [] M K Q) ∧ (¬ (l2 < (0 : Int)) → Wp (d + 2) 242 40 [vR 440, vI l1, vI l2, vI l3, vI (0 : Int), vI (w32 (l5 + 1))] [] M K Q)) ∧ ((lyOn c4 s5 l5) = (-1 : Int) → (l2 < (w32 (l4 + (1 : Int))) → Wp (d + 2) 242 40 [vR 440, vI l1, vI (w32 (l4 + (1 : Int))), vI (w32 ((w32 (l5 - (w32 (l4 + (1 : Int))))) + (1 : Int))), vI (w32 (l4 + (1 : Int))), vI (w32 (l5 + 1))] [] M K Q) ∧ (¬ (l2 < (w32 (l4 + (1 : Int)))) → Wp (d + 2) 242 40 [vR 440, vI l1, vI l2, vI l3, vI (w32 (l4 + (1 : Int))), vI (w32 (l5 + 1))] [] M K Q)))) : Wp (d + 2) 242 40 [vR 440, vI l1, vI l2, vI l3, vI l4, vI l5] [] M K Q := by
  refine r_iload c242_40 rfl ?_
  refine r_aload_n c242_42 rfl ?_
  refine r_getR c242_43 (oK hK o440) (FX.get (b := 444) hX (by decide) (by decide +kernel) (by decide)) (by decide) ?_
  refine r_iconst c242_46 ?_
  refine r_iae c242_47 (oK hK o444) (bd l444 (by decide)) rfl ?_
  refine r_icmpP (P := (M 444 0) ≤ l5) c242_48 rfl (fun hc1 => ?_) (fun hc1 => ?_)
  · replace h := h.1 hc1
    refine r_iload_n c242_101 rfl ?_
    refine r_ifP (P := ¬ l1 = (0 : Int)) c242_102 rfl (fun hc2 => ?_) (fun hc2 => ?_)
    · replace h := h.1 hc2
      refine r_iload_n c242_109 rfl ?_
      exact r_iret c242_110 (Or.inl rfl) h
    · have hc3 := Classical.not_not.mp hc2
      replace h := h.2 hc3
      refine r_iload_n c242_105 rfl ?_
      refine r_goto c242_106 ?_
      exact r_iret c242_110 (Or.inl rfl) h
  · replace h := h.2 hc1
    refine r_aload_n c242_51 rfl ?_
    refine r_aload_n c242_52 rfl ?_
    refine r_getR c242_53 (oK hK o440) (FX.get (b := 888) hX (by decide) (by decide +kernel) (by decide)) (by decide) ?_
    refine r_iload c242_56 rfl ?_
    obtain ⟨c4, h⟩ := h
    obtain ⟨s5, h⟩ := h
    obtain ⟨dr6, h⟩ := h
    obtain ⟨p7, h⟩ := h
    refine r_call c242_58 rfl rfl (Nat.le_of_ble_eq_true rfl) (okc_r rfl rfl (oK hK o440)) (g196 hK hX o888 l888 p7 (Bk_v ?_))
    refine r_iconst c242_61 ?_
    refine r_icmpP (P := ¬ (lyOn c4 s5 l5) = (-1 : Int)) c242_62 rfl (fun hc8 => ?_) (fun hc8 => ?_)
    · replace h := h.1 hc8
      refine r_iconst c242_72 ?_
      refine r_istore c242_73 (Nat.le_of_ble_eq_true rfl) ?_
      refine r_iload c242_75 rfl ?_
      refine r_iload_n c242_77 rfl ?_
      refine r_icmpP (P := l2 < (0 : Int)) c242_78 rfl (fun hc10 => ?_) (fun hc10 => ?_)
      · replace h := h.1 hc10
        refine r_iload c242_84 rfl ?_
        refine r_istore_n c242_86 (Nat.le_of_ble_eq_true rfl) ?_
        refine r_iload c242_87 rfl ?_
        refine r_iload c242_89 rfl ?_
        refine r_isub c242_91 ?_
        refine r_iconst c242_92 ?_
        refine r_iadd c242_93 ?_
        refine r_istore_n c242_94 (Nat.le_of_ble_eq_true rfl) ?_
        refine r_iinc c242_95 rfl ?_
        refine r_goto c242_98 ?_
        exact h
      · replace h := h.2 hc10
        refine r_goto c242_81 ?_
        refine r_iinc c242_95 rfl ?_
        refine r_goto c242_98 ?_
        exact h
    · have hc9 := Classical.not_not.mp hc8
      replace h := h.2 hc9
      refine r_iload c242_65 rfl ?_
      refine r_iconst c242_67 ?_
      refine r_iadd c242_68 ?_
      refine r_goto c242_69 ?_
      refine r_istore c242_73 (Nat.le_of_ble_eq_true rfl) ?_
      refine r_iload c242_75 rfl ?_
      refine r_iload_n c242_77 rfl ?_
      refine r_icmpP (P := l2 < (w32 (l4 + (1 : Int)))) c242_78 rfl (fun hc11 => ?_) (fun hc11 => ?_)
      · replace h := h.1 hc11
        refine r_iload c242_84 rfl ?_
        refine r_istore_n c242_86 (Nat.le_of_ble_eq_true rfl) ?_
        refine r_iload c242_87 rfl ?_
        refine r_iload c242_89 rfl ?_
        refine r_isub c242_91 ?_
        refine r_iconst c242_92 ?_
        refine r_iadd c242_93 ?_
        refine r_istore_n c242_94 (Nat.le_of_ble_eq_true rfl) ?_
        refine r_iinc c242_95 rfl ?_
        refine r_goto c242_98 ?_
        exact h
      · replace h := h.2 hc11
        refine r_goto c242_81 ?_
        refine r_iinc c242_95 rfl ?_
        refine r_goto c242_98 ?_
        exact h
theorem u243_0 {d : Nat} {l1 : Int} {l2 : Int} {M : Mem} {K : KK} {Q : RR → Mem → KK → Prop} (hK : K.1 = 923) (hX : FX M)  (h : (¬ ((1 : Int) ≤ l1 ∧ l1 ≤ (12 : Int)) → (∀ (M6 : Mem), FX M6 → BadM 1 1 (mset M 440 0 (0 : Int)) M6 → Q (.inl (some (vI (0 : Int)))) M6 K)) ∧ (((1 : Int) ≤ l1 ∧ l1 ≤ (12 : Int)) → (((0 : Int) ≤ l2 ∧ l2 ≤ (1 : Int)) → Wp (d + 2) 243 48 [vR 440, vI l1, vI l2, vI (-1 : Int), vI (-1 : Int), vI (0 : Int), vU, vU, vU] [] (mset M 440 0 (0 : Int)) K Q) ∧ (¬ ((0 : Int) ≤ l2 ∧ l2 ≤ (1 : Int)) → (∀ (M10 : Mem), FX M10 → BadM 1 1 (mset M 440 0 (0 : Int)) M10 → Q (.inl (some (vI (0 : Int)))) M10 K)))) : Wp (d + 2) 243 0 [vR 440, vI l1, vI l2, vU, vU, vU, vU, vU, vU] [] M K Q := by
  refine r_aload_n c243_0 rfl ?_
  refine r_iconst c243_1 ?_
  refine r_putI c243_2 (oK hK o440) ?_
  have x1 := FX.set (v := (0 : Int)) (a := 440) (k := 0) hX (by decide +kernel)
  refine r_aload_n c243_5 rfl ?_
  refine r_iload_n c243_6 rfl ?_
  refine r_iconst c243_7 ?_
  refine r_bipush c243_8 ?_
  refine r_call c243_10 rfl rfl (Nat.le_of_ble_eq_true rfl) (okc_s rfl rfl rfl) (g153 hK x1  (Bk_v ?_))
  refine r_ifP (P := ¬ ((1 : Int) ≤ l1 ∧ l1 ≤ (12 : Int))) c243_13 bI_eq (fun hc2 => ?_) (fun hc2 => ?_)
  · replace h := h.1 hc2
    refine r_iconst c243_25 ?_
    refine r_goto c243_26 ?_
    refine r_iconst c243_30 ?_
    refine r_iconst c243_31 ?_
    refine r_call c243_32 rfl rfl (Nat.le_of_ble_eq_true rfl) (okc_r rfl rfl (oK hK o440)) (b152_1 (cd := 1) (ix := 1) hK x1 ms_eq (by decide) (by decide) (fun M6 x4 p5 => Bk_v ?_))
    replace h := h M6 x4 p5
    refine r_ifP (P := (1 : Int) = (0 : Int)) c243_35 rfl (fun hc => absurd hc (by decide)) (fun hc => ?_)
    refine r_iconst c243_38 ?_
    exact r_iret c243_39 (Or.inl rfl) h
  · have hc3 := Classical.not_not.mp hc2
    replace h := h.2 hc3
    refine r_iload_n c243_16 rfl ?_
    refine r_iconst c243_17 ?_
    refine r_iconst c243_18 ?_
    refine r_call c243_19 rfl rfl (Nat.le_of_ble_eq_true rfl) (okc_s rfl rfl rfl) (g153 hK x1  (Bk_v ?_))
    refine r_ifP (P := ((0 : Int) ≤ l2 ∧ l2 ≤ (1 : Int))) c243_22 bI_ne (fun hc7 => ?_) (fun hc7 => ?_)
    · replace h := h.1 hc7
      refine r_iconst c243_29 ?_
      refine r_iconst c243_30 ?_
      refine r_iconst c243_31 ?_
      refine r_call c243_32 rfl rfl (Nat.le_of_ble_eq_true rfl) (okc_r rfl rfl (oK hK o440)) (b152_0 hK x1 ms_eq (Bk_v ?_))
      refine r_ifP (P := (0 : Int) = (0 : Int)) c243_35 rfl (fun hc => ?_) (fun hc => absurd (by decide) hc)
      refine r_iconst c243_40 ?_
      refine r_istore_n c243_41 (Nat.le_of_ble_eq_true rfl) ?_
      refine r_iconst c243_42 ?_
      refine r_istore c243_43 (Nat.le_of_ble_eq_true rfl) ?_
      refine r_iconst c243_45 ?_
      refine r_istore c243_46 (Nat.le_of_ble_eq_true rfl) ?_
      exact h
    · replace h := h.2 hc7
      refine r_iconst c243_25 ?_
      refine r_goto c243_26 ?_
      refine r_iconst c243_30 ?_
      refine r_iconst c243_31 ?_
      refine r_call c243_32 rfl rfl (Nat.le_of_ble_eq_true rfl) (okc_r rfl rfl (oK hK o440)) (b152_1 (cd := 1) (ix := 1) hK x1 ms_eq (by decide) (by decide) (fun M10 x8 p9 => Bk_v ?_))
      replace h := h M10 x8 p9
      refine r_ifP (P := (1 : Int) = (0 : Int)) c243_35 rfl (fun hc => absurd hc (by decide)) (fun hc => ?_)
      refine r_iconst c243_38 ?_
      exact r_iret c243_39 (Or.inl rfl) h
theorem u243_48 {d : Nat} {l1 : Int} {l2 : Int} {l3 : Int} {l4 : Int} {l5 : Int} {l6 : PV} {l7 : PV} {l8 : PV} {M : Mem} {K : KK} {Q : RR → Mem → KK → Prop} (hK : K.1 = 923) (hX : FX M)  (h : ((M 444 0) < (w32 (l5 + l1)) → (¬ l2 = (0 : Int) → Q (.inl (some (vI l4))) M K) ∧ (l2 = (0 : Int) → Q (.inl (some (vI l3))) M K)) ∧ (¬ ((M 444 0) < (w32 (l5 + l1))) → Wp (d + 2) 243 71 [vR 440, vI l1, vI l2, vI l3, vI l4, vI l5, vI (0 : Int), vI (1 : Int), vI l5] [] M K Q)) : Wp (d + 2) 243 48 [vR 440, vI l1, vI l2, vI l3, vI l4, vI l5, l6, l7, l8] [] M K Q := by
  refine r_iload c243_48 rfl ?_
  refine r_iload_n c243_50 rfl ?_
  refine r_iadd c243_51 ?_
  refine r_aload_n c243_52 rfl ?_
  refine r_getR c243_53 (oK hK o440) (FX.get (b := 444) hX (by decide) (by decide +kernel) (by decide)) (by decide) ?_
  refine r_iconst c243_56 ?_
  refine r_iae c243_57 (oK hK o444) (bd l444 (by decide)) rfl ?_
  refine r_icmpP (P := (M 444 0) < (w32 (l5 + l1))) c243_58 rfl (fun hc1 => ?_) (fun hc1 => ?_)
  · replace h := h.1 hc1
    refine r_iload_n c243_152 rfl ?_
    refine r_ifP (P := ¬ l2 = (0 : Int)) c243_153 rfl (fun hc2 => ?_) (fun hc2 => ?_)
    · replace h := h.1 hc2
      refine r_iload c243_160 rfl ?_
      exact r_iret c243_162 (Or.inl rfl) h
    · have hc3 := Classical.not_not.mp hc2
      replace h := h.2 hc3
      refine r_iload_n c243_156 rfl ?_
      refine r_goto c243_157 ?_
      exact r_iret c243_162 (Or.inl rfl) h
  · replace h := h.2 hc1
    refine r_iconst c243_61 ?_
    refine r_istore c243_62 (Nat.le_of_ble_eq_true rfl) ?_
    refine r_iconst c243_64 ?_
    refine r_istore c243_65 (Nat.le_of_ble_eq_true rfl) ?_
    refine r_iload c243_67 rfl ?_
    refine r_istore c243_69 (Nat.le_of_ble_eq_true rfl) ?_
    exact h
theorem u243_71 {d : Nat} {l1 : Int} {l2 : Int} {l3 : Int} {l4 : Int} {l5 : Int} {l6 : Int} {l7 : Int} {l8 : Int} {M : Mem} {K : KK} {Q : RR → Mem → KK → Prop} (hK : K.1 = 923) (hX : FX M)  (h : ((w32 (l5 + l1)) ≤ l8 → (l7 = (0 : Int) → Wp (d + 2) 243 48 [vR 440, vI l1, vI l2, vI l3, vI l4, vI (w32 (l5 + 1)), vI l6, vI l7, vI l8] [] M K Q) ∧ (¬ (l7 = (0 : Int)) → (l4 < l6 → Wp (d + 2) 243 48 [vR 440, vI l1, vI l2, vI l5, vI l6, vI (w32 (l5 + 1)), vI l6, vI l7, vI l8] [] M K Q) ∧ (¬ (l4 < l6) → Wp (d + 2) 243 48 [vR 440, vI l1, vI l2, vI l3, vI l4, vI (w32 (l5 + 1)), vI l6, vI l7, vI l8] [] M K Q))) ∧ (¬ ((w32 (l5 + l1)) ≤ l8) → (0 ≤ l8 ∧ l8 < (12 : Int)) ∧ (l7 = (0 : Int) → Wp (d + 2) 243 71 [vR 440, vI l1, vI l2, vI l3, vI l4, vI l5, vI (w32 (l6 + (M 446 (Int.toNat l8)))), vI (0 : Int), vI (w32 (l8 + 1))] [] M K Q) ∧ (¬ (l7 = (0 : Int)) → ∃ c6 : Mem, ∃ s7 : Mem, ∃ dr8 : Int, SM M 888 c6 s7 dr8 ∧ (¬ (lyOn c6 s7 l8) = (-1 : Int) → Wp (d + 2) 243 71 [vR 440, vI l1, vI l2, vI l3, vI l4, vI l5, vI (w32 (l6 + (M 446 (Int.toNat l8)))), vI (0 : Int), vI (w32 (l8 + 1))] [] M K Q) ∧ ((lyOn c6 s7 l8) = (-1 : Int) → Wp (d + 2) 243 71 [vR 440, vI l1, vI l2, vI l3, vI l4, vI l5, vI (w32 (l6 + (M 446 (Int.toNat l8)))), vI (1 : Int), vI (w32 (l8 + 1))] [] M K Q)))) : Wp (d + 2) 243 71 [vR 440, vI l1, vI l2, vI l3, vI l4, vI l5, vI l6, vI l7, vI l8] [] M K Q := by
  refine r_iload c243_71 rfl ?_
  refine r_iload c243_73 rfl ?_
  refine r_iload_n c243_75 rfl ?_
  refine r_iadd c243_76 ?_
  refine r_icmpP (P := (w32 (l5 + l1)) ≤ l8) c243_77 rfl (fun hc1 => ?_) (fun hc1 => ?_)
  · replace h := h.1 hc1
    refine r_iload c243_124 rfl ?_
    refine r_ifP (P := l7 = (0 : Int)) c243_126 rfl (fun hc2 => ?_) (fun hc2 => ?_)
    · replace h := h.1 hc2
      refine r_iinc c243_146 rfl ?_
      refine r_goto c243_149 ?_
      exact h
    · replace h := h.2 hc2
      refine r_iload c243_129 rfl ?_
      refine r_iload c243_131 rfl ?_
      refine r_icmpP (P := l4 < l6) c243_133 rfl (fun hc3 => ?_) (fun hc3 => ?_)
      · replace h := h.1 hc3
        refine r_iload c243_139 rfl ?_
        refine r_istore_n c243_141 (Nat.le_of_ble_eq_true rfl) ?_
        refine r_iload c243_142 rfl ?_
        refine r_istore c243_144 (Nat.le_of_ble_eq_true rfl) ?_
        refine r_iinc c243_146 rfl ?_
        refine r_goto c243_149 ?_
        exact h
      · replace h := h.2 hc3
        refine r_goto c243_136 ?_
        refine r_iinc c243_146 rfl ?_
        refine r_goto c243_149 ?_
        exact h
  · replace h := h.2 hc1
    refine r_iload c243_80 rfl ?_
    refine r_aload_n c243_82 rfl ?_
    refine r_getR c243_83 (oK hK o440) (FX.get (b := 446) hX (by decide) (by decide +kernel) (by decide)) (by decide) ?_
    refine r_iload c243_86 rfl ?_
    obtain ⟨s4, h⟩ := h
    refine r_iae c243_88 (oK hK o446) (bd l446 s4) rfl ?_
    refine r_iadd c243_89 ?_
    refine r_istore c243_90 (Nat.le_of_ble_eq_true rfl) ?_
    refine r_iload c243_92 rfl ?_
    refine r_ifP (P := l7 = (0 : Int)) c243_94 rfl (fun hc5 => ?_) (fun hc5 => ?_)
    · replace h := h.1 hc5
      refine r_iconst c243_115 ?_
      refine r_istore c243_116 (Nat.le_of_ble_eq_true rfl) ?_
      refine r_iinc c243_118 rfl ?_
      refine r_goto c243_121 ?_
      exact h
    · replace h := h.2 hc5
      refine r_aload_n c243_97 rfl ?_
      refine r_aload_n c243_98 rfl ?_
      refine r_getR c243_99 (oK hK o440) (FX.get (b := 888) hX (by decide) (by decide +kernel) (by decide)) (by decide) ?_
      refine r_iload c243_102 rfl ?_
      obtain ⟨c6, h⟩ := h
      obtain ⟨s7, h⟩ := h
      obtain ⟨dr8, h⟩ := h
      obtain ⟨p9, h⟩ := h
      refine r_call c243_104 rfl rfl (Nat.le_of_ble_eq_true rfl) (okc_r rfl rfl (oK hK o440)) (g196 hK hX o888 l888 p9 (Bk_v ?_))
      refine r_iconst c243_107 ?_
      refine r_icmpP (P := ¬ (lyOn c6 s7 l8) = (-1 : Int)) c243_108 rfl (fun hc10 => ?_) (fun hc10 => ?_)
      · replace h := h.1 hc10
        refine r_iconst c243_115 ?_
        refine r_istore c243_116 (Nat.le_of_ble_eq_true rfl) ?_
        refine r_iinc c243_118 rfl ?_
        refine r_goto c243_121 ?_
        exact h
      · have hc11 := Classical.not_not.mp hc10
        replace h := h.2 hc11
        refine r_iconst c243_111 ?_
        refine r_goto c243_112 ?_
        refine r_istore c243_116 (Nat.le_of_ble_eq_true rfl) ?_
        refine r_iinc c243_118 rfl ?_
        refine r_goto c243_121 ?_
        exact h
theorem u245_0 {d : Nat}  {M : Mem} {K : KK} {Q : RR → Mem → KK → Prop} (hK : K.1 = 923) (hX : FX M)  (h : Wp d 245 9 [vR 440, vI (0 : Int), vI (0 : Int)] [] (mset M 440 0 (0 : Int)) K Q) : Wp d 245 0 [vR 440, vU, vU] [] M K Q := by
  refine r_aload_n c245_0 rfl ?_
  refine r_iconst c245_1 ?_
  refine r_putI c245_2 (oK hK o440) ?_
  have x1 := FX.set (v := (0 : Int)) (a := 440) (k := 0) hX (by decide +kernel)
  refine r_iconst c245_5 ?_
  refine r_istore_n c245_6 (Nat.le_of_ble_eq_true rfl) ?_
  refine r_iconst c245_7 ?_
  refine r_istore_n c245_8 (Nat.le_of_ble_eq_true rfl) ?_
  exact h
theorem u245_9 {d : Nat} {l1 : Int} {l2 : Int} {M : Mem} {K : KK} {Q : RR → Mem → KK → Prop} (hK : K.1 = 923) (hX : FX M)  (h : ((M 444 1) ≤ l2 → Q (.inl (some (vI l1))) M K) ∧ (¬ ((M 444 1) ≤ l2) → (0 ≤ (w32 ((0 : Int) + l2)) ∧ (w32 ((0 : Int) + l2)) < (27 : Int)) ∧ (¬ (M 888 (Int.toNat (w32 ((0 : Int) + l2)))) = (-1 : Int) → (0 ≤ (w32 ((12 : Int) + l2)) ∧ (w32 ((12 : Int) + l2)) < (27 : Int)) ∧ Wp d 245 9 [vR 440, vI (w32 (l1 + (w32 ((9 : Int) - (M 888 (Int.toNat (w32 ((12 : Int) + l2)))))))), vI (w32 (l2 + 1))] [] M K Q) ∧ ((M 888 (Int.toNat (w32 ((0 : Int) + l2)))) = (-1 : Int) → Wp d 245 9 [vR 440, vI (w32 (l1 + (0 : Int))), vI (w32 (l2 + 1))] [] M K Q))) : Wp d 245 9 [vR 440, vI l1, vI l2] [] M K Q := by
  refine r_iload_n c245_9 rfl ?_
  refine r_aload_n c245_10 rfl ?_
  refine r_getR c245_11 (oK hK o440) (FX.get (b := 444) hX (by decide) (by decide +kernel) (by decide)) (by decide) ?_
  refine r_iconst c245_14 ?_
  refine r_iae c245_15 (oK hK o444) (bd l444 (by decide)) rfl ?_
  refine r_icmpP (P := (M 444 1) ≤ l2) c245_16 rfl (fun hc1 => ?_) (fun hc1 => ?_)
  · replace h := h.1 hc1
    refine r_iload_n c245_56 rfl ?_
    exact r_iret c245_57 (Or.inl rfl) h
  · replace h := h.2 hc1
    refine r_iload_n c245_19 rfl ?_
    refine r_aload_n c245_20 rfl ?_
    refine r_getR c245_21 (oK hK o440) (FX.get (b := 888) hX (by decide) (by decide +kernel) (by decide)) (by decide) ?_
    refine r_iconst c245_24 ?_
    refine r_iload_n c245_25 rfl ?_
    refine r_iadd c245_26 ?_
    obtain ⟨s2, h⟩ := h
    refine r_iae c245_27 (oK hK o888) (bd l888 s2) rfl ?_
    refine r_iconst c245_28 ?_
    refine r_icmpP (P := ¬ (M 888 (Int.toNat (w32 ((0 : Int) + l2)))) = (-1 : Int)) c245_29 rfl (fun hc3 => ?_) (fun hc3 => ?_)
    · replace h := h.1 hc3
      refine r_bipush c245_36 ?_
      refine r_aload_n c245_38 rfl ?_
      refine r_getR c245_39 (oK hK o440) (FX.get (b := 888) hX (by decide) (by decide +kernel) (by decide)) (by decide) ?_
      refine r_bipush c245_42 ?_
      refine r_iload_n c245_44 rfl ?_
      refine r_iadd c245_45 ?_
      obtain ⟨s5, h⟩ := h
      refine r_iae c245_46 (oK hK o888) (bd l888 s5) rfl ?_
      refine r_isub c245_47 ?_
      refine r_iadd c245_48 ?_
      refine r_istore_n c245_49 (Nat.le_of_ble_eq_true rfl) ?_
      refine r_iinc c245_50 rfl ?_
      refine r_goto c245_53 ?_
      exact h
    · have hc4 := Classical.not_not.mp hc3
      replace h := h.2 hc4
      refine r_iconst c245_32 ?_
      refine r_goto c245_33 ?_
      refine r_iadd c245_48 ?_
      refine r_istore_n c245_49 (Nat.le_of_ble_eq_true rfl) ?_
      refine r_iinc c245_50 rfl ?_
      refine r_goto c245_53 ?_
      exact h
theorem u246_0 {d : Nat} {l1 : Int} {M : Mem} {K : KK} {Q : RR → Mem → KK → Prop} (hK : K.1 = 923) (hX : FX M)  (h : (((0 : Int) ≤ l1 ∧ l1 ≤ (1 : Int)) → Wp (d + 1) 246 37 [vR 440, vI l1, vI (-1 : Int), vI (-1 : Int), vI (0 : Int)] [] (mset M 440 0 (0 : Int)) K Q) ∧ (¬ ((0 : Int) ≤ l1 ∧ l1 ≤ (1 : Int)) → (∀ (M5 : Mem), FX M5 → BadM 1 1 (mset M 440 0 (0 : Int)) M5 → Q (.inl (some (vI (0 : Int)))) M5 K))) : Wp (d + 1) 246 0 [vR 440, vI l1, vU, vU, vU] [] M K Q := by
  refine r_aload_n c246_0 rfl ?_
  refine r_iconst c246_1 ?_
  refine r_putI c246_2 (oK hK o440) ?_
  have x1 := FX.set (v := (0 : Int)) (a := 440) (k := 0) hX (by decide +kernel)
  refine r_aload_n c246_5 rfl ?_
  refine r_iload_n c246_6 rfl ?_
  refine r_iconst c246_7 ?_
  refine r_iconst c246_8 ?_
  refine r_call c246_9 rfl rfl (Nat.le_of_ble_eq_true rfl) (okc_s rfl rfl rfl) (g153 hK x1  (Bk_v ?_))
  refine r_ifP (P := ((0 : Int) ≤ l1 ∧ l1 ≤ (1 : Int))) c246_12 bI_ne (fun hc2 => ?_) (fun hc2 => ?_)
  · replace h := h.1 hc2
    refine r_iconst c246_19 ?_
    refine r_iconst c246_20 ?_
    refine r_iconst c246_21 ?_
    refine r_call c246_22 rfl rfl (Nat.le_of_ble_eq_true rfl) (okc_r rfl rfl (oK hK o440)) (b152_0 hK x1 ms_eq (Bk_v ?_))
    refine r_ifP (P := (0 : Int) = (0 : Int)) c246_25 rfl (fun hc => ?_) (fun hc => absurd (by decide) hc)
    refine r_iconst c246_30 ?_
    refine r_istore_n c246_31 (Nat.le_of_ble_eq_true rfl) ?_
    refine r_iconst c246_32 ?_
    refine r_istore_n c246_33 (Nat.le_of_ble_eq_true rfl) ?_
    refine r_iconst c246_34 ?_
    refine r_istore c246_35 (Nat.le_of_ble_eq_true rfl) ?_
    exact h
  · replace h := h.2 hc2
    refine r_iconst c246_15 ?_
    refine r_goto c246_16 ?_
    refine r_iconst c246_20 ?_
    refine r_iconst c246_21 ?_
    refine r_call c246_22 rfl rfl (Nat.le_of_ble_eq_true rfl) (okc_r rfl rfl (oK hK o440)) (b152_1 (cd := 1) (ix := 1) hK x1 ms_eq (by decide) (by decide) (fun M5 x3 p4 => Bk_v ?_))
    replace h := h M5 x3 p4
    refine r_ifP (P := (1 : Int) = (0 : Int)) c246_25 rfl (fun hc => absurd hc (by decide)) (fun hc => ?_)
    refine r_iconst c246_28 ?_
    exact r_iret c246_29 (Or.inl rfl) h
theorem u246_37 {d : Nat} {l1 : Int} {l2 : Int} {l3 : Int} {l4 : Int} {M : Mem} {K : KK} {Q : RR → Mem → KK → Prop} (hK : K.1 = 923) (hX : FX M)  (h : ((M 444 1) ≤ l4 → (¬ l1 = (0 : Int) → Q (.inl (some (vI l3))) M K) ∧ (l1 = (0 : Int) → Q (.inl (some (vI l2))) M K)) ∧ (¬ ((M 444 1) ≤ l4) → (0 ≤ (w32 ((0 : Int) + l4)) ∧ (w32 ((0 : Int) + l4)) < (27 : Int)) ∧ ((M 888 (Int.toNat (w32 ((0 : Int) + l4)))) = (-1 : Int) → Wp (d + 1) 246 37 [vR 440, vI l1, vI l2, vI l3, vI (w32 (l4 + 1))] [] M K Q) ∧ (¬ ((M 888 (Int.toNat (w32 ((0 : Int) + l4)))) = (-1 : Int)) → (0 ≤ (w32 ((6 : Int) + l4)) ∧ (w32 ((6 : Int) + l4)) < (27 : Int)) ∧ (l3 < (M 888 (Int.toNat (w32 ((6 : Int) + l4)))) → (0 ≤ (w32 ((6 : Int) + l4)) ∧ (w32 ((6 : Int) + l4)) < (27 : Int)) ∧ Wp (d + 1) 246 37 [vR 440, vI l1, vI l4, vI (M 888 (Int.toNat (w32 ((6 : Int) + l4)))), vI (w32 (l4 + 1))] [] M K Q) ∧ (¬ (l3 < (M 888 (Int.toNat (w32 ((6 : Int) + l4))))) → Wp (d + 1) 246 37 [vR 440, vI l1, vI l2, vI l3, vI (w32 (l4 + 1))] [] M K Q)))) : Wp (d + 1) 246 37 [vR 440, vI l1, vI l2, vI l3, vI l4] [] M K Q := by
  refine r_iload c246_37 rfl ?_
  refine r_aload_n c246_39 rfl ?_
  refine r_getR c246_40 (oK hK o440) (FX.get (b := 444) hX (by decide) (by decide +kernel) (by decide)) (by decide) ?_
  refine r_iconst c246_43 ?_
  refine r_iae c246_44 (oK hK o444) (bd l444 (by decide)) rfl ?_
  refine r_icmpP (P := (M 444 1) ≤ l4) c246_45 rfl (fun hc1 => ?_) (fun hc1 => ?_)
  · replace h := h.1 hc1
    refine r_iload_n c246_98 rfl ?_
    refine r_ifP (P := ¬ l1 = (0 : Int)) c246_99 rfl (fun hc2 => ?_) (fun hc2 => ?_)
    · replace h := h.1 hc2
      refine r_iload_n c246_106 rfl ?_
      exact r_iret c246_107 (Or.inl rfl) h
    · have hc3 := Classical.not_not.mp hc2
      replace h := h.2 hc3
      refine r_iload_n c246_102 rfl ?_
      refine r_goto c246_103 ?_
      exact r_iret c246_107 (Or.inl rfl) h
  · replace h := h.2 hc1
    refine r_aload_n c246_48 rfl ?_
    refine r_getR c246_49 (oK hK o440) (FX.get (b := 888) hX (by decide) (by decide +kernel) (by decide)) (by decide) ?_
    refine r_iconst c246_52 ?_
    refine r_iload c246_53 rfl ?_
    refine r_iadd c246_55 ?_
    obtain ⟨s4, h⟩ := h
    refine r_iae c246_56 (oK hK o888) (bd l888 s4) rfl ?_
    refine r_iconst c246_57 ?_
    refine r_icmpP (P := (M 888 (Int.toNat (w32 ((0 : Int) + l4)))) = (-1 : Int)) c246_58 rfl (fun hc5 => ?_) (fun hc5 => ?_)
    · replace h := h.1 hc5
      refine r_iinc c246_92 rfl ?_
      refine r_goto c246_95 ?_
      exact h
    · replace h := h.2 hc5
      refine r_aload_n c246_61 rfl ?_
      refine r_getR c246_62 (oK hK o440) (FX.get (b := 888) hX (by decide) (by decide +kernel) (by decide)) (by decide) ?_
      refine r_bipush c246_65 ?_
      refine r_iload c246_67 rfl ?_
      refine r_iadd c246_69 ?_
      obtain ⟨s6, h⟩ := h
      refine r_iae c246_70 (oK hK o888) (bd l888 s6) rfl ?_
      refine r_iload_n c246_71 rfl ?_
      refine r_icmpP (P := l3 < (M 888 (Int.toNat (w32 ((6 : Int) + l4))))) c246_72 rfl (fun hc7 => ?_) (fun hc7 => ?_)
      · replace h := h.1 hc7
        refine r_iload c246_78 rfl ?_
        refine r_istore_n c246_80 (Nat.le_of_ble_eq_true rfl) ?_
        refine r_aload_n c246_81 rfl ?_
        refine r_getR c246_82 (oK hK o440) (FX.get (b := 888) hX (by decide) (by decide +kernel) (by decide)) (by decide) ?_
        refine r_bipush c246_85 ?_
        refine r_iload c246_87 rfl ?_
        refine r_iadd c246_89 ?_
        obtain ⟨s8, h⟩ := h
        refine r_iae c246_90 (oK hK o888) (bd l888 s8) rfl ?_
        refine r_istore_n c246_91 (Nat.le_of_ble_eq_true rfl) ?_
        refine r_iinc c246_92 rfl ?_
        refine r_goto c246_95 ?_
        exact h
      · replace h := h.2 hc7
        refine r_goto c246_75 ?_
        refine r_iinc c246_92 rfl ?_
        refine r_goto c246_95 ?_
        exact h
theorem u247_0 {d : Nat} {l1 : Int} {l2 : Int} {M : Mem} {K : KK} {Q : RR → Mem → KK → Prop} (hK : K.1 = 923) (hX : FX M)  (h : ∃ n2 : Nat, StM (mset M 440 0 (0 : Int)) n2 ∧ ((0 ≤ l1 ∧ l1 < (n2 : Int)) → (((0 : Int) ≤ l2 ∧ l2 ≤ (1 : Int)) → Wp (d + 4) 247 60 [vR 440, vI l1, vI l2, vI (-1 : Int), vI (-1 : Int), vI (0 : Int), vU] [] (mset M 440 0 (0 : Int)) K Q) ∧ (¬ ((0 : Int) ≤ l2 ∧ l2 ≤ (1 : Int)) → (∀ (M8 : Mem), FX M8 → BadM 2 1 (mset M 440 0 (0 : Int)) M8 → Q (.inl (some (vI (0 : Int)))) M8 K))) ∧ (¬ (0 ≤ l1 ∧ l1 < (n2 : Int)) → (∀ (M11 : Mem), FX M11 → BadM 1 0 (mset M 440 0 (0 : Int)) M11 → Q (.inl (some (vI (0 : Int)))) M11 K))) : Wp (d + 4) 247 0 [vR 440, vI l1, vI l2, vU, vU, vU, vU] [] M K Q := by
  refine r_aload_n c247_0 rfl ?_
  refine r_iconst c247_1 ?_
  refine r_putI c247_2 (oK hK o440) ?_
  have x1 := FX.set (v := (0 : Int)) (a := 440) (k := 0) hX (by decide +kernel)
  refine r_aload_n c247_5 rfl ?_
  refine r_aload_n c247_6 rfl ?_
  refine r_iload_n c247_7 rfl ?_
  obtain ⟨n2, h⟩ := h
  obtain ⟨p3, h⟩ := h
  refine r_call c247_8 rfl rfl (Nat.le_of_ble_eq_true rfl) (okc_r rfl rfl (oK hK o440)) (g208 hK x1 p3 (Bk_v ?_))
  refine r_ifP (P := (0 ≤ l1 ∧ l1 < (n2 : Int))) c247_11 bI_ne (fun hc4 => ?_) (fun hc4 => ?_)
  · replace h := h.1 hc4
    refine r_iconst c247_18 ?_
    refine r_iconst c247_19 ?_
    refine r_iconst c247_20 ?_
    refine r_call c247_21 rfl rfl (Nat.le_of_ble_eq_true rfl) (okc_r rfl rfl (oK hK o440)) (b152_0 hK x1 ms_eq (Bk_v ?_))
    refine r_ifP (P := ¬ (0 : Int) = (0 : Int)) c247_24 rfl (fun hc => absurd hc (by decide)) (fun hc => ?_)
    refine r_aload_n c247_27 rfl ?_
    refine r_iload_n c247_28 rfl ?_
    refine r_iconst c247_29 ?_
    refine r_iconst c247_30 ?_
    refine r_call c247_31 rfl rfl (Nat.le_of_ble_eq_true rfl) (okc_s rfl rfl rfl) (g153 hK x1  (Bk_v ?_))
    refine r_ifP (P := ((0 : Int) ≤ l2 ∧ l2 ≤ (1 : Int))) c247_34 bI_ne (fun hc5 => ?_) (fun hc5 => ?_)
    · replace h := h.1 hc5
      refine r_iconst c247_41 ?_
      refine r_iconst c247_42 ?_
      refine r_iconst c247_43 ?_
      refine r_call c247_44 rfl rfl (Nat.le_of_ble_eq_true rfl) (okc_r rfl rfl (oK hK o440)) (b152_0 hK x1 ms_eq (Bk_v ?_))
      refine r_ifP (P := (0 : Int) = (0 : Int)) c247_47 rfl (fun hc => ?_) (fun hc => absurd (by decide) hc)
      refine r_iconst c247_52 ?_
      refine r_istore_n c247_53 (Nat.le_of_ble_eq_true rfl) ?_
      refine r_iconst c247_54 ?_
      refine r_istore c247_55 (Nat.le_of_ble_eq_true rfl) ?_
      refine r_iconst c247_57 ?_
      refine r_istore c247_58 (Nat.le_of_ble_eq_true rfl) ?_
      exact h
    · replace h := h.2 hc5
      refine r_iconst c247_37 ?_
      refine r_goto c247_38 ?_
      refine r_iconst c247_42 ?_
      refine r_iconst c247_43 ?_
      refine r_call c247_44 rfl rfl (Nat.le_of_ble_eq_true rfl) (okc_r rfl rfl (oK hK o440)) (b152_1 (cd := 2) (ix := 1) hK x1 ms_eq (by decide) (by decide) (fun M8 x6 p7 => Bk_v ?_))
      replace h := h M8 x6 p7
      refine r_ifP (P := (1 : Int) = (0 : Int)) c247_47 rfl (fun hc => absurd hc (by decide)) (fun hc => ?_)
      refine r_iconst c247_50 ?_
      exact r_iret c247_51 (Or.inl rfl) h
  · replace h := h.2 hc4
    refine r_iconst c247_14 ?_
    refine r_goto c247_15 ?_
    refine r_iconst c247_19 ?_
    refine r_iconst c247_20 ?_
    refine r_call c247_21 rfl rfl (Nat.le_of_ble_eq_true rfl) (okc_r rfl rfl (oK hK o440)) (b152_1 (cd := 1) (ix := 0) hK x1 ms_eq (by decide) (by decide) (fun M11 x9 p10 => Bk_v ?_))
    replace h := h M11 x9 p10
    refine r_ifP (P := ¬ (1 : Int) = (0 : Int)) c247_24 rfl (fun hc => ?_) (fun hc => absurd (by decide) hc)
    refine r_iconst c247_50 ?_
    exact r_iret c247_51 (Or.inl rfl) h
theorem u247_60 {d : Nat} {l1 : Int} {l2 : Int} {l3 : Int} {l4 : Int} {l5 : Int} {l6 : PV} {M : Mem} {K : KK} {Q : RR → Mem → KK → Prop} (hK : K.1 = 923) (hX : FX M)  (h : (0 ≤ l1 ∧ l1 < (6 : Int)) ∧ ((M 444 0) < (w32 (l5 + (M (459 + Int.toNat l1) 0))) → (¬ l2 = (0 : Int) → Q (.inl (some (vI l4))) M K) ∧ (l2 = (0 : Int) → Q (.inl (some (vI l3))) M K)) ∧ (¬ ((M 444 0) < (w32 (l5 + (M (459 + Int.toNat l1) 0)))) → (0 ≤ (w32 ((6 : Int) + l1)) ∧ (w32 ((6 : Int) + l1)) < (27 : Int)) ∧ ∃ c6 : Mem, ∃ s7 : Mem, ∃ dr8 : Int, SM M 888 c6 s7 dr8 ∧ ∃ c10 : Mem, ∃ L11 : LC, ∃ p12 : Nat, (l1 = (p12 : Int) ∧ MCc M c10 ∧ CW c10 ∧ LM M L11 ∧ p12 < nSt c10 ∧ 0 ≤ l5 ∧ l5 + c10 2 p12 ≤ c10 0 0) ∧ (∀ (M16 : Mem), FX M16 → FrV M M16 → (l4 < (whB c10 L11 p12 l5 (M 888 (Int.toNat (w32 ((6 : Int) + l1)))) (rainM c6 s7 dr8) (0 : Int) (0 : Int) (M 888 24)) → Wp (d + 4) 247 60 [vR 440, vI l1, vI l2, vI l5, vI (whB c10 L11 p12 l5 (M 888 (Int.toNat (w32 ((6 : Int) + l1)))) (rainM c6 s7 dr8) (0 : Int) (0 : Int) (M 888 24)), vI (w32 (l5 + 1)), vI (whB c10 L11 p12 l5 (M 888 (Int.toNat (w32 ((6 : Int) + l1)))) (rainM c6 s7 dr8) (0 : Int) (0 : Int) (M 888 24))] [] M16 K Q) ∧ (¬ (l4 < (whB c10 L11 p12 l5 (M 888 (Int.toNat (w32 ((6 : Int) + l1)))) (rainM c6 s7 dr8) (0 : Int) (0 : Int) (M 888 24))) → Wp (d + 4) 247 60 [vR 440, vI l1, vI l2, vI l3, vI l4, vI (w32 (l5 + 1)), vI (whB c10 L11 p12 l5 (M 888 (Int.toNat (w32 ((6 : Int) + l1)))) (rainM c6 s7 dr8) (0 : Int) (0 : Int) (M 888 24))] [] M16 K Q)))) : Wp (d + 4) 247 60 [vR 440, vI l1, vI l2, vI l3, vI l4, vI l5, l6] [] M K Q := by
  refine r_iload c247_60 rfl ?_
  refine r_aload_n c247_62 rfl ?_
  refine r_getR c247_63 (oK hK o440) (FX.get (b := 458) hX (by decide) (by decide +kernel) (by decide)) (by decide) ?_
  refine r_iload_n c247_66 rfl ?_
  obtain ⟨s1, h⟩ := h
  refine r_aa c247_67 (mrw o458 hK) (bd l458 s1) (rf458 hX s1) (by omega) ?_
  refine r_iconst c247_68 ?_
  refine r_iae c247_69 (oK hK (ro458 s1)) (bd (rz458 s1) (by decide)) rfl ?_
  refine r_iadd c247_70 ?_
  refine r_aload_n c247_71 rfl ?_
  refine r_getR c247_72 (oK hK o440) (FX.get (b := 444) hX (by decide) (by decide +kernel) (by decide)) (by decide) ?_
  refine r_iconst c247_75 ?_
  refine r_iae c247_76 (oK hK o444) (bd l444 (by decide)) rfl ?_
  refine r_icmpP (P := (M 444 0) < (w32 (l5 + (M (459 + Int.toNat l1) 0)))) c247_77 rfl (fun hc2 => ?_) (fun hc2 => ?_)
  · replace h := h.1 hc2
    refine r_iload_n c247_138 rfl ?_
    refine r_ifP (P := ¬ l2 = (0 : Int)) c247_139 rfl (fun hc3 => ?_) (fun hc3 => ?_)
    · replace h := h.1 hc3
      refine r_iload c247_146 rfl ?_
      exact r_iret c247_148 (Or.inl rfl) h
    · have hc4 := Classical.not_not.mp hc3
      replace h := h.2 hc4
      refine r_iload_n c247_142 rfl ?_
      refine r_goto c247_143 ?_
      exact r_iret c247_148 (Or.inl rfl) h
  · replace h := h.2 hc2
    refine r_aload_n c247_80 rfl ?_
    refine r_iload_n c247_81 rfl ?_
    refine r_iload c247_82 rfl ?_
    refine r_aload_n c247_84 rfl ?_
    refine r_getR c247_85 (oK hK o440) (FX.get (b := 888) hX (by decide) (by decide +kernel) (by decide)) (by decide) ?_
    refine r_bipush c247_88 ?_
    refine r_iload_n c247_90 rfl ?_
    refine r_iadd c247_91 ?_
    obtain ⟨s5, h⟩ := h
    refine r_iae c247_92 (oK hK o888) (bd l888 s5) rfl ?_
    refine r_aload_n c247_93 rfl ?_
    refine r_aload_n c247_94 rfl ?_
    refine r_getR c247_95 (oK hK o440) (FX.get (b := 888) hX (by decide) (by decide +kernel) (by decide)) (by decide) ?_
    obtain ⟨c6, h⟩ := h
    obtain ⟨s7, h⟩ := h
    obtain ⟨dr8, h⟩ := h
    obtain ⟨p9, h⟩ := h
    refine r_call c247_98 rfl rfl (Nat.le_of_ble_eq_true rfl) (okc_r rfl rfl (oK hK o440)) (g193 hK hX o888 l888 p9 (Bk_v ?_))
    refine r_iconst c247_101 ?_
    refine r_iconst c247_102 ?_
    refine r_aload_n c247_103 rfl ?_
    refine r_getR c247_104 (oK hK o440) (FX.get (b := 888) hX (by decide) (by decide +kernel) (by decide)) (by decide) ?_
    refine r_bipush c247_107 ?_
    refine r_iae c247_109 (oK hK o888) (bd l888 (by decide)) rfl ?_
    obtain ⟨c10, h⟩ := h
    obtain ⟨L11, h⟩ := h
    obtain ⟨p12, h⟩ := h
    obtain ⟨p13, h⟩ := h
    refine r_call c247_110 rfl rfl (Nat.le_of_ble_eq_true rfl) (okc_r rfl rfl (oK hK o440)) (g194 hK hX p13 (fun M16 x14 p15 => Bk_v ?_))
    replace h := h M16 x14 p15
    refine r_istore c247_113 (Nat.le_of_ble_eq_true rfl) ?_
    refine r_iload c247_115 rfl ?_
    refine r_iload c247_117 rfl ?_
    refine r_icmpP (P := l4 < (whB c10 L11 p12 l5 (M 888 (Int.toNat (w32 ((6 : Int) + l1)))) (rainM c6 s7 dr8) (0 : Int) (0 : Int) (M 888 24))) c247_119 rfl (fun hc17 => ?_) (fun hc17 => ?_)
    · replace h := h.1 hc17
      refine r_iload c247_125 rfl ?_
      refine r_istore_n c247_127 (Nat.le_of_ble_eq_true rfl) ?_
      refine r_iload c247_128 rfl ?_
      refine r_istore c247_130 (Nat.le_of_ble_eq_true rfl) ?_
      refine r_iinc c247_132 rfl ?_
      refine r_goto c247_135 ?_
      exact h
    · replace h := h.2 hc17
      refine r_goto c247_122 ?_
      refine r_iinc c247_132 rfl ?_
      refine r_goto c247_135 ?_
      exact h
/-! the questions free, greyest, sunniest, sunny, spare -/
def frR (c s : Mem) : Nat → Int
  | 0 => 0
  | k + 1 => if lyOn c s (k : Int) = -1 then frR c s k + 1 else 0
def frM (c s : Mem) : Nat → Int × Int
  | 0 => (0, -1)
  | k + 1 => if (frM c s k).1 < frR c s (k + 1) then (frR c s (k + 1), (k : Int) - frR c s (k + 1) + 1) else frM c s k
def gyF (s : Mem) : Nat → Int × Int
  | 0 => (-1, -1)
  | p + 1 => if s 0 p ≠ -1 ∧ (gyF s p).2 < s 1 p then ((p : Int), s 1 p) else gyF s p
def snF (c s : Mem) (L : LC) (p : Nat) : Nat → Int × Int
  | 0 => (-1, -1)
  | x + 1 => if (snF c s L p x).2 < whD c s L p (x : Int) then ((x : Int), whD c s L p (x : Int)) else snF c s L p x
def suF (c s : Mem) (n : Nat) : Nat → Int × Int
  | 0 => (-1, -1)
  | x + 1 => if lainS c s &&& rowB x n = 0 ∧ (suF c s n x).2 < sunS c (x : Int) (n : Int) then ((x : Int), sunS c (x : Int) (n : Int)) else suF c s n x
/-- the first or the second of two -/
def prS (z : Int × Int) (w : Int) : Int := if w = 0 then z.1 else z.2
section OP3
variable {d : Nat} {M M' : Mem} {K : KK} {Q : RR → Mem → KK → Prop} {c s : Mem} {L : LC} {cm a l : Nat}
theorem frR_rg : ∀ k, 0 ≤ frR c s k ∧ frR c s k ≤ (k : Int) := by
  intro k
  induction k with
  | zero => exact ⟨Int.le_refl _, Int.le_refl _⟩
  | succ k ih => simp only [frR]; split <;> omega
theorem frM_rg : ∀ k, 0 ≤ (frM c s k).1 ∧ (frM c s k).1 ≤ (k : Int) := by
  intro k
  induction k with
  | zero => exact ⟨Int.le_refl _, Int.le_refl _⟩
  | succ k ih =>
    have := frR_rg (c := c) (s := s) (k + 1)
    simp only [frM]
    split
    · exact this
    · omega
theorem lain_tb {k : Nat} (h : k < nCe c) : (lainS c s).testBit k = true ↔ ¬ lyOn c s (k : Int) = -1 := by
  unfold lainS; rw [bitsF_tb, decide_eq_true h, Bool.true_and, decide_eq_true_eq]
theorem lain_lt (hw : CW c) : lainS c s < 4096 := Nat.lt_of_lt_of_le (bitsF_lt _) (p12 hw.n.2.1.2)
theorem c125 {w : Int} (hK : K.1 = 923) (hX : FX M) (h : GC M c L s) (k : QC Q M K True (0 ≤ w ∧ w ≤ 1) (vI (prS (frM c s (nCe c)) w))) : Wm (d + 2) 125 [vR 32, vI w] M K Q := by
  obtain ⟨cm, l, a, b, e, f⟩ := h
  have hC := e.2.1.n.2.1.2
  refine u125_0 hK hX ⟨fun hw => ⟨cm, a, b, c, s, e, ?_⟩, k.2.1 trivial⟩
  have k := k.ok trivial hw hX
  unfold prS at k
  have loop : ∀ f i, i + f = nCe c → Wp (d + 2) 125 33 [vR 32, vI w, vI (lainS c s : Int), vI (frM c s i).1, vI (frM c s i).2, vI (frR c s i), vI (i : Int)] [] M K Q := by
    intro f
    induction f with
    | zero =>
      intro i hi
      have hin : i = nCe c := by omega
      subst hin
      refine u125_33 hK hX ⟨cm, a, b, fun _ => ⟨fun h9 => ?_, fun h9 => ?_⟩, fun h9 => absurd (by rw [(e.1.g e.2.1).1]; omega) h9⟩
      · rw [if_neg h9] at k; exact k
      · rw [if_pos h9] at k; exact k
    | succ f ih =>
      intro i hi
      have nx := ih (i + 1) (by omega)
      have r1 := frR_rg (c := c) (s := s) i
      have r2 := frM_rg (c := c) (s := s) i
      have ll := lain_lt (s := s) e.2.1
      simp only [frM] at nx
      refine u125_33 hK hX ⟨cm, a, b, fun h9 => absurd h9 (by rw [(e.1.g e.2.1).1]; omega), fun _ => ?_⟩
      rw [bit_1 (by omega) (by omega), lain_tb (by omega), w1 (i := i) (by omega), w32_id (z := frR c s i + 1) (by omega), w32_id (z := (i : Int) - (frR c s i + 1)) (by omega), w32_id (by omega), w32_id (z := (i : Int) - 0) (by omega), w32_id (by omega)]
      refine ⟨fun h9 => ?_, fun h9 => ?_⟩
      · have eR : frR c s (i + 1) = frR c s i + 1 := by simp only [frR]; rw [if_pos (Classical.not_not.mp h9)]
        rw [eR] at nx
        refine ⟨fun h8 => ?_, fun h8 => ?_⟩
        · rw [if_neg (by omega)] at nx; exact nx
        · rw [if_pos (by omega)] at nx; exact nx
      · have eR : frR c s (i + 1) = 0 := by simp only [frR]; rw [if_neg h9]
        rw [eR] at nx
        refine ⟨fun h8 => ?_, fun h8 => absurd (by omega) h8⟩
        rw [if_neg (by omega)] at nx; exact nx
  exact loop (nCe c) 0 (Nat.zero_add _)
theorem m242 {w : Int} (hK : K.1 = 923) (hX : FX M) (h : GM M c L s) (k : QM Q M K True (0 ≤ w ∧ w ≤ 1) 1 (vI 0) (vI (prS (frM c s (nCe c)) w))) : Wm (d + 2) 242 [vR 440, vI w] M K Q := by
  have hC := h.1.2.1.n.2.1
  refine u242_0 hK hX ⟨fun hw => ?_, fun hw => k.bad trivial hw⟩
  have k := k.ok trivial hw hX
  have h' := h.q FrQm.t0
  have x1 := hX.t0
  generalize mset M 440 0 0 = M1 at *
  unfold prS at k
  have e443 := h'.cen.1
  have loop : ∀ f i, i + f = nCe c → Wp (d + 2) 242 40 [vR 440, vI w, vI (frM c s i).1, vI (frM c s i).2, vI (frR c s i), vI (i : Int)] [] M1 K Q := by
    intro f
    induction f with
    | zero =>
      intro i hi
      have hin : i = nCe c := by omega
      subst hin
      refine u242_40 hK x1 ⟨fun _ => ⟨fun h9 => ?_, fun h9 => ?_⟩, fun h9 => absurd (by omega) h9⟩
      · rw [if_neg h9] at k; exact k
      · rw [if_pos h9] at k; exact k
    | succ f ih =>
      intro i hi
      have nx := ih (i + 1) (by omega)
      have r1 := frR_rg (c := c) (s := s) i
      have r2 := frM_rg (c := c) (s := s) i
      simp only [frM] at nx
      refine u242_40 hK x1 ⟨fun h9 => absurd h9 (by omega), fun _ => ⟨c, s, -1, h'.1, ?_⟩⟩
      rw [w1 (i := i) (by omega), w32_id (z := frR c s i + 1) (by omega), w32_id (z := (i : Int) - (frR c s i + 1)) (by omega), w32_id (z := (i : Int) - (frR c s i + 1) + 1) (by omega)]
      refine ⟨fun h9 => ?_, fun h9 => ?_⟩
      · have eR : frR c s (i + 1) = 0 := by simp only [frR]; rw [if_neg h9]
        rw [eR] at nx
        refine ⟨fun h8 => absurd h8 (by omega), fun h8 => ?_⟩
        rw [if_neg (by omega)] at nx; exact nx
      · have eR : frR c s (i + 1) = frR c s i + 1 := by simp only [frR]; rw [if_pos h9]
        rw [eR] at nx
        refine ⟨fun h8 => ?_, fun h8 => ?_⟩
        · rw [if_pos (by omega)] at nx; exact nx
        · rw [if_neg (by omega)] at nx; exact nx
  exact loop (nCe c) 0 (Nat.zero_add _)
theorem c126 {w : Int} (hK : K.1 = 923) (hX : FX M) (h : GC M c L s) (k : QC Q M K True (0 ≤ w ∧ w ≤ 1) (vI (prS (gyF s (nSt c)) w))) : Wm (d + 1) 126 [vR 32, vI w] M K Q := by
  obtain ⟨cm, l, a, b, e, f⟩ := h
  have hN := e.2.1.n.1
  refine u126_0 hK hX ⟨fun hw => ?_, k.2.1 trivial⟩
  have k := k.ok trivial hw hX
  unfold prS at k
  have loop : ∀ f i, i + f = nSt c → Wp (d + 1) 126 17 [vR 32, vI w, vI (gyF s i).1, vI (gyF s i).2, vI (i : Int)] [] M K Q := by
    intro f
    induction f with
    | zero =>
      intro i hi
      have hin : i = nSt c := by omega
      subst hin
      refine u126_17 hK hX ⟨cm, a, b, fun _ => ⟨fun h9 => ?_, fun h9 => ?_⟩, fun h9 => absurd (by rw [(e.1.g e.2.1).2.1]; omega) h9⟩
      · rw [if_neg h9] at k; exact k
      · rw [if_pos h9] at k; exact k
    | succ f ih =>
      intro i hi
      have nx := ih (i + 1) (by omega)
      simp only [gyF] at nx
      obtain ⟨q0, q1, -, -⟩ := e.2.2.1.1 i (by omega)
      rw [show (40 : Nat) + 2 = 42 from rfl] at q0
      rw [show (40 : Nat) + 1 = 41 from rfl] at q1
      refine u126_17 hK hX ⟨cm, a, b, fun h9 => absurd h9 (by rw [(e.1.g e.2.1).2.1]; omega), fun _ => ⟨by omega, ?_⟩⟩
      rw [Int.toNat_natCast, q0, q1, w1 (by omega)]
      refine ⟨fun h9 => ?_, fun h9 => ⟨by omega, fun h8 => ?_, fun h8 => ⟨by omega, ?_⟩⟩⟩
      · rw [if_neg (fun h => h.1 h9)] at nx; exact nx
      · rw [if_neg (fun h => by omega)] at nx; exact nx
      · rw [if_pos ⟨h9, by omega⟩] at nx; exact nx
  exact loop (nSt c) 0 (Nat.zero_add _)
theorem m246 {w : Int} (hK : K.1 = 923) (hX : FX M) (h : GM M c L s) (k : QM Q M K True (0 ≤ w ∧ w ≤ 1) 1 (vI 0) (vI (prS (gyF s (nSt c)) w))) : Wm (d + 1) 246 [vR 440, vI w] M K Q := by
  have hN := h.stn.2
  refine u246_0 hK hX ⟨fun hw => ?_, fun hw => k.bad trivial hw⟩
  have k := k.ok trivial hw hX
  have h' := h.q FrQm.t0
  have x1 := hX.t0
  generalize mset M 440 0 0 = M1 at *
  unfold prS at k
  have e443 := h'.n
  have loop : ∀ f i, i + f = nSt c → Wp (d + 1) 246 37 [vR 440, vI w, vI (gyF s i).1, vI (gyF s i).2, vI (i : Int)] [] M1 K Q := by
    intro f
    induction f with
    | zero =>
      intro i hi
      have hin : i = nSt c := by omega
      subst hin
      refine u246_37 hK x1 ⟨fun _ => ⟨fun h9 => ?_, fun h9 => ?_⟩, fun h9 => absurd (by omega) h9⟩
      · rw [if_neg h9] at k; exact k
      · rw [if_pos h9] at k; exact k
    | succ f ih =>
      intro i hi
      have nx := ih (i + 1) (by omega)
      simp only [gyF] at nx
      obtain ⟨q0, q1, -, -⟩ := h'.1.2.2.1.1 i (by omega)
      refine u246_37 hK x1 ⟨fun h9 => absurd h9 (by omega), fun _ => ⟨bx0 (by omega), ?_⟩⟩
      rw [ix0 (by omega), ix6 (by omega), q0, q1, w1 (i := i) (by omega)]
      refine ⟨fun h9 => ?_, fun h9 => ⟨bx6 (by omega), fun h8 => ⟨bx6 (by omega), ?_⟩, fun h8 => ?_⟩⟩
      · rw [if_neg (fun h => h.1 h9)] at nx; exact nx
      · rw [if_pos ⟨h9, by omega⟩] at nx; exact nx
      · rw [if_neg (fun h => by omega)] at nx; exact nx
  exact loop (nSt c) 0 (Nat.zero_add _)
theorem SKc.w40 (hcm : isO 923 cm 0 = true) (hf : FrW M M') (h : SKc M cm 40 c s) : SKc M' cm 40 c s :=
  ⟨h.1.w hcm hf, h.2.1, h.2.2.1.fr (fun b j h1 h2 => hf b j (by unfold scL; omega)), h.2.2.2⟩
theorem c127 {v w : Int} (hK : K.1 = 923) (hX : FX M) (h : GC M c L s) (k : QC Q M K (0 ≤ v ∧ v < (nSt c : Int)) (0 ≤ w ∧ w ≤ 1) (vI (prS (snF c s L v.toNat (nCe c + 1 - yN c v.toNat)) w))) : Wm (d + 3) 127 [vR 32, vI v, vI w] M K Q := by
  have hst := h.stn
  obtain ⟨cm, l, a, b, e, f⟩ := h
  have hC := e.2.1.n.2.1
  have hN := e.2.1.n.1
  have hg0 := rg0 b
  refine u127_0 hK hX ⟨nSt c, hst, fun hv => ⟨fun hw => ?_, k.2.1 hv⟩, k.1⟩
  have kk := k.2.2 hv hw
  obtain ⟨p, rfl⟩ : ∃ p : Nat, v = (p : Int) := ⟨v.toNat, by omega⟩
  rw [Int.toNat_natCast] at kk
  unfold prS at kk
  have hy := e.2.1.y (show p < nSt c by omega)
  have hy2 : c 2 p = (yN c p : Int) := by unfold yN; omega
  have loop : ∀ f i, i + f = nCe c + 1 - yN c p → ∀ (v9 : PV) M1, FX M1 → FrW M M1 → Wp (d + 3) 127 23 [vR 32, vI (p : Int), vI w, vI (snF c s L p i).1, vI (snF c s L p i).2, vI (i : Int), v9] [] M1 K Q := by
    intro f9
    induction f9 with
    | zero =>
      intro i hi v9 M1 x1 f1
      have hin : i = nCe c + 1 - yN c p := by omega
      subst hin
      have kk := kk M1 x1 f1.qc
      have e1 := e.w40 b f1
      have m1 : M1 32 11 = (cm : Int) := (f1 _ _ (by unfold scL; omega)).trans a
      refine u127_23 hK x1 ⟨cm, m1, b, by omega, fun _ => ⟨fun h9 => ?_, fun h9 => ?_⟩, fun h9 => absurd ?_ h9⟩
      · rw [if_neg h9] at kk; exact kk
      · rw [if_pos h9] at kk; exact kk
      · rw [(e1.1.g e.2.1).1, Int.toNat_natCast, e1.1.a2 (by omega), w32_id (by omega)]; omega
    | succ f9 ih =>
      intro i hi v9 M1 x1 f1
      have e1 := e.w40 b f1
      have m1 : M1 32 11 = (cm : Int) := (f1 _ _ (by unfold scL; omega)).trans a
      refine u127_23 hK x1 ⟨cm, m1, b, by omega, fun h9 => absurd h9 ?_, fun _ => ⟨c, s, L, l, p, ⟨rfl, e1, f.w b f1, by omega, Or.inr (by omega)⟩, fun M2 x2 f2 => ?_⟩⟩
      · rw [(e1.1.g e.2.1).1, Int.toNat_natCast, e1.1.a2 (by omega), w32_id (by omega)]; omega
      · have nx := ih (i + 1) (by omega) (vI (whD c s L p (i : Int))) M2 x2 (f1.tr f2)
        simp only [snF] at nx
        rw [w1 (by omega)]
        refine ⟨fun h9 => ?_, fun h9 => ?_⟩
        · rw [if_neg (by omega)] at nx; exact nx
        · rw [if_pos (by omega)] at nx; exact nx
  exact loop _ 0 (Nat.zero_add _) vU M hX FrW.rf
theorem m247 {v w : Int} (hK : K.1 = 923) (hX : FX M) (h : GM M c L s) (k : QM Q M K (0 ≤ v ∧ v < (nSt c : Int)) (0 ≤ w ∧ w ≤ 1) 2 (vI 0) (vI (prS (snF c s L v.toNat (nCe c + 1 - yN c v.toNat)) w))) : Wm (d + 4) 247 [vR 440, vI v, vI w] M K Q := by
  have hw9 := h.1.2.1
  have hC := hw9.n.2.1
  have hN := hw9.n.1
  refine u247_0 hK hX ⟨nSt c, h.stn.t0, fun hv => ⟨fun hw => ?_, fun hw => k.bad hv hw⟩, fun hv => k.mis hv⟩
  have kk := k.2.2 hv hw
  have h' := h.q FrQm.t0
  have x0 := hX.t0
  obtain ⟨p, rfl⟩ : ∃ p : Nat, v = (p : Int) := ⟨v.toNat, by omega⟩
  rw [Int.toNat_natCast] at kk
  unfold prS at kk
  have hy := hw9.y (show p < nSt c by omega)
  have hy2 : c 2 p = (yN c p : Int) := by unfold yN; omega
  have loop : ∀ f i, i + f = nCe c + 1 - yN c p → ∀ (v9 : PV) M1, FX M1 → FrV (mset M 440 0 0) M1 → Wp (d + 4) 247 60 [vR 440, vI (p : Int), vI w, vI (snF c s L p i).1, vI (snF c s L p i).2, vI (i : Int), v9] [] M1 K Q := by
    intro f9
    induction f9 with
    | zero =>
      intro i hi v9 M1 x1 f1
      have hin : i = nCe c + 1 - yN c p := by omega
      subst hin
      have kk := kk M1 x1 (FrQm.t0.tr f1.q) ((f1 440 0 (by decide) (by decide)).trans ms_eq)
      have g1 := h'.q f1.q
      refine u247_60 hK x1 ⟨by omega, fun _ => ⟨fun h9 => ?_, fun h9 => ?_⟩, fun h9 => absurd ?_ h9⟩
      · rw [if_neg h9] at kk; exact kk
      · rw [if_pos h9] at kk; exact kk
      · rw [g1.cen.1, Int.toNat_natCast, (g1.1.1.2.2.1 p (by omega)).1, w32_id (by omega)]; omega
    | succ f9 ih =>
      intro i hi v9 M1 x1 f1
      have g1 := h'.q f1.q
      refine u247_60 hK x1 ⟨by omega, fun h9 => absurd h9 ?_, fun _ => ⟨bx6 (by omega), c, s, -1, g1.1, c, L, p, ⟨rfl, g1.1.1, hw9, g1.2, by omega, by omega, by omega⟩, fun M2 x2 f2 => ?_⟩⟩
      · rw [g1.cen.1, Int.toNat_natCast, (g1.1.1.2.2.1 p (by omega)).1, w32_id (by omega)]; omega
      · have nx := ih (i + 1) (by omega) (vI (whD c s L p (i : Int))) M2 x2 (f1.tr f2)
        simp only [snF] at nx
        have er : whB c L p (i : Int) (M1 888 (Int.toNat (w32 (6 + (p : Int))))) (rainM c s (-1)) 0 0 (M1 888 24) = whD c s L p (i : Int) := by
          rw [ix6 (by omega), (g1.1.2.2.1.1 p (by omega)).2.1, g1.1.2.2.1.2.1]; unfold rainM whD; rw [if_pos rfl]
        rw [er, w1 (by omega)]
        refine ⟨fun h9 => ?_, fun h9 => ?_⟩
        · rw [if_pos (by omega)] at nx; exact nx
        · rw [if_neg (by omega)] at nx; exact nx
  exact loop _ 0 (Nat.zero_add _) vU _ x0 FrV.rf
theorem c129 (hK : K.1 = 923) (hX : FX M) (h : GC M c L s) (k : QC Q M K True True (vI (spareS c s))) : Wm d 129 [vR 32] M K Q := by
  obtain ⟨cm, l, a, b, e, f⟩ := h
  have hN := e.2.1.n.1
  have k := k.ok trivial trivial hX
  refine u129_0 hK hX ?_
  have hb : ∀ i, i ≤ nSt c → 0 ≤ sumF (fun p => if s 0 p = -1 then 0 else 9 - s 2 p) i ∧ sumF (fun p => if s 0 p = -1 then 0 else 9 - s 2 p) i ≤ 9 * (i : Int) := by
    intro i
    induction i with
    | zero => intro _; simp [sumF]
    | succ i ih9 => intro hi; have := ih9 (by omega); have := e.2.2.2.1 i (by omega); simp only [sumF]; split <;> omega
  have loop : ∀ f i, i + f = nSt c → Wp d 129 4 [vR 32, vI (sumF (fun p => if s 0 p = -1 then 0 else 9 - s 2 p) i), vI (i : Int)] [] M K Q := by
    intro f
    induction f with
    | zero =>
      intro i hi
      have hin : i = nSt c := by omega
      subst hin
      exact u129_4 hK hX ⟨cm, a, b, fun _ => k, fun h9 => absurd (by rw [(e.1.g e.2.1).2.1]; omega) h9⟩
    | succ f ih =>
      intro i hi
      have nx := ih (i + 1) (by omega)
      have r := hb i (by omega)
      have r2 := e.2.2.2.1 i (by omega)
      simp only [sumF] at nx
      obtain ⟨q0, -, q2, -⟩ := e.2.2.1.1 i (by omega)
      rw [show (40 : Nat) + 2 = 42 from rfl] at q0
      rw [show (40 : Nat) + 3 = 43 from rfl] at q2
      refine u129_4 hK hX ⟨cm, a, b, fun h9 => absurd h9 (by rw [(e.1.g e.2.1).2.1]; omega), fun _ => ⟨by omega, ?_⟩⟩
      rw [Int.toNat_natCast, q0, q2, w1 (i := i) (by omega), w32_id (z := 9 - s 2 i) (by omega), w32_id (by omega), w32_id (by omega)]
      refine ⟨fun h9 => ⟨by omega, ?_⟩, fun h9 => ?_⟩
      · rw [if_neg h9] at nx; exact nx
      · rw [if_pos h9] at nx; exact nx
  exact loop (nSt c) 0 (Nat.zero_add _)
theorem m245 (hK : K.1 = 923) (hX : FX M) (h : GM M c L s) (k : QM Q M K True True 1 (vI 0) (vI (spareS c s))) : Wm d 245 [vR 440] M K Q := by
  have hN := h.stn.2
  have k := k.ok trivial trivial hX
  have h' := h.q FrQm.t0
  refine u245_0 hK hX ?_
  have x1 := hX.t0
  generalize mset M 440 0 0 = M1 at *
  have e443 := h'.n
  have hb : ∀ i, i ≤ nSt c → 0 ≤ sumF (fun p => if s 0 p = -1 then 0 else 9 - s 2 p) i ∧ sumF (fun p => if s 0 p = -1 then 0 else 9 - s 2 p) i ≤ 9 * (i : Int) := by
    intro i
    induction i with
    | zero => intro _; simp [sumF]
    | succ i ih9 => intro hi; have := ih9 (by omega); have := h.1.2.2.2.1.1 i (by omega); simp only [sumF]; split <;> omega
  have loop : ∀ f i, i + f = nSt c → Wp d 245 9 [vR 440, vI (sumF (fun p => if s 0 p = -1 then 0 else 9 - s 2 p) i), vI (i : Int)] [] M1 K Q := by
    intro f
    induction f with
    | zero =>
      intro i hi
      have hin : i = nSt c := by omega
      subst hin
      exact u245_9 hK x1 ⟨fun _ => k, fun h9 => absurd (by omega) h9⟩
    | succ f ih =>
      intro i hi
      have nx := ih (i + 1) (by omega)
      have r := hb i (by omega)
      have r2 := h.1.2.2.2.1.1 i (by omega)
      simp only [sumF] at nx
      obtain ⟨q0, -, q2, -⟩ := h'.1.2.2.1.1 i (by omega)
      refine u245_9 hK x1 ⟨fun h9 => absurd h9 (by omega), fun _ => ⟨bx0 (by omega), ?_⟩⟩
      rw [ix0 (by omega), ix12 (by omega), q0, q2, w1 (i := i) (by omega), w32_id (z := 9 - s 2 i) (by omega), w32_id (z := sumF _ _ + (9 - s 2 i)) (by omega), w32_id (z := sumF _ _ + 0) (by omega)]
      refine ⟨fun h9 => ⟨bx12 (by omega), ?_⟩, fun h9 => ?_⟩
      · rw [if_neg h9] at nx; exact nx
      · rw [if_pos h9] at nx; exact nx
  exact loop (nSt c) 0 (Nat.zero_add _)
theorem sunS_s {x n : Nat} : sunS c (x : Int) (n : Int) = sumF (fun j => c 1 (x + j)) n := by
  unfold sunS; rw [if_neg (by omega), Int.toNat_natCast, Int.toNat_natCast]
theorem sunF_rg {x : Nat} (hw : CW c) : ∀ n, x + n ≤ nCe c → 0 ≤ sumF (fun j => c 1 (x + j)) n ∧ sumF (fun j => c 1 (x + j)) n ≤ 9 * (n : Int) := by
  intro n
  induction n with
  | zero => intro _; simp [sumF]
  | succ n ih => intro h; have := ih (by omega); have := hw.su (show x + n < nCe c by omega); simp only [sumF]; omega
theorem c128 {v w : Int} (hK : K.1 = 923) (hX : FX M) (h : GC M c L s) (k : QC Q M K True ((1 ≤ v ∧ v ≤ 12) ∧ (0 ≤ w ∧ w ≤ 1)) (vI (prS (suF c s v.toNat (nCe c + 1 - v.toNat)) w))) : Wm (d + 2) 128 [vR 32, vI v, vI w] M K Q := by
  obtain ⟨cm, l, a, b, e, f⟩ := h
  have hC := e.2.1.n.2.1
  refine u128_0 hK hX ⟨fun hv => k.2.1 trivial (fun h9 => hv h9.1), fun hv => ⟨fun hw => k.2.1 trivial (fun h9 => hw h9.2), fun hw => ⟨cm, a, b, c, s, e, ?_⟩⟩⟩
  have k := k.ok trivial ⟨hv, hw⟩ hX
  obtain ⟨n, rfl⟩ : ∃ n : Nat, v = (n : Int) := ⟨v.toNat, by omega⟩
  rw [Int.toNat_natCast] at k
  unfold prS at k
  have ll := lain_lt (s := s) e.2.1
  have loop : ∀ f i, i + f = nCe c + 1 - n → ∀ v9 : PV, Wp (d + 2) 128 49 [vR 32, vI (n : Int), vI w, vI (lainS c s : Int), vI (suF c s n i).1, vI (suF c s n i).2, vI (i : Int), v9] [] M K Q := by
    intro f9
    induction f9 with
    | zero =>
      intro i hi v9
      have hin : i = nCe c + 1 - n := by omega
      subst hin
      refine u128_49 hK hX ⟨cm, a, b, fun _ => ⟨fun h9 => ?_, fun h9 => ?_⟩, fun h9 => absurd ?_ h9⟩
      · rw [if_neg h9] at k; exact k
      · rw [if_pos h9] at k; exact k
      · rw [(e.1.g e.2.1).1, w32_id (by omega)]; omega
    | succ f9 ih =>
      intro i hi v9
      have nx := ih (i + 1) (by omega) (vI (sunS c (i : Int) (n : Int)))
      simp only [suF] at nx
      have rl := rowB_lt (x := i) (m := n) (b := 12) (by omega)
      refine u128_49 hK hX ⟨cm, a, b, fun h9 => absurd h9 ?_, fun _ => ⟨c, ⟨e.1, e.2.1, Or.inr ⟨by omega, by omega⟩, by omega, by omega⟩, ⟨⟨by omega, by omega⟩, by omega⟩, ?_⟩⟩
      · rw [(e.1.g e.2.1).1, w32_id (by omega)]; omega
      · rw [Int.toNat_natCast, Int.toNat_natCast, jand_0 ll rl, w1 (by omega)]
        refine ⟨fun h9 => ?_, fun h9 => ⟨fun h8 => ?_, fun h8 => ?_⟩⟩
        · rw [if_neg (fun h => h9 h.1)] at nx; exact nx
        · rw [if_neg (fun h => by omega)] at nx; exact nx
        · rw [if_pos ⟨h9, by omega⟩] at nx; exact nx
  exact loop _ 0 (Nat.zero_add _) vU
/-- the first j cells from x are free -/
def alF (c s : Mem) (x : Nat) : Nat → Bool
  | 0 => true
  | j + 1 => alF c s x j && decide (lyOn c s ((x + j : Nat) : Int) = -1)
def alZ : Bool → Int
  | true => 1
  | false => 0
theorem alF_iff {x : Nat} : ∀ n, alF c s x n = true ↔ ∀ j, j < n → lyOn c s ((x + j : Nat) : Int) = -1 := by
  intro n
  induction n with
  | zero => simp [alF]
  | succ n ih =>
    simp only [alF, Bool.and_eq_true, decide_eq_true_eq, ih]
    constructor
    · rintro ⟨h1, h2⟩ j hj
      by_cases hjn : j = n
      · subst hjn; exact h2
      · exact h1 j (by omega)
    · intro h; exact ⟨fun j hj => h j (by omega), h n (by omega)⟩
theorem al_row {x n : Nat} (h : x + n ≤ nCe c) : (lainS c s &&& rowB x n = 0) ↔ alF c s x n = true := by
  rw [alF_iff, zero_tb]
  constructor
  · intro h9 j hj
    have := h9 (x + j)
    rw [Nat.testBit_and, rowB_tb, decide_eq_true (by omega), decide_eq_true (by omega), Bool.and_true, Bool.and_true] at this
    by_cases h8 : lyOn c s ((x + j : Nat) : Int) = -1
    · exact h8
    · rw [(lain_tb (by omega)).mpr h8] at this; exact absurd this (by decide)
  · intro h9 i
    rw [Nat.testBit_and, rowB_tb]
    by_cases hi : x ≤ i ∧ i < x + n
    · have := h9 (i - x) (by omega)
      rw [show x + (i - x) = i by omega] at this
      cases hb : (lainS c s).testBit i with
      | false => rfl
      | true => exact absurd this ((lain_tb (by omega)).mp hb)
    · cases h1 : decide (x ≤ i) with
      | false => simp
      | true =>
        have := of_decide_eq_true h1
        rw [decide_eq_false (by omega)]; simp
theorem m243 {v w : Int} (hK : K.1 = 923) (hX : FX M) (h : GM M c L s) (k : QM Q M K True ((1 ≤ v ∧ v ≤ 12) ∧ (0 ≤ w ∧ w ≤ 1)) 1 (vI 0) (vI (prS (suF c s v.toNat (nCe c + 1 - v.toNat)) w))) : Wm (d + 2) 243 [vR 440, vI v, vI w] M K Q := by
  have hw9 := h.1.2.1
  have hC := hw9.n.2.1
  refine u243_0 hK hX ⟨fun hv => k.bad trivial (fun h9 => hv h9.1), fun hv => ⟨fun hw => ?_, fun hw => k.bad trivial (fun h9 => hw h9.2)⟩⟩
  have k := k.ok trivial ⟨hv, hw⟩ hX
  have h' := h.q FrQm.t0
  have x1 := hX.t0
  generalize mset M 440 0 0 = M1 at *
  obtain ⟨n, rfl⟩ : ∃ n : Nat, v = (n : Int) := ⟨v.toNat, by omega⟩
  rw [Int.toNat_natCast] at k
  unfold prS at k
  have e443 := h'.cen.1
  have loop : ∀ f i, i + f = nCe c + 1 - n → ∀ v6 v7 v8 : PV, Wp (d + 2) 243 48 [vR 440, vI (n : Int), vI w, vI (suF c s n i).1, vI (suF c s n i).2, vI (i : Int), v6, v7, v8] [] M1 K Q := by
    intro f9
    induction f9 with
    | zero =>
      intro i hi v6 v7 v8
      have hin : i = nCe c + 1 - n := by omega
      subst hin
      refine u243_48 hK x1 ⟨fun _ => ⟨fun h9 => ?_, fun h9 => ?_⟩, fun h9 => absurd ?_ h9⟩
      · rw [if_neg h9] at k; exact k
      · rw [if_pos h9] at k; exact k
      · rw [e443, w32_id (by omega)]; omega
    | succ f9 ih =>
      intro i hi v6 v7 v8
      have nx := ih (i + 1) (by omega)
      refine u243_48 hK x1 ⟨fun h9 => absurd h9 ?_, fun _ => ?_⟩
      · rw [e443, w32_id (by omega)]; omega
      have inner : ∀ fj j, j + fj = n → ∀ v8 : PV, (v8 = vI ((i + j : Nat) : Int)) → Wp (d + 2) 243 71 [vR 440, vI (n : Int), vI w, vI (suF c s n i).1, vI (suF c s n i).2, vI (i : Int), vI (sumF (fun j => c 1 (i + j)) j), vI (alZ (alF c s i j)), v8] [] M1 K Q := by
        intro fj
        induction fj with
        | zero =>
          rintro j hj v8 rfl
          have hjn : j = n := by omega
          subst hjn
          refine u243_71 hK x1 ⟨fun _ => ?_, fun h9 => absurd ?_ h9⟩
          · rw [w1 (by omega)]
            have eS : suF c s j (i + 1) = if lainS c s &&& rowB i j = 0 ∧ (suF c s j i).2 < sunS c (i : Int) (j : Int) then ((i : Int), sunS c (i : Int) (j : Int)) else suF c s j i := rfl
            have ha : lainS c s &&& rowB i j = 0 ↔ alF c s i j = true := al_row (by omega)
            have es := sunS_s (c := c) (x := i) (n := j)
            rw [es] at eS
            cases hq : alF c s i j with
            | false =>
              rw [hq] at ha
              rw [if_neg (fun h => absurd (ha.mp h.1) (by decide))] at eS
              rw [eS] at nx
              exact ⟨fun _ => nx _ _ _, fun h9 => absurd rfl h9⟩
            | true =>
              rw [hq] at ha
              refine ⟨fun h9 => absurd h9 (by decide), fun _ => ⟨fun h8 => ?_, fun h8 => ?_⟩⟩
              · rw [if_pos ⟨ha.mpr rfl, h8⟩] at eS
                rw [eS] at nx; exact nx _ _ _
              · rw [if_neg (fun h => h8 h.2)] at eS
                rw [eS] at nx; exact nx _ _ _
          · rw [w32_id (by omega)]; omega
        | succ fj ihj =>
          rintro j hj v8 rfl
          have nj := ihj (j + 1) (by omega) (vI ((i + j + 1 : Nat) : Int)) rfl
          have r := sunF_rg (x := i) hw9 j (by omega)
          have r2 := hw9.su (show i + j < nCe c by omega)
          have eA : alF c s i (j + 1) = (alF c s i j && decide (lyOn c s ((i + j : Nat) : Int) = -1)) := rfl
          rw [eA] at nj
          simp only [sumF] at nj
          refine u243_71 hK x1 ⟨fun h9 => absurd h9 ?_, fun _ => ⟨by omega, ?_⟩⟩
          · rw [w32_id (by omega)]; omega
          · rw [Int.toNat_natCast, h'.1.1.2.1 (i + j) (by omega), w1 (i := i + j) (by omega), w32_id (z := sumF _ _ + _) (by omega)]
            cases hq : alF c s i j with
            | true =>
              rw [hq, Bool.true_and] at nj
              refine ⟨fun h9 => absurd h9 (by decide), fun _ => ⟨c, s, -1, h'.1, fun h9 => ?_, fun h9 => ?_⟩⟩
              · rw [decide_eq_false h9] at nj; exact nj
              · rw [decide_eq_true h9] at nj; exact nj
            | false =>
              rw [hq, Bool.false_and] at nj
              exact ⟨fun _ => nj, fun h9 => absurd rfl h9⟩
      exact inner n 0 (Nat.zero_add _) _ rfl
  exact loop _ 0 (Nat.zero_add _) _ _ _
end OP3
