theorem u119_0 {d : Nat} {l1 : Int} {l2 : Int} {M : Mem} {K : KK} {Q : RR → Mem → KK → Prop} (hK : K.1 = 923) (hX : FX M)  (h : (¬ ((0 : Int) ≤ l1 ∧ l1 ≤ (72 : Int)) → Q (.inr 0) (mset M 32 19 (w32 ((M 32 19) + 1))) (K.1, K.2.1 + 1, K.2.2 + 6)) ∧ (((0 : Int) ≤ l1 ∧ l1 ≤ (72 : Int)) → (¬ ((0 : Int) ≤ l2 ∧ l2 ≤ (3 : Int)) → Q (.inr 0) (mset M 32 19 (w32 ((M 32 19) + 1))) (K.1, K.2.1 + 1, K.2.2 + 6)) ∧ (((0 : Int) ≤ l2 ∧ l2 ≤ (3 : Int)) → ∃ b5 : Nat, (M 32 11) = (b5 : Int) ∧ isO 923 b5 0 = true ∧ Wp (d + 1) 119 55 [vR 32, vI l1, vI l2, vI (w32 ((jshl (1 : Int) (M b5 7)) - (1 : Int))), vI (0 : Int), vI (-1 : Int), vI (w32 ((jshl (1 : Int) (M b5 7)) - (1 : Int))), vI (0 : Int), vI (0 : Int)] [] M K Q))) : Wp (d + 1) 119 0 [vR 32, vI l1, vI l2, vU, vU, vU, vU, vU, vU] [] M K Q := by
  refine r_aload_n c119_0 rfl ?_
  refine r_iload_n c119_1 rfl ?_
  refine r_iconst c119_2 ?_
  refine r_bipush c119_3 ?_
  refine r_call c119_5 rfl rfl (Nat.le_of_ble_eq_true rfl) (okc_s rfl rfl rfl) (g142 hK hX  (Bk_v ?_))
  refine r_ifP (P := ¬ ((0 : Int) ≤ l1 ∧ l1 ≤ (72 : Int))) c119_8 bI_eq (fun hc1 => ?_) (fun hc1 => ?_)
  · replace h := h.1 hc1
    refine r_iconst c119_24 ?_
    refine r_call c119_25 rfl rfl (Nat.le_of_ble_eq_true rfl) (okc_r rfl rfl (oK hK o32)) (n136_0 hK hX (Bk_e rfl rfl rfl ?_))
    exact h
  · have hc2 := Classical.not_not.mp hc1
    replace h := h.2 hc2
    refine r_iload_n c119_11 rfl ?_
    refine r_iconst c119_12 ?_
    refine r_iconst c119_13 ?_
    refine r_call c119_14 rfl rfl (Nat.le_of_ble_eq_true rfl) (okc_s rfl rfl rfl) (g142 hK hX  (Bk_v ?_))
    refine r_ifP (P := ¬ ((0 : Int) ≤ l2 ∧ l2 ≤ (3 : Int))) c119_17 bI_eq (fun hc3 => ?_) (fun hc3 => ?_)
    · replace h := h.1 hc3
      refine r_iconst c119_24 ?_
      refine r_call c119_25 rfl rfl (Nat.le_of_ble_eq_true rfl) (okc_r rfl rfl (oK hK o32)) (n136_0 hK hX (Bk_e rfl rfl rfl ?_))
      exact h
    · have hc4 := Classical.not_not.mp hc3
      replace h := h.2 hc4
      refine r_iconst c119_20 ?_
      refine r_goto c119_21 ?_
      refine r_call c119_25 rfl rfl (Nat.le_of_ble_eq_true rfl) (okc_r rfl rfl (oK hK o32)) (n136_1 hK hX (Bk_n ?_))
      refine r_iconst c119_28 ?_
      refine r_aload_n c119_29 rfl ?_
      obtain ⟨b5, h⟩ := h
      obtain ⟨e6, h⟩ := h
      obtain ⟨k7, h⟩ := h
      refine r_getR c119_30 (oK hK o32) e6 (by have := (isO_d k7).1; omega) ?_
      refine r_getIe c119_33 (oK hK k7) rfl ?_
      refine r_ishl c119_36 ?_
      refine r_iconst c119_37 ?_
      refine r_isub c119_38 ?_
      refine r_istore_n c119_39 (Nat.le_of_ble_eq_true rfl) ?_
      refine r_iconst c119_40 ?_
      refine r_istore c119_41 (Nat.le_of_ble_eq_true rfl) ?_
      refine r_iconst c119_43 ?_
      refine r_istore c119_44 (Nat.le_of_ble_eq_true rfl) ?_
      refine r_iload_n c119_46 rfl ?_
      refine r_istore c119_47 (Nat.le_of_ble_eq_true rfl) ?_
      refine r_iconst c119_49 ?_
      refine r_istore c119_50 (Nat.le_of_ble_eq_true rfl) ?_
      refine r_iconst c119_52 ?_
      refine r_istore c119_53 (Nat.le_of_ble_eq_true rfl) ?_
      exact h
theorem u119_55 {d : Nat} {l1 : Int} {l2 : Int} {l3 : Int} {l4 : Int} {l5 : Int} {l6 : Int} {l7 : Int} {l8 : Int} {M : Mem} {K : KK} {Q : RR → Mem → KK → Prop} (hK : K.1 = 923) (hX : FX M)  (h : (l3 < l8 → (l2 = (0 : Int) → Q (.inl (some (vI l4))) M K) ∧ (l2 = (1 : Int) → Q (.inl (some (vI l5))) M K) ∧ (l2 = (2 : Int) → (¬ l4 = (0 : Int) → Q (.inl (some (vI l6))) M K) ∧ (l4 = (0 : Int) → Q (.inl (some (vI (0 : Int)))) M K)) ∧ (l2 < (0 : Int) ∨ (2 : Int) < l2 → (¬ l4 = (0 : Int) → Q (.inl (some (vI (jand l3 (jxor l7 (-1 : Int)))))) M K) ∧ (l4 = (0 : Int) → Q (.inl (some (vI (0 : Int)))) M K))) ∧ (¬ (l3 < l8) → Wm d 145 [vR 32, vI l8, vI l1] M K (Bk d 119 65 68 145 [vR 32, vI l1, vI l2, vI l3, vI l4, vI l5, vI l6, vI l7, vI l8] [] Q))) : Wp (d + 1) 119 55 [vR 32, vI l1, vI l2, vI l3, vI l4, vI l5, vI l6, vI l7, vI l8] [] M K Q := by
  refine r_iload c119_55 rfl ?_
  refine r_iload_n c119_57 rfl ?_
  refine r_icmpP (P := l3 < l8) c119_58 rfl (fun hc1 => ?_) (fun hc1 => ?_)
  · replace h := h.1 hc1
    refine r_iload_n c119_109 rfl ?_
    refine r_tsw c119_110 ?_
    by_cases hv0 : l2 = (0 : Int)
    · rw [show tsw 110 44 0 2 #[26, 29, 32] l2 = 136 from by rw [hv0]; decide]
      replace h := h.1 hv0
      refine r_iload c119_136 rfl ?_
      exact r_iret c119_138 (Or.inl rfl) h
    by_cases hv1 : l2 = (1 : Int)
    · rw [show tsw 110 44 0 2 #[26, 29, 32] l2 = 139 from by rw [hv1]; decide]
      replace h := h.2.1 hv1
      refine r_iload c119_139 rfl ?_
      exact r_iret c119_141 (Or.inl rfl) h
    by_cases hv2 : l2 = (2 : Int)
    · rw [show tsw 110 44 0 2 #[26, 29, 32] l2 = 142 from by rw [hv2]; decide]
      replace h := h.2.2.1 hv2
      refine r_iload c119_142 rfl ?_
      refine r_ifP (P := ¬ l4 = (0 : Int)) c119_144 rfl (fun hc2 => ?_) (fun hc2 => ?_)
      · replace h := h.1 hc2
        refine r_iload c119_151 rfl ?_
        exact r_iret c119_153 (Or.inl rfl) h
      · have hc3 := Classical.not_not.mp hc2
        replace h := h.2 hc3
        refine r_iconst c119_147 ?_
        refine r_goto c119_148 ?_
        exact r_iret c119_153 (Or.inl rfl) h
    have hvd : l2 < (0 : Int) ∨ (2 : Int) < l2 := by omega
    rw [show tsw 110 44 0 2 #[26, 29, 32] l2 = 154 from by unfold tsw; rw [if_pos hvd]; decide]
    replace h := h.2.2.2 hvd
    refine r_iload c119_154 rfl ?_
    refine r_ifP (P := ¬ l4 = (0 : Int)) c119_156 rfl (fun hc4 => ?_) (fun hc4 => ?_)
    · replace h := h.1 hc4
      refine r_iload_n c119_163 rfl ?_
      refine r_iload c119_164 rfl ?_
      refine r_iconst c119_166 ?_
      refine r_ixor c119_167 ?_
      refine r_iand c119_168 ?_
      exact r_iret c119_169 (Or.inl rfl) h
    · have hc5 := Classical.not_not.mp hc4
      replace h := h.2 hc5
      refine r_iconst c119_159 ?_
      refine r_goto c119_160 ?_
      exact r_iret c119_169 (Or.inl rfl) h
  · replace h := h.2 hc1
    refine r_aload_n c119_61 rfl ?_
    refine r_iload c119_62 rfl ?_
    refine r_iload_n c119_64 rfl ?_
    exact r_call c119_65 rfl rfl (Nat.le_of_ble_eq_true rfl) (okc_r rfl rfl (oK hK o32)) h
theorem u119_68 {d : Nat} {l1 : Int} {l2 : Int} {l3 : Int} {l4 : Int} {l5 : Int} {l6 : Int} {l7 : Int} {l8 : Int} {t0 : Int} {M : Mem} {K : KK} {Q : RR → Mem → KK → Prop} (hK : K.1 = 923) (hX : FX M)  (h : (t0 = (0 : Int) → Wp (d + 1) 119 55 [vR 32, vI l1, vI l2, vI l3, vI l4, vI l5, vI l6, vI l7, vI (w32 (l8 + 1))] [] M K Q) ∧ (¬ (t0 = (0 : Int)) → (¬ l5 = (-1 : Int) → Wp (d + 1) 119 55 [vR 32, vI l1, vI l2, vI l3, vI (w32 (l4 + 1)), vI l5, vI (jand l6 l8), vI (jor l7 l8), vI (w32 (l8 + 1))] [] M K Q) ∧ (l5 = (-1 : Int) → Wp (d + 1) 119 55 [vR 32, vI l1, vI l2, vI l3, vI (w32 (l4 + 1)), vI l8, vI (jand l6 l8), vI (jor l7 l8), vI (w32 (l8 + 1))] [] M K Q))) : Wp (d + 1) 119 68 [vR 32, vI l1, vI l2, vI l3, vI l4, vI l5, vI l6, vI l7, vI l8] [vI t0] M K Q := by
  refine r_ifP (P := t0 = (0 : Int)) c119_68 rfl (fun hc1 => ?_) (fun hc1 => ?_)
  · replace h := h.1 hc1
    refine r_iinc c119_103 rfl ?_
    refine r_goto c119_106 ?_
    exact h
  · replace h := h.2 hc1
    refine r_iinc c119_71 rfl ?_
    refine r_iload c119_74 rfl ?_
    refine r_iconst c119_76 ?_
    refine r_icmpP (P := ¬ l5 = (-1 : Int)) c119_77 rfl (fun hc2 => ?_) (fun hc2 => ?_)
    · replace h := h.1 hc2
      refine r_iload c119_85 rfl ?_
      refine r_istore c119_87 (Nat.le_of_ble_eq_true rfl) ?_
      refine r_iload c119_89 rfl ?_
      refine r_iload c119_91 rfl ?_
      refine r_iand c119_93 ?_
      refine r_istore c119_94 (Nat.le_of_ble_eq_true rfl) ?_
      refine r_iload c119_96 rfl ?_
      refine r_iload c119_98 rfl ?_
      refine r_ior c119_100 ?_
      refine r_istore c119_101 (Nat.le_of_ble_eq_true rfl) ?_
      refine r_iinc c119_103 rfl ?_
      refine r_goto c119_106 ?_
      exact h
    · have hc3 := Classical.not_not.mp hc2
      replace h := h.2 hc3
      refine r_iload c119_80 rfl ?_
      refine r_goto c119_82 ?_
      refine r_istore c119_87 (Nat.le_of_ble_eq_true rfl) ?_
      refine r_iload c119_89 rfl ?_
      refine r_iload c119_91 rfl ?_
      refine r_iand c119_93 ?_
      refine r_istore c119_94 (Nat.le_of_ble_eq_true rfl) ?_
      refine r_iload c119_96 rfl ?_
      refine r_iload c119_98 rfl ?_
      refine r_ior c119_100 ?_
      refine r_istore c119_101 (Nat.le_of_ble_eq_true rfl) ?_
      refine r_iinc c119_103 rfl ?_
      refine r_goto c119_106 ?_
      exact h
theorem u120_0 {d : Nat} {l1 : Int} {l2 : Int} {M : Mem} {K : KK} {Q : RR → Mem → KK → Prop} (hK : K.1 = 923) (hX : FX M)  (h : (¬ ((0 : Int) ≤ l1 ∧ l1 ≤ (72 : Int)) → Q (.inr 0) (mset M 32 19 (w32 ((M 32 19) + 1))) (K.1, K.2.1 + 1, K.2.2 + 6)) ∧ (((0 : Int) ≤ l1 ∧ l1 ≤ (72 : Int)) → (¬ ((0 : Int) ≤ l2 ∧ l2 ≤ (1 : Int)) → Q (.inr 0) (mset M 32 19 (w32 ((M 32 19) + 1))) (K.1, K.2.1 + 1, K.2.2 + 6)) ∧ (((0 : Int) ≤ l2 ∧ l2 ≤ (1 : Int)) → Wp (d + 1) 120 36 [vR 32, vI l1, vI l2, vI (-1 : Int), vI (-1 : Int), vI (0 : Int), vU] [] M K Q))) : Wp (d + 1) 120 0 [vR 32, vI l1, vI l2, vU, vU, vU, vU] [] M K Q := by
  refine r_aload_n c120_0 rfl ?_
  refine r_iload_n c120_1 rfl ?_
  refine r_iconst c120_2 ?_
  refine r_bipush c120_3 ?_
  refine r_call c120_5 rfl rfl (Nat.le_of_ble_eq_true rfl) (okc_s rfl rfl rfl) (g142 hK hX  (Bk_v ?_))
  refine r_ifP (P := ¬ ((0 : Int) ≤ l1 ∧ l1 ≤ (72 : Int))) c120_8 bI_eq (fun hc1 => ?_) (fun hc1 => ?_)
  · replace h := h.1 hc1
    refine r_iconst c120_24 ?_
    refine r_call c120_25 rfl rfl (Nat.le_of_ble_eq_true rfl) (okc_r rfl rfl (oK hK o32)) (n136_0 hK hX (Bk_e rfl rfl rfl ?_))
    exact h
  · have hc2 := Classical.not_not.mp hc1
    replace h := h.2 hc2
    refine r_iload_n c120_11 rfl ?_
    refine r_iconst c120_12 ?_
    refine r_iconst c120_13 ?_
    refine r_call c120_14 rfl rfl (Nat.le_of_ble_eq_true rfl) (okc_s rfl rfl rfl) (g142 hK hX  (Bk_v ?_))
    refine r_ifP (P := ¬ ((0 : Int) ≤ l2 ∧ l2 ≤ (1 : Int))) c120_17 bI_eq (fun hc3 => ?_) (fun hc3 => ?_)
    · replace h := h.1 hc3
      refine r_iconst c120_24 ?_
      refine r_call c120_25 rfl rfl (Nat.le_of_ble_eq_true rfl) (okc_r rfl rfl (oK hK o32)) (n136_0 hK hX (Bk_e rfl rfl rfl ?_))
      exact h
    · have hc4 := Classical.not_not.mp hc3
      replace h := h.2 hc4
      refine r_iconst c120_20 ?_
      refine r_goto c120_21 ?_
      refine r_call c120_25 rfl rfl (Nat.le_of_ble_eq_true rfl) (okc_r rfl rfl (oK hK o32)) (n136_1 hK hX (Bk_n ?_))
      refine r_iconst c120_28 ?_
      refine r_istore_n c120_29 (Nat.le_of_ble_eq_true rfl) ?_
      refine r_iconst c120_30 ?_
      refine r_istore c120_31 (Nat.le_of_ble_eq_true rfl) ?_
      refine r_iconst c120_33 ?_
      refine r_istore c120_34 (Nat.le_of_ble_eq_true rfl) ?_
      exact h
theorem u120_36 {d : Nat} {l1 : Int} {l2 : Int} {l3 : Int} {l4 : Int} {l5 : Int} {l6 : PV} {M : Mem} {K : KK} {Q : RR → Mem → KK → Prop} (hK : K.1 = 923) (hX : FX M)  (h : ∃ b1 : Nat, (M 32 11) = (b1 : Int) ∧ isO 923 b1 0 = true ∧ ((M b1 7) ≤ l5 → (¬ l2 = (0 : Int) → Q (.inl (some (vI l4))) M K) ∧ (l2 = (0 : Int) → Q (.inl (some (vI l3))) M K)) ∧ (¬ ((M b1 7) ≤ l5) → ∃ b7 : Nat, (M 32 14) = (b7 : Int) ∧ isO 923 b7 8 = true ∧ ((jand (jshr (jor (M b7 1) (M b7 2)) l5) 1 = 1) → Wp (d + 1) 120 36 [vR 32, vI l1, vI l2, vI l3, vI l4, vI (w32 (l5 + 1)), l6] [] M K Q) ∧ (¬ (jand (jshr (jor (M b7 1) (M b7 2)) l5) 1 = 1) → Wm d 146 [vR 32, vI l1, vI l5] M K (Bk d 120 64 67 146 [vR 32, vI l1, vI l2, vI l3, vI l4, vI l5, l6] [] Q)))) : Wp (d + 1) 120 36 [vR 32, vI l1, vI l2, vI l3, vI l4, vI l5, l6] [] M K Q := by
  refine r_iload c120_36 rfl ?_
  refine r_aload_n c120_38 rfl ?_
  obtain ⟨b1, h⟩ := h
  obtain ⟨e2, h⟩ := h
  obtain ⟨k3, h⟩ := h
  refine r_getR c120_39 (oK hK o32) e2 (by have := (isO_d k3).1; omega) ?_
  refine r_getIe c120_42 (oK hK k3) rfl ?_
  refine r_icmpP (P := (M b1 7) ≤ l5) c120_45 rfl (fun hc4 => ?_) (fun hc4 => ?_)
  · replace h := h.1 hc4
    refine r_iload_n c120_94 rfl ?_
    refine r_ifP (P := ¬ l2 = (0 : Int)) c120_95 rfl (fun hc5 => ?_) (fun hc5 => ?_)
    · replace h := h.1 hc5
      refine r_iload c120_102 rfl ?_
      exact r_iret c120_104 (Or.inl rfl) h
    · have hc6 := Classical.not_not.mp hc5
      replace h := h.2 hc6
      refine r_iload_n c120_98 rfl ?_
      refine r_goto c120_99 ?_
      exact r_iret c120_104 (Or.inl rfl) h
  · replace h := h.2 hc4
    refine r_aload_n c120_48 rfl ?_
    obtain ⟨b7, h⟩ := h
    obtain ⟨e8, h⟩ := h
    obtain ⟨k9, h⟩ := h
    refine r_getR c120_49 (oK hK o32) e8 (by have := (isO_d k9).1; omega) ?_
    refine r_iload c120_52 rfl ?_
    refine r_call c120_54 rfl rfl (Nat.le_of_ble_eq_true rfl) (okc_r rfl rfl (oK hK k9)) (g77 hK hX k9  (Bk_v ?_))
    refine r_ifP (P := (jand (jshr (jor (M b7 1) (M b7 2)) l5) 1 = 1)) c120_57 bI_ne (fun hc10 => ?_) (fun hc10 => ?_)
    · replace h := h.1 hc10
      refine r_iinc c120_88 rfl ?_
      refine r_goto c120_91 ?_
      exact h
    · replace h := h.2 hc10
      refine r_aload_n c120_60 rfl ?_
      refine r_iload_n c120_61 rfl ?_
      refine r_iload c120_62 rfl ?_
      exact r_call c120_64 rfl rfl (Nat.le_of_ble_eq_true rfl) (okc_r rfl rfl (oK hK o32)) h
theorem u120_67 {d : Nat} {l1 : Int} {l2 : Int} {l3 : Int} {l4 : Int} {l5 : Int} {l6 : PV} {t0 : Int} {M : Mem} {K : KK} {Q : RR → Mem → KK → Prop} (hK : K.1 = 923) (hX : FX M)  (h : (l3 = (-1 : Int) → Wp (d + 1) 120 36 [vR 32, vI l1, vI l2, vI l5, vI t0, vI (w32 (l5 + 1)), vI t0] [] M K Q) ∧ (¬ (l3 = (-1 : Int)) → (l4 ≤ t0 → Wp (d + 1) 120 36 [vR 32, vI l1, vI l2, vI l3, vI l4, vI (w32 (l5 + 1)), vI t0] [] M K Q) ∧ (¬ (l4 ≤ t0) → Wp (d + 1) 120 36 [vR 32, vI l1, vI l2, vI l5, vI t0, vI (w32 (l5 + 1)), vI t0] [] M K Q))) : Wp (d + 1) 120 67 [vR 32, vI l1, vI l2, vI l3, vI l4, vI l5, l6] [vI t0] M K Q := by
  refine r_istore c120_67 (Nat.le_of_ble_eq_true rfl) ?_
  refine r_iload_n c120_69 rfl ?_
  refine r_iconst c120_70 ?_
  refine r_icmpP (P := l3 = (-1 : Int)) c120_71 rfl (fun hc1 => ?_) (fun hc1 => ?_)
  · replace h := h.1 hc1
    refine r_iload c120_81 rfl ?_
    refine r_istore_n c120_83 (Nat.le_of_ble_eq_true rfl) ?_
    refine r_iload c120_84 rfl ?_
    refine r_istore c120_86 (Nat.le_of_ble_eq_true rfl) ?_
    refine r_iinc c120_88 rfl ?_
    refine r_goto c120_91 ?_
    exact h
  · replace h := h.2 hc1
    refine r_iload c120_74 rfl ?_
    refine r_iload c120_76 rfl ?_
    refine r_icmpP (P := l4 ≤ t0) c120_78 rfl (fun hc2 => ?_) (fun hc2 => ?_)
    · replace h := h.1 hc2
      refine r_iinc c120_88 rfl ?_
      refine r_goto c120_91 ?_
      exact h
    · replace h := h.2 hc2
      refine r_iload c120_81 rfl ?_
      refine r_istore_n c120_83 (Nat.le_of_ble_eq_true rfl) ?_
      refine r_iload c120_84 rfl ?_
      refine r_istore c120_86 (Nat.le_of_ble_eq_true rfl) ?_
      refine r_iinc c120_88 rfl ?_
      refine r_goto c120_91 ?_
      exact h
theorem u229_0 {d : Nat} {l1 : Int} {l2 : Int} {M : Mem} {K : KK} {Q : RR → Mem → KK → Prop} (hK : K.1 = 923) (hX : FX M)  (h : (¬ ((0 : Int) ≤ l1 ∧ l1 ≤ (72 : Int)) → (∀ (M6 : Mem), FX M6 → BadM 1 1 (mset M 440 0 (0 : Int)) M6 → Q (.inl (some (vI (0 : Int)))) M6 K)) ∧ (((0 : Int) ≤ l1 ∧ l1 ≤ (72 : Int)) → (((0 : Int) ≤ l2 ∧ l2 ≤ (3 : Int)) → Wp (d + 1) 229 63 [vR 440, vI l1, vI l2, vI (0 : Int), vI (-1 : Int), vI (w32 ((jshl (1 : Int) (M 444 2)) - (1 : Int))), vI (0 : Int), vI (0 : Int)] [] (mset M 440 0 (0 : Int)) K Q) ∧ (¬ ((0 : Int) ≤ l2 ∧ l2 ≤ (3 : Int)) → (∀ (M10 : Mem), FX M10 → BadM 1 1 (mset M 440 0 (0 : Int)) M10 → Q (.inl (some (vI (0 : Int)))) M10 K)))) : Wp (d + 1) 229 0 [vR 440, vI l1, vI l2, vU, vU, vU, vU, vU] [] M K Q := by
  refine r_aload_n c229_0 rfl ?_
  refine r_iconst c229_1 ?_
  refine r_putI c229_2 (oK hK o440) ?_
  have x1 := FX.set (v := (0 : Int)) (a := 440) (k := 0) hX (by decide +kernel)
  refine r_aload_n c229_5 rfl ?_
  refine r_iload_n c229_6 rfl ?_
  refine r_iconst c229_7 ?_
  refine r_bipush c229_8 ?_
  refine r_call c229_10 rfl rfl (Nat.le_of_ble_eq_true rfl) (okc_s rfl rfl rfl) (g153 hK x1  (Bk_v ?_))
  refine r_ifP (P := ¬ ((0 : Int) ≤ l1 ∧ l1 ≤ (72 : Int))) c229_13 bI_eq (fun hc2 => ?_) (fun hc2 => ?_)
  · replace h := h.1 hc2
    refine r_iconst c229_25 ?_
    refine r_goto c229_26 ?_
    refine r_iconst c229_30 ?_
    refine r_iconst c229_31 ?_
    refine r_call c229_32 rfl rfl (Nat.le_of_ble_eq_true rfl) (okc_r rfl rfl (oK hK o440)) (b152_1 (cd := 1) (ix := 1) hK x1 ms_eq (by decide) (by decide) (fun M6 x4 p5 => Bk_v ?_))
    replace h := h M6 x4 p5
    refine r_ifP (P := (1 : Int) = (0 : Int)) c229_35 rfl (fun hc => absurd hc (by decide)) (fun hc => ?_)
    refine r_iconst c229_38 ?_
    exact r_iret c229_39 (Or.inl rfl) h
  · have hc3 := Classical.not_not.mp hc2
    replace h := h.2 hc3
    refine r_iload_n c229_16 rfl ?_
    refine r_iconst c229_17 ?_
    refine r_iconst c229_18 ?_
    refine r_call c229_19 rfl rfl (Nat.le_of_ble_eq_true rfl) (okc_s rfl rfl rfl) (g153 hK x1  (Bk_v ?_))
    refine r_ifP (P := ((0 : Int) ≤ l2 ∧ l2 ≤ (3 : Int))) c229_22 bI_ne (fun hc7 => ?_) (fun hc7 => ?_)
    · replace h := h.1 hc7
      refine r_iconst c229_29 ?_
      refine r_iconst c229_30 ?_
      refine r_iconst c229_31 ?_
      refine r_call c229_32 rfl rfl (Nat.le_of_ble_eq_true rfl) (okc_r rfl rfl (oK hK o440)) (b152_0 hK x1 ms_eq (Bk_v ?_))
      refine r_ifP (P := (0 : Int) = (0 : Int)) c229_35 rfl (fun hc => ?_) (fun hc => absurd (by decide) hc)
      refine r_iconst c229_40 ?_
      refine r_istore_n c229_41 (Nat.le_of_ble_eq_true rfl) ?_
      refine r_iconst c229_42 ?_
      refine r_istore c229_43 (Nat.le_of_ble_eq_true rfl) ?_
      refine r_iconst c229_45 ?_
      refine r_aload_n c229_46 rfl ?_
      refine r_getR c229_47 (oK hK o440) (FX.get (b := 444) x1 (by decide) (by decide +kernel) (by decide)) (by decide) ?_
      refine r_iconst c229_50 ?_
      refine r_iae c229_51 (oK hK o444) (bd l444 (by decide)) (ms_na (by decide)) ?_
      refine r_ishl c229_52 ?_
      refine r_iconst c229_53 ?_
      refine r_isub c229_54 ?_
      refine r_istore c229_55 (Nat.le_of_ble_eq_true rfl) ?_
      refine r_iconst c229_57 ?_
      refine r_istore c229_58 (Nat.le_of_ble_eq_true rfl) ?_
      refine r_iconst c229_60 ?_
      refine r_istore c229_61 (Nat.le_of_ble_eq_true rfl) ?_
      exact h
    · replace h := h.2 hc7
      refine r_iconst c229_25 ?_
      refine r_goto c229_26 ?_
      refine r_iconst c229_30 ?_
      refine r_iconst c229_31 ?_
      refine r_call c229_32 rfl rfl (Nat.le_of_ble_eq_true rfl) (okc_r rfl rfl (oK hK o440)) (b152_1 (cd := 1) (ix := 1) hK x1 ms_eq (by decide) (by decide) (fun M10 x8 p9 => Bk_v ?_))
      replace h := h M10 x8 p9
      refine r_ifP (P := (1 : Int) = (0 : Int)) c229_35 rfl (fun hc => absurd hc (by decide)) (fun hc => ?_)
      refine r_iconst c229_38 ?_
      exact r_iret c229_39 (Or.inl rfl) h
theorem u229_63 {d : Nat} {l1 : Int} {l2 : Int} {l3 : Int} {l4 : Int} {l5 : Int} {l6 : Int} {l7 : Int} {M : Mem} {K : KK} {Q : RR → Mem → KK → Prop} (hK : K.1 = 923) (hX : FX M)  (h : ((jshl (1 : Int) (M 444 2)) ≤ l7 → ((2 : Int) ≤ l2 → (¬ l3 = (0 : Int) → (¬ l2 = (2 : Int) → Q (.inl (some (vI (w32 ((w32 ((jshl (1 : Int) (M 444 2)) - (1 : Int))) - l6))))) M K) ∧ (l2 = (2 : Int) → Q (.inl (some (vI l5))) M K)) ∧ (l3 = (0 : Int) → Q (.inl (some (vI (0 : Int)))) M K)) ∧ (¬ ((2 : Int) ≤ l2) → (¬ l2 = (0 : Int) → Q (.inl (some (vI l4))) M K) ∧ (l2 = (0 : Int) → Q (.inl (some (vI l3))) M K))) ∧ (¬ ((jshl (1 : Int) (M 444 2)) ≤ l7) → Wm d 228 [vR 440, vI l7, vI l1] M K (Bk d 229 80 83 228 [vR 440, vI l1, vI l2, vI l3, vI l4, vI l5, vI l6, vI l7] [] Q))) : Wp (d + 1) 229 63 [vR 440, vI l1, vI l2, vI l3, vI l4, vI l5, vI l6, vI l7] [] M K Q := by
  refine r_iload c229_63 rfl ?_
  refine r_iconst c229_65 ?_
  refine r_aload_n c229_66 rfl ?_
  refine r_getR c229_67 (oK hK o440) (FX.get (b := 444) hX (by decide) (by decide +kernel) (by decide)) (by decide) ?_
  refine r_iconst c229_70 ?_
  refine r_iae c229_71 (oK hK o444) (bd l444 (by decide)) rfl ?_
  refine r_ishl c229_72 ?_
  refine r_icmpP (P := (jshl (1 : Int) (M 444 2)) ≤ l7) c229_73 rfl (fun hc1 => ?_) (fun hc1 => ?_)
  · replace h := h.1 hc1
    refine r_iload_n c229_125 rfl ?_
    refine r_iconst c229_126 ?_
    refine r_icmpP (P := (2 : Int) ≤ l2) c229_127 rfl (fun hc2 => ?_) (fun hc2 => ?_)
    · replace h := h.1 hc2
      refine r_iload_n c229_141 rfl ?_
      refine r_ifP (P := ¬ l3 = (0 : Int)) c229_142 rfl (fun hc3 => ?_) (fun hc3 => ?_)
      · replace h := h.1 hc3
        refine r_iload_n c229_149 rfl ?_
        refine r_iconst c229_150 ?_
        refine r_icmpP (P := ¬ l2 = (2 : Int)) c229_151 rfl (fun hc5 => ?_) (fun hc5 => ?_)
        · replace h := h.1 hc5
          refine r_iconst c229_159 ?_
          refine r_aload_n c229_160 rfl ?_
          refine r_getR c229_161 (oK hK o440) (FX.get (b := 444) hX (by decide) (by decide +kernel) (by decide)) (by decide) ?_
          refine r_iconst c229_164 ?_
          refine r_iae c229_165 (oK hK o444) (bd l444 (by decide)) rfl ?_
          refine r_ishl c229_166 ?_
          refine r_iconst c229_167 ?_
          refine r_isub c229_168 ?_
          refine r_iload c229_169 rfl ?_
          refine r_isub c229_171 ?_
          exact r_iret c229_172 (Or.inl rfl) h
        · have hc6 := Classical.not_not.mp hc5
          replace h := h.2 hc6
          refine r_iload c229_154 rfl ?_
          refine r_goto c229_156 ?_
          exact r_iret c229_172 (Or.inl rfl) h
      · have hc4 := Classical.not_not.mp hc3
        replace h := h.2 hc4
        refine r_iconst c229_145 ?_
        refine r_goto c229_146 ?_
        exact r_iret c229_172 (Or.inl rfl) h
    · replace h := h.2 hc2
      refine r_iload_n c229_130 rfl ?_
      refine r_ifP (P := ¬ l2 = (0 : Int)) c229_131 rfl (fun hc7 => ?_) (fun hc7 => ?_)
      · replace h := h.1 hc7
        refine r_iload c229_138 rfl ?_
        exact r_iret c229_140 (Or.inl rfl) h
      · have hc8 := Classical.not_not.mp hc7
        replace h := h.2 hc8
        refine r_iload_n c229_134 rfl ?_
        refine r_goto c229_135 ?_
        exact r_iret c229_140 (Or.inl rfl) h
  · replace h := h.2 hc1
    refine r_aload_n c229_76 rfl ?_
    refine r_iload c229_77 rfl ?_
    refine r_iload_n c229_79 rfl ?_
    exact r_call c229_80 rfl rfl (Nat.le_of_ble_eq_true rfl) (okc_r rfl rfl (oK hK o440)) h
theorem u229_83 {d : Nat} {l1 : Int} {l2 : Int} {l3 : Int} {l4 : Int} {l5 : Int} {l6 : Int} {l7 : Int} {t0 : Int} {M : Mem} {K : KK} {Q : RR → Mem → KK → Prop} (hK : K.1 = 923) (hX : FX M)  (h : (¬ t0 = (0 : Int) → (¬ l3 = (0 : Int) → Wp (d + 1) 229 63 [vR 440, vI l1, vI l2, vI (w32 (l3 + 1)), vI l4, vI (jand l5 l7), vI (jor l6 l7), vI (w32 (l7 + 1))] [] M K Q) ∧ (l3 = (0 : Int) → Wp (d + 1) 229 63 [vR 440, vI l1, vI l2, vI (w32 (l3 + 1)), vI l7, vI (jand l5 l7), vI (jor l6 l7), vI (w32 (l7 + 1))] [] M K Q)) ∧ (t0 = (0 : Int) → Wp (d + 1) 229 63 [vR 440, vI l1, vI l2, vI l3, vI l4, vI l5, vI l6, vI (w32 (l7 + 1))] [] M K Q)) : Wp (d + 1) 229 83 [vR 440, vI l1, vI l2, vI l3, vI l4, vI l5, vI l6, vI l7] [vI t0] M K Q := by
  refine r_ifP (P := ¬ t0 = (0 : Int)) c229_83 rfl (fun hc1 => ?_) (fun hc1 => ?_)
  · replace h := h.1 hc1
    refine r_iload_n c229_89 rfl ?_
    refine r_ifP (P := ¬ l3 = (0 : Int)) c229_90 rfl (fun hc3 => ?_) (fun hc3 => ?_)
    · replace h := h.1 hc3
      refine r_iload c229_98 rfl ?_
      refine r_istore c229_100 (Nat.le_of_ble_eq_true rfl) ?_
      refine r_iload c229_102 rfl ?_
      refine r_iload c229_104 rfl ?_
      refine r_iand c229_106 ?_
      refine r_istore c229_107 (Nat.le_of_ble_eq_true rfl) ?_
      refine r_iload c229_109 rfl ?_
      refine r_iload c229_111 rfl ?_
      refine r_ior c229_113 ?_
      refine r_istore c229_114 (Nat.le_of_ble_eq_true rfl) ?_
      refine r_iinc c229_116 rfl ?_
      refine r_iinc c229_119 rfl ?_
      refine r_goto c229_122 ?_
      exact h
    · have hc4 := Classical.not_not.mp hc3
      replace h := h.2 hc4
      refine r_iload c229_93 rfl ?_
      refine r_goto c229_95 ?_
      refine r_istore c229_100 (Nat.le_of_ble_eq_true rfl) ?_
      refine r_iload c229_102 rfl ?_
      refine r_iload c229_104 rfl ?_
      refine r_iand c229_106 ?_
      refine r_istore c229_107 (Nat.le_of_ble_eq_true rfl) ?_
      refine r_iload c229_109 rfl ?_
      refine r_iload c229_111 rfl ?_
      refine r_ior c229_113 ?_
      refine r_istore c229_114 (Nat.le_of_ble_eq_true rfl) ?_
      refine r_iinc c229_116 rfl ?_
      refine r_iinc c229_119 rfl ?_
      refine r_goto c229_122 ?_
      exact h
  · have hc2 := Classical.not_not.mp hc1
    replace h := h.2 hc2
    refine r_goto c229_86 ?_
    refine r_iinc c229_119 rfl ?_
    refine r_goto c229_122 ?_
    exact h
theorem u231_0 {d : Nat} {l1 : Int} {l2 : Int} {M : Mem} {K : KK} {Q : RR → Mem → KK → Prop} (hK : K.1 = 923) (hX : FX M)  (h : (¬ ((0 : Int) ≤ l1 ∧ l1 ≤ (72 : Int)) → (∀ (M6 : Mem), FX M6 → BadM 1 1 (mset M 440 0 (0 : Int)) M6 → Q (.inl (some (vI (0 : Int)))) M6 K)) ∧ (((0 : Int) ≤ l1 ∧ l1 ≤ (72 : Int)) → (((0 : Int) ≤ l2 ∧ l2 ≤ (1 : Int)) → Wp (d + 1) 231 48 [vR 440, vI l1, vI l2, vI (-1 : Int), vI (-1 : Int), vI (0 : Int), vU, vU, vU] [] (mset M 440 0 (0 : Int)) K Q) ∧ (¬ ((0 : Int) ≤ l2 ∧ l2 ≤ (1 : Int)) → (∀ (M10 : Mem), FX M10 → BadM 1 1 (mset M 440 0 (0 : Int)) M10 → Q (.inl (some (vI (0 : Int)))) M10 K)))) : Wp (d + 1) 231 0 [vR 440, vI l1, vI l2, vU, vU, vU, vU, vU, vU] [] M K Q := by
  refine r_aload_n c231_0 rfl ?_
  refine r_iconst c231_1 ?_
  refine r_putI c231_2 (oK hK o440) ?_
  have x1 := FX.set (v := (0 : Int)) (a := 440) (k := 0) hX (by decide +kernel)
  refine r_aload_n c231_5 rfl ?_
  refine r_iload_n c231_6 rfl ?_
  refine r_iconst c231_7 ?_
  refine r_bipush c231_8 ?_
  refine r_call c231_10 rfl rfl (Nat.le_of_ble_eq_true rfl) (okc_s rfl rfl rfl) (g153 hK x1  (Bk_v ?_))
  refine r_ifP (P := ¬ ((0 : Int) ≤ l1 ∧ l1 ≤ (72 : Int))) c231_13 bI_eq (fun hc2 => ?_) (fun hc2 => ?_)
  · replace h := h.1 hc2
    refine r_iconst c231_25 ?_
    refine r_goto c231_26 ?_
    refine r_iconst c231_30 ?_
    refine r_iconst c231_31 ?_
    refine r_call c231_32 rfl rfl (Nat.le_of_ble_eq_true rfl) (okc_r rfl rfl (oK hK o440)) (b152_1 (cd := 1) (ix := 1) hK x1 ms_eq (by decide) (by decide) (fun M6 x4 p5 => Bk_v ?_))
    replace h := h M6 x4 p5
    refine r_ifP (P := (1 : Int) = (0 : Int)) c231_35 rfl (fun hc => absurd hc (by decide)) (fun hc => ?_)
    refine r_iconst c231_38 ?_
    exact r_iret c231_39 (Or.inl rfl) h
  · have hc3 := Classical.not_not.mp hc2
    replace h := h.2 hc3
    refine r_iload_n c231_16 rfl ?_
    refine r_iconst c231_17 ?_
    refine r_iconst c231_18 ?_
    refine r_call c231_19 rfl rfl (Nat.le_of_ble_eq_true rfl) (okc_s rfl rfl rfl) (g153 hK x1  (Bk_v ?_))
    refine r_ifP (P := ((0 : Int) ≤ l2 ∧ l2 ≤ (1 : Int))) c231_22 bI_ne (fun hc7 => ?_) (fun hc7 => ?_)
    · replace h := h.1 hc7
      refine r_iconst c231_29 ?_
      refine r_iconst c231_30 ?_
      refine r_iconst c231_31 ?_
      refine r_call c231_32 rfl rfl (Nat.le_of_ble_eq_true rfl) (okc_r rfl rfl (oK hK o440)) (b152_0 hK x1 ms_eq (Bk_v ?_))
      refine r_ifP (P := (0 : Int) = (0 : Int)) c231_35 rfl (fun hc => ?_) (fun hc => absurd (by decide) hc)
      refine r_iconst c231_40 ?_
      refine r_istore_n c231_41 (Nat.le_of_ble_eq_true rfl) ?_
      refine r_iconst c231_42 ?_
      refine r_istore c231_43 (Nat.le_of_ble_eq_true rfl) ?_
      refine r_iconst c231_45 ?_
      refine r_istore c231_46 (Nat.le_of_ble_eq_true rfl) ?_
      exact h
    · replace h := h.2 hc7
      refine r_iconst c231_25 ?_
      refine r_goto c231_26 ?_
      refine r_iconst c231_30 ?_
      refine r_iconst c231_31 ?_
      refine r_call c231_32 rfl rfl (Nat.le_of_ble_eq_true rfl) (okc_r rfl rfl (oK hK o440)) (b152_1 (cd := 1) (ix := 1) hK x1 ms_eq (by decide) (by decide) (fun M10 x8 p9 => Bk_v ?_))
      replace h := h M10 x8 p9
      refine r_ifP (P := (1 : Int) = (0 : Int)) c231_35 rfl (fun hc => absurd hc (by decide)) (fun hc => ?_)
      refine r_iconst c231_38 ?_
      exact r_iret c231_39 (Or.inl rfl) h
theorem u231_48 {d : Nat} {l1 : Int} {l2 : Int} {l3 : Int} {l4 : Int} {l5 : Int} {l6 : PV} {l7 : PV} {l8 : PV} {M : Mem} {K : KK} {Q : RR → Mem → KK → Prop} (hK : K.1 = 923) (hX : FX M)  (h : ((M 444 2) ≤ l5 → (¬ l2 = (0 : Int) → Q (.inl (some (vI l4))) M K) ∧ (l2 = (0 : Int) → Q (.inl (some (vI l3))) M K)) ∧ (¬ ((M 444 2) ≤ l5) → Wm d 230 [vR 440, vI l5] M K (Bk d 231 62 65 230 [vR 440, vI l1, vI l2, vI l3, vI l4, vI l5, l6, l7, l8] [] Q))) : Wp (d + 1) 231 48 [vR 440, vI l1, vI l2, vI l3, vI l4, vI l5, l6, l7, l8] [] M K Q := by
  refine r_iload c231_48 rfl ?_
  refine r_aload_n c231_50 rfl ?_
  refine r_getR c231_51 (oK hK o440) (FX.get (b := 444) hX (by decide) (by decide +kernel) (by decide)) (by decide) ?_
  refine r_iconst c231_54 ?_
  refine r_iae c231_55 (oK hK o444) (bd l444 (by decide)) rfl ?_
  refine r_icmpP (P := (M 444 2) ≤ l5) c231_56 rfl (fun hc1 => ?_) (fun hc1 => ?_)
  · replace h := h.1 hc1
    refine r_iload_n c231_175 rfl ?_
    refine r_ifP (P := ¬ l2 = (0 : Int)) c231_176 rfl (fun hc2 => ?_) (fun hc2 => ?_)
    · replace h := h.1 hc2
      refine r_iload c231_183 rfl ?_
      exact r_iret c231_185 (Or.inl rfl) h
    · have hc3 := Classical.not_not.mp hc2
      replace h := h.2 hc3
      refine r_iload_n c231_179 rfl ?_
      refine r_goto c231_180 ?_
      exact r_iret c231_185 (Or.inl rfl) h
  · replace h := h.2 hc1
    refine r_aload_n c231_59 rfl ?_
    refine r_iload c231_60 rfl ?_
    exact r_call c231_62 rfl rfl (Nat.le_of_ble_eq_true rfl) (okc_r rfl rfl (oK hK o440)) h
theorem u231_65 {d : Nat} {l1 : Int} {l2 : Int} {l3 : Int} {l4 : Int} {l5 : Int} {l6 : PV} {l7 : PV} {l8 : PV} {t0 : Int} {M : Mem} {K : KK} {Q : RR → Mem → KK → Prop} (hK : K.1 = 923) (hX : FX M)  (h : (t0 = (0 : Int) → Wp (d + 1) 231 80 [vR 440, vI l1, vI l2, vI l3, vI l4, vI l5, vI (0 : Int), vI (0 : Int), vI (0 : Int)] [] M K Q) ∧ (¬ (t0 = (0 : Int)) → Wp (d + 1) 231 48 [vR 440, vI l1, vI l2, vI l3, vI l4, vI (w32 (l5 + 1)), l6, l7, l8] [] M K Q)) : Wp (d + 1) 231 65 [vR 440, vI l1, vI l2, vI l3, vI l4, vI l5, l6, l7, l8] [vI t0] M K Q := by
  refine r_ifP (P := t0 = (0 : Int)) c231_65 rfl (fun hc1 => ?_) (fun hc1 => ?_)
  · replace h := h.1 hc1
    refine r_iconst c231_71 ?_
    refine r_istore c231_72 (Nat.le_of_ble_eq_true rfl) ?_
    refine r_iconst c231_74 ?_
    refine r_istore c231_75 (Nat.le_of_ble_eq_true rfl) ?_
    refine r_iconst c231_77 ?_
    refine r_istore c231_78 (Nat.le_of_ble_eq_true rfl) ?_
    exact h
  · replace h := h.2 hc1
    refine r_goto c231_68 ?_
    refine r_iinc c231_169 rfl ?_
    refine r_goto c231_172 ?_
    exact h
theorem u231_80 {d : Nat} {l1 : Int} {l2 : Int} {l3 : Int} {l4 : Int} {l5 : Int} {l6 : Int} {l7 : Int} {l8 : Int} {M : Mem} {K : KK} {Q : RR → Mem → KK → Prop} (hK : K.1 = 923) (hX : FX M)  (h : ((jshl (1 : Int) (M 444 2)) ≤ l8 → (l3 = (-1 : Int) → Wp (d + 1) 231 48 [vR 440, vI l1, vI l2, vI l5, vI (max l6 (w32 (l7 - l6))), vI (w32 (l5 + 1)), vI l6, vI l7, vI (max l6 (w32 (l7 - l6)))] [] M K Q) ∧ (¬ (l3 = (-1 : Int)) → ((max l6 (w32 (l7 - l6))) < l4 → Wp (d + 1) 231 48 [vR 440, vI l1, vI l2, vI l5, vI (max l6 (w32 (l7 - l6))), vI (w32 (l5 + 1)), vI l6, vI l7, vI (max l6 (w32 (l7 - l6)))] [] M K Q) ∧ (¬ ((max l6 (w32 (l7 - l6))) < l4) → Wp (d + 1) 231 48 [vR 440, vI l1, vI l2, vI l3, vI l4, vI (w32 (l5 + 1)), vI l6, vI l7, vI (max l6 (w32 (l7 - l6)))] [] M K Q))) ∧ (¬ ((jshl (1 : Int) (M 444 2)) ≤ l8) → Wm d 228 [vR 440, vI l8, vI l1] M K (Bk d 231 97 100 228 [vR 440, vI l1, vI l2, vI l3, vI l4, vI l5, vI l6, vI l7, vI l8] [] Q))) : Wp (d + 1) 231 80 [vR 440, vI l1, vI l2, vI l3, vI l4, vI l5, vI l6, vI l7, vI l8] [] M K Q := by
  refine r_iload c231_80 rfl ?_
  refine r_iconst c231_82 ?_
  refine r_aload_n c231_83 rfl ?_
  refine r_getR c231_84 (oK hK o440) (FX.get (b := 444) hX (by decide) (by decide +kernel) (by decide)) (by decide) ?_
  refine r_iconst c231_87 ?_
  refine r_iae c231_88 (oK hK o444) (bd l444 (by decide)) rfl ?_
  refine r_ishl c231_89 ?_
  refine r_icmpP (P := (jshl (1 : Int) (M 444 2)) ≤ l8) c231_90 rfl (fun hc1 => ?_) (fun hc1 => ?_)
  · replace h := h.1 hc1
    refine r_iload c231_135 rfl ?_
    refine r_iload c231_137 rfl ?_
    refine r_iload c231_139 rfl ?_
    refine r_isub c231_141 ?_
    refine r_call c231_142 rfl rfl (Nat.le_of_ble_eq_true rfl) (okc_s rfl rfl rfl) (g155 hK hX  (Bk_v ?_))
    refine r_istore c231_145 (Nat.le_of_ble_eq_true rfl) ?_
    refine r_iload_n c231_147 rfl ?_
    refine r_iconst c231_148 ?_
    refine r_icmpP (P := l3 = (-1 : Int)) c231_149 rfl (fun hc2 => ?_) (fun hc2 => ?_)
    · replace h := h.1 hc2
      refine r_iload c231_162 rfl ?_
      refine r_istore_n c231_164 (Nat.le_of_ble_eq_true rfl) ?_
      refine r_iload c231_165 rfl ?_
      refine r_istore c231_167 (Nat.le_of_ble_eq_true rfl) ?_
      refine r_iinc c231_169 rfl ?_
      refine r_goto c231_172 ?_
      exact h
    · replace h := h.2 hc2
      refine r_iload c231_152 rfl ?_
      refine r_iload c231_154 rfl ?_
      refine r_icmpP (P := (max l6 (w32 (l7 - l6))) < l4) c231_156 rfl (fun hc3 => ?_) (fun hc3 => ?_)
      · replace h := h.1 hc3
        refine r_iload c231_162 rfl ?_
        refine r_istore_n c231_164 (Nat.le_of_ble_eq_true rfl) ?_
        refine r_iload c231_165 rfl ?_
        refine r_istore c231_167 (Nat.le_of_ble_eq_true rfl) ?_
        refine r_iinc c231_169 rfl ?_
        refine r_goto c231_172 ?_
        exact h
      · replace h := h.2 hc3
        refine r_goto c231_159 ?_
        refine r_iinc c231_169 rfl ?_
        refine r_goto c231_172 ?_
        exact h
  · replace h := h.2 hc1
    refine r_aload_n c231_93 rfl ?_
    refine r_iload c231_94 rfl ?_
    refine r_iload_n c231_96 rfl ?_
    exact r_call c231_97 rfl rfl (Nat.le_of_ble_eq_true rfl) (okc_r rfl rfl (oK hK o440)) h
theorem u231_100 {d : Nat} {l1 : Int} {l2 : Int} {l3 : Int} {l4 : Int} {l5 : Int} {l6 : Int} {l7 : Int} {l8 : Int} {t0 : Int} {M : Mem} {K : KK} {Q : RR → Mem → KK → Prop} (hK : K.1 = 923) (hX : FX M)  (h : (¬ t0 = (0 : Int) → (¬ (jand (jshr l8 l5) 1 = 1) → Wp (d + 1) 231 80 [vR 440, vI l1, vI l2, vI l3, vI l4, vI l5, vI (w32 (l6 + (0 : Int))), vI (w32 (l7 + 1)), vI (w32 (l8 + 1))] [] M K Q) ∧ ((jand (jshr l8 l5) 1 = 1) → Wp (d + 1) 231 80 [vR 440, vI l1, vI l2, vI l3, vI l4, vI l5, vI (w32 (l6 + (1 : Int))), vI (w32 (l7 + 1)), vI (w32 (l8 + 1))] [] M K Q)) ∧ (t0 = (0 : Int) → Wp (d + 1) 231 80 [vR 440, vI l1, vI l2, vI l3, vI l4, vI l5, vI l6, vI l7, vI (w32 (l8 + 1))] [] M K Q)) : Wp (d + 1) 231 100 [vR 440, vI l1, vI l2, vI l3, vI l4, vI l5, vI l6, vI l7, vI l8] [vI t0] M K Q := by
  refine r_ifP (P := ¬ t0 = (0 : Int)) c231_100 rfl (fun hc1 => ?_) (fun hc1 => ?_)
  · replace h := h.1 hc1
    refine r_iinc c231_106 rfl ?_
    refine r_iload c231_109 rfl ?_
    refine r_iload c231_111 rfl ?_
    refine r_iload c231_113 rfl ?_
    refine r_call c231_115 rfl rfl (Nat.le_of_ble_eq_true rfl) (okc_s rfl rfl rfl) (g156 hK hX  (Bk_v ?_))
    refine r_ifP (P := ¬ (jand (jshr l8 l5) 1 = 1)) c231_118 bI_eq (fun hc3 => ?_) (fun hc3 => ?_)
    · replace h := h.1 hc3
      refine r_iconst c231_125 ?_
      refine r_iadd c231_126 ?_
      refine r_istore c231_127 (Nat.le_of_ble_eq_true rfl) ?_
      refine r_iinc c231_129 rfl ?_
      refine r_goto c231_132 ?_
      exact h
    · have hc4 := Classical.not_not.mp hc3
      replace h := h.2 hc4
      refine r_iconst c231_121 ?_
      refine r_goto c231_122 ?_
      refine r_iadd c231_126 ?_
      refine r_istore c231_127 (Nat.le_of_ble_eq_true rfl) ?_
      refine r_iinc c231_129 rfl ?_
      refine r_goto c231_132 ?_
      exact h
  · have hc2 := Classical.not_not.mp hc1
    replace h := h.2 hc2
    refine r_goto c231_103 ?_
    refine r_iinc c231_129 rfl ?_
    refine r_goto c231_132 ?_
    exact h
section OP6
variable {d : Nat} {M M' : Mem} {K : KK} {Q : RR → Mem → KK → Prop} {c s : Mem} {L Y : LC} {y : Int}
theorem all_sub {n x : Nat} (h : x < 2 ^ n) : (2 ^ n - 1) ^^^ ((2 ^ n - 1) &&& x) = 2 ^ n - 1 - x := by
  refine eq_tb (fun i => ?_)
  rw [tb_andn, show 2 ^ n - 1 - x = 2 ^ n - (x + 1) by omega, Nat.testBit_two_pow_sub_succ h, Nat.testBit_two_pow_sub_one]
theorem c119 {w : Int} (hK : K.1 = 923) (hX : FX M) (h : GC M c L s) (hY : SYC M Y) (hsw : SW Y) (k : QC Q M K True ((0 ≤ y ∧ y ≤ 72) ∧ (0 ≤ w ∧ w ≤ 3)) (vI (mayS c Y y w))) : Wm (d + 2) 119 [vR 32, vI y, vI w] M K Q := by
  have hg := h
  obtain ⟨cm, l, a, b, e, f⟩ := h
  have hD := e.2.1.n.2.2
  have p2 := p8 hD.2
  have p0 : 0 < 2 ^ nDe c := Nat.pow_pos (by decide)
  have e7 := (e.1.g e.2.1).2.2.1
  refine u119_0 hK hX ⟨fun hv => k.2.1 trivial (fun h9 => hv h9.1), fun hv => ⟨fun hw => k.2.1 trivial (fun h9 => hw h9.2), fun hw => ⟨cm, a, b, ?_⟩⟩⟩
  have k := k.ok trivial ⟨hv, hw⟩ hX
  unfold mayS at k
  rw [e7, jshl_1 (by omega), w32_id (by omega), show ((2 ^ nDe c : Nat) : Int) - 1 = ((2 ^ nDe c - 1 : Nat) : Int) by omega]
  have loop : ∀ f i, i + f = 2 ^ nDe c → Wp (d + 2) 119 55 [vR 32, vI y, vI w, vI ((2 ^ nDe c - 1 : Nat) : Int), vI ((mbF c Y y i).1 : Int), vI (mbF c Y y i).2.1, vI ((mbF c Y y i).2.2.1 : Int), vI ((mbF c Y y i).2.2.2 : Int), vI (i : Int)] [] M K Q := by
    intro f9
    induction f9 with
    | zero =>
      intro i hi
      have hin : i = 2 ^ nDe c := by omega
      subst hin
      obtain ⟨r1, r2, r3, r4⟩ := mbF_rg (c := c) (Y := Y) (y := y) (Nat.le_refl _) (2 ^ nDe c) (Nat.le_refl _)
      refine u119_55 hK hX ⟨fun _ => ⟨?_, ?_, ?_, ?_⟩, fun h9 => absurd (by omega) h9⟩
      · rintro rfl; exact k
      · rintro rfl; exact k
      · rintro rfl
        rw [if_neg (by decide), if_neg (by decide)] at k
        refine ⟨fun h9 => ?_, fun h9 => ?_⟩
        · rw [if_neg (by omega), if_pos rfl] at k; exact k
        · rw [if_pos (by omega)] at k; exact k
      · intro h9
        have : w = 3 := by omega
        subst this
        rw [if_neg (by decide), if_neg (by decide)] at k
        refine ⟨fun h9 => ?_, fun h9 => ?_⟩
        · rw [if_neg (by omega), if_neg (by decide)] at k
          rw [jandn_n (by omega) (by omega), all_sub r4]; exact k
        · rw [if_pos (by omega)] at k; exact k
    | succ f9 ih =>
      intro i hi
      have nx := ih (i + 1) (by omega)
      obtain ⟨r1, r2, r3, r4⟩ := mbF_rg (c := c) (Y := Y) (y := y) (Nat.le_refl _) i (by omega)
      simp only [mbF] at nx
      refine u119_55 hK hX ⟨fun h9 => absurd h9 (by omega), fun _ => ?_⟩
      refine g145 hK hX hg hY hsw (by omega) (Bk_v (u119_68 hK hX ?_))
      cases hm : mdB c Y y i with
      | false =>
        rw [hm] at nx
        refine ⟨fun _ => ?_, fun h9 => absurd (bI_f (by decide)) h9⟩
        rw [w1 (by omega)]; exact nx
      | true =>
        rw [hm] at nx
        dsimp only at nx
        refine ⟨fun h9 => absurd h9 (by rw [bI_t rfl]; decide), fun _ => ?_⟩
        rw [jand_n (by omega) (by omega), jor_n (by omega) (by omega), w1 (i := i) (by omega), w1 (by omega)]
        refine ⟨fun h9 => ?_, fun h9 => ?_⟩
        · rw [if_neg h9] at nx; exact nx
        · rw [if_pos h9] at nx; exact nx
  exact loop (2 ^ nDe c) 0 (Nat.zero_add _)
theorem m229 {w : Int} (hK : K.1 = 923) (hX : FX M) (h : GM M c L s) (hY : SYM M Y) (hsw : SW Y) (k : QM Q M K True ((0 ≤ y ∧ y ≤ 72) ∧ (0 ≤ w ∧ w ≤ 3)) 1 (vI 0) (vI (mayS c Y y w))) : Wm (d + 2) 229 [vR 440, vI y, vI w] M K Q := by
  have hD := h.1.2.1.n.2.2
  have p2 := p8 hD.2
  have p0 : 0 < 2 ^ nDe c := Nat.pow_pos (by decide)
  refine u229_0 hK hX ⟨fun hv => k.bad trivial (fun h9 => hv h9.1), fun hv => ⟨fun hw => ?_, fun hw => k.bad trivial (fun h9 => hw h9.2)⟩⟩
  have k := k.ok trivial ⟨hv, hw⟩ hX
  have h' := h.q FrQm.t0
  have x1 := hX.t0
  have hY' : SYM (mset M 440 0 0) Y := ⟨(ms_nk (by decide)).trans hY.1, hY.2.1, fun k hk => ⟨(ms_na (by omega)).trans (hY.2.2 k hk).1, (ms_na (by omega)).trans (hY.2.2 k hk).2⟩⟩
  have e443 : M 444 2 = (nDe c : Int) := (h.1.1.1 2 (by decide)).trans hD.1
  have e443' : mset M 440 0 0 444 2 = (nDe c : Int) := (ms_na (by decide)).trans e443
  generalize mset M 440 0 0 = M1 at *
  unfold mayS at k
  rw [e443, jshl_1 (by omega), w32_id (by omega), show ((2 ^ nDe c : Nat) : Int) - 1 = ((2 ^ nDe c - 1 : Nat) : Int) by omega]
  have loop : ∀ f i, i + f = 2 ^ nDe c → Wp (d + 2) 229 63 [vR 440, vI y, vI w, vI ((mbF c Y y i).1 : Int), vI (mbF c Y y i).2.1, vI ((mbF c Y y i).2.2.1 : Int), vI ((mbF c Y y i).2.2.2 : Int), vI (i : Int)] [] M1 K Q := by
    intro f9
    induction f9 with
    | zero =>
      intro i hi
      have hin : i = 2 ^ nDe c := by omega
      subst hin
      obtain ⟨r1, r2, r3, r4⟩ := mbF_rg (c := c) (Y := Y) (y := y) (Nat.le_refl _) (2 ^ nDe c) (Nat.le_refl _)
      refine u229_63 hK x1 ⟨fun _ => ⟨fun h2 => ⟨fun h9 => ⟨fun h8 => ?_, fun h8 => ?_⟩, fun h9 => ?_⟩, fun h2 => ⟨fun h9 => ?_, fun h9 => ?_⟩⟩, fun h9 => absurd (by rw [e443', jshl_1 (by omega)]; omega) h9⟩
      · rw [if_neg (by omega), if_neg (by omega), if_neg (by omega), if_neg h8] at k
        rw [e443', jshl_1 (by omega), w32_id (z := ((2 ^ nDe c : Nat) : Int) - 1) (by omega), w32_id (by omega), show ((2 ^ nDe c : Nat) : Int) - 1 - ((mbF c Y y (2 ^ nDe c)).2.2.2 : Int) = ((2 ^ nDe c - 1 - (mbF c Y y (2 ^ nDe c)).2.2.2 : Nat) : Int) by omega]
        exact k
      · rw [if_neg (by omega), if_neg (by omega), if_neg (by omega), if_pos h8] at k; exact k
      · rw [if_neg (by omega), if_neg (by omega), if_pos (by omega)] at k; exact k
      · rw [if_neg h9, if_pos (by omega)] at k; exact k
      · rw [if_pos h9] at k; exact k
    | succ f9 ih =>
      intro i hi
      have nx := ih (i + 1) (by omega)
      obtain ⟨r1, r2, r3, r4⟩ := mbF_rg (c := c) (Y := Y) (y := y) (Nat.le_refl _) i (by omega)
      simp only [mbF] at nx
      refine u229_63 hK x1 ⟨fun h9 => absurd h9 (by rw [e443', jshl_1 (by omega)]; omega), fun _ => ?_⟩
      refine g228 hK x1 h' hY' hsw (by omega) (Bk_v (u229_83 hK x1 ?_))
      cases hm : mdB c Y y i with
      | false =>
        rw [hm] at nx
        refine ⟨fun h9 => absurd (bI_f (by decide)) h9, fun _ => ?_⟩
        rw [w1 (by omega)]; exact nx
      | true =>
        rw [hm] at nx
        dsimp only at nx
        refine ⟨fun _ => ?_, fun h9 => absurd h9 (by rw [bI_t rfl]; decide)⟩
        rw [jand_n (by omega) (by omega), jor_n (by omega) (by omega), w1 (i := i) (by omega), w1 (by omega)]
        refine ⟨fun h9 => ?_, fun h9 => ?_⟩
        · rw [if_neg (by omega)] at nx; exact nx
        · rw [if_pos (by omega)] at nx; exact nx
  exact loop (2 ^ nDe c) 0 (Nat.zero_add _)
theorem c120 {w : Int} (hK : K.1 = 923) (hX : FX M) (h : GC M c L s) (hY : SYC M Y) (hsw : SW Y) (k : QC Q M K True ((0 ≤ y ∧ y ≤ 72) ∧ (0 ≤ w ∧ w ≤ 1)) (vI (prS (asF c Y y (nDe c)) w))) : Wm (d + 3) 120 [vR 32, vI y, vI w] M K Q := by
  have hg := h
  have hY2 := hY
  obtain ⟨cm, l, a, b, e, f⟩ := h
  obtain ⟨t, t1, t2, t3⟩ := hY
  have hD := e.2.1.n.2.2
  have e7 := (e.1.g e.2.1).2.2.1
  refine u120_0 hK hX ⟨fun hv => k.2.1 trivial (fun h9 => hv h9.1), fun hv => ⟨fun hw => k.2.1 trivial (fun h9 => hw h9.2), fun hw => ?_⟩⟩
  have k := k.ok trivial ⟨hv, hw⟩ hX
  unfold prS at k
  have loop : ∀ f i, i + f = nDe c → ∀ v6 : PV, Wp (d + 3) 120 36 [vR 32, vI y, vI w, vI (asF c Y y i).1, vI (asF c Y y i).2, vI (i : Int), v6] [] M K Q := by
    intro f9
    induction f9 with
    | zero =>
      intro i hi v6
      have hin : i = nDe c := by omega
      subst hin
      refine u120_36 hK hX ⟨cm, a, b, fun _ => ⟨fun h9 => ?_, fun h9 => ?_⟩, fun h9 => absurd (by rw [e7]; omega) h9⟩
      · rw [if_neg h9] at k; exact k
      · rw [if_pos h9] at k; exact k
    | succ f9 ih =>
      intro i hi v6
      have nx := ih (i + 1) (by omega)
      simp only [asF] at nx
      refine u120_36 hK hX ⟨cm, a, b, fun h9 => absurd h9 (by rw [e7]; omega), fun _ => ⟨t, t1, t2, ?_⟩⟩
      rw [SY_spk t3 hsw (by omega), w1 (by omega)]
      refine ⟨fun h9 => ?_, fun h9 => ?_⟩
      · rw [h9] at nx; exact nx _
      · rw [Bool.not_eq_true] at h9
        rw [h9] at nx
        refine g146 hK hX hg hY2 hsw (by omega) (Bk_v (u120_67 hK hX ?_))
        rw [w1 (by omega)]
        dsimp only at nx
        refine ⟨fun h8 => ?_, fun h8 => ⟨fun h7 => ?_, fun h7 => ?_⟩⟩
        · rw [if_pos (Or.inl h8)] at nx; exact nx _
        · rw [if_neg (by omega)] at nx; exact nx _
        · rw [if_pos (Or.inr (by omega))] at nx; exact nx _
  exact loop (nDe c) 0 (Nat.zero_add _) vU
theorem m231 {w : Int} (hK : K.1 = 923) (hX : FX M) (h : GM M c L s) (hY : SYM M Y) (hsw : SW Y) (k : QM Q M K True ((0 ≤ y ∧ y ≤ 72) ∧ (0 ≤ w ∧ w ≤ 1)) 1 (vI 0) (vI (prS (asF c Y y (nDe c)) w))) : Wm (d + 2) 231 [vR 440, vI y, vI w] M K Q := by
  have hD := h.1.2.1.n.2.2
  have p2 := p8 hD.2
  refine u231_0 hK hX ⟨fun hv => k.bad trivial (fun h9 => hv h9.1), fun hv => ⟨fun hw => ?_, fun hw => k.bad trivial (fun h9 => hw h9.2)⟩⟩
  have k := k.ok trivial ⟨hv, hw⟩ hX
  have h' := h.q FrQm.t0
  have x1 := hX.t0
  have hY' : SYM (mset M 440 0 0) Y := ⟨(ms_nk (by decide)).trans hY.1, hY.2.1, fun k hk => ⟨(ms_na (by omega)).trans (hY.2.2 k hk).1, (ms_na (by omega)).trans (hY.2.2 k hk).2⟩⟩
  generalize mset M 440 0 0 = M1 at *
  have e443' : M1 444 2 = (nDe c : Int) := (h'.1.1.1 2 (by decide)).trans hD.1
  unfold prS at k
  have loop : ∀ f i, i + f = nDe c → ∀ v6 v7 v8 : PV, Wp (d + 2) 231 48 [vR 440, vI y, vI w, vI (asF c Y y i).1, vI (asF c Y y i).2, vI (i : Int), v6, v7, v8] [] M1 K Q := by
    intro f9
    induction f9 with
    | zero =>
      intro i hi v6 v7 v8
      have hin : i = nDe c := by omega
      subst hin
      refine u231_48 hK x1 ⟨fun _ => ⟨fun h9 => ?_, fun h9 => ?_⟩, fun h9 => absurd (by omega) h9⟩
      · rw [if_neg h9] at k; exact k
      · rw [if_pos h9] at k; exact k
    | succ f9 ih =>
      intro i hi v6 v7 v8
      have nx := ih (i + 1) (by omega)
      simp only [asF] at nx
      refine u231_48 hK x1 ⟨fun h9 => absurd h9 (by omega), fun _ => ?_⟩
      refine g230 hK x1 hY' (Bk_v (u231_65 hK x1 ?_))
      cases hs : spk Y (i : Int) with
      | true =>
        rw [hs] at nx
        refine ⟨fun h9 => absurd h9 (by rw [bI_t rfl]; decide), fun _ => ?_⟩
        rw [w1 (by omega)]; exact nx _ _ _
      | false =>
        rw [hs] at nx
        dsimp only at nx
        refine ⟨fun _ => ?_, fun h9 => absurd (bI_f (by decide)) h9⟩
        have inner : ∀ fs S, S + fs = 2 ^ nDe c → Wp (d + 2) 231 80 [vR 440, vI y, vI w, vI (asF c Y y i).1, vI (asF c Y y i).2, vI (i : Int), vI ((awF c Y y i S).1 : Int), vI ((awF c Y y i S).2 : Int), vI (S : Int)] [] M1 K Q := by
          intro fs
          induction fs with
          | zero =>
            intro S hS
            have hin : S = 2 ^ nDe c := by omega
            subst hin
            have r := awF_rg (c := c) (Y := Y) (y := y) (d := i) (2 ^ nDe c)
            refine u231_80 hK x1 ⟨fun _ => ?_, fun h9 => absurd (by rw [e443', jshl_1 (by omega)]; omega) h9⟩
            rw [w32_id (z := ((awF c Y y i (2 ^ nDe c)).2 : Int) - _) (by omega), w1 (by omega)]
            have eW : max ((awF c Y y i (2 ^ nDe c)).1 : Int) (((awF c Y y i (2 ^ nDe c)).2 : Int) - ((awF c Y y i (2 ^ nDe c)).1 : Int)) = awW c Y y i := rfl
            rw [eW]
            refine ⟨fun h8 => ?_, fun h8 => ⟨fun h7 => ?_, fun h7 => ?_⟩⟩
            · rw [if_pos (Or.inl h8)] at nx; exact nx _ _ _
            · rw [if_pos (Or.inr h7)] at nx; exact nx _ _ _
            · rw [if_neg (by omega)] at nx; exact nx _ _ _
          | succ fs ihs =>
            intro S hS
            have ns := ihs (S + 1) (by omega)
            have r := awF_rg (c := c) (Y := Y) (y := y) (d := i) S
            simp only [awF] at ns
            refine u231_80 hK x1 ⟨fun h9 => absurd h9 (by rw [e443', jshl_1 (by omega)]; omega), fun _ => ?_⟩
            refine g228 hK x1 h' hY' hsw (by omega) (Bk_v (u231_100 hK x1 ?_))
            cases hm : mdB c Y y S with
            | false =>
              rw [hm] at ns
              refine ⟨fun h9 => absurd (bI_f (by decide)) h9, fun _ => ?_⟩
              rw [w1 (by omega)]; exact ns
            | true =>
              rw [hm] at ns
              dsimp only at ns
              refine ⟨fun _ => ?_, fun h9 => absurd h9 (by rw [bI_t rfl]; decide)⟩
              rw [bit_1 (by omega) (by omega), w1 (i := S) (by omega), w1 (i := (awF c Y y i S).2) (by omega)]
              refine ⟨fun h9 => ?_, fun h9 => ?_⟩
              · rw [if_neg h9] at ns
                rw [w32_id (by omega), Int.add_zero]; exact ns
              · rw [if_pos h9] at ns
                rw [w1 (by omega)]; exact ns
        exact inner (2 ^ nDe c) 0 (Nat.zero_add _)
  exact loop (nDe c) 0 (Nat.zero_add _) _ _ _
end OP6
