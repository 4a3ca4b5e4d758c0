theorem u105_0 {d : Nat} {l1 : Int} {M : Mem} {K : KK} {Q : RR → Mem → KK → Prop} (hK : K.1 = 923) (hX : FX M)  (h : (((0 : Int) ≤ l1 ∧ l1 ≤ (11 : Int)) → (l1 = (0 : Int) → ∃ b1 : Nat, (M 32 11) = (b1 : Int) ∧ isO 923 b1 0 = true ∧ Q (.inl (some (vI (M b1 5)))) M K) ∧ (l1 = (1 : Int) → ∃ b4 : Nat, (M 32 11) = (b4 : Int) ∧ isO 923 b4 0 = true ∧ Q (.inl (some (vI (M b4 6)))) M K) ∧ (l1 = (2 : Int) → ∃ b7 : Nat, (M 32 11) = (b7 : Int) ∧ isO 923 b7 0 = true ∧ Q (.inl (some (vI (M b7 7)))) M K) ∧ (l1 = (3 : Int) → ∃ b10 : Nat, (M 32 11) = (b10 : Int) ∧ isO 923 b10 0 = true ∧ Q (.inl (some (vI (M b10 8)))) M K) ∧ (l1 = (4 : Int) → Q (.inl (some (vI (M 40 4)))) M K) ∧ (l1 = (5 : Int) → ∃ b13 : Nat, (M 32 11) = (b13 : Int) ∧ isO 923 b13 0 = true ∧ ∃ c16 : Mem, (CC M b13 c16 ∧ CW c16) ∧ Q (.inl (some (vI (rainS c16 (M 40 4))))) M K) ∧ (l1 = (6 : Int) → Q (.inl (some (vI (M 40 5)))) M K) ∧ (l1 = (7 : Int) → ∃ b18 : Nat, (M 32 11) = (b18 : Int) ∧ isO 923 b18 0 = true ∧ ∃ c21 : Mem, ∃ s22 : Mem, SKc M b18 40 c21 s22 ∧ Q (.inl (some (vI (lyS c21 s22)))) M K) ∧ (l1 = (8 : Int) → ∃ b24 : Nat, (M 32 11) = (b24 : Int) ∧ isO 923 b24 0 = true ∧ ∃ c27 : Mem, ∃ s28 : Mem, SKc M b24 40 c27 s28 ∧ Q (.inl (some (vI (whiteS c27 s28 : Int)))) M K) ∧ (l1 = (9 : Int) → ∃ b30 : Nat, (M 32 14) = (b30 : Int) ∧ isO 923 b30 8 = true ∧ Q (.inl (some (vI (M b30 0)))) M K) ∧ (l1 = (10 : Int) → Q (.inl (some (vI (M 32 17)))) M K) ∧ (l1 < (0 : Int) ∨ (10 : Int) < l1 → ∃ b33 : Nat, (M 32 11) = (b33 : Int) ∧ isO 923 b33 0 = true ∧ ∃ c36 : Mem, ∃ s37 : Mem, SKc M b33 40 c36 s37 ∧ Q (.inl (some (vI (greyS c36 s37)))) M K)) ∧ (¬ ((0 : Int) ≤ l1 ∧ l1 ≤ (11 : Int)) → Q (.inr 0) (mset M 32 19 (w32 ((M 32 19) + 1))) (K.1, K.2.1 + 1, K.2.2 + 6))) : Wp (d + 1) 105 0 [vR 32, vI l1] [] M K Q := by
  refine r_aload_n c105_0 rfl ?_
  refine r_iload_n c105_1 rfl ?_
  refine r_iconst c105_2 ?_
  refine r_bipush c105_3 ?_
  refine r_call c105_5 rfl rfl (Nat.le_of_ble_eq_true rfl) (okc_s rfl rfl rfl) (g142 hK hX  (Bk_v ?_))
  refine r_call c105_8 rfl rfl (Nat.le_of_ble_eq_true rfl) (okc_r rfl rfl (oK hK o32)) (n136b hK hX (fun hc => Bk_n ?_) (fun hc => Bk_e rfl rfl rfl ?_))
  · replace h := h.1 hc
    refine r_iload_n c105_11 rfl ?_
    refine r_tsw c105_12 ?_
    by_cases hv0 : l1 = (0 : Int)
    · rw [show tsw 12 160 0 10 #[60, 68, 76, 84, 92, 100, 115, 123, 135, 147, 155] l1 = 72 from by rw [hv0]; decide]
      replace h := h.1 hv0
      refine r_aload_n c105_72 rfl ?_
      obtain ⟨b1, h⟩ := h
      obtain ⟨e2, h⟩ := h
      obtain ⟨k3, h⟩ := h
      refine r_getR c105_73 (oK hK o32) e2 (by have := (isO_d k3).1; omega) ?_
      refine r_getIe c105_76 (oK hK k3) rfl ?_
      exact r_iret c105_79 (Or.inl rfl) h
    by_cases hv1 : l1 = (1 : Int)
    · rw [show tsw 12 160 0 10 #[60, 68, 76, 84, 92, 100, 115, 123, 135, 147, 155] l1 = 80 from by rw [hv1]; decide]
      replace h := h.2.1 hv1
      refine r_aload_n c105_80 rfl ?_
      obtain ⟨b4, h⟩ := h
      obtain ⟨e5, h⟩ := h
      obtain ⟨k6, h⟩ := h
      refine r_getR c105_81 (oK hK o32) e5 (by have := (isO_d k6).1; omega) ?_
      refine r_getIe c105_84 (oK hK k6) rfl ?_
      exact r_iret c105_87 (Or.inl rfl) h
    by_cases hv2 : l1 = (2 : Int)
    · rw [show tsw 12 160 0 10 #[60, 68, 76, 84, 92, 100, 115, 123, 135, 147, 155] l1 = 88 from by rw [hv2]; decide]
      replace h := h.2.2.1 hv2
      refine r_aload_n c105_88 rfl ?_
      obtain ⟨b7, h⟩ := h
      obtain ⟨e8, h⟩ := h
      obtain ⟨k9, h⟩ := h
      refine r_getR c105_89 (oK hK o32) e8 (by have := (isO_d k9).1; omega) ?_
      refine r_getIe c105_92 (oK hK k9) rfl ?_
      exact r_iret c105_95 (Or.inl rfl) h
    by_cases hv3 : l1 = (3 : Int)
    · rw [show tsw 12 160 0 10 #[60, 68, 76, 84, 92, 100, 115, 123, 135, 147, 155] l1 = 96 from by rw [hv3]; decide]
      replace h := h.2.2.2.1 hv3
      refine r_aload_n c105_96 rfl ?_
      obtain ⟨b10, h⟩ := h
      obtain ⟨e11, h⟩ := h
      obtain ⟨k12, h⟩ := h
      refine r_getR c105_97 (oK hK o32) e11 (by have := (isO_d k12).1; omega) ?_
      refine r_getIe c105_100 (oK hK k12) rfl ?_
      exact r_iret c105_103 (Or.inl rfl) h
    by_cases hv4 : l1 = (4 : Int)
    · rw [show tsw 12 160 0 10 #[60, 68, 76, 84, 92, 100, 115, 123, 135, 147, 155] l1 = 104 from by rw [hv4]; decide]
      replace h := h.2.2.2.2.1 hv4
      refine r_aload_n c105_104 rfl ?_
      refine r_getR c105_105 (oK hK o32) (FX.get (b := 40) hX (by decide) (by decide +kernel) (by decide)) (by decide) ?_
      refine r_getIe c105_108 (oK hK o40) rfl ?_
      exact r_iret c105_111 (Or.inl rfl) h
    by_cases hv5 : l1 = (5 : Int)
    · rw [show tsw 12 160 0 10 #[60, 68, 76, 84, 92, 100, 115, 123, 135, 147, 155] l1 = 112 from by rw [hv5]; decide]
      replace h := h.2.2.2.2.2.1 hv5
      refine r_aload_n c105_112 rfl ?_
      obtain ⟨b13, h⟩ := h
      obtain ⟨e14, h⟩ := h
      obtain ⟨k15, h⟩ := h
      refine r_getR c105_113 (oK hK o32) e14 (by have := (isO_d k15).1; omega) ?_
      refine r_aload_n c105_116 rfl ?_
      refine r_getR c105_117 (oK hK o32) (FX.get (b := 40) hX (by decide) (by decide +kernel) (by decide)) (by decide) ?_
      refine r_getIe c105_120 (oK hK o40) rfl ?_
      obtain ⟨c16, h⟩ := h
      obtain ⟨p17, h⟩ := h
      refine r_call c105_123 rfl rfl (Nat.le_of_ble_eq_true rfl) (okc_r rfl rfl (oK hK k15)) (g7 hK hX k15 p17 (Bk_v ?_))
      exact r_iret c105_126 (Or.inl rfl) h
    by_cases hv6 : l1 = (6 : Int)
    · rw [show tsw 12 160 0 10 #[60, 68, 76, 84, 92, 100, 115, 123, 135, 147, 155] l1 = 127 from by rw [hv6]; decide]
      replace h := h.2.2.2.2.2.2.1 hv6
      refine r_aload_n c105_127 rfl ?_
      refine r_getR c105_128 (oK hK o32) (FX.get (b := 40) hX (by decide) (by decide +kernel) (by decide)) (by decide) ?_
      refine r_getIe c105_131 (oK hK o40) rfl ?_
      exact r_iret c105_134 (Or.inl rfl) h
    by_cases hv7 : l1 = (7 : Int)
    · rw [show tsw 12 160 0 10 #[60, 68, 76, 84, 92, 100, 115, 123, 135, 147, 155] l1 = 135 from by rw [hv7]; decide]
      replace h := h.2.2.2.2.2.2.2.1 hv7
      refine r_aload_n c105_135 rfl ?_
      refine r_getR c105_136 (oK hK o32) (FX.get (b := 40) hX (by decide) (by decide +kernel) (by decide)) (by decide) ?_
      refine r_aload_n c105_139 rfl ?_
      obtain ⟨b18, h⟩ := h
      obtain ⟨e19, h⟩ := h
      obtain ⟨k20, h⟩ := h
      refine r_getR c105_140 (oK hK o32) e19 (by have := (isO_d k20).1; omega) ?_
      obtain ⟨c21, h⟩ := h
      obtain ⟨s22, h⟩ := h
      obtain ⟨p23, h⟩ := h
      refine r_call c105_143 rfl rfl (Nat.le_of_ble_eq_true rfl) (okc_r rfl rfl (oK hK o40)) (g40 hK hX o40 k20 p23 (Bk_v ?_))
      exact r_iret c105_146 (Or.inl rfl) h
    by_cases hv8 : l1 = (8 : Int)
    · rw [show tsw 12 160 0 10 #[60, 68, 76, 84, 92, 100, 115, 123, 135, 147, 155] l1 = 147 from by rw [hv8]; decide]
      replace h := h.2.2.2.2.2.2.2.2.1 hv8
      refine r_aload_n c105_147 rfl ?_
      refine r_getR c105_148 (oK hK o32) (FX.get (b := 40) hX (by decide) (by decide +kernel) (by decide)) (by decide) ?_
      refine r_aload_n c105_151 rfl ?_
      obtain ⟨b24, h⟩ := h
      obtain ⟨e25, h⟩ := h
      obtain ⟨k26, h⟩ := h
      refine r_getR c105_152 (oK hK o32) e25 (by have := (isO_d k26).1; omega) ?_
      obtain ⟨c27, h⟩ := h
      obtain ⟨s28, h⟩ := h
      obtain ⟨p29, h⟩ := h
      refine r_call c105_155 rfl rfl (Nat.le_of_ble_eq_true rfl) (okc_r rfl rfl (oK hK o40)) (g41 hK hX o40 k26 p29 (Bk_v ?_))
      exact r_iret c105_158 (Or.inl rfl) h
    by_cases hv9 : l1 = (9 : Int)
    · rw [show tsw 12 160 0 10 #[60, 68, 76, 84, 92, 100, 115, 123, 135, 147, 155] l1 = 159 from by rw [hv9]; decide]
      replace h := h.2.2.2.2.2.2.2.2.2.1 hv9
      refine r_aload_n c105_159 rfl ?_
      obtain ⟨b30, h⟩ := h
      obtain ⟨e31, h⟩ := h
      obtain ⟨k32, h⟩ := h
      refine r_getR c105_160 (oK hK o32) e31 (by have := (isO_d k32).1; omega) ?_
      refine r_getIe c105_163 (oK hK k32) rfl ?_
      exact r_iret c105_166 (Or.inl rfl) h
    by_cases hv10 : l1 = (10 : Int)
    · rw [show tsw 12 160 0 10 #[60, 68, 76, 84, 92, 100, 115, 123, 135, 147, 155] l1 = 167 from by rw [hv10]; decide]
      replace h := h.2.2.2.2.2.2.2.2.2.2.1 hv10
      refine r_aload_n c105_167 rfl ?_
      refine r_getIe c105_168 (oK hK o32) rfl ?_
      exact r_iret c105_171 (Or.inl rfl) h
    have hvd : l1 < (0 : Int) ∨ (10 : Int) < l1 := by omega
    rw [show tsw 12 160 0 10 #[60, 68, 76, 84, 92, 100, 115, 123, 135, 147, 155] l1 = 172 from by unfold tsw; rw [if_pos hvd]; decide]
    replace h := h.2.2.2.2.2.2.2.2.2.2.2 hvd
    refine r_aload_n c105_172 rfl ?_
    refine r_getR c105_173 (oK hK o32) (FX.get (b := 40) hX (by decide) (by decide +kernel) (by decide)) (by decide) ?_
    refine r_aload_n c105_176 rfl ?_
    obtain ⟨b33, h⟩ := h
    obtain ⟨e34, h⟩ := h
    obtain ⟨k35, h⟩ := h
    refine r_getR c105_177 (oK hK o32) e34 (by have := (isO_d k35).1; omega) ?_
    obtain ⟨c36, h⟩ := h
    obtain ⟨s37, h⟩ := h
    obtain ⟨p38, h⟩ := h
    refine r_call c105_180 rfl rfl (Nat.le_of_ble_eq_true rfl) (okc_r rfl rfl (oK hK o40)) (g43 hK hX o40 k35 p38 (Bk_v ?_))
    exact r_iret c105_183 (Or.inl rfl) h
  · replace h := h.2 hc
    exact h
theorem u106_0 {d : Nat} {l1 : Int} {l2 : Int} {M : Mem} {K : KK} {Q : RR → Mem → KK → Prop} (hK : K.1 = 923) (hX : FX M)  (h : ∃ n1 : Nat, CeN M n1 ∧ ((0 ≤ l1 ∧ l1 < (n1 : Int)) → (((0 : Int) ≤ l2 ∧ l2 ≤ (1 : Int)) → (¬ l2 = (0 : Int) → ∃ b5 : Nat, (M 32 11) = (b5 : Int) ∧ isO 923 b5 0 = true ∧ ∃ c8 : Mem, ∃ s9 : Mem, SKc M b5 40 c8 s9 ∧ Q (.inl (some (vI (lyOn c8 s9 l1)))) M K) ∧ (l2 = (0 : Int) → ∃ b11 : Nat, (M 32 11) = (b11 : Int) ∧ isO 923 b11 0 = true ∧ (0 ≤ l1 ∧ l1 < (12 : Int)) ∧ Q (.inl (some (vI (M (b11 + 1) (Int.toNat l1))))) M K)) ∧ (¬ ((0 : Int) ≤ l2 ∧ l2 ≤ (1 : Int)) → Q (.inr 0) (mset M 32 19 (w32 ((M 32 19) + 1))) (K.1, K.2.1 + 1, K.2.2 + 6))) ∧ (¬ (0 ≤ l1 ∧ l1 < (n1 : Int)) → Q (.inr 1) (mset M 32 18 (w32 ((M 32 18) + 1))) (K.1, K.2.1 + 1, K.2.2 + 6))) : Wp (d + 2) 106 0 [vR 32, vI l1, vI l2] [] M K Q := by
  refine r_aload_n c106_0 rfl ?_
  refine r_iload_n c106_1 rfl ?_
  obtain ⟨n1, h⟩ := h
  obtain ⟨p2, h⟩ := h
  refine r_call c106_2 rfl rfl (Nat.le_of_ble_eq_true rfl) (okc_r rfl rfl (oK hK o32)) (n139 hK hX p2 (fun hc => Bk_n ?_) (fun hc => Bk_e rfl rfl rfl ?_))
  · replace h := h.1 hc
    refine r_aload_n c106_5 rfl ?_
    refine r_iload_n c106_6 rfl ?_
    refine r_iconst c106_7 ?_
    refine r_iconst c106_8 ?_
    refine r_call c106_9 rfl rfl (Nat.le_of_ble_eq_true rfl) (okc_s rfl rfl rfl) (g142 hK hX  (Bk_v ?_))
    refine r_call c106_12 rfl rfl (Nat.le_of_ble_eq_true rfl) (okc_r rfl rfl (oK hK o32)) (n136b hK hX (fun hc => Bk_n ?_) (fun hc => Bk_e rfl rfl rfl ?_))
    · replace h := h.1 hc
      refine r_iload_n c106_15 rfl ?_
      refine r_ifP (P := ¬ l2 = (0 : Int)) c106_16 rfl (fun hc3 => ?_) (fun hc3 => ?_)
      · replace h := h.1 hc3
        refine r_aload_n c106_31 rfl ?_
        refine r_getR c106_32 (oK hK o32) (FX.get (b := 40) hX (by decide) (by decide +kernel) (by decide)) (by decide) ?_
        refine r_aload_n c106_35 rfl ?_
        obtain ⟨b5, h⟩ := h
        obtain ⟨e6, h⟩ := h
        obtain ⟨k7, h⟩ := h
        refine r_getR c106_36 (oK hK o32) e6 (by have := (isO_d k7).1; omega) ?_
        refine r_iload_n c106_39 rfl ?_
        obtain ⟨c8, h⟩ := h
        obtain ⟨s9, h⟩ := h
        obtain ⟨p10, h⟩ := h
        refine r_call c106_40 rfl rfl (Nat.le_of_ble_eq_true rfl) (okc_r rfl rfl (oK hK o40)) (g38 hK hX o40 k7 p10 (Bk_v ?_))
        exact r_iret c106_43 (Or.inl rfl) h
      · have hc4 := Classical.not_not.mp hc3
        replace h := h.2 hc4
        refine r_aload_n c106_19 rfl ?_
        obtain ⟨b11, h⟩ := h
        obtain ⟨e12, h⟩ := h
        obtain ⟨k13, h⟩ := h
        refine r_getR c106_20 (oK hK o32) e12 (by have := (isO_d k13).1; omega) ?_
        refine r_getR c106_23 (oK hK k13) (fx0_0 hX k13) (by omega) ?_
        refine r_iload_n c106_26 rfl ?_
        obtain ⟨s14, h⟩ := h
        refine r_iae c106_27 (oK hK (q0_0 k13)) (bd (z0_0 k13) s14) rfl ?_
        refine r_goto c106_28 ?_
        exact r_iret c106_43 (Or.inl rfl) h
    · replace h := h.2 hc
      exact h
  · replace h := h.2 hc
    exact h
theorem u107_0 {d : Nat} {l1 : Int} {l2 : Int} {M : Mem} {K : KK} {Q : RR → Mem → KK → Prop} (hK : K.1 = 923) (hX : FX M)  (h : ∃ n1 : Nat, StN M n1 ∧ ((0 ≤ l1 ∧ l1 < (n1 : Int)) → (((0 : Int) ≤ l2 ∧ l2 ≤ (5 : Int)) → (l2 = (0 : Int) → ∃ b3 : Nat, (M 32 11) = (b3 : Int) ∧ isO 923 b3 0 = true ∧ (0 ≤ l1 ∧ l1 < (6 : Int)) ∧ Q (.inl (some (vI (M (b3 + 2) (Int.toNat l1))))) M K) ∧ (l2 = (1 : Int) → (0 ≤ l1 ∧ l1 < (6 : Int)) ∧ Q (.inl (some (vI (M 41 (Int.toNat l1))))) M K) ∧ (l2 = (2 : Int) → (0 ≤ l1 ∧ l1 < (6 : Int)) ∧ Q (.inl (some (vI (M 42 (Int.toNat l1))))) M K) ∧ (l2 = (3 : Int) → (0 ≤ l1 ∧ l1 < (6 : Int)) ∧ Q (.inl (some (vI (M 43 (Int.toNat l1))))) M K) ∧ (l2 = (4 : Int) → (0 ≤ l1 ∧ l1 < (6 : Int)) ∧ Q (.inl (some (vI (M 44 (Int.toNat l1))))) M K) ∧ (l2 < (0 : Int) ∨ (4 : Int) < l2 → ∃ b11 : Nat, (M 32 11) = (b11 : Int) ∧ isO 923 b11 0 = true ∧ ∃ c14 : Mem, (CC M b11 c14 ∧ CW c14) ∧ ∃ c16 : Mem, ∃ s17 : Mem, ∃ L18 : LC, ∃ la19 : Nat, ∃ p20 : Nat, (l1 = (p20 : Int) ∧ SKc M b11 40 c16 s17 ∧ LWC M b11 L18 la19 ∧ p20 < nSt c16) ∧ (∀ (M24 : Mem), FX M24 → FrW M M24 → Q (.inl (some (vI (whN c16 s17 L18 p20 (rainS c14 (M 40 4)))))) M24 K))) ∧ (¬ ((0 : Int) ≤ l2 ∧ l2 ≤ (5 : Int)) → Q (.inr 0) (mset M 32 19 (w32 ((M 32 19) + 1))) (K.1, K.2.1 + 1, K.2.2 + 6))) ∧ (¬ (0 ≤ l1 ∧ l1 < (n1 : Int)) → Q (.inr 1) (mset M 32 18 (w32 ((M 32 18) + 1))) (K.1, K.2.1 + 1, K.2.2 + 6))) : Wp (d + 3) 107 0 [vR 32, vI l1, vI l2] [] M K Q := by
  refine r_aload_n c107_0 rfl ?_
  refine r_iload_n c107_1 rfl ?_
  obtain ⟨n1, h⟩ := h
  obtain ⟨p2, h⟩ := h
  refine r_call c107_2 rfl rfl (Nat.le_of_ble_eq_true rfl) (okc_r rfl rfl (oK hK o32)) (n138 hK hX p2 (fun hc => Bk_n ?_) (fun hc => Bk_e rfl rfl rfl ?_))
  · replace h := h.1 hc
    refine r_aload_n c107_5 rfl ?_
    refine r_iload_n c107_6 rfl ?_
    refine r_iconst c107_7 ?_
    refine r_iconst c107_8 ?_
    refine r_call c107_9 rfl rfl (Nat.le_of_ble_eq_true rfl) (okc_s rfl rfl rfl) (g142 hK hX  (Bk_v ?_))
    refine r_call c107_12 rfl rfl (Nat.le_of_ble_eq_true rfl) (okc_r rfl rfl (oK hK o32)) (n136b hK hX (fun hc => Bk_n ?_) (fun hc => Bk_e rfl rfl rfl ?_))
    · replace h := h.1 hc
      refine r_iload_n c107_15 rfl ?_
      refine r_tsw c107_16 ?_
      by_cases hv0 : l2 = (0 : Int)
      · rw [show tsw 16 86 0 4 #[36, 46, 56, 66, 76] l2 = 52 from by rw [hv0]; decide]
        replace h := h.1 hv0
        refine r_aload_n c107_52 rfl ?_
        obtain ⟨b3, h⟩ := h
        obtain ⟨e4, h⟩ := h
        obtain ⟨k5, h⟩ := h
        refine r_getR c107_53 (oK hK o32) e4 (by have := (isO_d k5).1; omega) ?_
        refine r_getR c107_56 (oK hK k5) (fx0_1 hX k5) (by omega) ?_
        refine r_iload_n c107_59 rfl ?_
        obtain ⟨s6, h⟩ := h
        refine r_iae c107_60 (oK hK (q0_1 k5)) (bd (z0_1 k5) s6) rfl ?_
        exact r_iret c107_61 (Or.inl rfl) h
      by_cases hv1 : l2 = (1 : Int)
      · rw [show tsw 16 86 0 4 #[36, 46, 56, 66, 76] l2 = 62 from by rw [hv1]; decide]
        replace h := h.2.1 hv1
        refine r_aload_n c107_62 rfl ?_
        refine r_getR c107_63 (oK hK o32) (FX.get (b := 40) hX (by decide) (by decide +kernel) (by decide)) (by decide) ?_
        refine r_getR c107_66 (oK hK o40) (FX.get (b := 41) hX (by decide) (by decide +kernel) (by decide)) (by decide) ?_
        refine r_iload_n c107_69 rfl ?_
        obtain ⟨s7, h⟩ := h
        refine r_iae c107_70 (oK hK o41) (bd l41 s7) rfl ?_
        exact r_iret c107_71 (Or.inl rfl) h
      by_cases hv2 : l2 = (2 : Int)
      · rw [show tsw 16 86 0 4 #[36, 46, 56, 66, 76] l2 = 72 from by rw [hv2]; decide]
        replace h := h.2.2.1 hv2
        refine r_aload_n c107_72 rfl ?_
        refine r_getR c107_73 (oK hK o32) (FX.get (b := 40) hX (by decide) (by decide +kernel) (by decide)) (by decide) ?_
        refine r_getR c107_76 (oK hK o40) (FX.get (b := 42) hX (by decide) (by decide +kernel) (by decide)) (by decide) ?_
        refine r_iload_n c107_79 rfl ?_
        obtain ⟨s8, h⟩ := h
        refine r_iae c107_80 (oK hK o42) (bd l42 s8) rfl ?_
        exact r_iret c107_81 (Or.inl rfl) h
      by_cases hv3 : l2 = (3 : Int)
      · rw [show tsw 16 86 0 4 #[36, 46, 56, 66, 76] l2 = 82 from by rw [hv3]; decide]
        replace h := h.2.2.2.1 hv3
        refine r_aload_n c107_82 rfl ?_
        refine r_getR c107_83 (oK hK o32) (FX.get (b := 40) hX (by decide) (by decide +kernel) (by decide)) (by decide) ?_
        refine r_getR c107_86 (oK hK o40) (FX.get (b := 43) hX (by decide) (by decide +kernel) (by decide)) (by decide) ?_
        refine r_iload_n c107_89 rfl ?_
        obtain ⟨s9, h⟩ := h
        refine r_iae c107_90 (oK hK o43) (bd l43 s9) rfl ?_
        exact r_iret c107_91 (Or.inl rfl) h
      by_cases hv4 : l2 = (4 : Int)
      · rw [show tsw 16 86 0 4 #[36, 46, 56, 66, 76] l2 = 92 from by rw [hv4]; decide]
        replace h := h.2.2.2.2.1 hv4
        refine r_aload_n c107_92 rfl ?_
        refine r_getR c107_93 (oK hK o32) (FX.get (b := 40) hX (by decide) (by decide +kernel) (by decide)) (by decide) ?_
        refine r_getR c107_96 (oK hK o40) (FX.get (b := 44) hX (by decide) (by decide +kernel) (by decide)) (by decide) ?_
        refine r_iload_n c107_99 rfl ?_
        obtain ⟨s10, h⟩ := h
        refine r_iae c107_100 (oK hK o44) (bd l44 s10) rfl ?_
        exact r_iret c107_101 (Or.inl rfl) h
      have hvd : l2 < (0 : Int) ∨ (4 : Int) < l2 := by omega
      rw [show tsw 16 86 0 4 #[36, 46, 56, 66, 76] l2 = 102 from by unfold tsw; rw [if_pos hvd]; decide]
      replace h := h.2.2.2.2.2 hvd
      refine r_aload_n c107_102 rfl ?_
      refine r_getR c107_103 (oK hK o32) (FX.get (b := 40) hX (by decide) (by decide +kernel) (by decide)) (by decide) ?_
      refine r_aload_n c107_106 rfl ?_
      obtain ⟨b11, h⟩ := h
      obtain ⟨e12, h⟩ := h
      obtain ⟨k13, h⟩ := h
      refine r_getR c107_107 (oK hK o32) e12 (by have := (isO_d k13).1; omega) ?_
      refine r_iload_n c107_110 rfl ?_
      refine r_aload_n c107_111 rfl ?_
      refine r_getR c107_112 (oK hK o32) e12 (by have := (isO_d k13).1; omega) ?_
      refine r_aload_n c107_115 rfl ?_
      refine r_getR c107_116 (oK hK o32) (FX.get (b := 40) hX (by decide) (by decide +kernel) (by decide)) (by decide) ?_
      refine r_getIe c107_119 (oK hK o40) rfl ?_
      obtain ⟨c14, h⟩ := h
      obtain ⟨p15, h⟩ := h
      refine r_call c107_122 rfl rfl (Nat.le_of_ble_eq_true rfl) (okc_r rfl rfl (oK hK k13)) (g7 hK hX k13 p15 (Bk_v ?_))
      obtain ⟨c16, h⟩ := h
      obtain ⟨s17, h⟩ := h
      obtain ⟨L18, h⟩ := h
      obtain ⟨la19, h⟩ := h
      obtain ⟨p20, h⟩ := h
      obtain ⟨p21, h⟩ := h
      refine r_call c107_125 rfl rfl (Nat.le_of_ble_eq_true rfl) (okc_r rfl rfl (oK hK o40)) (g44 hK hX o40 k13 p21 (fun M24 x22 p23 => Bk_v ?_))
      replace h := h M24 x22 p23
      exact r_iret c107_128 (Or.inl rfl) h
    · replace h := h.2 hc
      exact h
  · replace h := h.2 hc
    exact h
theorem u108_0 {d : Nat} {l1 : Int} {M : Mem} {K : KK} {Q : RR → Mem → KK → Prop} (hK : K.1 = 923) (hX : FX M)  (h : ∃ b1 : Nat, (M 32 11) = (b1 : Int) ∧ isO 923 b1 0 = true ∧ (((0 : Int) ≤ l1 ∧ l1 ≤ (w32 ((M b1 7) - (1 : Int)))) → (0 ≤ l1 ∧ l1 < (8 : Int)) ∧ Q (.inl (some (vI (M (b1 + 4) (Int.toNat l1))))) M K) ∧ (¬ ((0 : Int) ≤ l1 ∧ l1 ≤ (w32 ((M b1 7) - (1 : Int)))) → Q (.inr 1) (mset M 32 18 (w32 ((M 32 18) + 1))) (K.1, K.2.1 + 1, K.2.2 + 6))) : Wp (d + 1) 108 0 [vR 32, vI l1] [] M K Q := by
  refine r_aload_n c108_0 rfl ?_
  refine r_iload_n c108_1 rfl ?_
  refine r_iconst c108_2 ?_
  refine r_aload_n c108_3 rfl ?_
  obtain ⟨b1, h⟩ := h
  obtain ⟨e2, h⟩ := h
  obtain ⟨k3, h⟩ := h
  refine r_getR c108_4 (oK hK o32) e2 (by have := (isO_d k3).1; omega) ?_
  refine r_getIe c108_7 (oK hK k3) rfl ?_
  refine r_iconst c108_10 ?_
  refine r_isub c108_11 ?_
  refine r_call c108_12 rfl rfl (Nat.le_of_ble_eq_true rfl) (okc_s rfl rfl rfl) (g142 hK hX  (Bk_v ?_))
  refine r_call c108_15 rfl rfl (Nat.le_of_ble_eq_true rfl) (okc_r rfl rfl (oK hK o32)) (n137b hK hX (fun hc => Bk_n ?_) (fun hc => Bk_e rfl rfl rfl ?_))
  · replace h := h.1 hc
    refine r_aload_n c108_18 rfl ?_
    refine r_getR c108_19 (oK hK o32) e2 (by have := (isO_d k3).1; omega) ?_
    refine r_getR c108_22 (oK hK k3) (fx0_3 hX k3) (by omega) ?_
    refine r_iload_n c108_25 rfl ?_
    obtain ⟨s4, h⟩ := h
    refine r_iae c108_26 (oK hK (q0_3 k3)) (bd (z0_3 k3) s4) rfl ?_
    exact r_iret c108_27 (Or.inl rfl) h
  · replace h := h.2 hc
    exact h
theorem u109_0 {d : Nat} {l1 : Int} {l2 : Int} {l3 : Int} {l4 : Int} {l5 : Int} {l6 : Int} {l7 : Int} {l8 : Int} {M : Mem} {K : KK} {Q : RR → Mem → KK → Prop} (hK : K.1 = 923) (hX : FX M)  (h : (¬ ((0 : Int) ≤ l1 ∧ l1 ≤ (54 : Int)) → Wp (d + 2) 109 36 [vR 32, vI l1, vI l2, vI l3, vI l4, vI l5, vI l6, vI l7, vI l8, vU] [vI (0 : Int), vR 32] M K Q) ∧ (((0 : Int) ≤ l1 ∧ l1 ≤ (54 : Int)) → (¬ ((1 : Int) ≤ l2 ∧ l2 ≤ (6 : Int)) → Wp (d + 2) 109 36 [vR 32, vI l1, vI l2, vI l3, vI l4, vI l5, vI l6, vI l7, vI l8, vU] [vI (0 : Int), vR 32] M K Q) ∧ (((1 : Int) ≤ l2 ∧ l2 ≤ (6 : Int)) → (¬ ((0 : Int) ≤ l3 ∧ l3 ≤ (99 : Int)) → Wp (d + 2) 109 36 [vR 32, vI l1, vI l2, vI l3, vI l4, vI l5, vI l6, vI l7, vI l8, vU] [vI (0 : Int), vR 32] M K Q) ∧ (((0 : Int) ≤ l3 ∧ l3 ≤ (99 : Int)) → Wp (d + 2) 109 36 [vR 32, vI l1, vI l2, vI l3, vI l4, vI l5, vI l6, vI l7, vI l8, vU] [vI (1 : Int), vR 32] M K Q)))) : Wp (d + 2) 109 0 [vR 32, vI l1, vI l2, vI l3, vI l4, vI l5, vI l6, vI l7, vI l8, vU] [] M K Q := by
  refine r_aload_n c109_0 rfl ?_
  refine r_iload_n c109_1 rfl ?_
  refine r_iconst c109_2 ?_
  refine r_bipush c109_3 ?_
  refine r_call c109_5 rfl rfl (Nat.le_of_ble_eq_true rfl) (okc_s rfl rfl rfl) (g142 hK hX  (Bk_v ?_))
  refine r_ifP (P := ¬ ((0 : Int) ≤ l1 ∧ l1 ≤ (54 : Int))) c109_8 bI_eq (fun hc1 => ?_) (fun hc1 => ?_)
  · replace h := h.1 hc1
    refine r_iconst c109_35 ?_
    exact h
  · have hc2 := Classical.not_not.mp hc1
    replace h := h.2 hc2
    refine r_iload_n c109_11 rfl ?_
    refine r_iconst c109_12 ?_
    refine r_bipush c109_13 ?_
    refine r_call c109_15 rfl rfl (Nat.le_of_ble_eq_true rfl) (okc_s rfl rfl rfl) (g142 hK hX  (Bk_v ?_))
    refine r_ifP (P := ¬ ((1 : Int) ≤ l2 ∧ l2 ≤ (6 : Int))) c109_18 bI_eq (fun hc3 => ?_) (fun hc3 => ?_)
    · replace h := h.1 hc3
      refine r_iconst c109_35 ?_
      exact h
    · have hc4 := Classical.not_not.mp hc3
      replace h := h.2 hc4
      refine r_iload_n c109_21 rfl ?_
      refine r_iconst c109_22 ?_
      refine r_bipush c109_23 ?_
      refine r_call c109_25 rfl rfl (Nat.le_of_ble_eq_true rfl) (okc_s rfl rfl rfl) (g142 hK hX  (Bk_v ?_))
      refine r_ifP (P := ¬ ((0 : Int) ≤ l3 ∧ l3 ≤ (99 : Int))) c109_28 bI_eq (fun hc5 => ?_) (fun hc5 => ?_)
      · replace h := h.1 hc5
        refine r_iconst c109_35 ?_
        exact h
      · have hc6 := Classical.not_not.mp hc5
        replace h := h.2 hc6
        refine r_iconst c109_31 ?_
        refine r_goto c109_32 ?_
        exact h
theorem u109_36 {d : Nat} {l1 : Int} {l2 : Int} {l3 : Int} {l4 : Int} {l5 : Int} {l6 : Int} {l7 : Int} {l8 : Int} {t1 : Int} {M : Mem} {K : KK} {Q : RR → Mem → KK → Prop} (hK : K.1 = 923) (hX : FX M)  (h : ((¬ t1 = 0) → (¬ ((0 : Int) ≤ l4 ∧ l4 ≤ (9 : Int)) → Q (.inr 0) (mset M 32 19 (w32 ((M 32 19) + 1))) (K.1, K.2.1 + 1, K.2.2 + 6)) ∧ (((0 : Int) ≤ l4 ∧ l4 ≤ (9 : Int)) → (¬ ((0 : Int) ≤ l5 ∧ l5 ≤ (9 : Int)) → Q (.inr 0) (mset M 32 19 (w32 ((M 32 19) + 1))) (K.1, K.2.1 + 1, K.2.2 + 6)) ∧ (((0 : Int) ≤ l5 ∧ l5 ≤ (9 : Int)) → (¬ ((0 : Int) ≤ l6 ∧ l6 ≤ (1 : Int)) → Q (.inr 0) (mset M 32 19 (w32 ((M 32 19) + 1))) (K.1, K.2.1 + 1, K.2.2 + 6)) ∧ (((0 : Int) ≤ l6 ∧ l6 ≤ (1 : Int)) → (¬ ((0 : Int) ≤ l7 ∧ l7 ≤ (500 : Int)) → Q (.inr 0) (mset M 32 19 (w32 ((M 32 19) + 1))) (K.1, K.2.1 + 1, K.2.2 + 6)) ∧ (((0 : Int) ≤ l7 ∧ l7 ≤ (500 : Int)) → (¬ ((0 : Int) ≤ l8 ∧ l8 ≤ (11 : Int)) → Q (.inr 0) (mset M 32 19 (w32 ((M 32 19) + 1))) (K.1, K.2.1 + 1, K.2.2 + 6)) ∧ (((0 : Int) ≤ l8 ∧ l8 ≤ (11 : Int)) → ∃ b11 : Nat, (M 32 11) = (b11 : Int) ∧ isO 923 b11 0 = true ∧ ∃ b14 : Nat, (M b11 11) = (b14 : Int) ∧ isO 923 b14 2 = true ∧ ∃ L25 : LC, (CR (mset (mset (mset (mset (mset (mset (mset (mset M (b14 + 1) 0 l1) (b14 + 1) 1 l2) (b14 + 1) 2 l3) (b14 + 1) 3 l4) (b14 + 1) 4 l5) (b14 + 1) 5 l6) (b14 + 1) 6 l7) (b14 + 1) 7 l8) b14 L25 ∧ Vd L25 0 1) ∧ (∀ (M29 : Mem), FX M29 → FrK b14 (mset (mset (mset (mset (mset (mset (mset (mset M (b14 + 1) 0 l1) (b14 + 1) 1 l2) (b14 + 1) 2 l3) (b14 + 1) 3 l4) (b14 + 1) 4 l5) (b14 + 1) 5 l6) (b14 + 1) 6 l7) (b14 + 1) 7 l8) M29 → Q (.inl (some (vI (clmp ((evA ((mset (mset (mset (mset (mset (mset (mset (mset M (b14 + 1) 0 l1) (b14 + 1) 1 l2) (b14 + 1) 2 l3) (b14 + 1) 3 l4) (b14 + 1) 4 l5) (b14 + 1) 5 l6) (b14 + 1) 6 l7) (b14 + 1) 7 l8) (b14 + 1)) L25).2 0))))) M29 K))))))) ∧ (¬ (¬ t1 = 0) → Q (.inr 0) (mset M 32 19 (w32 ((M 32 19) + 1))) (K.1, K.2.1 + 1, K.2.2 + 6))) : Wp (d + 2) 109 36 [vR 32, vI l1, vI l2, vI l3, vI l4, vI l5, vI l6, vI l7, vI l8, vU] [vI t1, vR 32] M K Q := by
  refine r_call c109_36 rfl rfl (Nat.le_of_ble_eq_true rfl) (okc_r rfl rfl (oK hK o32)) (n136 hK hX (fun hc => Bk_n ?_) (fun hc => Bk_e rfl rfl rfl ?_))
  · replace h := h.1 hc
    refine r_aload_n c109_39 rfl ?_
    refine r_iload c109_40 rfl ?_
    refine r_iconst c109_42 ?_
    refine r_bipush c109_43 ?_
    refine r_call c109_45 rfl rfl (Nat.le_of_ble_eq_true rfl) (okc_s rfl rfl rfl) (g142 hK hX  (Bk_v ?_))
    refine r_ifP (P := ¬ ((0 : Int) ≤ l4 ∧ l4 ≤ (9 : Int))) c109_48 bI_eq (fun hc1 => ?_) (fun hc1 => ?_)
    · replace h := h.1 hc1
      refine r_iconst c109_76 ?_
      refine r_call c109_77 rfl rfl (Nat.le_of_ble_eq_true rfl) (okc_r rfl rfl (oK hK o32)) (n136_0 hK hX (Bk_e rfl rfl rfl ?_))
      exact h
    · have hc2 := Classical.not_not.mp hc1
      replace h := h.2 hc2
      refine r_iload c109_51 rfl ?_
      refine r_iconst c109_53 ?_
      refine r_bipush c109_54 ?_
      refine r_call c109_56 rfl rfl (Nat.le_of_ble_eq_true rfl) (okc_s rfl rfl rfl) (g142 hK hX  (Bk_v ?_))
      refine r_ifP (P := ¬ ((0 : Int) ≤ l5 ∧ l5 ≤ (9 : Int))) c109_59 bI_eq (fun hc3 => ?_) (fun hc3 => ?_)
      · replace h := h.1 hc3
        refine r_iconst c109_76 ?_
        refine r_call c109_77 rfl rfl (Nat.le_of_ble_eq_true rfl) (okc_r rfl rfl (oK hK o32)) (n136_0 hK hX (Bk_e rfl rfl rfl ?_))
        exact h
      · have hc4 := Classical.not_not.mp hc3
        replace h := h.2 hc4
        refine r_iload c109_62 rfl ?_
        refine r_iconst c109_64 ?_
        refine r_iconst c109_65 ?_
        refine r_call c109_66 rfl rfl (Nat.le_of_ble_eq_true rfl) (okc_s rfl rfl rfl) (g142 hK hX  (Bk_v ?_))
        refine r_ifP (P := ¬ ((0 : Int) ≤ l6 ∧ l6 ≤ (1 : Int))) c109_69 bI_eq (fun hc5 => ?_) (fun hc5 => ?_)
        · replace h := h.1 hc5
          refine r_iconst c109_76 ?_
          refine r_call c109_77 rfl rfl (Nat.le_of_ble_eq_true rfl) (okc_r rfl rfl (oK hK o32)) (n136_0 hK hX (Bk_e rfl rfl rfl ?_))
          exact h
        · have hc6 := Classical.not_not.mp hc5
          replace h := h.2 hc6
          refine r_iconst c109_72 ?_
          refine r_goto c109_73 ?_
          refine r_call c109_77 rfl rfl (Nat.le_of_ble_eq_true rfl) (okc_r rfl rfl (oK hK o32)) (n136_1 hK hX (Bk_n ?_))
          refine r_aload_n c109_80 rfl ?_
          refine r_iload c109_81 rfl ?_
          refine r_iconst c109_83 ?_
          refine r_sipush c109_84 ?_
          refine r_call c109_87 rfl rfl (Nat.le_of_ble_eq_true rfl) (okc_s rfl rfl rfl) (g142 hK hX  (Bk_v ?_))
          refine r_ifP (P := ¬ ((0 : Int) ≤ l7 ∧ l7 ≤ (500 : Int))) c109_90 bI_eq (fun hc7 => ?_) (fun hc7 => ?_)
          · replace h := h.1 hc7
            refine r_iconst c109_108 ?_
            refine r_call c109_109 rfl rfl (Nat.le_of_ble_eq_true rfl) (okc_r rfl rfl (oK hK o32)) (n136_0 hK hX (Bk_e rfl rfl rfl ?_))
            exact h
          · have hc8 := Classical.not_not.mp hc7
            replace h := h.2 hc8
            refine r_iload c109_93 rfl ?_
            refine r_iconst c109_95 ?_
            refine r_bipush c109_96 ?_
            refine r_call c109_98 rfl rfl (Nat.le_of_ble_eq_true rfl) (okc_s rfl rfl rfl) (g142 hK hX  (Bk_v ?_))
            refine r_ifP (P := ¬ ((0 : Int) ≤ l8 ∧ l8 ≤ (11 : Int))) c109_101 bI_eq (fun hc9 => ?_) (fun hc9 => ?_)
            · replace h := h.1 hc9
              refine r_iconst c109_108 ?_
              refine r_call c109_109 rfl rfl (Nat.le_of_ble_eq_true rfl) (okc_r rfl rfl (oK hK o32)) (n136_0 hK hX (Bk_e rfl rfl rfl ?_))
              exact h
            · have hc10 := Classical.not_not.mp hc9
              replace h := h.2 hc10
              refine r_iconst c109_104 ?_
              refine r_goto c109_105 ?_
              refine r_call c109_109 rfl rfl (Nat.le_of_ble_eq_true rfl) (okc_r rfl rfl (oK hK o32)) (n136_1 hK hX (Bk_n ?_))
              refine r_aload_n c109_112 rfl ?_
              obtain ⟨b11, h⟩ := h
              obtain ⟨e12, h⟩ := h
              obtain ⟨k13, h⟩ := h
              refine r_getR c109_113 (oK hK o32) e12 (by have := (isO_d k13).1; omega) ?_
              obtain ⟨b14, h⟩ := h
              obtain ⟨e15, h⟩ := h
              obtain ⟨k16, h⟩ := h
              refine r_getR c109_116 (oK hK k13) e15 (by have := (isO_d k16).1; omega) ?_
              refine r_getR c109_119 (oK hK k16) (fx2_0 hX k16) (by omega) ?_
              refine r_astore c109_122 (Nat.le_of_ble_eq_true rfl) ?_
              refine r_aload c109_124 rfl ?_
              refine r_iconst c109_126 ?_
              refine r_iload_n c109_127 rfl ?_
              refine r_ias c109_128 (oK hK (q2_0 k16)) (bd (z2_0 k16) (by decide)) ?_
              have x17 := FX.set (v := l1) (a := (b14 + 1)) (k := 0) hX (nfa (q2_0 k16) _)
              refine r_aload c109_129 rfl ?_
              refine r_iconst c109_131 ?_
              refine r_iload_n c109_132 rfl ?_
              refine r_ias c109_133 (oK hK (q2_0 k16)) (bd (z2_0 k16) (by decide)) ?_
              have x18 := FX.set (v := l2) (a := (b14 + 1)) (k := 1) x17 (nfa (q2_0 k16) _)
              refine r_aload c109_134 rfl ?_
              refine r_iconst c109_136 ?_
              refine r_iload_n c109_137 rfl ?_
              refine r_ias c109_138 (oK hK (q2_0 k16)) (bd (z2_0 k16) (by decide)) ?_
              have x19 := FX.set (v := l3) (a := (b14 + 1)) (k := 2) x18 (nfa (q2_0 k16) _)
              refine r_aload c109_139 rfl ?_
              refine r_iconst c109_141 ?_
              refine r_iload c109_142 rfl ?_
              refine r_ias c109_144 (oK hK (q2_0 k16)) (bd (z2_0 k16) (by decide)) ?_
              have x20 := FX.set (v := l4) (a := (b14 + 1)) (k := 3) x19 (nfa (q2_0 k16) _)
              refine r_aload c109_145 rfl ?_
              refine r_iconst c109_147 ?_
              refine r_iload c109_148 rfl ?_
              refine r_ias c109_150 (oK hK (q2_0 k16)) (bd (z2_0 k16) (by decide)) ?_
              have x21 := FX.set (v := l5) (a := (b14 + 1)) (k := 4) x20 (nfa (q2_0 k16) _)
              refine r_aload c109_151 rfl ?_
              refine r_iconst c109_153 ?_
              refine r_iload c109_154 rfl ?_
              refine r_ias c109_156 (oK hK (q2_0 k16)) (bd (z2_0 k16) (by decide)) ?_
              have x22 := FX.set (v := l6) (a := (b14 + 1)) (k := 5) x21 (nfa (q2_0 k16) _)
              refine r_aload c109_157 rfl ?_
              refine r_bipush c109_159 ?_
              refine r_iload c109_161 rfl ?_
              refine r_ias c109_163 (oK hK (q2_0 k16)) (bd (z2_0 k16) (by decide)) ?_
              have x23 := FX.set (v := l7) (a := (b14 + 1)) (k := 6) x22 (nfa (q2_0 k16) _)
              refine r_aload c109_164 rfl ?_
              refine r_bipush c109_166 ?_
              refine r_iload c109_168 rfl ?_
              refine r_ias c109_170 (oK hK (q2_0 k16)) (bd (z2_0 k16) (by decide)) ?_
              have x24 := FX.set (v := l8) (a := (b14 + 1)) (k := 7) x23 (nfa (q2_0 k16) _)
              refine r_aload_n c109_171 rfl ?_
              refine r_getR c109_172 (oK hK o32) (Eq.trans (Eq.trans (ms_na (by have := rg2 k16; omega)) (Eq.trans (ms_na (by have := rg2 k16; omega)) (Eq.trans (ms_na (by have := rg2 k16; omega)) (Eq.trans (ms_na (by have := rg2 k16; omega)) (Eq.trans (ms_na (by have := rg2 k16; omega)) (Eq.trans (ms_na (by have := rg2 k16; omega)) (Eq.trans (ms_na (by have := rg2 k16; omega)) (ms_na (by have := rg2 k16; omega))))))))) e12) (by have := (isO_d k13).1; omega) ?_
              refine r_getR c109_175 (oK hK k13) (Eq.trans (Eq.trans (ms_na (by have := rg0 k13; have := rg2 k16; omega)) (Eq.trans (ms_na (by have := rg0 k13; have := rg2 k16; omega)) (Eq.trans (ms_na (by have := rg0 k13; have := rg2 k16; omega)) (Eq.trans (ms_na (by have := rg0 k13; have := rg2 k16; omega)) (Eq.trans (ms_na (by have := rg0 k13; have := rg2 k16; omega)) (Eq.trans (ms_na (by have := rg0 k13; have := rg2 k16; omega)) (Eq.trans (ms_na (by have := rg0 k13; have := rg2 k16; omega)) (ms_na (by have := rg0 k13; have := rg2 k16; omega))))))))) e15) (by have := (isO_d k16).1; omega) ?_
              obtain ⟨L25, h⟩ := h
              obtain ⟨p26, h⟩ := h
              refine r_call c109_178 rfl rfl (Nat.le_of_ble_eq_true rfl) (okc_r rfl rfl (oK hK k16)) (g26 hK x24 k16 p26 (fun M29 x27 p28 => Bk_v ?_))
              replace h := h M29 x27 p28
              exact r_iret c109_181 (Or.inl rfl) h
  · replace h := h.2 hc
    exact h
theorem u110_0 {d : Nat} {l1 : Int} {l2 : Int} {M : Mem} {K : KK} {Q : RR → Mem → KK → Prop} (hK : K.1 = 923) (hX : FX M)  (h : ∃ n1 : Nat, StN M n1 ∧ ((0 ≤ l1 ∧ l1 < (n1 : Int)) → ∃ n3 : Nat, CeN M n3 ∧ ((0 ≤ l2 ∧ l2 < (n3 : Int)) → ∃ b5 : Nat, (M 32 11) = (b5 : Int) ∧ isO 923 b5 0 = true ∧ ∃ c8 : Mem, ∃ s9 : Mem, ∃ p10 : Nat, (l1 = (p10 : Int) ∧ SKc M b5 40 c8 s9 ∧ p10 < nSt c8 ∧ 0 ≤ l2 ∧ l2 ≤ 12) ∧ Q (.inl (some (vI (bI (roomS c8 s9 p10 l2 = true))))) M K) ∧ (¬ (0 ≤ l2 ∧ l2 < (n3 : Int)) → Q (.inr 1) (mset M 32 18 (w32 ((M 32 18) + 1))) (K.1, K.2.1 + 1, K.2.2 + 6))) ∧ (¬ (0 ≤ l1 ∧ l1 < (n1 : Int)) → Q (.inr 1) (mset M 32 18 (w32 ((M 32 18) + 1))) (K.1, K.2.1 + 1, K.2.2 + 6))) : Wp (d + 2) 110 0 [vR 32, vI l1, vI l2] [] M K Q := by
  refine r_aload_n c110_0 rfl ?_
  refine r_iload_n c110_1 rfl ?_
  obtain ⟨n1, h⟩ := h
  obtain ⟨p2, h⟩ := h
  refine r_call c110_2 rfl rfl (Nat.le_of_ble_eq_true rfl) (okc_r rfl rfl (oK hK o32)) (n138 hK hX p2 (fun hc => Bk_n ?_) (fun hc => Bk_e rfl rfl rfl ?_))
  · replace h := h.1 hc
    refine r_aload_n c110_5 rfl ?_
    refine r_iload_n c110_6 rfl ?_
    obtain ⟨n3, h⟩ := h
    obtain ⟨p4, h⟩ := h
    refine r_call c110_7 rfl rfl (Nat.le_of_ble_eq_true rfl) (okc_r rfl rfl (oK hK o32)) (n139 hK hX p4 (fun hc => Bk_n ?_) (fun hc => Bk_e rfl rfl rfl ?_))
    · replace h := h.1 hc
      refine r_aload_n c110_10 rfl ?_
      refine r_getR c110_11 (oK hK o32) (FX.get (b := 40) hX (by decide) (by decide +kernel) (by decide)) (by decide) ?_
      refine r_aload_n c110_14 rfl ?_
      obtain ⟨b5, h⟩ := h
      obtain ⟨e6, h⟩ := h
      obtain ⟨k7, h⟩ := h
      refine r_getR c110_15 (oK hK o32) e6 (by have := (isO_d k7).1; omega) ?_
      refine r_iload_n c110_18 rfl ?_
      refine r_iload_n c110_19 rfl ?_
      obtain ⟨c8, h⟩ := h
      obtain ⟨s9, h⟩ := h
      obtain ⟨p10, h⟩ := h
      obtain ⟨p11, h⟩ := h
      refine r_call c110_20 rfl rfl (Nat.le_of_ble_eq_true rfl) (okc_r rfl rfl (oK hK o40)) (g37z hK hX o40 k7 p11 (Bk_v ?_))
      exact r_iret c110_23 (Or.inr bI_01) h
    · replace h := h.2 hc
      exact h
  · replace h := h.2 hc
    exact h
theorem u206_0 {d : Nat} {l1 : Int} {M : Mem} {K : KK} {Q : RR → Mem → KK → Prop} (hK : K.1 = 923) (hX : FX M)  (h : (((0 : Int) ≤ l1 ∧ l1 ≤ (11 : Int)) → Wp (d + 1) 206 35 [vR 440, vI l1, vI (0 : Int), vI (0 : Int)] [] (mset M 440 0 (0 : Int)) K Q) ∧ (¬ ((0 : Int) ≤ l1 ∧ l1 ≤ (11 : Int)) → (∀ (M5 : Mem), FX M5 → BadM 1 1 (mset M 440 0 (0 : Int)) M5 → Q (.inl (some (vI (0 : Int)))) M5 K))) : Wp (d + 1) 206 0 [vR 440, vI l1, vU, vU] [] M K Q := by
  refine r_aload_n c206_0 rfl ?_
  refine r_iconst c206_1 ?_
  refine r_putI c206_2 (oK hK o440) ?_
  have x1 := FX.set (v := (0 : Int)) (a := 440) (k := 0) hX (by decide +kernel)
  refine r_aload_n c206_5 rfl ?_
  refine r_iload_n c206_6 rfl ?_
  refine r_iconst c206_7 ?_
  refine r_bipush c206_8 ?_
  refine r_call c206_10 rfl rfl (Nat.le_of_ble_eq_true rfl) (okc_s rfl rfl rfl) (g153 hK x1  (Bk_v ?_))
  refine r_ifP (P := ((0 : Int) ≤ l1 ∧ l1 ≤ (11 : Int))) c206_13 bI_ne (fun hc2 => ?_) (fun hc2 => ?_)
  · replace h := h.1 hc2
    refine r_iconst c206_20 ?_
    refine r_iconst c206_21 ?_
    refine r_iconst c206_22 ?_
    refine r_call c206_23 rfl rfl (Nat.le_of_ble_eq_true rfl) (okc_r rfl rfl (oK hK o440)) (b152_0 hK x1 ms_eq (Bk_v ?_))
    refine r_ifP (P := (0 : Int) = (0 : Int)) c206_26 rfl (fun hc => ?_) (fun hc => absurd (by decide) hc)
    refine r_iconst c206_31 ?_
    refine r_istore_n c206_32 (Nat.le_of_ble_eq_true rfl) ?_
    refine r_iconst c206_33 ?_
    refine r_istore_n c206_34 (Nat.le_of_ble_eq_true rfl) ?_
    exact h
  · replace h := h.2 hc2
    refine r_iconst c206_16 ?_
    refine r_goto c206_17 ?_
    refine r_iconst c206_21 ?_
    refine r_iconst c206_22 ?_
    refine r_call c206_23 rfl rfl (Nat.le_of_ble_eq_true rfl) (okc_r rfl rfl (oK hK o440)) (b152_1 (cd := 1) (ix := 1) hK x1 ms_eq (by decide) (by decide) (fun M5 x3 p4 => Bk_v ?_))
    replace h := h M5 x3 p4
    refine r_ifP (P := (1 : Int) = (0 : Int)) c206_26 rfl (fun hc => absurd hc (by decide)) (fun hc => ?_)
    refine r_iconst c206_29 ?_
    exact r_iret c206_30 (Or.inl rfl) h
theorem u206_35 {d : Nat} {l1 : Int} {l2 : Int} {l3 : Int} {M : Mem} {K : KK} {Q : RR → Mem → KK → Prop} (hK : K.1 = 923) (hX : FX M)  (h : ((M 444 1) ≤ l3 → (l1 = (0 : Int) ∨ l1 = (1 : Int) ∨ l1 = (2 : Int) ∨ l1 = (3 : Int) → (0 ≤ l1 ∧ l1 < (6 : Int)) ∧ Q (.inl (some (vI (M 444 (Int.toNat l1))))) M K) ∧ (l1 = (4 : Int) → Q (.inl (some (vI (M 888 24)))) M K) ∧ (l1 = (5 : Int) → ∃ c3 : Mem, ∃ s4 : Mem, ∃ dr5 : Int, SM M 888 c3 s4 dr5 ∧ Q (.inl (some (vI (rainM c3 s4 dr5)))) M K) ∧ (l1 = (6 : Int) → Q (.inl (some (vI (M 888 25)))) M K) ∧ (l1 = (7 : Int) → Q (.inl (some (vI l2))) M K) ∧ (l1 = (8 : Int) → ∃ c7 : Mem, ∃ s8 : Mem, ∃ dr9 : Int, SM M 888 c7 s8 dr9 ∧ Q (.inl (some (vI (whiteS c7 s8 : Int)))) M K) ∧ (l1 = (9 : Int) → Q (.inl (some (vI (M 440 35)))) M K) ∧ (l1 = (10 : Int) → Q (.inl (some (vI (M 440 37)))) M K) ∧ (l1 < (0 : Int) ∨ (10 : Int) < l1 → ∃ c11 : Mem, ∃ s12 : Mem, ∃ dr13 : Int, SM M 888 c11 s12 dr13 ∧ Q (.inl (some (vI (greyS c11 s12)))) M K)) ∧ (¬ ((M 444 1) ≤ l3) → (0 ≤ (w32 ((0 : Int) + l3)) ∧ (w32 ((0 : Int) + l3)) < (27 : Int)) ∧ (¬ (M 888 (Int.toNat (w32 ((0 : Int) + l3)))) = (-1 : Int) → Wp (d + 1) 206 35 [vR 440, vI l1, vI (w32 (l2 + (1 : Int))), vI (w32 (l3 + 1))] [] M K Q) ∧ ((M 888 (Int.toNat (w32 ((0 : Int) + l3)))) = (-1 : Int) → Wp (d + 1) 206 35 [vR 440, vI l1, vI (w32 (l2 + (0 : Int))), vI (w32 (l3 + 1))] [] M K Q))) : Wp (d + 1) 206 35 [vR 440, vI l1, vI l2, vI l3] [] M K Q := by
  refine r_iload_n c206_35 rfl ?_
  refine r_aload_n c206_36 rfl ?_
  refine r_getR c206_37 (oK hK o440) (FX.get (b := 444) hX (by decide) (by decide +kernel) (by decide)) (by decide) ?_
  refine r_iconst c206_40 ?_
  refine r_iae c206_41 (oK hK o444) (bd l444 (by decide)) rfl ?_
  refine r_icmpP (P := (M 444 1) ≤ l3) c206_42 rfl (fun hc1 => ?_) (fun hc1 => ?_)
  · replace h := h.1 hc1
    refine r_iload_n c206_71 rfl ?_
    refine r_tsw c206_72 ?_
    by_cases hv0 : l1 = (0 : Int) ∨ l1 = (1 : Int) ∨ l1 = (2 : Int) ∨ l1 = (3 : Int)
    · rw [show tsw 72 113 0 10 #[60, 60, 60, 60, 67, 75, 84, 92, 94, 103, 108] l1 = 132 from by rcases hv0 with hv | hv | hv | hv <;> (rw [hv]; decide)]
      replace h := h.1 hv0
      refine r_aload_n c206_132 rfl ?_
      refine r_getR c206_133 (oK hK o440) (FX.get (b := 444) hX (by decide) (by decide +kernel) (by decide)) (by decide) ?_
      refine r_iload_n c206_136 rfl ?_
      obtain ⟨s2, h⟩ := h
      refine r_iae c206_137 (oK hK o444) (bd l444 s2) rfl ?_
      exact r_iret c206_138 (Or.inl rfl) h
    by_cases hv1 : l1 = (4 : Int)
    · rw [show tsw 72 113 0 10 #[60, 60, 60, 60, 67, 75, 84, 92, 94, 103, 108] l1 = 139 from by rw [hv1]; decide]
      replace h := h.2.1 hv1
      refine r_aload_n c206_139 rfl ?_
      refine r_getR c206_140 (oK hK o440) (FX.get (b := 888) hX (by decide) (by decide +kernel) (by decide)) (by decide) ?_
      refine r_bipush c206_143 ?_
      refine r_iae c206_145 (oK hK o888) (bd l888 (by decide)) rfl ?_
      exact r_iret c206_146 (Or.inl rfl) h
    by_cases hv2 : l1 = (5 : Int)
    · rw [show tsw 72 113 0 10 #[60, 60, 60, 60, 67, 75, 84, 92, 94, 103, 108] l1 = 147 from by rw [hv2]; decide]
      replace h := h.2.2.1 hv2
      refine r_aload_n c206_147 rfl ?_
      refine r_aload_n c206_148 rfl ?_
      refine r_getR c206_149 (oK hK o440) (FX.get (b := 888) hX (by decide) (by decide +kernel) (by decide)) (by decide) ?_
      obtain ⟨c3, h⟩ := h
      obtain ⟨s4, h⟩ := h
      obtain ⟨dr5, h⟩ := h
      obtain ⟨p6, h⟩ := h
      refine r_call c206_152 rfl rfl (Nat.le_of_ble_eq_true rfl) (okc_r rfl rfl (oK hK o440)) (g193 hK hX o888 l888 p6 (Bk_v ?_))
      exact r_iret c206_155 (Or.inl rfl) h
    by_cases hv3 : l1 = (6 : Int)
    · rw [show tsw 72 113 0 10 #[60, 60, 60, 60, 67, 75, 84, 92, 94, 103, 108] l1 = 156 from by rw [hv3]; decide]
      replace h := h.2.2.2.1 hv3
      refine r_aload_n c206_156 rfl ?_
      refine r_getR c206_157 (oK hK o440) (FX.get (b := 888) hX (by decide) (by decide +kernel) (by decide)) (by decide) ?_
      refine r_bipush c206_160 ?_
      refine r_iae c206_162 (oK hK o888) (bd l888 (by decide)) rfl ?_
      exact r_iret c206_163 (Or.inl rfl) h
    by_cases hv4 : l1 = (7 : Int)
    · rw [show tsw 72 113 0 10 #[60, 60, 60, 60, 67, 75, 84, 92, 94, 103, 108] l1 = 164 from by rw [hv4]; decide]
      replace h := h.2.2.2.2.1 hv4
      refine r_iload_n c206_164 rfl ?_
      exact r_iret c206_165 (Or.inl rfl) h
    by_cases hv5 : l1 = (8 : Int)
    · rw [show tsw 72 113 0 10 #[60, 60, 60, 60, 67, 75, 84, 92, 94, 103, 108] l1 = 166 from by rw [hv5]; decide]
      replace h := h.2.2.2.2.2.1 hv5
      refine r_aload_n c206_166 rfl ?_
      refine r_aload_n c206_167 rfl ?_
      refine r_getR c206_168 (oK hK o440) (FX.get (b := 888) hX (by decide) (by decide +kernel) (by decide)) (by decide) ?_
      obtain ⟨c7, h⟩ := h
      obtain ⟨s8, h⟩ := h
      obtain ⟨dr9, h⟩ := h
      obtain ⟨p10, h⟩ := h
      refine r_call c206_171 rfl rfl (Nat.le_of_ble_eq_true rfl) (okc_r rfl rfl (oK hK o440)) (g205 hK hX o888 l888 p10 (Bk_v ?_))
      exact r_iret c206_174 (Or.inl rfl) h
    by_cases hv6 : l1 = (9 : Int)
    · rw [show tsw 72 113 0 10 #[60, 60, 60, 60, 67, 75, 84, 92, 94, 103, 108] l1 = 175 from by rw [hv6]; decide]
      replace h := h.2.2.2.2.2.2.1 hv6
      refine r_aload_n c206_175 rfl ?_
      refine r_getIe c206_176 (oK hK o440) rfl ?_
      exact r_iret c206_179 (Or.inl rfl) h
    by_cases hv7 : l1 = (10 : Int)
    · rw [show tsw 72 113 0 10 #[60, 60, 60, 60, 67, 75, 84, 92, 94, 103, 108] l1 = 180 from by rw [hv7]; decide]
      replace h := h.2.2.2.2.2.2.2.1 hv7
      refine r_aload_n c206_180 rfl ?_
      refine r_getIe c206_181 (oK hK o440) rfl ?_
      exact r_iret c206_184 (Or.inl rfl) h
    have hvd : l1 < (0 : Int) ∨ (10 : Int) < l1 := by omega
    rw [show tsw 72 113 0 10 #[60, 60, 60, 60, 67, 75, 84, 92, 94, 103, 108] l1 = 185 from by unfold tsw; rw [if_pos hvd]; decide]
    replace h := h.2.2.2.2.2.2.2.2 hvd
    refine r_aload_n c206_185 rfl ?_
    refine r_aload_n c206_186 rfl ?_
    refine r_getR c206_187 (oK hK o440) (FX.get (b := 888) hX (by decide) (by decide +kernel) (by decide)) (by decide) ?_
    obtain ⟨c11, h⟩ := h
    obtain ⟨s12, h⟩ := h
    obtain ⟨dr13, h⟩ := h
    obtain ⟨p14, h⟩ := h
    refine r_call c206_190 rfl rfl (Nat.le_of_ble_eq_true rfl) (okc_r rfl rfl (oK hK o440)) (g204 hK hX o888 l888 p14 (Bk_v ?_))
    exact r_iret c206_193 (Or.inl rfl) h
  · replace h := h.2 hc1
    refine r_iload_n c206_45 rfl ?_
    refine r_aload_n c206_46 rfl ?_
    refine r_getR c206_47 (oK hK o440) (FX.get (b := 888) hX (by decide) (by decide +kernel) (by decide)) (by decide) ?_
    refine r_iconst c206_50 ?_
    refine r_iload_n c206_51 rfl ?_
    refine r_iadd c206_52 ?_
    obtain ⟨s15, h⟩ := h
    refine r_iae c206_53 (oK hK o888) (bd l888 s15) rfl ?_
    refine r_iconst c206_54 ?_
    refine r_icmpP (P := ¬ (M 888 (Int.toNat (w32 ((0 : Int) + l3)))) = (-1 : Int)) c206_55 rfl (fun hc16 => ?_) (fun hc16 => ?_)
    · replace h := h.1 hc16
      refine r_iconst c206_62 ?_
      refine r_iadd c206_63 ?_
      refine r_istore_n c206_64 (Nat.le_of_ble_eq_true rfl) ?_
      refine r_iinc c206_65 rfl ?_
      refine r_goto c206_68 ?_
      exact h
    · have hc17 := Classical.not_not.mp hc16
      replace h := h.2 hc17
      refine r_iconst c206_58 ?_
      refine r_goto c206_59 ?_
      refine r_iadd c206_63 ?_
      refine r_istore_n c206_64 (Nat.le_of_ble_eq_true rfl) ?_
      refine r_iinc c206_65 rfl ?_
      refine r_goto c206_68 ?_
      exact h
theorem u210_0 {d : Nat} {l1 : Int} {l2 : Int} {M : Mem} {K : KK} {Q : RR → Mem → KK → Prop} (hK : K.1 = 923) (hX : FX M)  (h : ∃ n2 : Nat, CeM (mset M 440 0 (0 : Int)) n2 ∧ ((0 ≤ l1 ∧ l1 < (n2 : Int)) → (((0 : Int) ≤ l2 ∧ l2 ≤ (1 : Int)) → (¬ l2 = (0 : Int) → ∃ c8 : Mem, ∃ s9 : Mem, ∃ dr10 : Int, SM (mset M 440 0 (0 : Int)) 888 c8 s9 dr10 ∧ Q (.inl (some (vI (lyOn c8 s9 l1)))) (mset M 440 0 (0 : Int)) K) ∧ (l2 = (0 : Int) → (0 ≤ l1 ∧ l1 < (12 : Int)) ∧ Q (.inl (some (vI (M 446 (Int.toNat l1))))) (mset M 440 0 (0 : Int)) K)) ∧ (¬ ((0 : Int) ≤ l2 ∧ l2 ≤ (1 : Int)) → (∀ (M15 : Mem), FX M15 → BadM 2 1 (mset M 440 0 (0 : Int)) M15 → Q (.inl (some (vI (0 : Int)))) M15 K))) ∧ (¬ (0 ≤ l1 ∧ l1 < (n2 : Int)) → (∀ (M18 : Mem), FX M18 → BadM 1 0 (mset M 440 0 (0 : Int)) M18 → Q (.inl (some (vI (0 : Int)))) M18 K))) : Wp (d + 2) 210 0 [vR 440, vI l1, vI l2] [] M K Q := by
  refine r_aload_n c210_0 rfl ?_
  refine r_iconst c210_1 ?_
  refine r_putI c210_2 (oK hK o440) ?_
  have x1 := FX.set (v := (0 : Int)) (a := 440) (k := 0) hX (by decide +kernel)
  refine r_aload_n c210_5 rfl ?_
  refine r_aload_n c210_6 rfl ?_
  refine r_iload_n c210_7 rfl ?_
  obtain ⟨n2, h⟩ := h
  obtain ⟨p3, h⟩ := h
  refine r_call c210_8 rfl rfl (Nat.le_of_ble_eq_true rfl) (okc_r rfl rfl (oK hK o440)) (g207 hK x1 p3 (Bk_v ?_))
  refine r_ifP (P := (0 ≤ l1 ∧ l1 < (n2 : Int))) c210_11 bI_ne (fun hc4 => ?_) (fun hc4 => ?_)
  · replace h := h.1 hc4
    refine r_iconst c210_18 ?_
    refine r_iconst c210_19 ?_
    refine r_iconst c210_20 ?_
    refine r_call c210_21 rfl rfl (Nat.le_of_ble_eq_true rfl) (okc_r rfl rfl (oK hK o440)) (b152_0 hK x1 ms_eq (Bk_v ?_))
    refine r_ifP (P := ¬ (0 : Int) = (0 : Int)) c210_24 rfl (fun hc => absurd hc (by decide)) (fun hc => ?_)
    refine r_aload_n c210_27 rfl ?_
    refine r_iload_n c210_28 rfl ?_
    refine r_iconst c210_29 ?_
    refine r_iconst c210_30 ?_
    refine r_call c210_31 rfl rfl (Nat.le_of_ble_eq_true rfl) (okc_s rfl rfl rfl) (g153 hK x1  (Bk_v ?_))
    refine r_ifP (P := ((0 : Int) ≤ l2 ∧ l2 ≤ (1 : Int))) c210_34 bI_ne (fun hc5 => ?_) (fun hc5 => ?_)
    · replace h := h.1 hc5
      refine r_iconst c210_41 ?_
      refine r_iconst c210_42 ?_
      refine r_iconst c210_43 ?_
      refine r_call c210_44 rfl rfl (Nat.le_of_ble_eq_true rfl) (okc_r rfl rfl (oK hK o440)) (b152_0 hK x1 ms_eq (Bk_v ?_))
      refine r_ifP (P := (0 : Int) = (0 : Int)) c210_47 rfl (fun hc => ?_) (fun hc => absurd (by decide) hc)
      refine r_iload_n c210_52 rfl ?_
      refine r_ifP (P := ¬ l2 = (0 : Int)) c210_53 rfl (fun hc6 => ?_) (fun hc6 => ?_)
      · replace h := h.1 hc6
        refine r_aload_n c210_65 rfl ?_
        refine r_aload_n c210_66 rfl ?_
        refine r_getR c210_67 (oK hK o440) (FX.get (b := 888) x1 (by decide) (by decide +kernel) (by decide)) (by decide) ?_
        refine r_iload_n c210_70 rfl ?_
        obtain ⟨c8, h⟩ := h
        obtain ⟨s9, h⟩ := h
        obtain ⟨dr10, h⟩ := h
        obtain ⟨p11, h⟩ := h
        refine r_call c210_71 rfl rfl (Nat.le_of_ble_eq_true rfl) (okc_r rfl rfl (oK hK o440)) (g196 hK x1 o888 l888 p11 (Bk_v ?_))
        exact r_iret c210_74 (Or.inl rfl) h
      · have hc7 := Classical.not_not.mp hc6
        replace h := h.2 hc7
        refine r_aload_n c210_56 rfl ?_
        refine r_getR c210_57 (oK hK o440) (FX.get (b := 446) x1 (by decide) (by decide +kernel) (by decide)) (by decide) ?_
        refine r_iload_n c210_60 rfl ?_
        obtain ⟨s12, h⟩ := h
        refine r_iae c210_61 (oK hK o446) (bd l446 s12) (ms_na (by decide)) ?_
        refine r_goto c210_62 ?_
        exact r_iret c210_74 (Or.inl rfl) h
    · replace h := h.2 hc5
      refine r_iconst c210_37 ?_
      refine r_goto c210_38 ?_
      refine r_iconst c210_42 ?_
      refine r_iconst c210_43 ?_
      refine r_call c210_44 rfl rfl (Nat.le_of_ble_eq_true rfl) (okc_r rfl rfl (oK hK o440)) (b152_1 (cd := 2) (ix := 1) hK x1 ms_eq (by decide) (by decide) (fun M15 x13 p14 => Bk_v ?_))
      replace h := h M15 x13 p14
      refine r_ifP (P := (1 : Int) = (0 : Int)) c210_47 rfl (fun hc => absurd hc (by decide)) (fun hc => ?_)
      refine r_iconst c210_50 ?_
      exact r_iret c210_51 (Or.inl rfl) h
  · replace h := h.2 hc4
    refine r_iconst c210_14 ?_
    refine r_goto c210_15 ?_
    refine r_iconst c210_19 ?_
    refine r_iconst c210_20 ?_
    refine r_call c210_21 rfl rfl (Nat.le_of_ble_eq_true rfl) (okc_r rfl rfl (oK hK o440)) (b152_1 (cd := 1) (ix := 0) hK x1 ms_eq (by decide) (by decide) (fun M18 x16 p17 => Bk_v ?_))
    replace h := h M18 x16 p17
    refine r_ifP (P := ¬ (1 : Int) = (0 : Int)) c210_24 rfl (fun hc => ?_) (fun hc => absurd (by decide) hc)
    refine r_iconst c210_50 ?_
    exact r_iret c210_51 (Or.inl rfl) h
theorem u211_0 {d : Nat} {l1 : Int} {l2 : Int} {M : Mem} {K : KK} {Q : RR → Mem → KK → Prop} (hK : K.1 = 923) (hX : FX M)  (h : ∃ n2 : Nat, StM (mset M 440 0 (0 : Int)) n2 ∧ ((0 ≤ l1 ∧ l1 < (n2 : Int)) → (((0 : Int) ≤ l2 ∧ l2 ≤ (5 : Int)) → (l2 = (0 : Int) → (0 ≤ l1 ∧ l1 < (6 : Int)) ∧ Q (.inl (some (vI (M (459 + Int.toNat l1) 0)))) (mset M 440 0 (0 : Int)) K) ∧ (l2 = (1 : Int) → (0 ≤ (w32 ((6 : Int) + l1)) ∧ (w32 ((6 : Int) + l1)) < (27 : Int)) ∧ Q (.inl (some (vI (M 888 (Int.toNat (w32 ((6 : Int) + l1))))))) (mset M 440 0 (0 : Int)) K) ∧ (l2 = (2 : Int) → (0 ≤ (w32 ((0 : Int) + l1)) ∧ (w32 ((0 : Int) + l1)) < (27 : Int)) ∧ Q (.inl (some (vI (M 888 (Int.toNat (w32 ((0 : Int) + l1))))))) (mset M 440 0 (0 : Int)) K) ∧ (l2 = (3 : Int) → (0 ≤ (w32 ((12 : Int) + l1)) ∧ (w32 ((12 : Int) + l1)) < (27 : Int)) ∧ Q (.inl (some (vI (M 888 (Int.toNat (w32 ((12 : Int) + l1))))))) (mset M 440 0 (0 : Int)) K) ∧ (l2 = (4 : Int) → (0 ≤ (w32 ((18 : Int) + l1)) ∧ (w32 ((18 : Int) + l1)) < (27 : Int)) ∧ Q (.inl (some (vI (M 888 (Int.toNat (w32 ((18 : Int) + l1))))))) (mset M 440 0 (0 : Int)) K) ∧ (l2 < (0 : Int) ∨ (4 : Int) < l2 → ∃ c11 : Mem, ∃ s12 : Mem, ∃ L13 : LC, ∃ p14 : Nat, ∃ dr15 : Int, (l1 = (p14 : Int) ∧ SM (mset M 440 0 (0 : Int)) 888 c11 s12 dr15 ∧ LM (mset M 440 0 (0 : Int)) L13 ∧ p14 < nSt c11) ∧ (∀ (M19 : Mem), FX M19 → FrV (mset M 440 0 (0 : Int)) M19 → Q (.inl (some (vI (whN c11 s12 L13 p14 (rainM c11 s12 dr15))))) M19 K))) ∧ (¬ ((0 : Int) ≤ l2 ∧ l2 ≤ (5 : Int)) → (∀ (M22 : Mem), FX M22 → BadM 2 1 (mset M 440 0 (0 : Int)) M22 → Q (.inl (some (vI (0 : Int)))) M22 K))) ∧ (¬ (0 ≤ l1 ∧ l1 < (n2 : Int)) → (∀ (M25 : Mem), FX M25 → BadM 1 0 (mset M 440 0 (0 : Int)) M25 → Q (.inl (some (vI (0 : Int)))) M25 K))) : Wp (d + 5) 211 0 [vR 440, vI l1, vI l2] [] M K Q := by
  refine r_aload_n c211_0 rfl ?_
  refine r_iconst c211_1 ?_
  refine r_putI c211_2 (oK hK o440) ?_
  have x1 := FX.set (v := (0 : Int)) (a := 440) (k := 0) hX (by decide +kernel)
  refine r_aload_n c211_5 rfl ?_
  refine r_aload_n c211_6 rfl ?_
  refine r_iload_n c211_7 rfl ?_
  obtain ⟨n2, h⟩ := h
  obtain ⟨p3, h⟩ := h
  refine r_call c211_8 rfl rfl (Nat.le_of_ble_eq_true rfl) (okc_r rfl rfl (oK hK o440)) (g208 hK x1 p3 (Bk_v ?_))
  refine r_ifP (P := (0 ≤ l1 ∧ l1 < (n2 : Int))) c211_11 bI_ne (fun hc4 => ?_) (fun hc4 => ?_)
  · replace h := h.1 hc4
    refine r_iconst c211_18 ?_
    refine r_iconst c211_19 ?_
    refine r_iconst c211_20 ?_
    refine r_call c211_21 rfl rfl (Nat.le_of_ble_eq_true rfl) (okc_r rfl rfl (oK hK o440)) (b152_0 hK x1 ms_eq (Bk_v ?_))
    refine r_ifP (P := ¬ (0 : Int) = (0 : Int)) c211_24 rfl (fun hc => absurd hc (by decide)) (fun hc => ?_)
    refine r_aload_n c211_27 rfl ?_
    refine r_iload_n c211_28 rfl ?_
    refine r_iconst c211_29 ?_
    refine r_iconst c211_30 ?_
    refine r_call c211_31 rfl rfl (Nat.le_of_ble_eq_true rfl) (okc_s rfl rfl rfl) (g153 hK x1  (Bk_v ?_))
    refine r_ifP (P := ((0 : Int) ≤ l2 ∧ l2 ≤ (5 : Int))) c211_34 bI_ne (fun hc5 => ?_) (fun hc5 => ?_)
    · replace h := h.1 hc5
      refine r_iconst c211_41 ?_
      refine r_iconst c211_42 ?_
      refine r_iconst c211_43 ?_
      refine r_call c211_44 rfl rfl (Nat.le_of_ble_eq_true rfl) (okc_r rfl rfl (oK hK o440)) (b152_0 hK x1 ms_eq (Bk_v ?_))
      refine r_ifP (P := (0 : Int) = (0 : Int)) c211_47 rfl (fun hc => ?_) (fun hc => absurd (by decide) hc)
      refine r_iload_n c211_52 rfl ?_
      refine r_tsw c211_53 ?_
      by_cases hv0 : l2 = (0 : Int)
      · rw [show tsw 53 83 0 4 #[35, 44, 54, 63, 73] l2 = 88 from by rw [hv0]; decide]
        replace h := h.1 hv0
        refine r_aload_n c211_88 rfl ?_
        refine r_getR c211_89 (oK hK o440) (FX.get (b := 458) x1 (by decide) (by decide +kernel) (by decide)) (by decide) ?_
        refine r_iload_n c211_92 rfl ?_
        obtain ⟨s6, h⟩ := h
        refine r_aa c211_93 (mrw o458 hK) (bd l458 s6) (rf458 x1 s6) (by omega) ?_
        refine r_iconst c211_94 ?_
        refine r_iae c211_95 (oK hK (ro458 s6)) (bd (rz458 s6) (by decide)) (ms_na (by omega)) ?_
        exact r_iret c211_96 (Or.inl rfl) h
      by_cases hv1 : l2 = (1 : Int)
      · rw [show tsw 53 83 0 4 #[35, 44, 54, 63, 73] l2 = 97 from by rw [hv1]; decide]
        replace h := h.2.1 hv1
        refine r_aload_n c211_97 rfl ?_
        refine r_getR c211_98 (oK hK o440) (FX.get (b := 888) x1 (by decide) (by decide +kernel) (by decide)) (by decide) ?_
        refine r_bipush c211_101 ?_
        refine r_iload_n c211_103 rfl ?_
        refine r_iadd c211_104 ?_
        obtain ⟨s7, h⟩ := h
        refine r_iae c211_105 (oK hK o888) (bd l888 s7) (ms_na (by decide)) ?_
        exact r_iret c211_106 (Or.inl rfl) h
      by_cases hv2 : l2 = (2 : Int)
      · rw [show tsw 53 83 0 4 #[35, 44, 54, 63, 73] l2 = 107 from by rw [hv2]; decide]
        replace h := h.2.2.1 hv2
        refine r_aload_n c211_107 rfl ?_
        refine r_getR c211_108 (oK hK o440) (FX.get (b := 888) x1 (by decide) (by decide +kernel) (by decide)) (by decide) ?_
        refine r_iconst c211_111 ?_
        refine r_iload_n c211_112 rfl ?_
        refine r_iadd c211_113 ?_
        obtain ⟨s8, h⟩ := h
        refine r_iae c211_114 (oK hK o888) (bd l888 s8) (ms_na (by decide)) ?_
        exact r_iret c211_115 (Or.inl rfl) h
      by_cases hv3 : l2 = (3 : Int)
      · rw [show tsw 53 83 0 4 #[35, 44, 54, 63, 73] l2 = 116 from by rw [hv3]; decide]
        replace h := h.2.2.2.1 hv3
        refine r_aload_n c211_116 rfl ?_
        refine r_getR c211_117 (oK hK o440) (FX.get (b := 888) x1 (by decide) (by decide +kernel) (by decide)) (by decide) ?_
        refine r_bipush c211_120 ?_
        refine r_iload_n c211_122 rfl ?_
        refine r_iadd c211_123 ?_
        obtain ⟨s9, h⟩ := h
        refine r_iae c211_124 (oK hK o888) (bd l888 s9) (ms_na (by decide)) ?_
        exact r_iret c211_125 (Or.inl rfl) h
      by_cases hv4 : l2 = (4 : Int)
      · rw [show tsw 53 83 0 4 #[35, 44, 54, 63, 73] l2 = 126 from by rw [hv4]; decide]
        replace h := h.2.2.2.2.1 hv4
        refine r_aload_n c211_126 rfl ?_
        refine r_getR c211_127 (oK hK o440) (FX.get (b := 888) x1 (by decide) (by decide +kernel) (by decide)) (by decide) ?_
        refine r_bipush c211_130 ?_
        refine r_iload_n c211_132 rfl ?_
        refine r_iadd c211_133 ?_
        obtain ⟨s10, h⟩ := h
        refine r_iae c211_134 (oK hK o888) (bd l888 s10) (ms_na (by decide)) ?_
        exact r_iret c211_135 (Or.inl rfl) h
      have hvd : l2 < (0 : Int) ∨ (4 : Int) < l2 := by omega
      rw [show tsw 53 83 0 4 #[35, 44, 54, 63, 73] l2 = 136 from by unfold tsw; rw [if_pos hvd]; decide]
      replace h := h.2.2.2.2.2 hvd
      refine r_aload_n c211_136 rfl ?_
      refine r_aload_n c211_137 rfl ?_
      refine r_getR c211_138 (oK hK o440) (FX.get (b := 888) x1 (by decide) (by decide +kernel) (by decide)) (by decide) ?_
      refine r_iload_n c211_141 rfl ?_
      obtain ⟨c11, h⟩ := h
      obtain ⟨s12, h⟩ := h
      obtain ⟨L13, h⟩ := h
      obtain ⟨p14, h⟩ := h
      obtain ⟨dr15, h⟩ := h
      obtain ⟨p16, h⟩ := h
      refine r_call c211_142 rfl rfl (Nat.le_of_ble_eq_true rfl) (okc_r rfl rfl (oK hK o440)) (g195 hK x1 o888 l888 p16 (fun M19 x17 p18 => Bk_v ?_))
      replace h := h M19 x17 p18
      exact r_iret c211_145 (Or.inl rfl) h
    · replace h := h.2 hc5
      refine r_iconst c211_37 ?_
      refine r_goto c211_38 ?_
      refine r_iconst c211_42 ?_
      refine r_iconst c211_43 ?_
      refine r_call c211_44 rfl rfl (Nat.le_of_ble_eq_true rfl) (okc_r rfl rfl (oK hK o440)) (b152_1 (cd := 2) (ix := 1) hK x1 ms_eq (by decide) (by decide) (fun M22 x20 p21 => Bk_v ?_))
      replace h := h M22 x20 p21
      refine r_ifP (P := (1 : Int) = (0 : Int)) c211_47 rfl (fun hc => absurd hc (by decide)) (fun hc => ?_)
      refine r_iconst c211_50 ?_
      exact r_iret c211_51 (Or.inl rfl) h
  · replace h := h.2 hc4
    refine r_iconst c211_14 ?_
    refine r_goto c211_15 ?_
    refine r_iconst c211_19 ?_
    refine r_iconst c211_20 ?_
    refine r_call c211_21 rfl rfl (Nat.le_of_ble_eq_true rfl) (okc_r rfl rfl (oK hK o440)) (b152_1 (cd := 1) (ix := 0) hK x1 ms_eq (by decide) (by decide) (fun M25 x23 p24 => Bk_v ?_))
    replace h := h M25 x23 p24
    refine r_ifP (P := ¬ (1 : Int) = (0 : Int)) c211_24 rfl (fun hc => ?_) (fun hc => absurd (by decide) hc)
    refine r_iconst c211_50 ?_
    exact r_iret c211_51 (Or.inl rfl) h
theorem u212_0 {d : Nat} {l1 : Int} {M : Mem} {K : KK} {Q : RR → Mem → KK → Prop} (hK : K.1 = 923) (hX : FX M)  (h : (((0 : Int) ≤ l1 ∧ l1 ≤ (w32 ((M 444 2) - (1 : Int)))) → (0 ≤ l1 ∧ l1 < (8 : Int)) ∧ Q (.inl (some (vI (M 448 (Int.toNat l1))))) (mset M 440 0 (0 : Int)) K) ∧ (¬ ((0 : Int) ≤ l1 ∧ l1 ≤ (w32 ((M 444 2) - (1 : Int)))) → (∀ (M6 : Mem), FX M6 → BadM 1 0 (mset M 440 0 (0 : Int)) M6 → Q (.inl (some (vI (0 : Int)))) M6 K))) : Wp (d + 1) 212 0 [vR 440, vI l1] [] M K Q := by
  refine r_aload_n c212_0 rfl ?_
  refine r_iconst c212_1 ?_
  refine r_putI c212_2 (oK hK o440) ?_
  have x1 := FX.set (v := (0 : Int)) (a := 440) (k := 0) hX (by decide +kernel)
  refine r_aload_n c212_5 rfl ?_
  refine r_iload_n c212_6 rfl ?_
  refine r_iconst c212_7 ?_
  refine r_aload_n c212_8 rfl ?_
  refine r_getR c212_9 (oK hK o440) (FX.get (b := 444) x1 (by decide) (by decide +kernel) (by decide)) (by decide) ?_
  refine r_iconst c212_12 ?_
  refine r_iae c212_13 (oK hK o444) (bd l444 (by decide)) (ms_na (by decide)) ?_
  refine r_iconst c212_14 ?_
  refine r_isub c212_15 ?_
  refine r_call c212_16 rfl rfl (Nat.le_of_ble_eq_true rfl) (okc_s rfl rfl rfl) (g153 hK x1  (Bk_v ?_))
  refine r_ifP (P := ((0 : Int) ≤ l1 ∧ l1 ≤ (w32 ((M 444 2) - (1 : Int))))) c212_19 bI_ne (fun hc2 => ?_) (fun hc2 => ?_)
  · replace h := h.1 hc2
    refine r_iconst c212_26 ?_
    refine r_iconst c212_27 ?_
    refine r_iconst c212_28 ?_
    refine r_call c212_29 rfl rfl (Nat.le_of_ble_eq_true rfl) (okc_r rfl rfl (oK hK o440)) (b152_0 hK x1 ms_eq (Bk_v ?_))
    refine r_ifP (P := (0 : Int) = (0 : Int)) c212_32 rfl (fun hc => ?_) (fun hc => absurd (by decide) hc)
    refine r_aload_n c212_37 rfl ?_
    refine r_getR c212_38 (oK hK o440) (FX.get (b := 448) x1 (by decide) (by decide +kernel) (by decide)) (by decide) ?_
    refine r_iload_n c212_41 rfl ?_
    obtain ⟨s3, h⟩ := h
    refine r_iae c212_42 (oK hK o448) (bd l448 s3) (ms_na (by decide)) ?_
    exact r_iret c212_43 (Or.inl rfl) h
  · replace h := h.2 hc2
    refine r_iconst c212_22 ?_
    refine r_goto c212_23 ?_
    refine r_iconst c212_27 ?_
    refine r_iconst c212_28 ?_
    refine r_call c212_29 rfl rfl (Nat.le_of_ble_eq_true rfl) (okc_r rfl rfl (oK hK o440)) (b152_1 (cd := 1) (ix := 0) hK x1 ms_eq (by decide) (by decide) (fun M6 x4 p5 => Bk_v ?_))
    replace h := h M6 x4 p5
    refine r_ifP (P := (1 : Int) = (0 : Int)) c212_32 rfl (fun hc => absurd hc (by decide)) (fun hc => ?_)
    refine r_iconst c212_35 ?_
    exact r_iret c212_36 (Or.inl rfl) h
theorem u213_0 {d : Nat} {l1 : Int} {l2 : Int} {l3 : Int} {l4 : Int} {l5 : Int} {l6 : Int} {l7 : Int} {l8 : Int} {M : Mem} {K : KK} {Q : RR → Mem → KK → Prop} (hK : K.1 = 923) (hX : FX M)  (h : (¬ ((0 : Int) ≤ l1 ∧ l1 ≤ (54 : Int)) → Wp (d + 3) 213 91 [vR 440, vI l1, vI l2, vI l3, vI l4, vI l5, vI l6, vI l7, vI l8] [vR 440] (mset M 440 0 (0 : Int)) K Q) ∧ (((0 : Int) ≤ l1 ∧ l1 ≤ (54 : Int)) → (¬ ((1 : Int) ≤ l2 ∧ l2 ≤ (6 : Int)) → Wp (d + 3) 213 91 [vR 440, vI l1, vI l2, vI l3, vI l4, vI l5, vI l6, vI l7, vI l8] [vR 440] (mset M 440 0 (0 : Int)) K Q) ∧ (((1 : Int) ≤ l2 ∧ l2 ≤ (6 : Int)) → (¬ ((0 : Int) ≤ l3 ∧ l3 ≤ (99 : Int)) → Wp (d + 3) 213 91 [vR 440, vI l1, vI l2, vI l3, vI l4, vI l5, vI l6, vI l7, vI l8] [vR 440] (mset M 440 0 (0 : Int)) K Q) ∧ (((0 : Int) ≤ l3 ∧ l3 ≤ (99 : Int)) → (¬ ((0 : Int) ≤ l4 ∧ l4 ≤ (9 : Int)) → Wp (d + 3) 213 91 [vR 440, vI l1, vI l2, vI l3, vI l4, vI l5, vI l6, vI l7, vI l8] [vR 440] (mset M 440 0 (0 : Int)) K Q) ∧ (((0 : Int) ≤ l4 ∧ l4 ≤ (9 : Int)) → (¬ ((0 : Int) ≤ l5 ∧ l5 ≤ (9 : Int)) → Wp (d + 3) 213 91 [vR 440, vI l1, vI l2, vI l3, vI l4, vI l5, vI l6, vI l7, vI l8] [vR 440] (mset M 440 0 (0 : Int)) K Q) ∧ (((0 : Int) ≤ l5 ∧ l5 ≤ (9 : Int)) → (¬ ((0 : Int) ≤ l6 ∧ l6 ≤ (1 : Int)) → Wp (d + 3) 213 91 [vR 440, vI l1, vI l2, vI l3, vI l4, vI l5, vI l6, vI l7, vI l8] [vR 440] (mset M 440 0 (0 : Int)) K Q) ∧ (((0 : Int) ≤ l6 ∧ l6 ≤ (1 : Int)) → (¬ ((0 : Int) ≤ l7 ∧ l7 ≤ (500 : Int)) → Wp (d + 3) 213 91 [vR 440, vI l1, vI l2, vI l3, vI l4, vI l5, vI l6, vI l7, vI l8] [vR 440] (mset M 440 0 (0 : Int)) K Q) ∧ (((0 : Int) ≤ l7 ∧ l7 ≤ (500 : Int)) → (((0 : Int) ≤ l8 ∧ l8 ≤ (11 : Int)) → ∃ L25 : LC, (LM (mset (mset (mset (mset (mset (mset (mset (mset (mset M 440 0 (0 : Int)) 806 0 l1) 806 1 l2) 806 2 l3) 806 3 l4) 806 4 l5) 806 5 l6) 806 6 l7) 806 7 l8) L25 ∧ 1 ≤ (mset (mset (mset (mset (mset (mset (mset (mset (mset M 440 0 (0 : Int)) 806 0 l1) 806 1 l2) 806 2 l3) 806 3 l4) 806 4 l5) 806 5 l6) 806 6 l7) 806 7 l8) 806 1) ∧ (∀ (M29 : Mem), FX M29 → Fr1 805 (mset (mset (mset (mset (mset (mset (mset (mset (mset M 440 0 (0 : Int)) 806 0 l1) 806 1 l2) 806 2 l3) 806 3 l4) 806 4 l5) 806 5 l6) 806 6 l7) 806 7 l8) M29 → Q (.inl (some (vI (wh ((mset (mset (mset (mset (mset (mset (mset (mset (mset M 440 0 (0 : Int)) 806 0 l1) 806 1 l2) 806 2 l3) 806 3 l4) 806 4 l5) 806 5 l6) 806 6 l7) 806 7 l8) 806) L25)))) M29 K)) ∧ (¬ ((0 : Int) ≤ l8 ∧ l8 ≤ (11 : Int)) → Wp (d + 3) 213 91 [vR 440, vI l1, vI l2, vI l3, vI l4, vI l5, vI l6, vI l7, vI l8] [vR 440] (mset M 440 0 (0 : Int)) K Q))))))))) : Wp (d + 3) 213 0 [vR 440, vI l1, vI l2, vI l3, vI l4, vI l5, vI l6, vI l7, vI l8] [] M K Q := by
  refine r_aload_n c213_0 rfl ?_
  refine r_iconst c213_1 ?_
  refine r_putI c213_2 (oK hK o440) ?_
  have x1 := FX.set (v := (0 : Int)) (a := 440) (k := 0) hX (by decide +kernel)
  refine r_aload_n c213_5 rfl ?_
  refine r_iload_n c213_6 rfl ?_
  refine r_iconst c213_7 ?_
  refine r_bipush c213_8 ?_
  refine r_call c213_10 rfl rfl (Nat.le_of_ble_eq_true rfl) (okc_s rfl rfl rfl) (g153 hK x1  (Bk_v ?_))
  refine r_ifP (P := ¬ ((0 : Int) ≤ l1 ∧ l1 ≤ (54 : Int))) c213_13 bI_eq (fun hc2 => ?_) (fun hc2 => ?_)
  · replace h := h.1 hc2
    exact h
  · have hc3 := Classical.not_not.mp hc2
    replace h := h.2 hc3
    refine r_iload_n c213_16 rfl ?_
    refine r_iconst c213_17 ?_
    refine r_bipush c213_18 ?_
    refine r_call c213_20 rfl rfl (Nat.le_of_ble_eq_true rfl) (okc_s rfl rfl rfl) (g153 hK x1  (Bk_v ?_))
    refine r_ifP (P := ¬ ((1 : Int) ≤ l2 ∧ l2 ≤ (6 : Int))) c213_23 bI_eq (fun hc4 => ?_) (fun hc4 => ?_)
    · replace h := h.1 hc4
      exact h
    · have hc5 := Classical.not_not.mp hc4
      replace h := h.2 hc5
      refine r_iload_n c213_26 rfl ?_
      refine r_iconst c213_27 ?_
      refine r_bipush c213_28 ?_
      refine r_call c213_30 rfl rfl (Nat.le_of_ble_eq_true rfl) (okc_s rfl rfl rfl) (g153 hK x1  (Bk_v ?_))
      refine r_ifP (P := ¬ ((0 : Int) ≤ l3 ∧ l3 ≤ (99 : Int))) c213_33 bI_eq (fun hc6 => ?_) (fun hc6 => ?_)
      · replace h := h.1 hc6
        exact h
      · have hc7 := Classical.not_not.mp hc6
        replace h := h.2 hc7
        refine r_iload c213_36 rfl ?_
        refine r_iconst c213_38 ?_
        refine r_bipush c213_39 ?_
        refine r_call c213_41 rfl rfl (Nat.le_of_ble_eq_true rfl) (okc_s rfl rfl rfl) (g153 hK x1  (Bk_v ?_))
        refine r_ifP (P := ¬ ((0 : Int) ≤ l4 ∧ l4 ≤ (9 : Int))) c213_44 bI_eq (fun hc8 => ?_) (fun hc8 => ?_)
        · replace h := h.1 hc8
          exact h
        · have hc9 := Classical.not_not.mp hc8
          replace h := h.2 hc9
          refine r_iload c213_47 rfl ?_
          refine r_iconst c213_49 ?_
          refine r_bipush c213_50 ?_
          refine r_call c213_52 rfl rfl (Nat.le_of_ble_eq_true rfl) (okc_s rfl rfl rfl) (g153 hK x1  (Bk_v ?_))
          refine r_ifP (P := ¬ ((0 : Int) ≤ l5 ∧ l5 ≤ (9 : Int))) c213_55 bI_eq (fun hc10 => ?_) (fun hc10 => ?_)
          · replace h := h.1 hc10
            exact h
          · have hc11 := Classical.not_not.mp hc10
            replace h := h.2 hc11
            refine r_iload c213_58 rfl ?_
            refine r_iconst c213_60 ?_
            refine r_iconst c213_61 ?_
            refine r_call c213_62 rfl rfl (Nat.le_of_ble_eq_true rfl) (okc_s rfl rfl rfl) (g153 hK x1  (Bk_v ?_))
            refine r_ifP (P := ¬ ((0 : Int) ≤ l6 ∧ l6 ≤ (1 : Int))) c213_65 bI_eq (fun hc12 => ?_) (fun hc12 => ?_)
            · replace h := h.1 hc12
              exact h
            · have hc13 := Classical.not_not.mp hc12
              replace h := h.2 hc13
              refine r_iload c213_68 rfl ?_
              refine r_iconst c213_70 ?_
              refine r_sipush c213_71 ?_
              refine r_call c213_74 rfl rfl (Nat.le_of_ble_eq_true rfl) (okc_s rfl rfl rfl) (g153 hK x1  (Bk_v ?_))
              refine r_ifP (P := ¬ ((0 : Int) ≤ l7 ∧ l7 ≤ (500 : Int))) c213_77 bI_eq (fun hc14 => ?_) (fun hc14 => ?_)
              · replace h := h.1 hc14
                exact h
              · have hc15 := Classical.not_not.mp hc14
                replace h := h.2 hc15
                refine r_iload c213_80 rfl ?_
                refine r_iconst c213_82 ?_
                refine r_bipush c213_83 ?_
                refine r_call c213_85 rfl rfl (Nat.le_of_ble_eq_true rfl) (okc_s rfl rfl rfl) (g153 hK x1  (Bk_v ?_))
                refine r_ifP (P := ((0 : Int) ≤ l8 ∧ l8 ≤ (11 : Int))) c213_88 bI_ne (fun hc16 => ?_) (fun hc16 => ?_)
                · replace h := h.1 hc16
                  refine r_iconst c213_95 ?_
                  refine r_iconst c213_96 ?_
                  refine r_iconst c213_97 ?_
                  refine r_call c213_98 rfl rfl (Nat.le_of_ble_eq_true rfl) (okc_r rfl rfl (oK hK o440)) (b152_0 hK x1 ms_eq (Bk_v ?_))
                  refine r_ifP (P := (0 : Int) = (0 : Int)) c213_101 rfl (fun hc => ?_) (fun hc => absurd (by decide) hc)
                  refine r_aload_n c213_106 rfl ?_
                  refine r_getR c213_107 (oK hK o440) (FX.get (b := 806) x1 (by decide) (by decide +kernel) (by decide)) (by decide) ?_
                  refine r_iconst c213_110 ?_
                  refine r_iload_n c213_111 rfl ?_
                  refine r_ias c213_112 (oK hK o806) (bd l806 (by decide)) ?_
                  have x17 := FX.set (v := l1) (a := 806) (k := 0) x1 (nfa o806 _)
                  refine r_aload_n c213_113 rfl ?_
                  refine r_getR c213_114 (oK hK o440) (FX.get (b := 806) x17 (by decide) (by decide +kernel) (by decide)) (by decide) ?_
                  refine r_iconst c213_117 ?_
                  refine r_iload_n c213_118 rfl ?_
                  refine r_ias c213_119 (oK hK o806) (bd l806 (by decide)) ?_
                  have x18 := FX.set (v := l2) (a := 806) (k := 1) x17 (nfa o806 _)
                  refine r_aload_n c213_120 rfl ?_
                  refine r_getR c213_121 (oK hK o440) (FX.get (b := 806) x18 (by decide) (by decide +kernel) (by decide)) (by decide) ?_
                  refine r_iconst c213_124 ?_
                  refine r_iload_n c213_125 rfl ?_
                  refine r_ias c213_126 (oK hK o806) (bd l806 (by decide)) ?_
                  have x19 := FX.set (v := l3) (a := 806) (k := 2) x18 (nfa o806 _)
                  refine r_aload_n c213_127 rfl ?_
                  refine r_getR c213_128 (oK hK o440) (FX.get (b := 806) x19 (by decide) (by decide +kernel) (by decide)) (by decide) ?_
                  refine r_iconst c213_131 ?_
                  refine r_iload c213_132 rfl ?_
                  refine r_ias c213_134 (oK hK o806) (bd l806 (by decide)) ?_
                  have x20 := FX.set (v := l4) (a := 806) (k := 3) x19 (nfa o806 _)
                  refine r_aload_n c213_135 rfl ?_
                  refine r_getR c213_136 (oK hK o440) (FX.get (b := 806) x20 (by decide) (by decide +kernel) (by decide)) (by decide) ?_
                  refine r_iconst c213_139 ?_
                  refine r_iload c213_140 rfl ?_
                  refine r_ias c213_142 (oK hK o806) (bd l806 (by decide)) ?_
                  have x21 := FX.set (v := l5) (a := 806) (k := 4) x20 (nfa o806 _)
                  refine r_aload_n c213_143 rfl ?_
                  refine r_getR c213_144 (oK hK o440) (FX.get (b := 806) x21 (by decide) (by decide +kernel) (by decide)) (by decide) ?_
                  refine r_iconst c213_147 ?_
                  refine r_iload c213_148 rfl ?_
                  refine r_ias c213_150 (oK hK o806) (bd l806 (by decide)) ?_
                  have x22 := FX.set (v := l6) (a := 806) (k := 5) x21 (nfa o806 _)
                  refine r_aload_n c213_151 rfl ?_
                  refine r_getR c213_152 (oK hK o440) (FX.get (b := 806) x22 (by decide) (by decide +kernel) (by decide)) (by decide) ?_
                  refine r_bipush c213_155 ?_
                  refine r_iload c213_157 rfl ?_
                  refine r_ias c213_159 (oK hK o806) (bd l806 (by decide)) ?_
                  have x23 := FX.set (v := l7) (a := 806) (k := 6) x22 (nfa o806 _)
                  refine r_aload_n c213_160 rfl ?_
                  refine r_getR c213_161 (oK hK o440) (FX.get (b := 806) x23 (by decide) (by decide +kernel) (by decide)) (by decide) ?_
                  refine r_bipush c213_164 ?_
                  refine r_iload c213_166 rfl ?_
                  refine r_ias c213_168 (oK hK o806) (bd l806 (by decide)) ?_
                  have x24 := FX.set (v := l8) (a := 806) (k := 7) x23 (nfa o806 _)
                  refine r_aload_n c213_169 rfl ?_
                  obtain ⟨L25, h⟩ := h
                  obtain ⟨p26, h⟩ := h
                  refine r_call c213_170 rfl rfl (Nat.le_of_ble_eq_true rfl) (okc_r rfl rfl (oK hK o440)) (g188 hK x24 p26 (fun M29 x27 p28 => Bk_v ?_))
                  replace h := h M29 x27 p28
                  exact r_iret c213_173 (Or.inl rfl) h
                · replace h := h.2 hc16
                  exact h
theorem u213_91 {d : Nat} {l1 : Int} {l2 : Int} {l3 : Int} {l4 : Int} {l5 : Int} {l6 : Int} {l7 : Int} {l8 : Int} {M : Mem} {K : KK} {Q : RR → Mem → KK → Prop} (hK : K.1 = 923) (hX : FX M)  (h : (M 440 0) = (0 : Int) ∧ (∀ (M4 : Mem), FX M4 → BadM 1 1 M M4 → Q (.inl (some (vI (0 : Int)))) M4 K)) : Wp (d + 3) 213 91 [vR 440, vI l1, vI l2, vI l3, vI l4, vI l5, vI l6, vI l7, vI l8] [vR 440] M K Q := by
  refine r_iconst c213_91 ?_
  refine r_goto c213_92 ?_
  refine r_iconst c213_96 ?_
  refine r_iconst c213_97 ?_
  obtain ⟨s1, h⟩ := h
  refine r_call c213_98 rfl rfl (Nat.le_of_ble_eq_true rfl) (okc_r rfl rfl (oK hK o440)) (b152_1 (cd := 1) (ix := 1) hK hX s1 (by decide) (by decide) (fun M4 x2 p3 => Bk_v ?_))
  replace h := h M4 x2 p3
  refine r_ifP (P := (1 : Int) = (0 : Int)) c213_101 rfl (fun hc => absurd hc (by decide)) (fun hc => ?_)
  refine r_iconst c213_104 ?_
  exact r_iret c213_105 (Or.inl rfl) h
theorem u214_0 {d : Nat} {l1 : Int} {l2 : Int} {M : Mem} {K : KK} {Q : RR → Mem → KK → Prop} (hK : K.1 = 923) (hX : FX M)  (h : ∃ n2 : Nat, StM (mset M 440 0 (0 : Int)) n2 ∧ (¬ (0 ≤ l1 ∧ l1 < (n2 : Int)) → (∀ (M8 : Mem), FX M8 → BadM 1 0 (mset M 440 0 (0 : Int)) M8 → Q (.inl (some (vI (0 : Int)))) M8 K)) ∧ ((0 ≤ l1 ∧ l1 < (n2 : Int)) → ∃ n9 : Nat, CeM (mset M 440 0 (0 : Int)) n9 ∧ ((0 ≤ l2 ∧ l2 < (n9 : Int)) → ∃ c12 : Mem, ∃ s13 : Mem, ∃ p14 : Nat, ∃ dr15 : Int, (l1 = (p14 : Int) ∧ SM (mset M 440 0 (0 : Int)) 888 c12 s13 dr15 ∧ p14 < nSt c12 ∧ 0 ≤ l2 ∧ l2 ≤ 12) ∧ Q (.inl (some (vI (bI (roomS c12 s13 p14 l2 = true))))) (mset M 440 0 (0 : Int)) K) ∧ (¬ (0 ≤ l2 ∧ l2 < (n9 : Int)) → (∀ (M19 : Mem), FX M19 → BadM 1 0 (mset M 440 0 (0 : Int)) M19 → Q (.inl (some (vI (0 : Int)))) M19 K)))) : Wp (d + 3) 214 0 [vR 440, vI l1, vI l2] [] M K Q := by
  refine r_aload_n c214_0 rfl ?_
  refine r_iconst c214_1 ?_
  refine r_putI c214_2 (oK hK o440) ?_
  have x1 := FX.set (v := (0 : Int)) (a := 440) (k := 0) hX (by decide +kernel)
  refine r_aload_n c214_5 rfl ?_
  refine r_aload_n c214_6 rfl ?_
  refine r_iload_n c214_7 rfl ?_
  obtain ⟨n2, h⟩ := h
  obtain ⟨p3, h⟩ := h
  refine r_call c214_8 rfl rfl (Nat.le_of_ble_eq_true rfl) (okc_r rfl rfl (oK hK o440)) (g208 hK x1 p3 (Bk_v ?_))
  refine r_ifP (P := ¬ (0 ≤ l1 ∧ l1 < (n2 : Int))) c214_11 bI_eq (fun hc4 => ?_) (fun hc4 => ?_)
  · replace h := h.1 hc4
    refine r_iconst c214_22 ?_
    refine r_goto c214_23 ?_
    refine r_iconst c214_27 ?_
    refine r_iconst c214_28 ?_
    refine r_call c214_29 rfl rfl (Nat.le_of_ble_eq_true rfl) (okc_r rfl rfl (oK hK o440)) (b152_1 (cd := 1) (ix := 0) hK x1 ms_eq (by decide) (by decide) (fun M8 x6 p7 => Bk_v ?_))
    replace h := h M8 x6 p7
    refine r_ifP (P := (1 : Int) = (0 : Int)) c214_32 rfl (fun hc => absurd hc (by decide)) (fun hc => ?_)
    refine r_iconst c214_35 ?_
    exact r_iret c214_36 (by decide) h
  · have hc5 := Classical.not_not.mp hc4
    replace h := h.2 hc5
    refine r_aload_n c214_14 rfl ?_
    refine r_iload_n c214_15 rfl ?_
    obtain ⟨n9, h⟩ := h
    obtain ⟨p10, h⟩ := h
    refine r_call c214_16 rfl rfl (Nat.le_of_ble_eq_true rfl) (okc_r rfl rfl (oK hK o440)) (g207 hK x1 p10 (Bk_v ?_))
    refine r_ifP (P := (0 ≤ l2 ∧ l2 < (n9 : Int))) c214_19 bI_ne (fun hc11 => ?_) (fun hc11 => ?_)
    · replace h := h.1 hc11
      refine r_iconst c214_26 ?_
      refine r_iconst c214_27 ?_
      refine r_iconst c214_28 ?_
      refine r_call c214_29 rfl rfl (Nat.le_of_ble_eq_true rfl) (okc_r rfl rfl (oK hK o440)) (b152_0 hK x1 ms_eq (Bk_v ?_))
      refine r_ifP (P := (0 : Int) = (0 : Int)) c214_32 rfl (fun hc => ?_) (fun hc => absurd (by decide) hc)
      refine r_aload_n c214_37 rfl ?_
      refine r_aload_n c214_38 rfl ?_
      refine r_getR c214_39 (oK hK o440) (FX.get (b := 888) x1 (by decide) (by decide +kernel) (by decide)) (by decide) ?_
      refine r_iload_n c214_42 rfl ?_
      refine r_iload_n c214_43 rfl ?_
      obtain ⟨c12, h⟩ := h
      obtain ⟨s13, h⟩ := h
      obtain ⟨p14, h⟩ := h
      obtain ⟨dr15, h⟩ := h
      obtain ⟨p16, h⟩ := h
      refine r_call c214_44 rfl rfl (Nat.le_of_ble_eq_true rfl) (okc_r rfl rfl (oK hK o440)) (g197 hK x1 o888 l888 p16 (Bk_v ?_))
      exact r_iret c214_47 (Or.inr bI_01) h
    · replace h := h.2 hc11
      refine r_iconst c214_22 ?_
      refine r_goto c214_23 ?_
      refine r_iconst c214_27 ?_
      refine r_iconst c214_28 ?_
      refine r_call c214_29 rfl rfl (Nat.le_of_ble_eq_true rfl) (okc_r rfl rfl (oK hK o440)) (b152_1 (cd := 1) (ix := 0) hK x1 ms_eq (by decide) (by decide) (fun M19 x17 p18 => Bk_v ?_))
      replace h := h M19 x17 p18
      refine r_ifP (P := (1 : Int) = (0 : Int)) c214_32 rfl (fun hc => absurd hc (by decide)) (fun hc => ?_)
      refine r_iconst c214_35 ?_
      exact r_iret c214_36 (by decide) h
/-! the questions told, cell, strip, deed, would, fits -/
/-- how a question of the class ends: P1 there, P2 right -/
def QC (Q : RR → Mem → KK → Prop) (M : Mem) (K : KK) (P1 P2 : Prop) (v : PV) : Prop := (¬ P1 → Q (.inr 1) (inc M 18) (K9 K)) ∧ (P1 → ¬ P2 → Q (.inr 0) (inc M 19) (K9 K)) ∧ (P1 → P2 → ∀ M', FX M' → FrQc M M' → Q (.inl (some v)) M' K)
/-- .. of the model: cb the code of P2 -/
def QM (Q : RR → Mem → KK → Prop) (M : Mem) (K : KK) (P1 P2 : Prop) (cb : Nat) (v0 v : PV) : Prop := (¬ P1 → ∀ M', FX M' → BadM 1 0 M M' → Q (.inl (some v0)) M' K) ∧ (P1 → ¬ P2 → ∀ M', FX M' → BadM cb 1 M M' → Q (.inl (some v0)) M' K) ∧ (P1 → P2 → ∀ M', FX M' → FrQm M M' → M' 440 0 = 0 → Q (.inl (some v)) M' K)
def SYC (M : Mem) (Y : LC) : Prop := ∃ y : Nat, M 32 14 = (y : Int) ∧ isO 923 y 8 = true ∧ SY M y Y
def SYM (M : Mem) (Y : LC) : Prop := M 440 35 = (Y.length : Int) ∧ Y.length ≤ 8 ∧ ∀ k, k < Y.length → M (788 + k) 0 = (Y.getD k (0, 0)).1 ∧ M (788 + k) 1 = (Y.getD k (0, 0)).2
def toldS (c s : Mem) (Y : LC) (rf v : Int) : Int := if v = 0 then c 0 0 else if v = 1 then c 0 1 else if v = 2 then c 0 2 else if v = 3 then c 0 3 else if v = 4 then s 4 0 else if v = 5 then rainS c (s 4 0) else if v = 6 then s 4 1 else if v = 7 then lyS c s else if v = 8 then (whiteS c s : Int) else if v = 9 then (Y.length : Int) else if v = 10 then rf else greyS c s
def cellS (c s : Mem) (v w : Int) : Int := if w = 0 then c 1 v.toNat else lyOn c s v
def stripS (c s : Mem) (L : LC) (v w : Int) : Int := if w = 0 then c 2 v.toNat else if w = 1 then s 1 v.toNat else if w = 2 then s 0 v.toNat else if w = 3 then s 2 v.toNat else if w = 4 then s 3 v.toNat else whN c s L v.toNat (rainS c (s 4 0))
section OP1
variable {d : Nat} {M M' : Mem} {K : KK} {Q : RR → Mem → KK → Prop} {c s : Mem} {L Y : LC} {rf : Int}
theorem QM.bad {P1 P2 : Prop} {cb : Nat} {v0 v : PV} (k : QM Q M K P1 P2 cb v0 v) (h1 : P1) (h2 : ¬ P2) : ∀ M', FX M' → BadM cb 1 (mset M 440 0 0) M' → Q (.inl (some v0)) M' K := fun M1 x1 b1 => k.2.1 h1 h2 M1 x1 (BadM.of FrQm.t0 b1 (by decide))
theorem QM.mis {P1 P2 : Prop} {cb : Nat} {v0 v : PV} (k : QM Q M K P1 P2 cb v0 v) (h1 : ¬ P1) : ∀ M', FX M' → BadM 1 0 (mset M 440 0 0) M' → Q (.inl (some v0)) M' K := fun M1 x1 b1 => k.1 h1 M1 x1 (BadM.of FrQm.t0 b1 (by decide))
theorem QM.ok {P1 P2 : Prop} {cb : Nat} {v0 v : PV} (k : QM Q M K P1 P2 cb v0 v) (h1 : P1) (h2 : P2) (hX : FX M) : Q (.inl (some v)) (mset M 440 0 0) K := k.2.2 h1 h2 _ hX.t0 FrQm.t0 ms_eq
theorem QC.ok {P1 P2 : Prop} {v : PV} (k : QC Q M K P1 P2 v) (h1 : P1) (h2 : P2) (hX : FX M) : Q (.inl (some v)) M K := k.2.2 h1 h2 M hX FrQc.rf
theorem c105 {v : Int} (hK : K.1 = 923) (hX : FX M) (h : GC M c L s) (hY : SYC M Y) (hr : M 32 17 = rf) (k : QC Q M K True (0 ≤ v ∧ v ≤ 11) (vI (toldS c s Y rf v))) : Wm (d + 1) 105 [vR 32, vI v] M K Q := by
  obtain ⟨cm, l, a, b, e, f⟩ := h
  obtain ⟨y, y1, y2, y3⟩ := hY
  have g := e.1.g e.2.1
  have lk := e.2.2.1
  refine u105_0 hK hX ⟨fun hv => ?_, k.2.1 trivial⟩
  have k := k.ok trivial hv hX
  refine ⟨?_, ?_, ?_, ?_, ?_, ?_, ?_, ?_, ?_, ?_, ?_, ?_⟩
  · rintro rfl; refine ⟨cm, a, b, ?_⟩; rw [e.1.1 0 (by decide)]; exact k
  · rintro rfl; refine ⟨cm, a, b, ?_⟩; rw [e.1.1 1 (by decide)]; exact k
  · rintro rfl; refine ⟨cm, a, b, ?_⟩; rw [e.1.1 2 (by decide)]; exact k
  · rintro rfl; refine ⟨cm, a, b, ?_⟩; rw [e.1.1 3 (by decide)]; exact k
  · rintro rfl; rw [lk.2.1]; exact k
  · rintro rfl; refine ⟨cm, a, b, c, ⟨e.1, e.2.1⟩, ?_⟩; rw [lk.2.1]; exact k
  · rintro rfl; rw [lk.2.2]; exact k
  · rintro rfl; exact ⟨cm, a, b, c, s, e, k⟩
  · rintro rfl; exact ⟨cm, a, b, c, s, e, k⟩
  · rintro rfl; refine ⟨y, y1, y2, ?_⟩; rw [y3.1]; exact k
  · rintro rfl; rw [hr]; exact k
  · intro h9
    have : v = 11 := by omega
    subst this
    exact ⟨cm, a, b, c, s, e, k⟩
theorem m206 {v : Int} (hK : K.1 = 923) (hX : FX M) (h : GM M c L s) (hY : SYM M Y) (hr : M 440 37 = rf) (k : QM Q M K True (0 ≤ v ∧ v ≤ 11) 1 (vI 0) (vI (toldS c s Y rf v))) : Wm (d + 1) 206 [vR 440, vI v] M K Q := by
  refine u206_0 hK hX ⟨fun hv => ?_, fun hv => k.bad trivial hv⟩
  have k := k.ok trivial hv hX
  have h' := h.q FrQm.t0
  obtain ⟨⟨hc, hw, hl, hlw, hd⟩, hLM⟩ := h'
  have hn := (h.q FrQm.t0).n
  have hN := hw.n.1.2
  have x1 := hX.t0
  generalize hM1 : mset M 440 0 0 = M1 at *
  have e35 : M1 440 35 = (Y.length : Int) := by rw [← hM1, ms_nk (by decide)]; exact hY.1
  have e37 : M1 440 37 = rf := by rw [← hM1, ms_nk (by decide)]; exact hr
  have loop : ∀ f i, i + f = nSt c → Wp (d + 1) 206 35 [vR 440, vI v, vI (sumF (fun p => if s 0 p = -1 then 0 else 1) i), vI (i : Int)] [] M1 K Q := by
    intro f
    induction f with
    | zero =>
      intro i hi
      have hin : i = nSt c := by omega
      subst hin
      refine u206_35 hK x1 ⟨fun _ => ⟨fun h9 => ?_, ?_, ?_, ?_, ?_, ?_, ?_, ?_, ?_⟩, fun h9 => absurd (by omega) h9⟩
      · refine ⟨by omega, ?_⟩
        rcases h9 with rfl | rfl | rfl | rfl
        · rw [hc.1 _ (by decide)]; exact k
        · rw [hc.1 _ (by decide)]; exact k
        · rw [hc.1 _ (by decide)]; exact k
        · rw [hc.1 _ (by decide)]; exact k
      · rintro rfl; rw [hl.2.1]; exact k
      · rintro rfl; refine ⟨c, s, -1, ⟨hc, hw, hl, hlw, hd⟩, ?_⟩; unfold rainM; rw [if_pos rfl]; exact k
      · rintro rfl; rw [hl.2.2]; exact k
      · rintro rfl; exact k
      · rintro rfl; exact ⟨c, s, -1, ⟨hc, hw, hl, hlw, hd⟩, k⟩
      · rintro rfl; rw [e35]; exact k
      · rintro rfl; rw [e37]; exact k
      · intro h9
        have : v = 11 := by omega
        subst this
        exact ⟨c, s, -1, ⟨hc, hw, hl, hlw, hd⟩, k⟩
    | succ f ih =>
      intro i hi
      have e0 := (hl.1 i (by omega)).1
      have nx := ih (i + 1) (by omega)
      have hb : ∀ i, 0 ≤ sumF (fun p => if s 0 p = -1 then 0 else 1) i ∧ sumF (fun p => if s 0 p = -1 then 0 else 1) i ≤ (i : Int) := by
        intro i
        induction i with
        | zero => simp [sumF]
        | succ i ih9 => simp only [sumF]; split <;> omega
      have := hb i
      simp only [sumF] at nx
      refine u206_35 hK x1 ⟨fun h9 => absurd h9 (by omega), fun _ => ⟨bx0 (by omega), ?_⟩⟩
      rw [ix0 (by omega), e0, w1 (by omega), w32_id (by omega), w32_id (by omega)]
      refine ⟨fun h9 => ?_, fun h9 => ?_⟩
      · rw [if_neg h9] at nx; exact nx
      · rw [if_pos h9] at nx; exact nx
  exact loop _ 0 (Nat.zero_add _)
theorem c106 {v w : Int} (hK : K.1 = 923) (hX : FX M) (h : GC M c L s) (k : QC Q M K (0 ≤ v ∧ v < (nCe c : Int)) (0 ≤ w ∧ w ≤ 1) (vI (cellS c s v w))) : Wm (d + 2) 106 [vR 32, vI v, vI w] M K Q := by
  have hce := h.cen
  obtain ⟨cm, l, a, b, e, f⟩ := h
  have hC := e.2.1.n.2.1
  refine u106_0 hK hX ⟨nCe c, hce, fun hv => ⟨fun hw => ?_, k.2.1 hv⟩, k.1⟩
  have k := k.ok hv hw hX
  unfold cellS at k
  refine ⟨fun h9 => ⟨cm, a, b, c, s, e, ?_⟩, fun h9 => ⟨cm, a, b, by omega, ?_⟩⟩
  · rw [if_neg h9] at k; exact k
  · rw [if_pos h9] at k
    rw [e.1.a1 (by omega)]; exact k
theorem m210 {v w : Int} (hK : K.1 = 923) (hX : FX M) (h : GM M c L s) (k : QM Q M K (0 ≤ v ∧ v < (nCe c : Int)) (0 ≤ w ∧ w ≤ 1) 2 (vI 0) (vI (cellS c s v w))) : Wm (d + 2) 210 [vR 440, vI v, vI w] M K Q := by
  have hC := h.1.2.1.n.2.1
  refine u210_0 hK hX ⟨nCe c, h.cen.t0, fun hv => ⟨fun hw => ?_, fun hw => k.bad hv hw⟩, fun hv => k.mis hv⟩
  have k := k.ok hv hw hX
  unfold cellS at k
  refine ⟨fun h9 => ⟨c, s, -1, (h.q FrQm.t0).1, ?_⟩, fun h9 => ⟨by omega, ?_⟩⟩
  · rw [if_neg h9] at k; exact k
  · rw [if_pos h9] at k
    rw [h.1.1.2.1 _ (by omega)]; exact k
theorem c107 {v w : Int} (hK : K.1 = 923) (hX : FX M) (h : GC M c L s) (k : QC Q M K (0 ≤ v ∧ v < (nSt c : Int)) (0 ≤ w ∧ w ≤ 5) (vI (stripS c s L v w))) : Wm (d + 3) 107 [vR 32, vI v, vI w] M K Q := by
  have hst := h.stn
  obtain ⟨cm, l, a, b, e, f⟩ := h
  have hN := e.2.1.n.1
  refine u107_0 hK hX ⟨nSt c, hst, fun hv => ⟨fun hw => ?_, k.2.1 hv⟩, k.1⟩
  have kk := k.2.2 hv hw
  have k := k.ok hv hw hX
  obtain ⟨p, rfl⟩ : ∃ p : Nat, v = (p : Int) := ⟨v.toNat, by omega⟩
  obtain ⟨q0, q1, q2, q3⟩ := e.2.2.1.1 p (by omega)
  rw [show (40 : Nat) + 2 = 42 from rfl] at q0
  rw [show (40 : Nat) + 1 = 41 from rfl] at q1
  rw [show (40 : Nat) + 3 = 43 from rfl] at q2
  rw [show (40 : Nat) + 4 = 44 from rfl] at q3
  unfold stripS at k kk
  rw [Int.toNat_natCast] at k kk ⊢
  refine ⟨?_, ?_, ?_, ?_, ?_, ?_⟩
  · rintro rfl; refine ⟨cm, a, b, by omega, ?_⟩; rw [e.1.a2 (by omega)]; exact k
  · rintro rfl; refine ⟨by omega, ?_⟩; rw [q1]; exact k
  · rintro rfl; refine ⟨by omega, ?_⟩; rw [q0]; exact k
  · rintro rfl; refine ⟨by omega, ?_⟩; rw [q2]; exact k
  · rintro rfl; refine ⟨by omega, ?_⟩; rw [q3]; exact k
  · intro h9
    have : w = 5 := by omega
    subst this
    refine ⟨cm, a, b, c, ⟨e.1, e.2.1⟩, c, s, L, l, p, ⟨rfl, e, f, by omega⟩, fun M1 x1 f1 => ?_⟩
    rw [e.2.2.1.2.1]
    exact kk M1 x1 f1.qc
theorem m211 {v w : Int} (hK : K.1 = 923) (hX : FX M) (h : GM M c L s) (k : QM Q M K (0 ≤ v ∧ v < (nSt c : Int)) (0 ≤ w ∧ w ≤ 5) 2 (vI 0) (vI (stripS c s L v w))) : Wm (d + 5) 211 [vR 440, vI v, vI w] M K Q := by
  have hN := h.1.2.1.n.1
  refine u211_0 hK hX ⟨nSt c, h.stn.t0, fun hv => ⟨fun hw => ?_, fun hw => k.bad hv hw⟩, fun hv => k.mis hv⟩
  have kk := k.2.2 hv hw
  have k := k.ok hv hw hX
  obtain ⟨p, rfl⟩ : ∃ p : Nat, v = (p : Int) := ⟨v.toNat, by omega⟩
  obtain ⟨q0, q1, q2, q3⟩ := h.1.2.2.1.1 p (by omega)
  have p6 : p < 6 := by omega
  unfold stripS at k kk
  rw [Int.toNat_natCast] at k kk ⊢
  rw [ix0 p6, ix6 p6, ix12 p6, ix18 p6]
  refine ⟨?_, ?_, ?_, ?_, ?_, ?_⟩
  · rintro rfl; refine ⟨by omega, ?_⟩; rw [(h.1.1.2.2.1 p (by omega)).1]; exact k
  · rintro rfl; refine ⟨bx6 p6, ?_⟩; rw [q1]; exact k
  · rintro rfl; refine ⟨bx0 p6, ?_⟩; rw [q0]; exact k
  · rintro rfl; refine ⟨bx12 p6, ?_⟩; rw [q2]; exact k
  · rintro rfl; refine ⟨bx18 p6, ?_⟩; rw [q3]; exact k
  · intro h9
    have : w = 5 := by omega
    subst this
    have h' := h.q FrQm.t0
    refine ⟨c, s, L, p, -1, ⟨rfl, h'.1, h'.2, by omega⟩, fun M1 x1 f1 => ?_⟩
    unfold rainM; rw [if_pos rfl]
    exact kk M1 x1 (FrQm.t0.tr f1.q) ((f1 440 0 (by decide) (by decide)).trans ms_eq)
theorem c108 {v : Int} (hK : K.1 = 923) (hX : FX M) (h : GC M c L s) (k : QC Q M K (0 ≤ v ∧ v < (nDe c : Int)) True (vI (c 4 v.toNat))) : Wm (d + 1) 108 [vR 32, vI v] M K Q := by
  obtain ⟨cm, l, a, b, e, f⟩ := h
  have hD := e.2.1.n.2.2
  refine u108_0 hK hX ⟨cm, a, b, ?_⟩
  rw [(e.1.g e.2.1).2.2.1, w32_id (by omega)]
  refine ⟨fun hv => ⟨by omega, ?_⟩, fun hv => k.1 (by omega)⟩
  have k := k.ok (by omega) trivial hX
  rw [e.1.2 4 (by decide) (by decide) _ (by show (_ : Int) < c 0 2; omega)]; exact k
theorem m212 {v : Int} (hK : K.1 = 923) (hX : FX M) (h : GM M c L s) (k : QM Q M K (0 ≤ v ∧ v < (nDe c : Int)) True 2 (vI 0) (vI (c 4 v.toNat))) : Wm (d + 1) 212 [vR 440, vI v] M K Q := by
  have hD := h.1.2.1.n.2.2
  refine u212_0 hK hX ?_
  rw [h.1.1.1 2 (by decide), hD.1, w32_id (by omega)]
  refine ⟨fun hv => ⟨by omega, ?_⟩, fun hv => k.mis (by omega)⟩
  have k := k.ok (by omega) trivial hX
  rw [h.1.1.2.2.2.1 _ (by omega)]; exact k
def wouldS (L : LC) (a0 a1 a2 a3 a4 a5 a6 a7 : Int) : Int := wh (fcts a0 a1 a2 a3 a4 a5 a6 a7) L
abbrev wdOK (a0 a1 a2 a3 a4 a5 a6 a7 : Int) : Prop := (0 ≤ a0 ∧ a0 ≤ 54) ∧ (1 ≤ a1 ∧ a1 ≤ 6) ∧ (0 ≤ a2 ∧ a2 ≤ 99) ∧ (0 ≤ a3 ∧ a3 ≤ 9) ∧ (0 ≤ a4 ∧ a4 ≤ 9) ∧ (0 ≤ a5 ∧ a5 ≤ 1) ∧ (0 ≤ a6 ∧ a6 ≤ 500) ∧ (0 ≤ a7 ∧ a7 ≤ 11)
theorem c109 {a0 a1 a2 a3 a4 a5 a6 a7 : Int} (hK : K.1 = 923) (hX : FX M) (h : GC M c L s) (k : QC Q M K True (wdOK a0 a1 a2 a3 a4 a5 a6 a7) (vI (wouldS L a0 a1 a2 a3 a4 a5 a6 a7))) : Wm (d + 2) 109 [vR 32, vI a0, vI a1, vI a2, vI a3, vI a4, vI a5, vI a6, vI a7] M K Q := by
  obtain ⟨cm, l, a, b, e, f⟩ := h
  have hg0 := rg0 b
  have hg2 := rg2 f.2.1
  have bad : ∀ t : Int, ((¬ t = 0) ↔ ((0 ≤ a0 ∧ a0 ≤ 54) ∧ (1 ≤ a1 ∧ a1 ≤ 6) ∧ (0 ≤ a2 ∧ a2 ≤ 99))) → Wp (d + 2) 109 36 [vR 32, vI a0, vI a1, vI a2, vI a3, vI a4, vI a5, vI a6, vI a7, vU] [vI t, vR 32] M K Q := by
    intro t ht
    refine u109_36 hK hX ⟨fun h9 => ⟨fun h1 => k.2.1 trivial (fun h8 => h1 h8.2.2.2.1), fun h1 => ⟨fun h2 => k.2.1 trivial (fun h8 => h2 h8.2.2.2.2.1), fun h2 => ⟨fun h3 => k.2.1 trivial (fun h8 => h3 h8.2.2.2.2.2.1), fun h3 => ⟨fun h4 => k.2.1 trivial (fun h8 => h4 h8.2.2.2.2.2.2.1), fun h4 => ⟨fun h5 => k.2.1 trivial (fun h8 => h5 h8.2.2.2.2.2.2.2), fun h5 => ?_⟩⟩⟩⟩⟩, fun h9 => k.2.1 trivial (fun h8 => h9 (ht.mpr ⟨h8.1, h8.2.1, h8.2.2.1⟩))⟩
    have h0 := ht.mp h9
    have kk := k.2.2 trivial ⟨h0.1, h0.2.1, h0.2.2, h1, h2, h3, h4, h5⟩
    have na : ∀ b j, b ≠ l + 1 → (mset (mset (mset (mset (mset (mset (mset (mset M (l + 1) 0 a0) (l + 1) 1 a1) (l + 1) 2 a2) (l + 1) 3 a3) (l + 1) 4 a4) (l + 1) 5 a5) (l + 1) 6 a6) (l + 1) 7 a7) b j = M b j := fun b j hb => by
      rw [ms_na hb, ms_na hb, ms_na hb, ms_na hb, ms_na hb, ms_na hb, ms_na hb, ms_na hb]
    refine ⟨cm, a, b, l, f.1, f.2.1, eff L, ⟨⟨(na _ _ (by omega)).trans f.2.2.1.1, f.2.2.1.2.1, fun i hi => (na _ _ (by omega)).trans (f.2.2.1.2.2 i hi)⟩, f.2.2.2⟩, fun M1 x1 f1 => ?_⟩
    have ew : clmp ((evA ((mset (mset (mset (mset (mset (mset (mset (mset M (l + 1) 0 a0) (l + 1) 1 a1) (l + 1) 2 a2) (l + 1) 3 a3) (l + 1) 4 a4) (l + 1) 5 a5) (l + 1) 6 a6) (l + 1) 7 a7) (l + 1)) (eff L)).2 0) = wouldS L a0 a1 a2 a3 a4 a5 a6 a7 := by
      show wh _ L = wh _ L
      refine wh_c (fun j hj => ?_) f.2.2.2
      rcases (show j = 0 ∨ j = 1 ∨ j = 2 ∨ j = 3 ∨ j = 4 ∨ j = 5 ∨ j = 6 ∨ j = 7 by omega) with rfl | rfl | rfl | rfl | rfl | rfl | rfl | rfl <;> simp [mset, fcts]
    rw [ew]
    refine kk M1 x1 (FrW.qc (fun b' j hb => ?_))
    rw [f1 b' j (by unfold scL at hb; omega), na b' j (by unfold scL at hb; omega)]
  refine u109_0 hK hX ⟨fun h1 => bad 0 ⟨fun h9 => absurd rfl h9, fun h9 => absurd h9.1 h1⟩, fun h1 => ⟨fun h2 => bad 0 ⟨fun h9 => absurd rfl h9, fun h9 => absurd h9.2.1 h2⟩, fun h2 => ⟨fun h3 => bad 0 ⟨fun h9 => absurd rfl h9, fun h9 => absurd h9.2.2 h3⟩, fun h3 => bad 1 ⟨fun _ => ⟨h1, h2, h3⟩, fun _ => by decide⟩⟩⟩⟩
theorem m213 {a0 a1 a2 a3 a4 a5 a6 a7 : Int} (hK : K.1 = 923) (hX : FX M) (h : GM M c L s) (k : QM Q M K True (wdOK a0 a1 a2 a3 a4 a5 a6 a7) 1 (vI 0) (vI (wouldS L a0 a1 a2 a3 a4 a5 a6 a7))) : Wm (d + 3) 213 [vR 440, vI a0, vI a1, vI a2, vI a3, vI a4, vI a5, vI a6, vI a7] M K Q := by
  have bad : ¬ wdOK a0 a1 a2 a3 a4 a5 a6 a7 → Wp (d + 3) 213 91 [vR 440, vI a0, vI a1, vI a2, vI a3, vI a4, vI a5, vI a6, vI a7] [vR 440] (mset M 440 0 0) K Q := fun hn => u213_91 hK hX.t0 ⟨ms_eq, k.bad trivial hn⟩
  refine u213_0 hK hX ⟨fun h1 => bad (fun h9 => h1 h9.1), fun h1 => ⟨fun h2 => bad (fun h9 => h2 h9.2.1), fun h2 => ⟨fun h3 => bad (fun h9 => h3 h9.2.2.1), fun h3 => ⟨fun h4 => bad (fun h9 => h4 h9.2.2.2.1), fun h4 => ⟨fun h5 => bad (fun h9 => h5 h9.2.2.2.2.1), fun h5 => ⟨fun h6 => bad (fun h9 => h6 h9.2.2.2.2.2.1), fun h6 => ⟨fun h7 => bad (fun h9 => h7 h9.2.2.2.2.2.2.1), fun h7 => ⟨fun h8 => ?_, fun h8 => bad (fun h9 => h8 h9.2.2.2.2.2.2.2)⟩⟩⟩⟩⟩⟩⟩⟩
  have kk := k.2.2 trivial ⟨h1, h2, h3, h4, h5, h6, h7, h8⟩
  have na : ∀ b j, b ≠ 806 → (mset (mset (mset (mset (mset (mset (mset (mset (mset M 440 0 0) 806 0 a0) 806 1 a1) 806 2 a2) 806 3 a3) 806 4 a4) 806 5 a5) 806 6 a6) 806 7 a7) b j = mset M 440 0 0 b j := fun b j hb => by
    rw [ms_na hb, ms_na hb, ms_na hb, ms_na hb, ms_na hb, ms_na hb, ms_na hb, ms_na hb]
  have f0 : FrQm M (mset (mset (mset (mset (mset (mset (mset (mset (mset M 440 0 0) 806 0 a0) 806 1 a1) 806 2 a2) 806 3 a3) 806 4 a4) 806 5 a5) 806 6 a6) 806 7 a7) := fun b j hb => (na b j (by unfold scM at hb; omega)).trans (FrQm.t0 b j hb)
  have lm := h.2.q f0
  refine ⟨L, ⟨lm, ?_⟩, fun M1 x1 f1 => ?_⟩
  · simp [mset]; omega
  · have ew : wh ((mset (mset (mset (mset (mset (mset (mset (mset (mset M 440 0 0) 806 0 a0) 806 1 a1) 806 2 a2) 806 3 a3) 806 4 a4) 806 5 a5) 806 6 a6) 806 7 a7) 806) L = wouldS L a0 a1 a2 a3 a4 a5 a6 a7 := by
      refine wh_c (fun j hj => ?_) lm.vd
      rcases (show j = 0 ∨ j = 1 ∨ j = 2 ∨ j = 3 ∨ j = 4 ∨ j = 5 ∨ j = 6 ∨ j = 7 by omega) with rfl | rfl | rfl | rfl | rfl | rfl | rfl | rfl <;> simp [mset, fcts]
    rw [ew]
    exact kk M1 x1 (f0.tr (fun b j hb => f1 b j (by unfold scM at hb; omega))) ((f1 _ _ (by decide)).trans ((na _ _ (by decide)).trans ms_eq))
theorem c110 {v w : Int} (hK : K.1 = 923) (hX : FX M) (h : GC M c L s) (k : QC Q M K ((0 ≤ v ∧ v < (nSt c : Int)) ∧ (0 ≤ w ∧ w < (nCe c : Int))) True (vI (bI (roomS c s v.toNat w = true)))) : Wm (d + 2) 110 [vR 32, vI v, vI w] M K Q := by
  have hst := h.stn
  have hce := h.cen
  obtain ⟨cm, l, a, b, e, f⟩ := h
  have hC := e.2.1.n.2.1.2
  refine u110_0 hK hX ⟨nSt c, hst, fun hv => ⟨nCe c, hce, fun hw => ⟨cm, a, b, c, s, v.toNat, ⟨by omega, e, by omega, by omega, by omega⟩, k.ok ⟨hv, hw⟩ trivial hX⟩, fun hw => k.1 (fun h9 => hw h9.2)⟩, fun hv => k.1 (fun h9 => hv h9.1)⟩
theorem m214 {v w : Int} (hK : K.1 = 923) (hX : FX M) (h : GM M c L s) (k : QM Q M K ((0 ≤ v ∧ v < (nSt c : Int)) ∧ (0 ≤ w ∧ w < (nCe c : Int))) True 2 (vI 0) (vI (bI (roomS c s v.toNat w = true)))) : Wm (d + 3) 214 [vR 440, vI v, vI w] M K Q := by
  have hC := h.1.2.1.n.2.1.2
  refine u214_0 hK hX ⟨nSt c, h.stn.t0, fun hv => k.mis (fun h9 => hv h9.1), fun hv => ⟨nCe c, h.cen.t0, fun hw => ⟨c, s, v.toNat, -1, ⟨by omega, (h.q FrQm.t0).1, by omega, by omega, by omega⟩, k.ok ⟨hv, hw⟩ trivial hX⟩, fun hw => k.mis (fun h9 => hw h9.2)⟩⟩
end OP1
