theorem u124_0 {d : Nat} {l1 : Int} {l2 : Int} {l3 : Int} {M : Mem} {K : KK} {Q : RR → Mem → KK → Prop} (hK : K.1 = 923) (hX : FX M)  (h : ∃ n1 : Nat, StN M n1 ∧ ((0 ≤ l1 ∧ l1 < (n1 : Int)) → ∃ b3 : Nat, (M 32 11) = (b3 : Int) ∧ isO 923 b3 0 = true ∧ (0 ≤ (M b3 6) ∧ (M b3 6) ≤ 12) ∧ (¬ (0 ≤ l2 ∧ l2 < ((2 ^ ((M b3 6)).toNat : Nat) : Int)) → Q (.inr 0) (mset M 32 19 (w32 ((M 32 19) + 1))) (K.1, K.2.1 + 1, K.2.2 + 6)) ∧ ((0 ≤ l2 ∧ l2 < ((2 ^ ((M b3 6)).toNat : Nat) : Int)) → (¬ ((0 : Int) ≤ l3 ∧ l3 ≤ (999 : Int)) → Q (.inr 0) (mset M 32 19 (w32 ((M 32 19) + 1))) (K.1, K.2.1 + 1, K.2.2 + 6)) ∧ (((0 : Int) ≤ l3 ∧ l3 ≤ (999 : Int)) → ∃ c11 : Mem, ∃ z12 : Nat, (l2 = (z12 : Int) ∧ CC M b3 c11 ∧ CW c11 ∧ z12 < 2147483648) ∧ ((jand (jshr l2 l1) (1 : Int)) = (0 : Int) → Q (.inl (some (vI (0 : Int)))) M K) ∧ (¬ ((jand (jshr l2 l1) (1 : Int)) = (0 : Int)) → ((0 : Int) < (yardS c11 z12) → (0 ≤ l1 ∧ l1 < (6 : Int)) ∧ (yardS c11 z12) ≠ 0 ∧ Wp (d + 2) 124 89 [vR 32, vI l1, vI l2, vI l3, vI (yardS c11 z12), vI l3, vI (0 : Int), vI (Int.tmod (w32 (l3 * (M (b3 + 2) (Int.toNat l1)))) (yardS c11 z12)), vI (0 : Int), vU] [] M K Q) ∧ (¬ ((0 : Int) < (yardS c11 z12)) → Q (.inl (some (vI (0 : Int)))) M K))))) ∧ (¬ (0 ≤ l1 ∧ l1 < (n1 : Int)) → Q (.inr 1) (mset M 32 18 (w32 ((M 32 18) + 1))) (K.1, K.2.1 + 1, K.2.2 + 6))) : Wp (d + 2) 124 0 [vR 32, vI l1, vI l2, vI l3, vU, vU, vU, vU, vU, vU] [] M K Q := by
  refine r_aload_n c124_0 rfl ?_
  refine r_iload_n c124_1 rfl ?_
  obtain ⟨n1, h⟩ := h
  obtain ⟨p2, h⟩ := h
  refine r_call c124_2 rfl rfl (Nat.le_of_ble_eq_true rfl) (okc_r rfl rfl (oK hK o32)) (n138 hK hX p2 (fun hc => Bk_n ?_) (fun hc => Bk_e rfl rfl rfl ?_))
  · replace h := h.1 hc
    refine r_aload_n c124_5 rfl ?_
    refine r_iload_n c124_6 rfl ?_
    refine r_aload_n c124_7 rfl ?_
    obtain ⟨b3, h⟩ := h
    obtain ⟨e4, h⟩ := h
    obtain ⟨k5, h⟩ := h
    refine r_getR c124_8 (oK hK o32) e4 (by have := (isO_d k5).1; omega) ?_
    refine r_getIe c124_11 (oK hK k5) rfl ?_
    obtain ⟨p6, h⟩ := h
    refine r_call c124_14 rfl rfl (Nat.le_of_ble_eq_true rfl) (okc_s rfl rfl rfl) (g143 hK hX p6 (Bk_v ?_))
    refine r_ifP (P := ¬ (0 ≤ l2 ∧ l2 < ((2 ^ ((M b3 6)).toNat : Nat) : Int))) c124_17 bI_eq (fun hc7 => ?_) (fun hc7 => ?_)
    · replace h := h.1 hc7
      refine r_iconst c124_35 ?_
      refine r_call c124_36 rfl rfl (Nat.le_of_ble_eq_true rfl) (okc_r rfl rfl (oK hK o32)) (n136_0 hK hX (Bk_e rfl rfl rfl ?_))
      exact h
    · have hc8 := Classical.not_not.mp hc7
      replace h := h.2 hc8
      refine r_iload_n c124_20 rfl ?_
      refine r_iconst c124_21 ?_
      refine r_sipush c124_22 ?_
      refine r_call c124_25 rfl rfl (Nat.le_of_ble_eq_true rfl) (okc_s rfl rfl rfl) (g142 hK hX  (Bk_v ?_))
      refine r_ifP (P := ¬ ((0 : Int) ≤ l3 ∧ l3 ≤ (999 : Int))) c124_28 bI_eq (fun hc9 => ?_) (fun hc9 => ?_)
      · replace h := h.1 hc9
        refine r_iconst c124_35 ?_
        refine r_call c124_36 rfl rfl (Nat.le_of_ble_eq_true rfl) (okc_r rfl rfl (oK hK o32)) (n136_0 hK hX (Bk_e rfl rfl rfl ?_))
        exact h
      · have hc10 := Classical.not_not.mp hc9
        replace h := h.2 hc10
        refine r_iconst c124_31 ?_
        refine r_goto c124_32 ?_
        refine r_call c124_36 rfl rfl (Nat.le_of_ble_eq_true rfl) (okc_r rfl rfl (oK hK o32)) (n136_1 hK hX (Bk_n ?_))
        refine r_aload_n c124_39 rfl ?_
        refine r_getR c124_40 (oK hK o32) e4 (by have := (isO_d k5).1; omega) ?_
        refine r_iload_n c124_43 rfl ?_
        obtain ⟨c11, h⟩ := h
        obtain ⟨z12, h⟩ := h
        obtain ⟨p13, h⟩ := h
        refine r_call c124_44 rfl rfl (Nat.le_of_ble_eq_true rfl) (okc_r rfl rfl (oK hK k5)) (g9z hK hX k5 p13 (Bk_v ?_))
        refine r_istore c124_47 (Nat.le_of_ble_eq_true rfl) ?_
        refine r_iload_n c124_49 rfl ?_
        refine r_iload_n c124_50 rfl ?_
        refine r_ishr c124_51 ?_
        refine r_iconst c124_52 ?_
        refine r_iand c124_53 ?_
        refine r_ifP (P := (jand (jshr l2 l1) (1 : Int)) = (0 : Int)) c124_54 rfl (fun hc14 => ?_) (fun hc14 => ?_)
        · replace h := h.1 hc14
          refine r_iconst c124_62 ?_
          exact r_iret c124_63 (Or.inl rfl) h
        · replace h := h.2 hc14
          refine r_iload c124_57 rfl ?_
          refine r_ifP (P := (0 : Int) < (yardS c11 z12)) c124_59 rfl (fun hc15 => ?_) (fun hc15 => ?_)
          · replace h := h.1 hc15
            refine r_iload_n c124_64 rfl ?_
            refine r_istore c124_65 (Nat.le_of_ble_eq_true rfl) ?_
            refine r_iconst c124_67 ?_
            refine r_istore c124_68 (Nat.le_of_ble_eq_true rfl) ?_
            refine r_iload_n c124_70 rfl ?_
            refine r_aload_n c124_71 rfl ?_
            refine r_getR c124_72 (oK hK o32) e4 (by have := (isO_d k5).1; omega) ?_
            refine r_getR c124_75 (oK hK k5) (fx0_1 hX k5) (by omega) ?_
            refine r_iload_n c124_78 rfl ?_
            obtain ⟨s16, h⟩ := h
            refine r_iae c124_79 (oK hK (q0_1 k5)) (bd (z0_1 k5) s16) rfl ?_
            refine r_imul c124_80 ?_
            refine r_iload c124_81 rfl ?_
            obtain ⟨s17, h⟩ := h
            refine r_irem c124_83 s17 ?_
            refine r_istore c124_84 (Nat.le_of_ble_eq_true rfl) ?_
            refine r_iconst c124_86 ?_
            refine r_istore c124_87 (Nat.le_of_ble_eq_true rfl) ?_
            exact h
          · replace h := h.2 hc15
            refine r_iconst c124_62 ?_
            exact r_iret c124_63 (Or.inl rfl) h
  · replace h := h.2 hc
    exact h
theorem u124_89 {d : Nat} {l1 : Int} {l2 : Int} {l3 : Int} {l4 : Int} {l5 : Int} {l6 : Int} {l7 : Int} {l8 : Int} {l9 : PV} {M : Mem} {K : KK} {Q : RR → Mem → KK → Prop} (hK : K.1 = 923) (hX : FX M)  (h : ∃ b1 : Nat, (M 32 11) = (b1 : Int) ∧ isO 923 b1 0 = true ∧ ((M b1 6) ≤ l8 → (0 ≤ l1 ∧ l1 < (6 : Int)) ∧ l4 ≠ 0 ∧ (l5 ≤ l6 → Q (.inl (some (vI (w32 ((w32 (Int.tdiv (w32 (l3 * (M (b1 + 2) (Int.toNat l1)))) l4)) + (0 : Int)))))) M K) ∧ (¬ (l5 ≤ l6) → Q (.inl (some (vI (w32 ((w32 (Int.tdiv (w32 (l3 * (M (b1 + 2) (Int.toNat l1)))) l4)) + (1 : Int)))))) M K)) ∧ (¬ ((M b1 6) ≤ l8) → (¬ (jand (jshr l2 l8) (1 : Int)) = (1 : Int) → Wp (d + 2) 124 89 [vR 32, vI l1, vI l2, vI l3, vI l4, vI l5, vI l6, vI l7, vI (w32 (l8 + 1)), l9] [] M K Q) ∧ ((jand (jshr l2 l8) (1 : Int)) = (1 : Int) → (0 ≤ l8 ∧ l8 < (6 : Int)) ∧ l4 ≠ 0 ∧ (0 ≤ l8 ∧ l8 < (6 : Int)) ∧ l4 ≠ 0 ∧ (l7 < (Int.tmod (w32 (l3 * (M (b1 + 2) (Int.toNat l8)))) l4) → Wp (d + 2) 124 89 [vR 32, vI l1, vI l2, vI l3, vI l4, vI (w32 (l5 - (w32 (Int.tdiv (w32 (l3 * (M (b1 + 2) (Int.toNat l8)))) l4)))), vI (w32 (l6 + (1 : Int))), vI l7, vI (w32 (l8 + 1)), vI (Int.tmod (w32 (l3 * (M (b1 + 2) (Int.toNat l8)))) l4)] [] M K Q) ∧ (¬ (l7 < (Int.tmod (w32 (l3 * (M (b1 + 2) (Int.toNat l8)))) l4)) → (¬ (Int.tmod (w32 (l3 * (M (b1 + 2) (Int.toNat l8)))) l4) = l7 → Wp (d + 2) 124 89 [vR 32, vI l1, vI l2, vI l3, vI l4, vI (w32 (l5 - (w32 (Int.tdiv (w32 (l3 * (M (b1 + 2) (Int.toNat l8)))) l4)))), vI (w32 (l6 + (0 : Int))), vI l7, vI (w32 (l8 + 1)), vI (Int.tmod (w32 (l3 * (M (b1 + 2) (Int.toNat l8)))) l4)] [] M K Q) ∧ ((Int.tmod (w32 (l3 * (M (b1 + 2) (Int.toNat l8)))) l4) = l7 → (l1 ≤ l8 → Wp (d + 2) 124 89 [vR 32, vI l1, vI l2, vI l3, vI l4, vI (w32 (l5 - (w32 (Int.tdiv (w32 (l3 * (M (b1 + 2) (Int.toNat l8)))) l4)))), vI (w32 (l6 + (0 : Int))), vI l7, vI (w32 (l8 + 1)), vI (Int.tmod (w32 (l3 * (M (b1 + 2) (Int.toNat l8)))) l4)] [] M K Q) ∧ (¬ (l1 ≤ l8) → Wp (d + 2) 124 89 [vR 32, vI l1, vI l2, vI l3, vI l4, vI (w32 (l5 - (w32 (Int.tdiv (w32 (l3 * (M (b1 + 2) (Int.toNat l8)))) l4)))), vI (w32 (l6 + (1 : Int))), vI l7, vI (w32 (l8 + 1)), vI (Int.tmod (w32 (l3 * (M (b1 + 2) (Int.toNat l8)))) l4)] [] M K Q)))))) : Wp (d + 2) 124 89 [vR 32, vI l1, vI l2, vI l3, vI l4, vI l5, vI l6, vI l7, vI l8, l9] [] M K Q := by
  refine r_iload c124_89 rfl ?_
  refine r_aload_n c124_91 rfl ?_
  obtain ⟨b1, h⟩ := h
  obtain ⟨e2, h⟩ := h
  obtain ⟨k3, h⟩ := h
  refine r_getR c124_92 (oK hK o32) e2 (by have := (isO_d k3).1; omega) ?_
  refine r_getIe c124_95 (oK hK k3) rfl ?_
  refine r_icmpP (P := (M b1 6) ≤ l8) c124_98 rfl (fun hc4 => ?_) (fun hc4 => ?_)
  · replace h := h.1 hc4
    refine r_iload_n c124_184 rfl ?_
    refine r_aload_n c124_185 rfl ?_
    refine r_getR c124_186 (oK hK o32) e2 (by have := (isO_d k3).1; omega) ?_
    refine r_getR c124_189 (oK hK k3) (fx0_1 hX k3) (by omega) ?_
    refine r_iload_n c124_192 rfl ?_
    obtain ⟨s5, h⟩ := h
    refine r_iae c124_193 (oK hK (q0_1 k3)) (bd (z0_1 k3) s5) rfl ?_
    refine r_imul c124_194 ?_
    refine r_iload c124_195 rfl ?_
    obtain ⟨s6, h⟩ := h
    refine r_idiv c124_197 s6 ?_
    refine r_iload c124_198 rfl ?_
    refine r_iload c124_200 rfl ?_
    refine r_icmpP (P := l5 ≤ l6) c124_202 rfl (fun hc7 => ?_) (fun hc7 => ?_)
    · replace h := h.1 hc7
      refine r_iconst c124_209 ?_
      refine r_iadd c124_210 ?_
      exact r_iret c124_211 (Or.inl rfl) h
    · replace h := h.2 hc7
      refine r_iconst c124_205 ?_
      refine r_goto c124_206 ?_
      refine r_iadd c124_210 ?_
      exact r_iret c124_211 (Or.inl rfl) h
  · replace h := h.2 hc4
    refine r_iload_n c124_101 rfl ?_
    refine r_iload c124_102 rfl ?_
    refine r_ishr c124_104 ?_
    refine r_iconst c124_105 ?_
    refine r_iand c124_106 ?_
    refine r_iconst c124_107 ?_
    refine r_icmpP (P := ¬ (jand (jshr l2 l8) (1 : Int)) = (1 : Int)) c124_108 rfl (fun hc8 => ?_) (fun hc8 => ?_)
    · replace h := h.1 hc8
      refine r_iinc c124_178 rfl ?_
      refine r_goto c124_181 ?_
      exact h
    · have hc9 := Classical.not_not.mp hc8
      replace h := h.2 hc9
      refine r_iload_n c124_111 rfl ?_
      refine r_aload_n c124_112 rfl ?_
      refine r_getR c124_113 (oK hK o32) e2 (by have := (isO_d k3).1; omega) ?_
      refine r_getR c124_116 (oK hK k3) (fx0_1 hX k3) (by omega) ?_
      refine r_iload c124_119 rfl ?_
      obtain ⟨s10, h⟩ := h
      refine r_iae c124_121 (oK hK (q0_1 k3)) (bd (z0_1 k3) s10) rfl ?_
      refine r_imul c124_122 ?_
      refine r_iload c124_123 rfl ?_
      obtain ⟨s11, h⟩ := h
      refine r_irem c124_125 s11 ?_
      refine r_istore c124_126 (Nat.le_of_ble_eq_true rfl) ?_
      refine r_iload c124_128 rfl ?_
      refine r_iload_n c124_130 rfl ?_
      refine r_aload_n c124_131 rfl ?_
      refine r_getR c124_132 (oK hK o32) e2 (by have := (isO_d k3).1; omega) ?_
      refine r_getR c124_135 (oK hK k3) (fx0_1 hX k3) (by omega) ?_
      refine r_iload c124_138 rfl ?_
      obtain ⟨s12, h⟩ := h
      refine r_iae c124_140 (oK hK (q0_1 k3)) (bd (z0_1 k3) s12) rfl ?_
      refine r_imul c124_141 ?_
      refine r_iload c124_142 rfl ?_
      obtain ⟨s13, h⟩ := h
      refine r_idiv c124_144 s13 ?_
      refine r_isub c124_145 ?_
      refine r_istore c124_146 (Nat.le_of_ble_eq_true rfl) ?_
      refine r_iload c124_148 rfl ?_
      refine r_iload c124_150 rfl ?_
      refine r_iload c124_152 rfl ?_
      refine r_icmpP (P := l7 < (Int.tmod (w32 (l3 * (M (b1 + 2) (Int.toNat l8)))) l4)) c124_154 rfl (fun hc14 => ?_) (fun hc14 => ?_)
      · replace h := h.1 hc14
        refine r_iconst c124_170 ?_
        refine r_goto c124_171 ?_
        refine r_iadd c124_175 ?_
        refine r_istore c124_176 (Nat.le_of_ble_eq_true rfl) ?_
        refine r_iinc c124_178 rfl ?_
        refine r_goto c124_181 ?_
        exact h
      · replace h := h.2 hc14
        refine r_iload c124_157 rfl ?_
        refine r_iload c124_159 rfl ?_
        refine r_icmpP (P := ¬ (Int.tmod (w32 (l3 * (M (b1 + 2) (Int.toNat l8)))) l4) = l7) c124_161 rfl (fun hc15 => ?_) (fun hc15 => ?_)
        · replace h := h.1 hc15
          refine r_iconst c124_174 ?_
          refine r_iadd c124_175 ?_
          refine r_istore c124_176 (Nat.le_of_ble_eq_true rfl) ?_
          refine r_iinc c124_178 rfl ?_
          refine r_goto c124_181 ?_
          exact h
        · have hc16 := Classical.not_not.mp hc15
          replace h := h.2 hc16
          refine r_iload c124_164 rfl ?_
          refine r_iload_n c124_166 rfl ?_
          refine r_icmpP (P := l1 ≤ l8) c124_167 rfl (fun hc17 => ?_) (fun hc17 => ?_)
          · replace h := h.1 hc17
            refine r_iconst c124_174 ?_
            refine r_iadd c124_175 ?_
            refine r_istore c124_176 (Nat.le_of_ble_eq_true rfl) ?_
            refine r_iinc c124_178 rfl ?_
            refine r_goto c124_181 ?_
            exact h
          · replace h := h.2 hc17
            refine r_iconst c124_170 ?_
            refine r_goto c124_171 ?_
            refine r_iadd c124_175 ?_
            refine r_istore c124_176 (Nat.le_of_ble_eq_true rfl) ?_
            refine r_iinc c124_178 rfl ?_
            refine r_goto c124_181 ?_
            exact h
theorem u241_0 {d : Nat} {l1 : Int} {l2 : Int} {l3 : Int} {M : Mem} {K : KK} {Q : RR → Mem → KK → Prop} (hK : K.1 = 923) (hX : FX M)  (h : ∃ n2 : Nat, StM (mset M 440 0 (0 : Int)) n2 ∧ ((0 ≤ l1 ∧ l1 < (n2 : Int)) → ∃ n5 : Nat, StM (mset M 440 0 (0 : Int)) n5 ∧ (¬ (0 ≤ l2 ∧ l2 < ((2 ^ n5 : Nat) : Int)) → (∀ (M11 : Mem), FX M11 → BadM 2 1 (mset M 440 0 (0 : Int)) M11 → Q (.inl (some (vI (0 : Int)))) M11 K)) ∧ ((0 ≤ l2 ∧ l2 < ((2 ^ n5 : Nat) : Int)) → (((0 : Int) ≤ l3 ∧ l3 ≤ (999 : Int)) → ((jand (jshr l2 l1) 1 = 1) → Wp (d + 2) 241 84 [vR 440, vI l1, vI l2, vI l3, vI (0 : Int), vI l3, vI (0 : Int), vI (0 : Int), vU, vU] [] (mset M 440 0 (0 : Int)) K Q) ∧ (¬ (jand (jshr l2 l1) 1 = 1) → Q (.inl (some (vI (0 : Int)))) (mset M 440 0 (0 : Int)) K)) ∧ (¬ ((0 : Int) ≤ l3 ∧ l3 ≤ (999 : Int)) → (∀ (M16 : Mem), FX M16 → BadM 2 1 (mset M 440 0 (0 : Int)) M16 → Q (.inl (some (vI (0 : Int)))) M16 K)))) ∧ (¬ (0 ≤ l1 ∧ l1 < (n2 : Int)) → (∀ (M19 : Mem), FX M19 → BadM 1 0 (mset M 440 0 (0 : Int)) M19 → Q (.inl (some (vI (0 : Int)))) M19 K))) : Wp (d + 2) 241 0 [vR 440, vI l1, vI l2, vI l3, vU, vU, vU, vU, vU, vU] [] M K Q := by
  refine r_aload_n c241_0 rfl ?_
  refine r_iconst c241_1 ?_
  refine r_putI c241_2 (oK hK o440) ?_
  have x1 := FX.set (v := (0 : Int)) (a := 440) (k := 0) hX (by decide +kernel)
  refine r_aload_n c241_5 rfl ?_
  refine r_aload_n c241_6 rfl ?_
  refine r_iload_n c241_7 rfl ?_
  obtain ⟨n2, h⟩ := h
  obtain ⟨p3, h⟩ := h
  refine r_call c241_8 rfl rfl (Nat.le_of_ble_eq_true rfl) (okc_r rfl rfl (oK hK o440)) (g208 hK x1 p3 (Bk_v ?_))
  refine r_ifP (P := (0 ≤ l1 ∧ l1 < (n2 : Int))) c241_11 bI_ne (fun hc4 => ?_) (fun hc4 => ?_)
  · replace h := h.1 hc4
    refine r_iconst c241_18 ?_
    refine r_iconst c241_19 ?_
    refine r_iconst c241_20 ?_
    refine r_call c241_21 rfl rfl (Nat.le_of_ble_eq_true rfl) (okc_r rfl rfl (oK hK o440)) (b152_0 hK x1 ms_eq (Bk_v ?_))
    refine r_ifP (P := ¬ (0 : Int) = (0 : Int)) c241_24 rfl (fun hc => absurd hc (by decide)) (fun hc => ?_)
    refine r_aload_n c241_27 rfl ?_
    refine r_aload_n c241_28 rfl ?_
    refine r_iload_n c241_29 rfl ?_
    obtain ⟨n5, h⟩ := h
    obtain ⟨p6, h⟩ := h
    refine r_call c241_30 rfl rfl (Nat.le_of_ble_eq_true rfl) (okc_r rfl rfl (oK hK o440)) (g209 hK x1 p6 (Bk_v ?_))
    refine r_ifP (P := ¬ (0 ≤ l2 ∧ l2 < ((2 ^ n5 : Nat) : Int))) c241_33 bI_eq (fun hc7 => ?_) (fun hc7 => ?_)
    · replace h := h.1 hc7
      refine r_iconst c241_47 ?_
      refine r_goto c241_48 ?_
      refine r_iconst c241_52 ?_
      refine r_iconst c241_53 ?_
      refine r_call c241_54 rfl rfl (Nat.le_of_ble_eq_true rfl) (okc_r rfl rfl (oK hK o440)) (b152_1 (cd := 2) (ix := 1) hK x1 ms_eq (by decide) (by decide) (fun M11 x9 p10 => Bk_v ?_))
      replace h := h M11 x9 p10
      refine r_ifP (P := (1 : Int) = (0 : Int)) c241_57 rfl (fun hc => absurd hc (by decide)) (fun hc => ?_)
      refine r_iconst c241_60 ?_
      exact r_iret c241_61 (Or.inl rfl) h
    · have hc8 := Classical.not_not.mp hc7
      replace h := h.2 hc8
      refine r_iload_n c241_36 rfl ?_
      refine r_iconst c241_37 ?_
      refine r_sipush c241_38 ?_
      refine r_call c241_41 rfl rfl (Nat.le_of_ble_eq_true rfl) (okc_s rfl rfl rfl) (g153 hK x1  (Bk_v ?_))
      refine r_ifP (P := ((0 : Int) ≤ l3 ∧ l3 ≤ (999 : Int))) c241_44 bI_ne (fun hc12 => ?_) (fun hc12 => ?_)
      · replace h := h.1 hc12
        refine r_iconst c241_51 ?_
        refine r_iconst c241_52 ?_
        refine r_iconst c241_53 ?_
        refine r_call c241_54 rfl rfl (Nat.le_of_ble_eq_true rfl) (okc_r rfl rfl (oK hK o440)) (b152_0 hK x1 ms_eq (Bk_v ?_))
        refine r_ifP (P := (0 : Int) = (0 : Int)) c241_57 rfl (fun hc => ?_) (fun hc => absurd (by decide) hc)
        refine r_iload_n c241_62 rfl ?_
        refine r_iload_n c241_63 rfl ?_
        refine r_call c241_64 rfl rfl (Nat.le_of_ble_eq_true rfl) (okc_s rfl rfl rfl) (g156 hK x1  (Bk_v ?_))
        refine r_ifP (P := (jand (jshr l2 l1) 1 = 1)) c241_67 bI_ne (fun hc13 => ?_) (fun hc13 => ?_)
        · replace h := h.1 hc13
          refine r_iconst c241_72 ?_
          refine r_istore c241_73 (Nat.le_of_ble_eq_true rfl) ?_
          refine r_iload_n c241_75 rfl ?_
          refine r_istore c241_76 (Nat.le_of_ble_eq_true rfl) ?_
          refine r_iconst c241_78 ?_
          refine r_istore c241_79 (Nat.le_of_ble_eq_true rfl) ?_
          refine r_iconst c241_81 ?_
          refine r_istore c241_82 (Nat.le_of_ble_eq_true rfl) ?_
          exact h
        · replace h := h.2 hc13
          refine r_iconst c241_70 ?_
          exact r_iret c241_71 (Or.inl rfl) h
      · replace h := h.2 hc12
        refine r_iconst c241_47 ?_
        refine r_goto c241_48 ?_
        refine r_iconst c241_52 ?_
        refine r_iconst c241_53 ?_
        refine r_call c241_54 rfl rfl (Nat.le_of_ble_eq_true rfl) (okc_r rfl rfl (oK hK o440)) (b152_1 (cd := 2) (ix := 1) hK x1 ms_eq (by decide) (by decide) (fun M16 x14 p15 => Bk_v ?_))
        replace h := h M16 x14 p15
        refine r_ifP (P := (1 : Int) = (0 : Int)) c241_57 rfl (fun hc => absurd hc (by decide)) (fun hc => ?_)
        refine r_iconst c241_60 ?_
        exact r_iret c241_61 (Or.inl rfl) h
  · replace h := h.2 hc4
    refine r_iconst c241_14 ?_
    refine r_goto c241_15 ?_
    refine r_iconst c241_19 ?_
    refine r_iconst c241_20 ?_
    refine r_call c241_21 rfl rfl (Nat.le_of_ble_eq_true rfl) (okc_r rfl rfl (oK hK o440)) (b152_1 (cd := 1) (ix := 0) hK x1 ms_eq (by decide) (by decide) (fun M19 x17 p18 => Bk_v ?_))
    replace h := h M19 x17 p18
    refine r_ifP (P := ¬ (1 : Int) = (0 : Int)) c241_24 rfl (fun hc => ?_) (fun hc => absurd (by decide) hc)
    refine r_iconst c241_60 ?_
    exact r_iret c241_61 (Or.inl rfl) h
theorem u241_84 {d : Nat} {l1 : Int} {l2 : Int} {l3 : Int} {l4 : Int} {l5 : Int} {l6 : Int} {l7 : Int} {M : Mem} {K : KK} {Q : RR → Mem → KK → Prop} (hK : K.1 = 923) (hX : FX M)  (h : ((M 444 1) ≤ l7 → Wp (d + 2) 241 131 [vR 440, vI l1, vI l2, vI l3, vI l4, vI l5, vI l6, vI (0 : Int), vU, vU] [] M K Q) ∧ (¬ ((M 444 1) ≤ l7) → (¬ (jand (jshr l2 l7) 1 = 1) → Wp (d + 2) 241 84 [vR 440, vI l1, vI l2, vI l3, vI (w32 (l4 + (0 : Int))), vI l5, vI l6, vI (w32 (l7 + 1)), vU, vU] [] M K Q) ∧ ((jand (jshr l2 l7) 1 = 1) → (0 ≤ l7 ∧ l7 < (6 : Int)) ∧ Wp (d + 2) 241 84 [vR 440, vI l1, vI l2, vI l3, vI (w32 (l4 + (M (459 + Int.toNat l7) 0))), vI l5, vI l6, vI (w32 (l7 + 1)), vU, vU] [] M K Q))) : Wp (d + 2) 241 84 [vR 440, vI l1, vI l2, vI l3, vI l4, vI l5, vI l6, vI l7, vU, vU] [] M K Q := by
  refine r_iload c241_84 rfl ?_
  refine r_aload_n c241_86 rfl ?_
  refine r_getR c241_87 (oK hK o440) (FX.get (b := 444) hX (by decide) (by decide +kernel) (by decide)) (by decide) ?_
  refine r_iconst c241_90 ?_
  refine r_iae c241_91 (oK hK o444) (bd l444 (by decide)) rfl ?_
  refine r_icmpP (P := (M 444 1) ≤ l7) c241_92 rfl (fun hc1 => ?_) (fun hc1 => ?_)
  · replace h := h.1 hc1
    refine r_iconst c241_128 ?_
    refine r_istore c241_129 (Nat.le_of_ble_eq_true rfl) ?_
    exact h
  · replace h := h.2 hc1
    refine r_iload c241_95 rfl ?_
    refine r_iload_n c241_97 rfl ?_
    refine r_iload c241_98 rfl ?_
    refine r_call c241_100 rfl rfl (Nat.le_of_ble_eq_true rfl) (okc_s rfl rfl rfl) (g156 hK hX  (Bk_v ?_))
    refine r_ifP (P := ¬ (jand (jshr l2 l7) 1 = 1)) c241_103 bI_eq (fun hc2 => ?_) (fun hc2 => ?_)
    · replace h := h.1 hc2
      refine r_iconst c241_118 ?_
      refine r_iadd c241_119 ?_
      refine r_istore c241_120 (Nat.le_of_ble_eq_true rfl) ?_
      refine r_iinc c241_122 rfl ?_
      refine r_goto c241_125 ?_
      exact h
    · have hc3 := Classical.not_not.mp hc2
      replace h := h.2 hc3
      refine r_aload_n c241_106 rfl ?_
      refine r_getR c241_107 (oK hK o440) (FX.get (b := 458) hX (by decide) (by decide +kernel) (by decide)) (by decide) ?_
      refine r_iload c241_110 rfl ?_
      obtain ⟨s4, h⟩ := h
      refine r_aa c241_112 (mrw o458 hK) (bd l458 s4) (rf458 hX s4) (by omega) ?_
      refine r_iconst c241_113 ?_
      refine r_iae c241_114 (oK hK (ro458 s4)) (bd (rz458 s4) (by decide)) rfl ?_
      refine r_goto c241_115 ?_
      refine r_iadd c241_119 ?_
      refine r_istore c241_120 (Nat.le_of_ble_eq_true rfl) ?_
      refine r_iinc c241_122 rfl ?_
      refine r_goto c241_125 ?_
      exact h
theorem u241_131 {d : Nat} {l1 : Int} {l2 : Int} {l3 : Int} {l4 : Int} {l5 : Int} {l6 : Int} {l7 : Int} {l8 : PV} {l9 : PV} {M : Mem} {K : KK} {Q : RR → Mem → KK → Prop} (hK : K.1 = 923) (hX : FX M)  (h : ((M 444 1) ≤ l7 → (0 ≤ l1 ∧ l1 < (6 : Int)) ∧ l4 ≠ 0 ∧ (l5 ≤ l6 → Q (.inl (some (vI (w32 ((w32 (Int.tdiv (w32 (l3 * (M (459 + Int.toNat l1) 0))) l4)) + (0 : Int)))))) M K) ∧ (¬ (l5 ≤ l6) → Q (.inl (some (vI (w32 ((w32 (Int.tdiv (w32 (l3 * (M (459 + Int.toNat l1) 0))) l4)) + (1 : Int)))))) M K)) ∧ (¬ ((M 444 1) ≤ l7) → ((jand (jshr l2 l7) 1 = 1) → (0 ≤ l1 ∧ l1 < (6 : Int)) ∧ l4 ≠ 0 ∧ (0 ≤ l7 ∧ l7 < (6 : Int)) ∧ l4 ≠ 0 ∧ (0 ≤ l7 ∧ l7 < (6 : Int)) ∧ l4 ≠ 0 ∧ ((Int.tmod (w32 (l3 * (M (459 + Int.toNat l1) 0))) l4) < (Int.tmod (w32 (l3 * (M (459 + Int.toNat l7) 0))) l4) → Wp (d + 2) 241 131 [vR 440, vI l1, vI l2, vI l3, vI l4, vI (w32 (l5 - (w32 (Int.tdiv (w32 (l3 * (M (459 + Int.toNat l7) 0))) l4)))), vI (w32 (l6 + (1 : Int))), vI (w32 (l7 + 1)), vI (Int.tmod (w32 (l3 * (M (459 + Int.toNat l1) 0))) l4), vI (Int.tmod (w32 (l3 * (M (459 + Int.toNat l7) 0))) l4)] [] M K Q) ∧ (¬ ((Int.tmod (w32 (l3 * (M (459 + Int.toNat l1) 0))) l4) < (Int.tmod (w32 (l3 * (M (459 + Int.toNat l7) 0))) l4)) → (¬ (Int.tmod (w32 (l3 * (M (459 + Int.toNat l7) 0))) l4) = (Int.tmod (w32 (l3 * (M (459 + Int.toNat l1) 0))) l4) → Wp (d + 2) 241 131 [vR 440, vI l1, vI l2, vI l3, vI l4, vI (w32 (l5 - (w32 (Int.tdiv (w32 (l3 * (M (459 + Int.toNat l7) 0))) l4)))), vI (w32 (l6 + (0 : Int))), vI (w32 (l7 + 1)), vI (Int.tmod (w32 (l3 * (M (459 + Int.toNat l1) 0))) l4), vI (Int.tmod (w32 (l3 * (M (459 + Int.toNat l7) 0))) l4)] [] M K Q) ∧ ((Int.tmod (w32 (l3 * (M (459 + Int.toNat l7) 0))) l4) = (Int.tmod (w32 (l3 * (M (459 + Int.toNat l1) 0))) l4) → (l1 ≤ l7 → Wp (d + 2) 241 131 [vR 440, vI l1, vI l2, vI l3, vI l4, vI (w32 (l5 - (w32 (Int.tdiv (w32 (l3 * (M (459 + Int.toNat l7) 0))) l4)))), vI (w32 (l6 + (0 : Int))), vI (w32 (l7 + 1)), vI (Int.tmod (w32 (l3 * (M (459 + Int.toNat l1) 0))) l4), vI (Int.tmod (w32 (l3 * (M (459 + Int.toNat l7) 0))) l4)] [] M K Q) ∧ (¬ (l1 ≤ l7) → Wp (d + 2) 241 131 [vR 440, vI l1, vI l2, vI l3, vI l4, vI (w32 (l5 - (w32 (Int.tdiv (w32 (l3 * (M (459 + Int.toNat l7) 0))) l4)))), vI (w32 (l6 + (1 : Int))), vI (w32 (l7 + 1)), vI (Int.tmod (w32 (l3 * (M (459 + Int.toNat l1) 0))) l4), vI (Int.tmod (w32 (l3 * (M (459 + Int.toNat l7) 0))) l4)] [] M K Q)))) ∧ (¬ (jand (jshr l2 l7) 1 = 1) → Wp (d + 2) 241 131 [vR 440, vI l1, vI l2, vI l3, vI l4, vI l5, vI l6, vI (w32 (l7 + 1)), l8, l9] [] M K Q))) : Wp (d + 2) 241 131 [vR 440, vI l1, vI l2, vI l3, vI l4, vI l5, vI l6, vI l7, l8, l9] [] M K Q := by
  refine r_iload c241_131 rfl ?_
  refine r_aload_n c241_133 rfl ?_
  refine r_getR c241_134 (oK hK o440) (FX.get (b := 444) hX (by decide) (by decide +kernel) (by decide)) (by decide) ?_
  refine r_iconst c241_137 ?_
  refine r_iae c241_138 (oK hK o444) (bd l444 (by decide)) rfl ?_
  refine r_icmpP (P := (M 444 1) ≤ l7) c241_139 rfl (fun hc1 => ?_) (fun hc1 => ?_)
  · replace h := h.1 hc1
    refine r_iload_n c241_240 rfl ?_
    refine r_aload_n c241_241 rfl ?_
    refine r_getR c241_242 (oK hK o440) (FX.get (b := 458) hX (by decide) (by decide +kernel) (by decide)) (by decide) ?_
    refine r_iload_n c241_245 rfl ?_
    obtain ⟨s2, h⟩ := h
    refine r_aa c241_246 (mrw o458 hK) (bd l458 s2) (rf458 hX s2) (by omega) ?_
    refine r_iconst c241_247 ?_
    refine r_iae c241_248 (oK hK (ro458 s2)) (bd (rz458 s2) (by decide)) rfl ?_
    refine r_imul c241_249 ?_
    refine r_iload c241_250 rfl ?_
    obtain ⟨s3, h⟩ := h
    refine r_idiv c241_252 s3 ?_
    refine r_iload c241_253 rfl ?_
    refine r_iload c241_255 rfl ?_
    refine r_icmpP (P := l5 ≤ l6) c241_257 rfl (fun hc4 => ?_) (fun hc4 => ?_)
    · replace h := h.1 hc4
      refine r_iconst c241_264 ?_
      refine r_iadd c241_265 ?_
      exact r_iret c241_266 (Or.inl rfl) h
    · replace h := h.2 hc4
      refine r_iconst c241_260 ?_
      refine r_goto c241_261 ?_
      refine r_iadd c241_265 ?_
      exact r_iret c241_266 (Or.inl rfl) h
  · replace h := h.2 hc1
    refine r_iload_n c241_142 rfl ?_
    refine r_iload c241_143 rfl ?_
    refine r_call c241_145 rfl rfl (Nat.le_of_ble_eq_true rfl) (okc_s rfl rfl rfl) (g156 hK hX  (Bk_v ?_))
    refine r_ifP (P := (jand (jshr l2 l7) 1 = 1)) c241_148 bI_ne (fun hc5 => ?_) (fun hc5 => ?_)
    · replace h := h.1 hc5
      refine r_iload_n c241_154 rfl ?_
      refine r_aload_n c241_155 rfl ?_
      refine r_getR c241_156 (oK hK o440) (FX.get (b := 458) hX (by decide) (by decide +kernel) (by decide)) (by decide) ?_
      refine r_iload_n c241_159 rfl ?_
      obtain ⟨s6, h⟩ := h
      refine r_aa c241_160 (mrw o458 hK) (bd l458 s6) (rf458 hX s6) (by omega) ?_
      refine r_iconst c241_161 ?_
      refine r_iae c241_162 (oK hK (ro458 s6)) (bd (rz458 s6) (by decide)) rfl ?_
      refine r_imul c241_163 ?_
      refine r_iload c241_164 rfl ?_
      obtain ⟨s7, h⟩ := h
      refine r_irem c241_166 s7 ?_
      refine r_istore c241_167 (Nat.le_of_ble_eq_true rfl) ?_
      refine r_iload_n c241_169 rfl ?_
      refine r_aload_n c241_170 rfl ?_
      refine r_getR c241_171 (oK hK o440) (FX.get (b := 458) hX (by decide) (by decide +kernel) (by decide)) (by decide) ?_
      refine r_iload c241_174 rfl ?_
      obtain ⟨s8, h⟩ := h
      refine r_aa c241_176 (mrw o458 hK) (bd l458 s8) (rf458 hX s8) (by omega) ?_
      refine r_iconst c241_177 ?_
      refine r_iae c241_178 (oK hK (ro458 s8)) (bd (rz458 s8) (by decide)) rfl ?_
      refine r_imul c241_179 ?_
      refine r_iload c241_180 rfl ?_
      obtain ⟨s9, h⟩ := h
      refine r_irem c241_182 s9 ?_
      refine r_istore c241_183 (Nat.le_of_ble_eq_true rfl) ?_
      refine r_iload c241_185 rfl ?_
      refine r_iload_n c241_187 rfl ?_
      refine r_aload_n c241_188 rfl ?_
      refine r_getR c241_189 (oK hK o440) (FX.get (b := 458) hX (by decide) (by decide +kernel) (by decide)) (by decide) ?_
      refine r_iload c241_192 rfl ?_
      obtain ⟨s10, h⟩ := h
      refine r_aa c241_194 (mrw o458 hK) (bd l458 s10) (rf458 hX s10) (by omega) ?_
      refine r_iconst c241_195 ?_
      refine r_iae c241_196 (oK hK (ro458 s10)) (bd (rz458 s10) (by decide)) rfl ?_
      refine r_imul c241_197 ?_
      refine r_iload c241_198 rfl ?_
      obtain ⟨s11, h⟩ := h
      refine r_idiv c241_200 s11 ?_
      refine r_isub c241_201 ?_
      refine r_istore c241_202 (Nat.le_of_ble_eq_true rfl) ?_
      refine r_iload c241_204 rfl ?_
      refine r_iload c241_206 rfl ?_
      refine r_iload c241_208 rfl ?_
      refine r_icmpP (P := (Int.tmod (w32 (l3 * (M (459 + Int.toNat l1) 0))) l4) < (Int.tmod (w32 (l3 * (M (459 + Int.toNat l7) 0))) l4)) c241_210 rfl (fun hc12 => ?_) (fun hc12 => ?_)
      · replace h := h.1 hc12
        refine r_iconst c241_226 ?_
        refine r_goto c241_227 ?_
        refine r_iadd c241_231 ?_
        refine r_istore c241_232 (Nat.le_of_ble_eq_true rfl) ?_
        refine r_iinc c241_234 rfl ?_
        refine r_goto c241_237 ?_
        exact h
      · replace h := h.2 hc12
        refine r_iload c241_213 rfl ?_
        refine r_iload c241_215 rfl ?_
        refine r_icmpP (P := ¬ (Int.tmod (w32 (l3 * (M (459 + Int.toNat l7) 0))) l4) = (Int.tmod (w32 (l3 * (M (459 + Int.toNat l1) 0))) l4)) c241_217 rfl (fun hc13 => ?_) (fun hc13 => ?_)
        · replace h := h.1 hc13
          refine r_iconst c241_230 ?_
          refine r_iadd c241_231 ?_
          refine r_istore c241_232 (Nat.le_of_ble_eq_true rfl) ?_
          refine r_iinc c241_234 rfl ?_
          refine r_goto c241_237 ?_
          exact h
        · have hc14 := Classical.not_not.mp hc13
          replace h := h.2 hc14
          refine r_iload c241_220 rfl ?_
          refine r_iload_n c241_222 rfl ?_
          refine r_icmpP (P := l1 ≤ l7) c241_223 rfl (fun hc15 => ?_) (fun hc15 => ?_)
          · replace h := h.1 hc15
            refine r_iconst c241_230 ?_
            refine r_iadd c241_231 ?_
            refine r_istore c241_232 (Nat.le_of_ble_eq_true rfl) ?_
            refine r_iinc c241_234 rfl ?_
            refine r_goto c241_237 ?_
            exact h
          · replace h := h.2 hc15
            refine r_iconst c241_226 ?_
            refine r_goto c241_227 ?_
            refine r_iadd c241_231 ?_
            refine r_istore c241_232 (Nat.le_of_ble_eq_true rfl) ?_
            refine r_iinc c241_234 rfl ?_
            refine r_goto c241_237 ?_
            exact h
    · replace h := h.2 hc5
      refine r_goto c241_151 ?_
      refine r_iinc c241_234 rfl ?_
      refine r_goto c241_237 ?_
      exact h
/-! the question share -/
def shD (c : Mem) (S : Nat) (n : Int) (o : Nat) : Int := Int.tdiv (n * c 2 o) (yardS c S)
def shR (c : Mem) (S : Nat) (n : Int) (o : Nat) : Int := Int.tmod (n * c 2 o) (yardS c S)
/-- left, ahead, of the strips below o -/
def shF (c : Mem) (S p : Nat) (n : Int) : Nat → Int × Nat
  | 0 => (n, 0)
  | o + 1 => match S.testBit o with
    | true => ((shF c S p n o).1 - shD c S n o, (shF c S p n o).2 + (if shR c S n p < shR c S n o ∨ (shR c S n o = shR c S n p ∧ o < p) then 1 else 0))
    | false => shF c S p n o
def shareS (c : Mem) (S p : Nat) (n : Int) : Int := match S.testBit p with
  | true => shD c S n p + (if ((shF c S p n (nSt c)).2 : Int) < (shF c S p n (nSt c)).1 then 1 else 0)
  | false => 0
section OPA
variable {d : Nat} {M M' : Mem} {K : KK} {Q : RR → Mem → KK → Prop} {c s : Mem} {L Y : LC} {S : Nat} {n : Int}
theorem yardS_ge (hw : CW c) {p : Nat} (hp : p < nSt c) (hT : S.testBit p = true) : 1 ≤ yardS c S ∧ yardS c S ≤ 36 := by
  have hN := hw.n.1.2
  have nn : ∀ i, i < nSt c → 0 ≤ bitI S i * c 2 i ∧ bitI S i * c 2 i ≤ 6 := by
    intro i hi
    have := hw.y hi
    unfold bitI; split <;> omega
  have up := sumF_bd (f := fun i => bitI S i * c 2 i) (b := 6) (by decide) (nSt c) nn
  have lo : ∀ k, k ≤ nSt c → p < k → bitI S p * c 2 p ≤ sumF (fun i => bitI S i * c 2 i) k := by
    intro k
    induction k with
    | zero => intro _ h; omega
    | succ k ih =>
      intro hk hpk
      simp only [sumF]
      have := (nn k (by omega)).1
      by_cases hkp : p = k
      · subst hkp
        have := sumF_bd (f := fun i => bitI S i * c 2 i) (b := 6) (by decide) p (fun i hi => nn i (by omega))
        omega
      · have := ih (by omega) (by omega); omega
  have := lo (nSt c) (Nat.le_refl _) hp
  have h1 : bitI S p * c 2 p = c 2 p := by unfold bitI; rw [if_pos hT]; omega
  have := hw.y hp
  unfold yardS; omega
theorem shD_rg (hw : CW c) (hn : 0 ≤ n ∧ n ≤ 999) {p o : Nat} (hp : p < nSt c) (hT : S.testBit p = true) (ho : o < nSt c) : (0 ≤ n * c 2 o ∧ n * c 2 o ≤ 5994) ∧ 0 ≤ shD c S n o ∧ shD c S n o ≤ 5994 := by
  have ha := yardS_ge hw hp hT
  have hy := hw.y ho
  have h0 : 0 ≤ n * c 2 o := Int.mul_nonneg hn.1 (by omega)
  have h1 : n * c 2 o ≤ 999 * 6 := Int.mul_le_mul hn.2 hy.2 (by omega) (by decide)
  unfold shD
  rw [Int.tdiv_eq_ediv_of_nonneg h0]
  have h2 := Int.ediv_nonneg h0 (show 0 ≤ yardS c S by omega)
  have h3 := Int.ediv_le_self (yardS c S) h0
  omega
theorem shF_rg (hw : CW c) (hn : 0 ≤ n ∧ n ≤ 999) {p : Nat} (hp : p < nSt c) (hT : S.testBit p = true) : ∀ o, o ≤ nSt c → (-5994 * (o : Int) ≤ (shF c S p n o).1 ∧ (shF c S p n o).1 ≤ 999) ∧ (shF c S p n o).2 ≤ o := by
  intro o
  induction o with
  | zero => intro _; simp only [shF]; omega
  | succ o ih =>
    intro ho
    have i1 := ih (by omega)
    have i2 := shD_rg hw hn hp hT (show o < nSt c by omega)
    simp only [shF]
    split
    · dsimp only
      refine ⟨by omega, ?_⟩
      split <;> omega
    · omega
theorem c124 {v w : Int} (hK : K.1 = 923) (hX : FX M) (h : GC M c L s) (k : QC Q M K (0 ≤ v ∧ v < (nSt c : Int)) ((0 ≤ w ∧ w < ((2 ^ nSt c : Nat) : Int)) ∧ (0 ≤ n ∧ n ≤ 999)) (vI (shareS c w.toNat v.toNat n))) : Wm (d + 2) 124 [vR 32, vI v, vI w, vI n] M K Q := by
  have hst := h.stn
  obtain ⟨cm, l, a, b, e, f⟩ := h
  have hw := e.2.1
  have hN := hw.n.1
  have e6 := (e.1.g hw).2.1
  have p6 : 2 ^ nSt c ≤ 64 := by
    have h6 : 2 ^ nSt c ≤ 2 ^ 6 := Nat.pow_le_pow_right (by decide) hN.2
    exact h6
  refine u124_0 hK hX ⟨nSt c, hst, fun hv => ⟨cm, a, b, ?_⟩, k.1⟩
  rw [e6, Int.toNat_natCast]
  refine ⟨by omega, fun h1 => k.2.1 hv (fun h9 => h1 h9.1), fun h1 => ⟨fun h2 => k.2.1 hv (fun h9 => h2 h9.2), fun h2 => ?_⟩⟩
  have k := k.ok hv ⟨h1, h2⟩ hX
  obtain ⟨S, rfl⟩ : ∃ S : Nat, w = (S : Int) := ⟨w.toNat, by omega⟩
  obtain ⟨p, rfl⟩ : ∃ p : Nat, v = (p : Int) := ⟨v.toNat, by omega⟩
  rw [Int.toNat_natCast, Int.toNat_natCast] at k
  unfold shareS at k
  refine ⟨c, S, ⟨rfl, e.1, hw, by omega⟩, ?_⟩
  rw [bit_n (by omega) (by omega)]
  cases hT : S.testBit p with
  | false =>
    rw [hT] at k
    exact ⟨fun _ => k, fun h9 => absurd rfl h9⟩
  | true =>
    rw [hT] at k
    dsimp only at k
    have ha := yardS_ge hw (show p < nSt c by omega) hT
    have yd : ∀ o, o < nSt c → M (cm + 2) o = c 2 o := fun o ho => e.1.a2 (by omega)
    refine ⟨fun h9 => absurd h9 (by decide), fun _ => ⟨fun _ => ⟨by omega, by omega, ?_⟩, fun h9 => absurd (by omega) h9⟩⟩
    have rp := shD_rg hw h2 (show p < nSt c by omega) hT (show p < nSt c by omega)
    rw [Int.toNat_natCast, yd p (by omega), w32_id (z := n * c 2 p) (by omega)]
    have loop : ∀ f o, o + f = nSt c → ∀ v9 : PV, Wp (d + 2) 124 89 [vR 32, vI (p : Int), vI (S : Int), vI n, vI (yardS c S), vI (shF c S p n o).1, vI ((shF c S p n o).2 : Int), vI (shR c S n p), vI (o : Int), v9] [] M K Q := by
      intro f9
      induction f9 with
      | zero =>
        intro o ho v9
        have hon : o = nSt c := by omega
        subst hon
        refine u124_89 hK hX ⟨cm, a, b, fun _ => ⟨by omega, by omega, ?_⟩, fun h9 => absurd (by omega) h9⟩
        rw [Int.toNat_natCast, yd p (by omega), w32_id (z := n * c 2 p) (by omega)]
        have eD : Int.tdiv (n * c 2 p) (yardS c S) = shD c S n p := rfl
        rw [eD, w32_id (z := shD c S n p) (by omega), w32_id (by omega), w32_id (by omega)]
        refine ⟨fun h9 => ?_, fun h9 => ?_⟩
        · rw [if_neg (by omega)] at k; exact k
        · rw [if_pos (by omega)] at k; exact k
      | succ f9 ih =>
        intro o ho v9
        have nx := ih (o + 1) (by omega)
        have ro := shD_rg hw h2 (show p < nSt c by omega) hT (show o < nSt c by omega)
        have rf := shF_rg hw h2 (show p < nSt c by omega) hT o (by omega)
        simp only [shF] at nx
        refine u124_89 hK hX ⟨cm, a, b, fun h9 => absurd h9 (by omega), fun _ => ?_⟩
        rw [bit_1 (by omega) (by omega), Int.toNat_natCast, yd o (by omega), w32_id (z := n * c 2 o) (by omega), w1 (i := o) (by omega)]
        have eD : Int.tdiv (n * c 2 o) (yardS c S) = shD c S n o := rfl
        have eR : Int.tmod (n * c 2 o) (yardS c S) = shR c S n o := rfl
        rw [eD, eR, w32_id (z := shD c S n o) (by omega), w32_id (z := (shF c S p n o).1 - shD c S n o) (by omega), w1 (i := (shF c S p n o).2) (by omega), w32_id (z := ((shF c S p n o).2 : Int) + 0) (by omega), Int.add_zero]
        cases hq : S.testBit o with
        | false =>
          rw [hq] at nx
          exact ⟨fun _ => nx _, fun h9 => absurd h9 (by decide)⟩
        | true =>
          rw [hq] at nx
          dsimp only at nx
          refine ⟨fun h9 => absurd rfl h9, fun _ => ⟨by omega, by omega, by omega, by omega, fun h8 => ?_, fun h8 => ⟨fun h7 => ?_, fun h7 => ⟨fun h6 => ?_, fun h6 => ?_⟩⟩⟩⟩
          · rw [if_pos (Or.inl h8)] at nx; exact nx _
          · rw [if_neg (fun h => by rcases h with h | h; exact h8 h; exact h7 h.1)] at nx; exact nx _
          · rw [if_neg (fun h => by rcases h with h | h; exact h8 h; omega)] at nx; exact nx _
          · rw [if_pos (Or.inr ⟨h7, by omega⟩)] at nx; exact nx _
    exact loop (nSt c) 0 (Nat.zero_add _) vU
theorem m241 {v w : Int} (hK : K.1 = 923) (hX : FX M) (h : GM M c L s) (k : QM Q M K (0 ≤ v ∧ v < (nSt c : Int)) ((0 ≤ w ∧ w < ((2 ^ nSt c : Nat) : Int)) ∧ (0 ≤ n ∧ n ≤ 999)) 2 (vI 0) (vI (shareS c w.toNat v.toNat n))) : Wm (d + 2) 241 [vR 440, vI v, vI w, vI n] M K Q := by
  have hw := h.1.2.1
  have hN := hw.n.1
  have hst := h.stn
  have p6 : 2 ^ nSt c ≤ 64 := by
    have h6 : 2 ^ nSt c ≤ 2 ^ 6 := Nat.pow_le_pow_right (by decide) hN.2
    exact h6
  refine u241_0 hK hX ⟨nSt c, hst.t0, fun hv => ⟨nSt c, hst.t0, fun h1 => k.bad hv (fun h9 => h1 h9.1), fun h1 => ⟨fun h2 => ?_, fun h2 => k.bad hv (fun h9 => h2 h9.2)⟩⟩, fun hv => k.mis hv⟩
  have k := k.ok hv ⟨h1, h2⟩ hX
  have h' := h.q FrQm.t0
  have x1 := hX.t0
  generalize mset M 440 0 0 = M1 at *
  have e443 := h'.n
  obtain ⟨S, rfl⟩ : ∃ S : Nat, w = (S : Int) := ⟨w.toNat, by omega⟩
  obtain ⟨p, rfl⟩ : ∃ p : Nat, v = (p : Int) := ⟨v.toNat, by omega⟩
  rw [Int.toNat_natCast, Int.toNat_natCast] at k
  unfold shareS at k
  rw [bit_1 (by omega) (by omega)]
  cases hT : S.testBit p with
  | false =>
    rw [hT] at k
    exact ⟨fun h9 => absurd h9 (by decide), fun _ => k⟩
  | true =>
    rw [hT] at k
    dsimp only at k
    have ha := yardS_ge hw (show p < nSt c by omega) hT
    have yd : ∀ o, o < nSt c → M1 (459 + o) 0 = c 2 o := fun o ho => (h'.1.1.2.2.1 o (by omega)).1
    refine ⟨fun _ => ?_, fun h9 => absurd rfl h9⟩
    have second : Wp (d + 2) 241 131 [vR 440, vI (p : Int), vI (S : Int), vI n, vI (yardS c S), vI n, vI 0, vI 0, vU, vU] [] M1 K Q := by
      have rp := shD_rg hw h2 (show p < nSt c by omega) hT (show p < nSt c by omega)
      have loop : ∀ f o, o + f = nSt c → ∀ v8 v9 : PV, Wp (d + 2) 241 131 [vR 440, vI (p : Int), vI (S : Int), vI n, vI (yardS c S), vI (shF c S p n o).1, vI ((shF c S p n o).2 : Int), vI (o : Int), v8, v9] [] M1 K Q := by
        intro f9
        induction f9 with
        | zero =>
          intro o ho v8 v9
          have hon : o = nSt c := by omega
          subst hon
          refine u241_131 hK x1 ⟨fun _ => ⟨by omega, by omega, ?_⟩, fun h9 => absurd (by omega) h9⟩
          rw [Int.toNat_natCast, yd p (by omega), w32_id (z := n * c 2 p) (by omega)]
          have eD : Int.tdiv (n * c 2 p) (yardS c S) = shD c S n p := rfl
          rw [eD, w32_id (z := shD c S n p) (by omega), w32_id (by omega), w32_id (by omega)]
          refine ⟨fun h9 => ?_, fun h9 => ?_⟩
          · rw [if_neg (by omega)] at k; exact k
          · rw [if_pos (by omega)] at k; exact k
        | succ f9 ih =>
          intro o ho v8 v9
          have nx := ih (o + 1) (by omega)
          have ro := shD_rg hw h2 (show p < nSt c by omega) hT (show o < nSt c by omega)
          have rf := shF_rg hw h2 (show p < nSt c by omega) hT o (by omega)
          simp only [shF] at nx
          refine u241_131 hK x1 ⟨fun h9 => absurd h9 (by omega), fun _ => ?_⟩
          rw [bit_1 (by omega) (by omega), Int.toNat_natCast, Int.toNat_natCast, yd p (by omega), yd o (by omega), w32_id (z := n * c 2 p) (by omega), w32_id (z := n * c 2 o) (by omega), w1 (i := o) (by omega)]
          have eD : Int.tdiv (n * c 2 o) (yardS c S) = shD c S n o := rfl
          have eR : Int.tmod (n * c 2 o) (yardS c S) = shR c S n o := rfl
          have eP : Int.tmod (n * c 2 p) (yardS c S) = shR c S n p := rfl
          rw [eD, eR, eP, w32_id (z := shD c S n o) (by omega), w32_id (z := (shF c S p n o).1 - shD c S n o) (by omega), w1 (i := (shF c S p n o).2) (by omega), w32_id (z := ((shF c S p n o).2 : Int) + 0) (by omega), Int.add_zero]
          cases hq : S.testBit o with
          | false =>
            rw [hq] at nx
            exact ⟨fun h9 => absurd h9 (by decide), fun _ => nx _ _⟩
          | true =>
            rw [hq] at nx
            dsimp only at nx
            refine ⟨fun _ => ⟨by omega, by omega, by omega, by omega, by omega, by omega, fun h8 => ?_, fun h8 => ⟨fun h7 => ?_, fun h7 => ⟨fun h6 => ?_, fun h6 => ?_⟩⟩⟩, fun h9 => absurd rfl h9⟩
            · rw [if_pos (Or.inl h8)] at nx; exact nx _ _
            · rw [if_neg (fun h => by rcases h with h | h; exact h8 h; exact h7 h.1)] at nx; exact nx _ _
            · rw [if_neg (fun h => by rcases h with h | h; exact h8 h; omega)] at nx; exact nx _ _
            · rw [if_pos (Or.inr ⟨h7, by omega⟩)] at nx; exact nx _ _
      exact loop (nSt c) 0 (Nat.zero_add _) vU vU
    have sum : ∀ f o, o + f = nSt c → Wp (d + 2) 241 84 [vR 440, vI (p : Int), vI (S : Int), vI n, vI (sumF (fun i => bitI S i * c 2 i) o), vI n, vI 0, vI (o : Int), vU, vU] [] M1 K Q := by
      intro f9
      induction f9 with
      | zero =>
        intro o ho
        have hon : o = nSt c := by omega
        subst hon
        exact u241_84 hK x1 ⟨fun _ => second, fun h9 => absurd (by omega) h9⟩
      | succ f9 ih =>
        intro o ho
        have nx := ih (o + 1) (by omega)
        have hy := hw.y (show o < nSt c by omega)
        have nn : ∀ i, i < nSt c → 0 ≤ bitI S i * c 2 i ∧ bitI S i * c 2 i ≤ 6 := by
          intro i hi
          have := hw.y hi
          unfold bitI; split <;> omega
        have up := sumF_bd (f := fun i => bitI S i * c 2 i) (b := 6) (by decide) o (fun i hi => nn i (by omega))
        simp only [sumF] at nx
        refine u241_84 hK x1 ⟨fun h9 => absurd h9 (by omega), fun _ => ?_⟩
        rw [bit_1 (by omega) (by omega), Int.toNat_natCast, yd o (by omega), w1 (i := o) (by omega), w32_id (z := sumF _ _ + 0) (by omega), w32_id (z := sumF _ _ + c 2 o) (by omega)]
        refine ⟨fun h9 => ?_, fun h9 => ⟨by omega, ?_⟩⟩
        · rw [show bitI S o * c 2 o = 0 by unfold bitI; rw [if_neg h9]; omega] at nx; exact nx
        · rw [show bitI S o * c 2 o = c 2 o by unfold bitI; rw [if_pos h9]; omega] at nx; exact nx
    exact sum (nSt c) 0 (Nat.zero_add _)
end OPA
