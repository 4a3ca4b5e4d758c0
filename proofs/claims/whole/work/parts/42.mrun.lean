/-! steps and runs: the model -/
def L4 (q : Nat) : Prop := ln q = 4
/-- a row of the model's program -/
def RQ (M : Mem) (q : Nat) (k a b : Int) : Prop := M q 0 = k ∧ ((k < 4 ∨ k = 6) → M q 1 = a) ∧ (k = 0 → M q 2 = b) ∧ (k = 4 → M q 2 = a)
theorem u200_0 {d : Nat} {l1 : Nat} {l2 : Nat} {M : Mem} {K : KK} {Q : RR → Mem → KK → Prop} (hK : K.1 = 923) (hX : FX M) (k1 : isO 923 l1 20 = true) (z1 : ln l1 = 27) (k2 : isO 923 l2 20 = true) (z2 : ln l2 = 4) (h : ((4 : Int) ≤ (M l2 0) → Wp (d + 6) 200 30 [vR 440, vR l1, vR l2, vI (M l2 1), vI (M l2 2), vU] [vI (0 : Int)] M K Q) ∧ (¬ ((4 : Int) ≤ (M l2 0)) → (0 ≤ (w32 ((0 : Int) + (M l2 1))) ∧ (w32 ((0 : Int) + (M l2 1))) < (27 : Int)) ∧ (¬ (M l1 (Int.toNat (w32 ((0 : Int) + (M l2 1))))) = (-1 : Int) → Wp (d + 6) 200 30 [vR 440, vR l1, vR l2, vI (M l2 1), vI (M l2 2), vU] [vI (0 : Int)] M K Q) ∧ ((M l1 (Int.toNat (w32 ((0 : Int) + (M l2 1))))) = (-1 : Int) → Wp (d + 6) 200 30 [vR 440, vR l1, vR l2, vI (M l2 1), vI (M l2 2), vU] [vI (1 : Int)] M K Q))) : Wp (d + 6) 200 0 [vR 440, vR l1, vR l2, vU, vU, vU] [] M K Q := by
  refine r_aload_n c200_0 rfl ?_
  refine r_iconst c200_1 ?_
  refine r_iae c200_2 (oK hK k2) (bd z2 (by decide)) rfl ?_
  refine r_istore_n c200_3 (Nat.le_of_ble_eq_true rfl) ?_
  refine r_aload_n c200_4 rfl ?_
  refine r_iconst c200_5 ?_
  refine r_iae c200_6 (oK hK k2) (bd z2 (by decide)) rfl ?_
  refine r_istore c200_7 (Nat.le_of_ble_eq_true rfl) ?_
  refine r_aload_n c200_9 rfl ?_
  refine r_iconst c200_10 ?_
  refine r_iae c200_11 (oK hK k2) (bd z2 (by decide)) rfl ?_
  refine r_iconst c200_12 ?_
  refine r_icmpP (P := (4 : Int) ≤ (M l2 0)) c200_13 rfl (fun hc1 => ?_) (fun hc1 => ?_)
  · replace h := h.1 hc1
    refine r_iconst c200_29 ?_
    exact h
  · replace h := h.2 hc1
    refine r_aload_n c200_16 rfl ?_
    refine r_iconst c200_17 ?_
    refine r_iload_n c200_18 rfl ?_
    refine r_iadd c200_19 ?_
    obtain ⟨s2, h⟩ := h
    refine r_iae c200_20 (oK hK k1) (bd z1 s2) rfl ?_
    refine r_iconst c200_21 ?_
    refine r_icmpP (P := ¬ (M l1 (Int.toNat (w32 ((0 : Int) + (M l2 1))))) = (-1 : Int)) c200_22 rfl (fun hc3 => ?_) (fun hc3 => ?_)
    · replace h := h.1 hc3
      refine r_iconst c200_29 ?_
      exact h
    · have hc4 := Classical.not_not.mp hc3
      replace h := h.2 hc4
      refine r_iconst c200_25 ?_
      refine r_goto c200_26 ?_
      exact h
theorem u200_30 {d : Nat} {l1 : Nat} {l2 : Nat} {l3 : Int} {l4 : Int} {t0 : Int} {M : Mem} {K : KK} {Q : RR → Mem → KK → Prop} (hK : K.1 = 923) (hX : FX M) (k1 : isO 923 l1 20 = true) (z1 : ln l1 = 27) (k2 : isO 923 l2 20 = true) (z2 : ln l2 = 4) (h : ((M l2 0) = (0 : Int) → (t0 = (0 : Int) → Q (.inl (some (vI (0 : Int)))) M K) ∧ (¬ (t0 = (0 : Int)) → ∃ c2 : Mem, ∃ s3 : Mem, ∃ p4 : Nat, ∃ dr5 : Int, (l3 = (p4 : Int) ∧ SM M l1 c2 s3 dr5 ∧ p4 < nSt c2 ∧ 0 ≤ l4 ∧ l4 ≤ 12) ∧ ((roomS c2 s3 p4 l4 = true) → (0 ≤ (w32 ((0 : Int) + l3)) ∧ (w32 ((0 : Int) + l3)) < (27 : Int)) ∧ Q (.inl (some (vI (1 : Int)))) (mset M l1 (Int.toNat (w32 ((0 : Int) + l3))) l4) K) ∧ (¬ (roomS c2 s3 p4 l4 = true) → Q (.inl (some (vI (0 : Int)))) M K))) ∧ ((M l2 0) = (1 : Int) → (t0 = (0 : Int) → (0 ≤ (w32 ((0 : Int) + l3)) ∧ (w32 ((0 : Int) + l3)) < (27 : Int)) ∧ (0 ≤ (w32 ((12 : Int) + l3)) ∧ (w32 ((12 : Int) + l3)) < (27 : Int)) ∧ (0 ≤ (w32 ((18 : Int) + l3)) ∧ (w32 ((18 : Int) + l3)) < (27 : Int)) ∧ Q (.inl (some (vI (1 : Int)))) (mset (mset (mset M l1 (Int.toNat (w32 ((0 : Int) + l3))) (-1 : Int)) l1 (Int.toNat (w32 ((12 : Int) + l3))) (0 : Int)) l1 (Int.toNat (w32 ((18 : Int) + l3))) (0 : Int)) K) ∧ (¬ (t0 = (0 : Int)) → Q (.inl (some (vI (0 : Int)))) M K)) ∧ ((M l2 0) = (2 : Int) → (¬ t0 = (0 : Int) → Q (.inl (some (vI (0 : Int)))) M K) ∧ (t0 = (0 : Int) → (0 ≤ (w32 ((12 : Int) + l3)) ∧ (w32 ((12 : Int) + l3)) < (27 : Int)) ∧ (¬ (M l1 (Int.toNat (w32 ((12 : Int) + l3)))) = (9 : Int) → (0 ≤ (w32 ((12 : Int) + l3)) ∧ (w32 ((12 : Int) + l3)) < (27 : Int)) ∧ (0 ≤ (w32 ((12 : Int) + l3)) ∧ (w32 ((12 : Int) + l3)) < (27 : Int)) ∧ Q (.inl (some (vI (1 : Int)))) (mset M l1 (Int.toNat (w32 ((12 : Int) + l3))) (w32 ((M l1 (Int.toNat (w32 ((12 : Int) + l3)))) + (1 : Int)))) K) ∧ ((M l1 (Int.toNat (w32 ((12 : Int) + l3)))) = (9 : Int) → Q (.inl (some (vI (0 : Int)))) M K))) ∧ ((M l2 0) = (3 : Int) → (¬ t0 = (0 : Int) → Q (.inl (some (vI (0 : Int)))) M K) ∧ (t0 = (0 : Int) → (0 ≤ (w32 ((18 : Int) + l3)) ∧ (w32 ((18 : Int) + l3)) < (27 : Int)) ∧ ((M l1 (Int.toNat (w32 ((18 : Int) + l3)))) = (1 : Int) → Q (.inl (some (vI (0 : Int)))) M K) ∧ (¬ ((M l1 (Int.toNat (w32 ((18 : Int) + l3)))) = (1 : Int)) → (¬ (M l1 25) = (0 : Int) → (0 ≤ (w32 ((18 : Int) + l3)) ∧ (w32 ((18 : Int) + l3)) < (27 : Int)) ∧ Q (.inl (some (vI (1 : Int)))) (mset (mset M l1 (Int.toNat (w32 ((18 : Int) + l3))) (1 : Int)) l1 25 (w32 (((mset M l1 (Int.toNat (w32 ((18 : Int) + l3))) (1 : Int)) l1 25) - (1 : Int)))) K) ∧ ((M l1 25) = (0 : Int) → Q (.inl (some (vI (0 : Int)))) M K)))) ∧ ((M l2 0) = (4 : Int) → ∃ c34 : Mem, ∃ s35 : Mem, ∃ dr36 : Int, SM M l1 c34 s35 dr36 ∧ (∀ (M40 : Mem), FX M40 → (FrJ l1 M M40 ∧ LMr M40 l1 c34 (digS c34 s35 l4) ∧ M40 l1 26 = dr36) → Q (.inl (some (vI (bI (lyOn c34 s35 l4 ≠ -1))))) M40 K)) ∧ ((M l2 0) < (0 : Int) ∨ (4 : Int) < (M l2 0) → ((M l1 24) < (500 : Int) → ∃ c42 : Mem, ∃ s43 : Mem, ∃ L44 : LC, ∃ dr45 : Int, (SM M l1 c42 s43 dr45 ∧ LM M L44 ∧ s43 4 0 < 2000) ∧ (∀ (M49 : Mem), FX M49 → (FrJ l1 M M49 ∧ LMr M49 l1 c42 (dayS c42 L44 s43 (rainM c42 s43 dr45)) ∧ M49 l1 26 = dr45) → Q (.inl (some (vI (1 : Int)))) M49 K)) ∧ (¬ ((M l1 24) < (500 : Int)) → Q (.inl (some (vI (0 : Int)))) M K))) : Wp (d + 6) 200 30 [vR 440, vR l1, vR l2, vI l3, vI l4, vU] [vI t0] M K Q := by
  refine r_istore c200_30 (Nat.le_of_ble_eq_true rfl) ?_
  refine r_aload_n c200_32 rfl ?_
  refine r_iconst c200_33 ?_
  refine r_iae c200_34 (oK hK k2) (bd z2 (by decide)) rfl ?_
  refine r_tsw c200_35 ?_
  try simp only [Int.toNat_zero]
  by_cases hv0 : (M l2 0) = (0 : Int)
  · rw [show tsw 35 168 0 4 #[33, 60, 89, 119, 160] (M l2 0) = 68 from by rw [hv0]; decide]
    replace h := h.1 hv0
    refine r_iload c200_68 rfl ?_
    refine r_ifP (P := t0 = (0 : Int)) c200_70 rfl (fun hc1 => ?_) (fun hc1 => ?_)
    · replace h := h.1 hc1
      refine r_iconst c200_84 ?_
      exact r_iret c200_85 (by decide) h
    · replace h := h.2 hc1
      refine r_aload_n c200_73 rfl ?_
      refine r_aload_n c200_74 rfl ?_
      refine r_iload_n c200_75 rfl ?_
      refine r_iload c200_76 rfl ?_
      obtain ⟨c2, h⟩ := h
      obtain ⟨s3, h⟩ := h
      obtain ⟨p4, h⟩ := h
      obtain ⟨dr5, h⟩ := h
      obtain ⟨p6, h⟩ := h
      refine r_call c200_78 rfl rfl (Nat.le_of_ble_eq_true rfl) (okc_r rfl rfl (oK hK o440)) (g197 hK hX k1 z1 p6 (Bk_v ?_))
      refine r_ifP (P := (roomS c2 s3 p4 l4 = true)) c200_81 bI_ne (fun hc7 => ?_) (fun hc7 => ?_)
      · replace h := h.1 hc7
        refine r_aload_n c200_86 rfl ?_
        refine r_iconst c200_87 ?_
        refine r_iload_n c200_88 rfl ?_
        refine r_iadd c200_89 ?_
        refine r_iload c200_90 rfl ?_
        obtain ⟨s8, h⟩ := h
        refine r_ias c200_92 (oK hK k1) (bd z1 s8) ?_
        have x9 := FX.set (v := l4) (a := l1) (k := (Int.toNat (w32 ((0 : Int) + l3)))) hX (nfa k1 _)
        refine r_iconst c200_93 ?_
        exact r_iret c200_94 (by decide) h
      · replace h := h.2 hc7
        refine r_iconst c200_84 ?_
        exact r_iret c200_85 (by decide) h
  by_cases hv1 : (M l2 0) = (1 : Int)
  · rw [show tsw 35 168 0 4 #[33, 60, 89, 119, 160] (M l2 0) = 95 from by rw [hv1]; decide]
    replace h := h.2.1 hv1
    refine r_iload c200_95 rfl ?_
    refine r_ifP (P := t0 = (0 : Int)) c200_97 rfl (fun hc10 => ?_) (fun hc10 => ?_)
    · replace h := h.1 hc10
      refine r_aload_n c200_102 rfl ?_
      refine r_iconst c200_103 ?_
      refine r_iload_n c200_104 rfl ?_
      refine r_iadd c200_105 ?_
      refine r_iconst c200_106 ?_
      obtain ⟨s11, h⟩ := h
      refine r_ias c200_107 (oK hK k1) (bd z1 s11) ?_
      have x12 := FX.set (v := (-1 : Int)) (a := l1) (k := (Int.toNat (w32 ((0 : Int) + l3)))) hX (nfa k1 _)
      refine r_aload_n c200_108 rfl ?_
      refine r_bipush c200_109 ?_
      refine r_iload_n c200_111 rfl ?_
      refine r_iadd c200_112 ?_
      refine r_iconst c200_113 ?_
      obtain ⟨s13, h⟩ := h
      refine r_ias c200_114 (oK hK k1) (bd z1 s13) ?_
      have x14 := FX.set (v := (0 : Int)) (a := l1) (k := (Int.toNat (w32 ((12 : Int) + l3)))) x12 (nfa k1 _)
      refine r_aload_n c200_115 rfl ?_
      refine r_bipush c200_116 ?_
      refine r_iload_n c200_118 rfl ?_
      refine r_iadd c200_119 ?_
      refine r_iconst c200_120 ?_
      obtain ⟨s15, h⟩ := h
      refine r_ias c200_121 (oK hK k1) (bd z1 s15) ?_
      have x16 := FX.set (v := (0 : Int)) (a := l1) (k := (Int.toNat (w32 ((18 : Int) + l3)))) x14 (nfa k1 _)
      refine r_iconst c200_122 ?_
      exact r_iret c200_123 (by decide) h
    · replace h := h.2 hc10
      refine r_iconst c200_100 ?_
      exact r_iret c200_101 (by decide) h
  by_cases hv2 : (M l2 0) = (2 : Int)
  · rw [show tsw 35 168 0 4 #[33, 60, 89, 119, 160] (M l2 0) = 124 from by rw [hv2]; decide]
    replace h := h.2.2.1 hv2
    refine r_iload c200_124 rfl ?_
    refine r_ifP (P := ¬ t0 = (0 : Int)) c200_126 rfl (fun hc17 => ?_) (fun hc17 => ?_)
    · replace h := h.1 hc17
      refine r_iconst c200_140 ?_
      exact r_iret c200_141 (by decide) h
    · have hc18 := Classical.not_not.mp hc17
      replace h := h.2 hc18
      refine r_aload_n c200_129 rfl ?_
      refine r_bipush c200_130 ?_
      refine r_iload_n c200_132 rfl ?_
      refine r_iadd c200_133 ?_
      obtain ⟨s19, h⟩ := h
      refine r_iae c200_134 (oK hK k1) (bd z1 s19) rfl ?_
      refine r_bipush c200_135 ?_
      refine r_icmpP (P := ¬ (M l1 (Int.toNat (w32 ((12 : Int) + l3)))) = (9 : Int)) c200_137 rfl (fun hc20 => ?_) (fun hc20 => ?_)
      · replace h := h.1 hc20
        refine r_aload_n c200_142 rfl ?_
        refine r_bipush c200_143 ?_
        refine r_iload_n c200_145 rfl ?_
        refine r_iadd c200_146 ?_
        refine r_dup2 c200_147 ?_
        obtain ⟨s22, h⟩ := h
        refine r_iae c200_148 (oK hK k1) (bd z1 s22) rfl ?_
        refine r_iconst c200_149 ?_
        refine r_iadd c200_150 ?_
        obtain ⟨s23, h⟩ := h
        refine r_ias c200_151 (oK hK k1) (bd z1 s23) ?_
        have x24 := FX.set (v := (w32 ((M l1 (Int.toNat (w32 ((12 : Int) + l3)))) + (1 : Int)))) (a := l1) (k := (Int.toNat (w32 ((12 : Int) + l3)))) hX (nfa k1 _)
        refine r_iconst c200_152 ?_
        exact r_iret c200_153 (by decide) h
      · have hc21 := Classical.not_not.mp hc20
        replace h := h.2 hc21
        refine r_iconst c200_140 ?_
        exact r_iret c200_141 (by decide) h
  by_cases hv3 : (M l2 0) = (3 : Int)
  · rw [show tsw 35 168 0 4 #[33, 60, 89, 119, 160] (M l2 0) = 154 from by rw [hv3]; decide]
    replace h := h.2.2.2.1 hv3
    refine r_iload c200_154 rfl ?_
    refine r_ifP (P := ¬ t0 = (0 : Int)) c200_156 rfl (fun hc25 => ?_) (fun hc25 => ?_)
    · replace h := h.1 hc25
      refine r_iconst c200_176 ?_
      exact r_iret c200_177 (by decide) h
    · have hc26 := Classical.not_not.mp hc25
      replace h := h.2 hc26
      refine r_aload_n c200_159 rfl ?_
      refine r_bipush c200_160 ?_
      refine r_iload_n c200_162 rfl ?_
      refine r_iadd c200_163 ?_
      obtain ⟨s27, h⟩ := h
      refine r_iae c200_164 (oK hK k1) (bd z1 s27) rfl ?_
      refine r_iconst c200_165 ?_
      refine r_icmpP (P := (M l1 (Int.toNat (w32 ((18 : Int) + l3)))) = (1 : Int)) c200_166 rfl (fun hc28 => ?_) (fun hc28 => ?_)
      · replace h := h.1 hc28
        refine r_iconst c200_176 ?_
        exact r_iret c200_177 (by decide) h
      · replace h := h.2 hc28
        refine r_aload_n c200_169 rfl ?_
        refine r_bipush c200_170 ?_
        refine r_iae c200_172 (oK hK k1) (bd z1 (by decide)) rfl ?_
        refine r_ifP (P := ¬ (M l1 25) = (0 : Int)) c200_173 rfl (fun hc29 => ?_) (fun hc29 => ?_)
        · replace h := h.1 hc29
          refine r_aload_n c200_178 rfl ?_
          refine r_bipush c200_179 ?_
          refine r_iload_n c200_181 rfl ?_
          refine r_iadd c200_182 ?_
          refine r_iconst c200_183 ?_
          obtain ⟨s31, h⟩ := h
          refine r_ias c200_184 (oK hK k1) (bd z1 s31) ?_
          have x32 := FX.set (v := (1 : Int)) (a := l1) (k := (Int.toNat (w32 ((18 : Int) + l3)))) hX (nfa k1 _)
          refine r_aload_n c200_185 rfl ?_
          refine r_bipush c200_186 ?_
          refine r_dup2 c200_188 ?_
          refine r_iae c200_189 (oK hK k1) (bd z1 (by decide)) rfl ?_
          refine r_iconst c200_190 ?_
          refine r_isub c200_191 ?_
          refine r_ias c200_192 (oK hK k1) (bd z1 (by decide)) ?_
          have x33 := FX.set (v := (w32 (((mset M l1 (Int.toNat (w32 ((18 : Int) + l3))) (1 : Int)) l1 25) - (1 : Int)))) (a := l1) (k := 25) x32 (nfa k1 _)
          refine r_iconst c200_193 ?_
          exact r_iret c200_194 (by decide) h
        · have hc30 := Classical.not_not.mp hc29
          replace h := h.2 hc30
          refine r_iconst c200_176 ?_
          exact r_iret c200_177 (by decide) h
  by_cases hv4 : (M l2 0) = (4 : Int)
  · rw [show tsw 35 168 0 4 #[33, 60, 89, 119, 160] (M l2 0) = 195 from by rw [hv4]; decide]
    replace h := h.2.2.2.2.1 hv4
    refine r_aload_n c200_195 rfl ?_
    refine r_aload_n c200_196 rfl ?_
    refine r_iload c200_197 rfl ?_
    obtain ⟨c34, h⟩ := h
    obtain ⟨s35, h⟩ := h
    obtain ⟨dr36, h⟩ := h
    obtain ⟨p37, h⟩ := h
    refine r_call c200_199 rfl rfl (Nat.le_of_ble_eq_true rfl) (okc_r rfl rfl (oK hK o440)) (g199 hK hX k1 z1 p37 (fun M40 x38 p39 => Bk_v ?_))
    replace h := h M40 x38 p39
    exact r_iret c200_202 (Or.inr bI_01) h
  have hvd : (M l2 0) < (0 : Int) ∨ (4 : Int) < (M l2 0) := by omega
  rw [show tsw 35 168 0 4 #[33, 60, 89, 119, 160] (M l2 0) = 203 from by unfold tsw; rw [if_pos hvd]; decide]
  replace h := h.2.2.2.2.2 hvd
  refine r_aload_n c200_203 rfl ?_
  refine r_bipush c200_204 ?_
  refine r_iae c200_206 (oK hK k1) (bd z1 (by decide)) rfl ?_
  refine r_sipush c200_207 ?_
  refine r_icmpP (P := (M l1 24) < (500 : Int)) c200_210 rfl (fun hc41 => ?_) (fun hc41 => ?_)
  · replace h := h.1 hc41
    refine r_aload_n c200_215 rfl ?_
    refine r_aload_n c200_216 rfl ?_
    obtain ⟨c42, h⟩ := h
    obtain ⟨s43, h⟩ := h
    obtain ⟨L44, h⟩ := h
    obtain ⟨dr45, h⟩ := h
    obtain ⟨p46, h⟩ := h
    refine r_call c200_217 rfl rfl (Nat.le_of_ble_eq_true rfl) (okc_r rfl rfl (oK hK o440)) (g198 hK hX k1 z1 p46 (fun M49 x47 p48 => Bk_n ?_))
    replace h := h M49 x47 p48
    refine r_iconst c200_220 ?_
    exact r_iret c200_221 (by decide) h
  · replace h := h.2 hc41
    refine r_iconst c200_213 ?_
    exact r_iret c200_214 (by decide) h
section MS
variable {d : Nat} {M : Mem} {K : KK} {Q : RR → Mem → KK → Prop} {r q p : Nat} {c s : Mem} {L : LC} {dr kk aa bb : Int}
theorem g200 (hK : K.1 = 923) (hX : FX M) (hr : isO 923 r 20 = true) (hz : L27 r) (hq : isO 923 q 20 = true) (hz4 : L4 q) (hs : SM M r c s dr) (hL : LM M L) (hR : RQ M q kk aa bb) (ho : stOK c kk aa bb) (hk6 : kk ≠ 6) (k : ∀ M', FX M' → FrJ r M M' → LMr M' r c ((stpR c L s (rainM c s dr) kk aa bb).getD s) → M' r 26 = dr → Q (.inl (some (vI (bI ((stpR c L s (rainM c s dr) kk aa bb).isSome = true))))) M' K) : Wm (d + 6) 200 [vR 440, vR r, vR q] M K Q := by
  have hs' := hs
  obtain ⟨hc, hw, hl, hlw, hd⟩ := hs'
  obtain ⟨e0, e1, e2, e3⟩ := hR
  obtain ⟨ho1, ho2, ho3, -⟩ := ho
  have hn := hw.n.1
  have e24 := hl.2.1
  have no : stpR c L s (rainM c s dr) kk aa bb = none → Q (.inl (some (vI 0))) M K := by
    intro e
    rw [e, bI_f (by simp)] at k
    exact k M hX FrJ.rf hl hd
  generalize hrn : rainM c s dr = rain at k no
  -- what is done, when it is known whether the strip is folded
  have big : ∀ t0 : Int, (kk < 4 → t0 = bI (s 0 aa.toNat = -1)) → Wp (d + 6) 200 30 [vR 440, vR r, vR q, vI (M q 1), vI (M q 2), vU] [vI t0] M K Q := by
    intro t0 ht
    by_cases hk4 : kk < 4
    · have ht := ht hk4
      have e1 := e1 (Or.inl hk4)
      have ha := ho2 (by omega)
      obtain ⟨p, rfl⟩ : ∃ p : Nat, aa = (p : Int) := ⟨aa.toNat, by omega⟩
      simp only [Int.toNat_natCast] at ht
      have hp : p < nSt c := by omega
      have hp6 : p < 6 := by omega
      obtain ⟨f0, f1, f2, f3⟩ := hl.1 p hp
      obtain ⟨-, -, w2, w3⟩ := hlw.1 p hp
      have hw5 := hlw.2.2.1
      have e25 := hl.2.2
      have t0z : t0 = 0 ↔ s 0 p ≠ -1 := by
        rw [ht]; unfold bI; split
        · simp; assumption
        · simp; assumption
      rw [e1]
      refine u200_30 hK hX hr hz hq hz4 ⟨fun h => ⟨fun h0 => no ?_, fun h0 => ?_⟩, fun h => ⟨fun h0 => ?_, fun h0 => no ?_⟩, fun h => ⟨fun h0 => no ?_, fun h0 => ⟨bx12 hp6, fun h9 => ⟨bx12 hp6, bx12 hp6, ?_⟩, fun h9 => no ?_⟩⟩, fun h => ⟨fun h0 => no ?_, fun h0 => ⟨bx18 hp6, fun h9 => no ?_, fun h9 => ⟨fun h8 => ⟨bx18 hp6, ?_⟩, fun h8 => no ?_⟩⟩⟩, fun h => absurd h (by omega), fun h => absurd h (by omega)⟩
      · have hk : kk = 0 := by omega
        subst hk
        have := t0z.mp h0
        simp [stpR, layS, this]
      · have hk : kk = 0 := by omega
        subst hk
        have hf : s 0 p = -1 := Classical.not_not.mp (fun h => h0 (t0z.mpr h))
        rw [e2 rfl]
        simp [stpR, layS, hf] at k no
        refine ⟨c, s, p, dr, ⟨rfl, hs, hp, ho3 rfl⟩, fun hy => ⟨bx0 hp6, ?_⟩, fun hy => no (by simpa using hy)⟩
        rw [ix0 hp6]
        rw [if_pos hy, bI_t hy] at k
        exact k _ (hX.set (nfa hr _)) FrJ.rf.up (hl.set hw (b := 0) (by decide) hp6 (by omega)) (by rw [ms_nk (by omega)]; exact hd)
      · have hk : kk = 1 := by omega
        subst hk
        have hf := t0z.mp h0
        simp [stpR, foldS, hf] at k
        rw [bI_t trivial] at k
        refine ⟨bx0 hp6, bx12 hp6, bx18 hp6, ?_⟩
        rw [ix0 hp6, ix12 hp6, ix18 hp6]
        exact k _ (((hX.set (nfa hr _)).set (nfa hr _)).set (nfa hr _)) FrJ.rf.up.up.up (((hl.set hw (b := 0) (by decide) hp6 (by omega)).set hw (b := 2) (by decide) hp6 rfl).set hw (b := 3) (by decide) hp6 rfl) (by rw [ms_nk (by omega), ms_nk (by omega), ms_nk (by omega)]; exact hd)
      · have hk : kk = 1 := by omega
        subst hk
        have hf : s 0 p = -1 := Classical.not_not.mp (fun h => h0 (t0z.mpr h))
        simp [stpR, foldS, hf]
      · have hk : kk = 2 := by omega
        subst hk
        have hf : s 0 p = -1 := Classical.not_not.mp (fun h => h0 (t0z.mpr h))
        simp [stpR, wetS, hf]
      · have hk : kk = 2 := by omega
        subst hk
        rw [ix12 hp6, f2] at h9
        have hf := t0z.mp h0
        have h99 : s 2 p < 9 := by omega
        simp [stpR, wetS, hf, h99] at k
        rw [bI_t trivial] at k
        rw [ix12 hp6, f2, w32_id (z := s 2 p + 1) (by omega)]
        exact k _ (hX.set (nfa hr _)) FrJ.rf.up (hl.set hw (b := 2) (by decide) hp6 rfl) (by rw [ms_nk (by omega)]; exact hd)
      · have hk : kk = 2 := by omega
        subst hk
        rw [ix12 hp6, f2] at h9
        simp [stpR, wetS, h9]
      · have hk : kk = 3 := by omega
        subst hk
        have hf : s 0 p = -1 := Classical.not_not.mp (fun h => h0 (t0z.mpr h))
        simp [stpR, milkS, hf]
      · have hk : kk = 3 := by omega
        subst hk
        rw [ix18 hp6, f3] at h9
        simp [stpR, milkS, h9]
      · have hk : kk = 3 := by omega
        subst hk
        rw [ix18 hp6, f3] at h9
        rw [e25] at h8
        have hf := t0z.mp h0
        have h88 : 0 < s 4 1 := by omega
        simp [stpR, milkS, hf, h88, h9] at k
        rw [bI_t trivial] at k
        rw [ix18 hp6, ms_nk (show 25 ≠ 18 + p by omega), e25, w32_id (z := s 4 1 - 1) (by omega)]
        refine k _ ((hX.set (nfa hr _)).set (nfa hr _)) FrJ.rf.up.up ?_ (by rw [ms_nk (by omega), ms_nk (by omega)]; exact hd)
        have l1 := hl.set hw (b := 3) (p := p) (v := 1) (by decide) hp6 rfl
        refine ⟨fun z hz => ?_, ?_, ?_⟩
        · have := l1.1 z hz
          rw [ms_nk (show z ≠ 25 by omega), ms_nk (show 6 + z ≠ 25 by omega), ms_nk (show 12 + z ≠ 25 by omega), ms_nk (show 18 + z ≠ 25 by omega), ms_na (show (0:Nat) ≠ 4 by decide), ms_na (show (1:Nat) ≠ 4 by decide), ms_na (show (2:Nat) ≠ 4 by decide), ms_na (show (3:Nat) ≠ 4 by decide)]
          exact this
        · rw [ms_nk (by decide), ms_nk (show (0:Nat) ≠ 1 by decide)]; exact l1.2.1
        · rw [ms_eq, ms_eq]
      · have hk : kk = 3 := by omega
        subst hk
        rw [e25] at h8
        simp [stpR, milkS, h8]
    · have hkk : kk = 4 ∨ kk = 5 := by omega
      refine u200_30 hK hX hr hz hq hz4 ⟨fun h => absurd h (by omega), fun h => absurd h (by omega), fun h => absurd h (by omega), fun h => absurd h (by omega), fun h => ?_, fun h => ⟨fun h5 => ?_, fun h5 => no ?_⟩⟩
      · have hk : kk = 4 := by omega
        subst hk
        rw [e3 rfl]
        simp [stpR] at k
        refine ⟨c, s, dr, hs, fun M' x f => ?_⟩
        by_cases hn1 : lyOn c s aa = -1
        · rw [if_pos hn1, bI_f (not_not_intro hn1)] at k
          have e9 : digS c s aa = s := by unfold digS; rw [if_pos hn1]
          rw [e9] at f
          rw [bI_f (fun h => h hn1)]
          exact k M' x f.1 f.2.1 f.2.2
        · rw [if_neg hn1, bI_t hn1] at k
          rw [bI_t hn1]
          exact k M' x f.1 f.2.1 f.2.2
      · have hk : kk = 5 := by omega
        subst hk
        rw [e24] at h5
        simp [stpR] at k
        rw [if_pos h5, bI_t h5] at k
        refine ⟨c, s, L, dr, ⟨hs, hL, by omega⟩, fun M' x f => ?_⟩
        rw [hrn] at f
        exact k M' x f.1 f.2.1 f.2.2
      · have hk : kk = 5 := by omega
        subst hk
        rw [e24] at h5
        simp [stpR]; omega
  refine u200_0 hK hX hr hz hq hz4 ⟨fun h => big 0 (fun h9 => absurd h (by omega)), fun h => ?_⟩
  have hk4 : kk < 4 := by omega
  have e1 := e1 (Or.inl hk4)
  have ha := ho2 (by omega)
  obtain ⟨p, rfl⟩ : ∃ p : Nat, aa = (p : Int) := ⟨aa.toNat, by omega⟩
  have hp : p < nSt c := by omega
  have hp6 : p < 6 := by omega
  obtain ⟨f0, -⟩ := hl.1 p hp
  simp only [Int.toNat_natCast] at big
  have hbx : 0 ≤ w32 (0 + M q 1) ∧ w32 (0 + M q 1) < 27 := by rw [e1]; exact bx0 hp6
  refine ⟨hbx, fun h0 => ?_, fun h0 => ?_⟩
  · rw [e1, ix0 hp6, f0] at h0
    exact big 0 (fun _ => (bI_f h0).symm)
  · rw [e1, ix0 hp6, f0] at h0
    exact big 1 (fun _ => (bI_t h0).symm)
end MS
