theorem u179_0 {d : Nat}  {M : Mem} {K : KK} {Q : RR → Mem → KK → Prop} (hK : K.1 = 923) (hX : FX M)  (h : Wp (d + 1) 179 2 [vR 440, vI (0 : Int)] [] M K Q) : Wp (d + 1) 179 0 [vR 440, vU] [] M K Q := by
  refine r_iconst c179_0 ?_
  refine r_istore_n c179_1 (Nat.le_of_ble_eq_true rfl) ?_
  exact h
theorem u179_2 {d : Nat} {l1 : Int} {M : Mem} {K : KK} {Q : RR → Mem → KK → Prop} (hK : K.1 = 923) (hX : FX M)  (h : ((6 : Int) ≤ l1 → Wp (d + 1) 179 28 [vR 440, vI (0 : Int)] [] M K Q) ∧ (¬ ((6 : Int) ≤ l1) → (0 ≤ l1 ∧ l1 < (6 : Int)) ∧ (0 ≤ l1 ∧ l1 < (6 : Int)) ∧ Wp (d + 1) 179 2 [vR 440, vI (w32 (l1 + 1))] [] (mset M 444 (Int.toNat l1) (M 443 (Int.toNat l1))) K Q)) : Wp (d + 1) 179 2 [vR 440, vI l1] [] M K Q := by
  refine r_iload_n c179_2 rfl ?_
  refine r_bipush c179_3 ?_
  refine r_icmpP (P := (6 : Int) ≤ l1) c179_5 rfl (fun hc1 => ?_) (fun hc1 => ?_)
  · replace h := h.1 hc1
    refine r_iconst c179_26 ?_
    refine r_istore_n c179_27 (Nat.le_of_ble_eq_true rfl) ?_
    exact h
  · replace h := h.2 hc1
    refine r_aload_n c179_8 rfl ?_
    refine r_getR c179_9 (oK hK o440) (FX.get (b := 444) hX (by decide) (by decide +kernel) (by decide)) (by decide) ?_
    refine r_iload_n c179_12 rfl ?_
    refine r_aload_n c179_13 rfl ?_
    refine r_getR c179_14 (oK hK o440) (FX.get (b := 443) hX (by decide) (by decide +kernel) (by decide)) (by decide) ?_
    refine r_iload_n c179_17 rfl ?_
    obtain ⟨s2, h⟩ := h
    refine r_iae c179_18 (oK hK o443) (bd l443 s2) rfl ?_
    obtain ⟨s3, h⟩ := h
    refine r_ias c179_19 (oK hK o444) (bd l444 s3) ?_
    have x4 := FX.set (v := (M 443 (Int.toNat l1))) (a := 444) (k := (Int.toNat l1)) hX (nfa o444 _)
    refine r_iinc c179_20 rfl ?_
    refine r_goto c179_23 ?_
    exact h
theorem u179_28 {d : Nat} {l1 : Int} {M : Mem} {K : KK} {Q : RR → Mem → KK → Prop} (hK : K.1 = 923) (hX : FX M)  (h : ((M 444 0) ≤ l1 → Wp (d + 1) 179 58 [vR 440, vI (0 : Int)] [] M K Q) ∧ (¬ ((M 444 0) ≤ l1) → (0 ≤ l1 ∧ l1 < (12 : Int)) ∧ (0 ≤ l1 ∧ l1 < (12 : Int)) ∧ Wp (d + 1) 179 28 [vR 440, vI (w32 (l1 + 1))] [] (mset M 446 (Int.toNat l1) (M 445 (Int.toNat l1))) K Q)) : Wp (d + 1) 179 28 [vR 440, vI l1] [] M K Q := by
  refine r_iload_n c179_28 rfl ?_
  refine r_aload_n c179_29 rfl ?_
  refine r_getR c179_30 (oK hK o440) (FX.get (b := 444) hX (by decide) (by decide +kernel) (by decide)) (by decide) ?_
  refine r_iconst c179_33 ?_
  refine r_iae c179_34 (oK hK o444) (bd l444 (by decide)) rfl ?_
  refine r_icmpP (P := (M 444 0) ≤ l1) c179_35 rfl (fun hc1 => ?_) (fun hc1 => ?_)
  · replace h := h.1 hc1
    refine r_iconst c179_56 ?_
    refine r_istore_n c179_57 (Nat.le_of_ble_eq_true rfl) ?_
    exact h
  · replace h := h.2 hc1
    refine r_aload_n c179_38 rfl ?_
    refine r_getR c179_39 (oK hK o440) (FX.get (b := 446) hX (by decide) (by decide +kernel) (by decide)) (by decide) ?_
    refine r_iload_n c179_42 rfl ?_
    refine r_aload_n c179_43 rfl ?_
    refine r_getR c179_44 (oK hK o440) (FX.get (b := 445) hX (by decide) (by decide +kernel) (by decide)) (by decide) ?_
    refine r_iload_n c179_47 rfl ?_
    obtain ⟨s2, h⟩ := h
    refine r_iae c179_48 (oK hK o445) (bd l445 s2) rfl ?_
    obtain ⟨s3, h⟩ := h
    refine r_ias c179_49 (oK hK o446) (bd l446 s3) ?_
    have x4 := FX.set (v := (M 445 (Int.toNat l1))) (a := 446) (k := (Int.toNat l1)) hX (nfa o446 _)
    refine r_iinc c179_50 rfl ?_
    refine r_goto c179_53 ?_
    exact h
theorem u179_58 {d : Nat} {l1 : Int} {M : Mem} {K : KK} {Q : RR → Mem → KK → Prop} (hK : K.1 = 923) (hX : FX M)  (h : ((M 444 2) ≤ l1 → Wp (d + 1) 179 88 [vR 440, vI (0 : Int)] [] M K Q) ∧ (¬ ((M 444 2) ≤ l1) → (0 ≤ l1 ∧ l1 < (8 : Int)) ∧ (0 ≤ l1 ∧ l1 < (8 : Int)) ∧ Wp (d + 1) 179 58 [vR 440, vI (w32 (l1 + 1))] [] (mset M 448 (Int.toNat l1) (M 447 (Int.toNat l1))) K Q)) : Wp (d + 1) 179 58 [vR 440, vI l1] [] M K Q := by
  refine r_iload_n c179_58 rfl ?_
  refine r_aload_n c179_59 rfl ?_
  refine r_getR c179_60 (oK hK o440) (FX.get (b := 444) hX (by decide) (by decide +kernel) (by decide)) (by decide) ?_
  refine r_iconst c179_63 ?_
  refine r_iae c179_64 (oK hK o444) (bd l444 (by decide)) rfl ?_
  refine r_icmpP (P := (M 444 2) ≤ l1) c179_65 rfl (fun hc1 => ?_) (fun hc1 => ?_)
  · replace h := h.1 hc1
    refine r_iconst c179_86 ?_
    refine r_istore_n c179_87 (Nat.le_of_ble_eq_true rfl) ?_
    exact h
  · replace h := h.2 hc1
    refine r_aload_n c179_68 rfl ?_
    refine r_getR c179_69 (oK hK o440) (FX.get (b := 448) hX (by decide) (by decide +kernel) (by decide)) (by decide) ?_
    refine r_iload_n c179_72 rfl ?_
    refine r_aload_n c179_73 rfl ?_
    refine r_getR c179_74 (oK hK o440) (FX.get (b := 447) hX (by decide) (by decide +kernel) (by decide)) (by decide) ?_
    refine r_iload_n c179_77 rfl ?_
    obtain ⟨s2, h⟩ := h
    refine r_iae c179_78 (oK hK o447) (bd l447 s2) rfl ?_
    obtain ⟨s3, h⟩ := h
    refine r_ias c179_79 (oK hK o448) (bd l448 s3) ?_
    have x4 := FX.set (v := (M 447 (Int.toNat l1))) (a := 448) (k := (Int.toNat l1)) hX (nfa o448 _)
    refine r_iinc c179_80 rfl ?_
    refine r_goto c179_83 ?_
    exact h
theorem u179_88 {d : Nat} {l1 : Int} {M : Mem} {K : KK} {Q : RR → Mem → KK → Prop} (hK : K.1 = 923) (hX : FX M)  (h : ((M 444 3) ≤ l1 → Wm d 177 [vR 451, vR 458, vI (M 444 1)] M K (Bk d 179 130 133 177 [vR 440, vI l1] [] Q)) ∧ (¬ ((M 444 3) ≤ l1) → (0 ≤ l1 ∧ l1 < (7 : Int)) ∧ (0 ≤ l1 ∧ l1 < (7 : Int)) ∧ Wp (d + 1) 179 88 [vR 440, vI (w32 (l1 + 1))] [] (mset M 450 (Int.toNat l1) (M 449 (Int.toNat l1))) K Q)) : Wp (d + 1) 179 88 [vR 440, vI l1] [] M K Q := by
  refine r_iload_n c179_88 rfl ?_
  refine r_aload_n c179_89 rfl ?_
  refine r_getR c179_90 (oK hK o440) (FX.get (b := 444) hX (by decide) (by decide +kernel) (by decide)) (by decide) ?_
  refine r_iconst c179_93 ?_
  refine r_iae c179_94 (oK hK o444) (bd l444 (by decide)) rfl ?_
  refine r_icmpP (P := (M 444 3) ≤ l1) c179_95 rfl (fun hc1 => ?_) (fun hc1 => ?_)
  · replace h := h.1 hc1
    refine r_aload_n c179_116 rfl ?_
    refine r_getR c179_117 (oK hK o440) (FX.get (b := 451) hX (by decide) (by decide +kernel) (by decide)) (by decide) ?_
    refine r_aload_n c179_120 rfl ?_
    refine r_getR c179_121 (oK hK o440) (FX.get (b := 458) hX (by decide) (by decide +kernel) (by decide)) (by decide) ?_
    refine r_aload_n c179_124 rfl ?_
    refine r_getR c179_125 (oK hK o440) (FX.get (b := 444) hX (by decide) (by decide +kernel) (by decide)) (by decide) ?_
    refine r_iconst c179_128 ?_
    refine r_iae c179_129 (oK hK o444) (bd l444 (by decide)) rfl ?_
    exact r_call c179_130 rfl rfl (Nat.le_of_ble_eq_true rfl) (okc_s rfl rfl rfl) h
  · replace h := h.2 hc1
    refine r_aload_n c179_98 rfl ?_
    refine r_getR c179_99 (oK hK o440) (FX.get (b := 450) hX (by decide) (by decide +kernel) (by decide)) (by decide) ?_
    refine r_iload_n c179_102 rfl ?_
    refine r_aload_n c179_103 rfl ?_
    refine r_getR c179_104 (oK hK o440) (FX.get (b := 449) hX (by decide) (by decide +kernel) (by decide)) (by decide) ?_
    refine r_iload_n c179_107 rfl ?_
    obtain ⟨s2, h⟩ := h
    refine r_iae c179_108 (oK hK o449) (bd l449 s2) rfl ?_
    obtain ⟨s3, h⟩ := h
    refine r_ias c179_109 (oK hK o450) (bd l450 s3) ?_
    have x4 := FX.set (v := (M 449 (Int.toNat l1))) (a := 450) (k := (Int.toNat l1)) hX (nfa o450 _)
    refine r_iinc c179_110 rfl ?_
    refine r_goto c179_113 ?_
    exact h
theorem u179_133 {d : Nat} {l1 : Int} {M : Mem} {K : KK} {Q : RR → Mem → KK → Prop} (hK : K.1 = 923) (hX : FX M)  (h : Wp (d + 1) 179 135 [vR 440, vI (0 : Int)] [] M K Q) : Wp (d + 1) 179 133 [vR 440, vI l1] [] M K Q := by
  refine r_iconst c179_133 ?_
  refine r_istore_n c179_134 (Nat.le_of_ble_eq_true rfl) ?_
  exact h
theorem u179_135 {d : Nat} {l1 : Int} {M : Mem} {K : KK} {Q : RR → Mem → KK → Prop} (hK : K.1 = 923) (hX : FX M)  (h : ((27 : Int) ≤ l1 → Wp (d + 1) 179 156 [vR 440, vI (0 : Int)] [] M K Q) ∧ (¬ ((27 : Int) ≤ l1) → (0 ≤ l1 ∧ l1 < (27 : Int)) ∧ Wp (d + 1) 179 135 [vR 440, vI (w32 (l1 + 1))] [] (mset M 888 (Int.toNat l1) (0 : Int)) K Q)) : Wp (d + 1) 179 135 [vR 440, vI l1] [] M K Q := by
  refine r_iload_n c179_135 rfl ?_
  refine r_bipush c179_136 ?_
  refine r_icmpP (P := (27 : Int) ≤ l1) c179_138 rfl (fun hc1 => ?_) (fun hc1 => ?_)
  · replace h := h.1 hc1
    refine r_iconst c179_154 ?_
    refine r_istore_n c179_155 (Nat.le_of_ble_eq_true rfl) ?_
    exact h
  · replace h := h.2 hc1
    refine r_aload_n c179_141 rfl ?_
    refine r_getR c179_142 (oK hK o440) (FX.get (b := 888) hX (by decide) (by decide +kernel) (by decide)) (by decide) ?_
    refine r_iload_n c179_145 rfl ?_
    refine r_iconst c179_146 ?_
    obtain ⟨s2, h⟩ := h
    refine r_ias c179_147 (oK hK o888) (bd l888 s2) ?_
    have x3 := FX.set (v := (0 : Int)) (a := 888) (k := (Int.toNat l1)) hX (nfa o888 _)
    refine r_iinc c179_148 rfl ?_
    refine r_goto c179_151 ?_
    exact h
theorem u179_156 {d : Nat} {l1 : Int} {M : Mem} {K : KK} {Q : RR → Mem → KK → Prop} (hK : K.1 = 923) (hX : FX M)  (h : ((6 : Int) ≤ l1 → Q (.inl none) (mset (mset (mset (mset (mset (mset (mset M 888 25 (M 444 4)) 888 26 (-1 : Int)) 440 21 (0 : Int)) 440 35 (0 : Int)) 440 36 (0 : Int)) 440 37 (0 : Int)) 440 38 (0 : Int)) K) ∧ (¬ ((6 : Int) ≤ l1) → (0 ≤ (w32 ((0 : Int) + l1)) ∧ (w32 ((0 : Int) + l1)) < (27 : Int)) ∧ ((M 444 1) ≤ l1 → (0 ≤ (w32 ((6 : Int) + l1)) ∧ (w32 ((6 : Int) + l1)) < (27 : Int)) ∧ Wp (d + 1) 179 156 [vR 440, vI (w32 (l1 + 1))] [] (mset (mset M 888 (Int.toNat (w32 ((0 : Int) + l1))) (-1 : Int)) 888 (Int.toNat (w32 ((6 : Int) + l1))) (0 : Int)) K Q) ∧ (¬ ((M 444 1) ≤ l1) → (0 ≤ l1 ∧ l1 < (6 : Int)) ∧ (0 ≤ (w32 ((6 : Int) + l1)) ∧ (w32 ((6 : Int) + l1)) < (27 : Int)) ∧ Wp (d + 1) 179 156 [vR 440, vI (w32 (l1 + 1))] [] (mset (mset M 888 (Int.toNat (w32 ((0 : Int) + l1))) (-1 : Int)) 888 (Int.toNat (w32 ((6 : Int) + l1))) (M (459 + Int.toNat l1) 1)) K Q))) : Wp (d + 1) 179 156 [vR 440, vI l1] [] M K Q := by
  refine r_iload_n c179_156 rfl ?_
  refine r_bipush c179_157 ?_
  refine r_icmpP (P := (6 : Int) ≤ l1) c179_159 rfl (fun hc1 => ?_) (fun hc1 => ?_)
  · replace h := h.1 hc1
    refine r_aload_n c179_208 rfl ?_
    refine r_getR c179_209 (oK hK o440) (FX.get (b := 888) hX (by decide) (by decide +kernel) (by decide)) (by decide) ?_
    refine r_bipush c179_212 ?_
    refine r_aload_n c179_214 rfl ?_
    refine r_getR c179_215 (oK hK o440) (FX.get (b := 444) hX (by decide) (by decide +kernel) (by decide)) (by decide) ?_
    refine r_iconst c179_218 ?_
    refine r_iae c179_219 (oK hK o444) (bd l444 (by decide)) rfl ?_
    refine r_ias c179_220 (oK hK o888) (bd l888 (by decide)) ?_
    have x2 := FX.set (v := (M 444 4)) (a := 888) (k := 25) hX (nfa o888 _)
    refine r_aload_n c179_221 rfl ?_
    refine r_getR c179_222 (oK hK o440) (FX.get (b := 888) x2 (by decide) (by decide +kernel) (by decide)) (by decide) ?_
    refine r_bipush c179_225 ?_
    refine r_iconst c179_227 ?_
    refine r_ias c179_228 (oK hK o888) (bd l888 (by decide)) ?_
    have x3 := FX.set (v := (-1 : Int)) (a := 888) (k := 26) x2 (nfa o888 _)
    refine r_aload_n c179_229 rfl ?_
    refine r_iconst c179_230 ?_
    refine r_putI c179_231 (oK hK o440) ?_
    have x4 := FX.set (v := (0 : Int)) (a := 440) (k := 21) x3 (by decide +kernel)
    refine r_aload_n c179_234 rfl ?_
    refine r_iconst c179_235 ?_
    refine r_putI c179_236 (oK hK o440) ?_
    have x5 := FX.set (v := (0 : Int)) (a := 440) (k := 35) x4 (by decide +kernel)
    refine r_aload_n c179_239 rfl ?_
    refine r_iconst c179_240 ?_
    refine r_putI c179_241 (oK hK o440) ?_
    have x6 := FX.set (v := (0 : Int)) (a := 440) (k := 36) x5 (by decide +kernel)
    refine r_aload_n c179_244 rfl ?_
    refine r_iconst c179_245 ?_
    refine r_putI c179_246 (oK hK o440) ?_
    have x7 := FX.set (v := (0 : Int)) (a := 440) (k := 37) x6 (by decide +kernel)
    refine r_aload_n c179_249 rfl ?_
    refine r_iconst c179_250 ?_
    refine r_putI c179_251 (oK hK o440) ?_
    have x8 := FX.set (v := (0 : Int)) (a := 440) (k := 38) x7 (by decide +kernel)
    exact r_ret c179_254 h
  · replace h := h.2 hc1
    refine r_aload_n c179_162 rfl ?_
    refine r_getR c179_163 (oK hK o440) (FX.get (b := 888) hX (by decide) (by decide +kernel) (by decide)) (by decide) ?_
    refine r_iconst c179_166 ?_
    refine r_iload_n c179_167 rfl ?_
    refine r_iadd c179_168 ?_
    refine r_iconst c179_169 ?_
    obtain ⟨s9, h⟩ := h
    refine r_ias c179_170 (oK hK o888) (bd l888 s9) ?_
    have x10 := FX.set (v := (-1 : Int)) (a := 888) (k := (Int.toNat (w32 ((0 : Int) + l1)))) hX (nfa o888 _)
    refine r_aload_n c179_171 rfl ?_
    refine r_getR c179_172 (oK hK o440) (FX.get (b := 888) x10 (by decide) (by decide +kernel) (by decide)) (by decide) ?_
    refine r_bipush c179_175 ?_
    refine r_iload_n c179_177 rfl ?_
    refine r_iadd c179_178 ?_
    refine r_iload_n c179_179 rfl ?_
    refine r_aload_n c179_180 rfl ?_
    refine r_getR c179_181 (oK hK o440) (FX.get (b := 444) x10 (by decide) (by decide +kernel) (by decide)) (by decide) ?_
    refine r_iconst c179_184 ?_
    refine r_iae c179_185 (oK hK o444) (bd l444 (by decide)) (ms_na (by decide)) ?_
    refine r_icmpP (P := (M 444 1) ≤ l1) c179_186 rfl (fun hc11 => ?_) (fun hc11 => ?_)
    · replace h := h.1 hc11
      refine r_iconst c179_200 ?_
      obtain ⟨s12, h⟩ := h
      refine r_ias c179_201 (oK hK o888) (bd l888 s12) ?_
      have x13 := FX.set (v := (0 : Int)) (a := 888) (k := (Int.toNat (w32 ((6 : Int) + l1)))) x10 (nfa o888 _)
      refine r_iinc c179_202 rfl ?_
      refine r_goto c179_205 ?_
      exact h
    · replace h := h.2 hc11
      refine r_aload_n c179_189 rfl ?_
      refine r_getR c179_190 (oK hK o440) (FX.get (b := 458) x10 (by decide) (by decide +kernel) (by decide)) (by decide) ?_
      refine r_iload_n c179_193 rfl ?_
      obtain ⟨s14, h⟩ := h
      refine r_aa c179_194 (mrw o458 hK) (bd l458 s14) (rf458 x10 s14) (by omega) ?_
      refine r_iconst c179_195 ?_
      refine r_iae c179_196 (oK hK (ro458 s14)) (bd (rz458 s14) (by decide)) (ms_na (by omega)) ?_
      refine r_goto c179_197 ?_
      obtain ⟨s15, h⟩ := h
      refine r_ias c179_201 (oK hK o888) (bd l888 s15) ?_
      have x16 := FX.set (v := (M (459 + Int.toNat l1) 1)) (a := 888) (k := (Int.toNat (w32 ((6 : Int) + l1)))) x10 (nfa o888 _)
      refine r_iinc c179_202 rfl ?_
      refine r_goto c179_205 ?_
      exact h
def FrNew (M M' : Mem) : Prop := ∀ a k, ¬ (a = 444 ∨ a = 446 ∨ a = 448 ∨ a = 450 ∨ (459 ≤ a ∧ a ≤ 464) ∨ a = 888) → ¬ (a = 440 ∧ (k = 21 ∨ (35 ≤ k ∧ k ≤ 38))) → M' a k = M a k
theorem FrNew.rf {M : Mem} : FrNew M M := fun _ _ _ _ => rfl
theorem FrNew.up {M M1 : Mem} {a k : Nat} {v : Int} (h : FrNew M M1) (ha : a = 444 ∨ a = 446 ∨ a = 448 ∨ a = 450 ∨ a = 888 ∨ (a = 440 ∧ (k = 21 ∨ (35 ≤ k ∧ k ≤ 38)))) : FrNew M (mset M1 a k v) := by
  intro b j p q
  unfold mset
  rw [if_neg (by rintro ⟨rfl, rfl⟩; omega)]
  exact h b j p q
theorem no446 : ∀ k, fxT 446 k = 0 := fun k => nfa (by decide +kernel) k
theorem no448 : ∀ k, fxT 448 k = 0 := fun k => nfa (by decide +kernel) k
theorem no450 : ∀ k, fxT 450 k = 0 := fun k => nfa (by decide +kernel) k
theorem no444 : ∀ k, fxT 444 k = 0 := fun k => nfa (by decide +kernel) k
theorem lays451 : (Nat.ble 30 (tg 458) = true ∧ isO 923 458 (tg 458) = true) ∧ (Nat.ble 30 (tg 451) = true ∧ isO 923 451 (tg 451) = true) ∧ ln 458 = 6 ∧ ln 451 = 6 ∧ (∀ i, i < 6 → (isO 923 (458 + 1 + i) 20 = true ∧ ln (458 + 1 + i) = 2 ∧ fxT 458 i = 458 + 1 + i) ∧ (isO 923 (451 + 1 + i) 20 = true ∧ ln (451 + 1 + i) = 2 ∧ fxT 451 i = 451 + 1 + i)) := by decide +kernel
section NW
variable {d : Nat} {M : Mem} {K : KK} {Q : RR → Mem → KK → Prop} {c : Mem}
theorem g179 (hK : K.1 = 923) (hX : FX M) (h : CN M c ∧ CW c) (k : ∀ M', FX M' → (FrNew M M' ∧ MCc M' c ∧ LMr M' 888 c (begS c) ∧ M' 888 26 = -1 ∧ M' 440 21 = 0 ∧ M' 440 35 = 0 ∧ M' 440 36 = 0 ∧ M' 440 37 = 0 ∧ M' 440 38 = 0) → Q (.inl none) M' K) : Wm (d + 1) 179 [vR 440] M K Q := by
  obtain ⟨⟨c0, c1, c2, c3, c4⟩, hw⟩ := h
  obtain ⟨⟨en, hn6⟩, ⟨ec, hc12⟩, ⟨ed, hd8⟩⟩ := hw.n
  have hw4 := hw.2.2.2.1
  -- the linen laid off
  have loop156 : ∀ f i, i + f = 6 → ∀ M1, FX M1 → FrNew M M1 → MCc M1 c → (∀ p, p < i → M1 888 p = -1 ∧ (p < nSt c → M1 888 (6 + p) = c 3 p)) → (∀ j, 12 ≤ j → j < 27 → M1 888 j = 0) → Wp (d + 1) 179 156 [vR 440, vI (i : Int)] [] M1 K Q := by
    intro f
    induction f with
    | zero =>
      intro i hi M1 x1 f1 hc h1 h2
      refine u179_156 hK x1 ⟨fun _ => ?_, fun h => absurd h (by omega)⟩
      have e4 : M1 444 4 = c 0 4 := hc.1 4 (by decide)
      have hnn : ∀ {k : Nat}, (k = 21 ∨ (35 ≤ k ∧ k ≤ 38)) → fxT 440 k = 0 := by
        intro k hk
        rcases (show k = 21 ∨ k = 35 ∨ k = 36 ∨ k = 37 ∨ k = 38 by omega) with rfl | rfl | rfl | rfl | rfl <;> decide +kernel
      refine k _ (((((((x1.set (nfa o888' _)).set (nfa o888' _)).set (hnn (by omega))).set (hnn (by omega))).set (hnn (by omega))).set (hnn (by omega))).set (hnn (by omega))) ⟨((((((f1.up (by omega)).up (by omega)).up (by omega)).up (by omega)).up (by omega)).up (by omega)).up (by omega), ?_, ?_, ?_, ?_, ?_, ?_, ?_, ?_⟩
      · have g : ∀ a j, 441 ≤ a → a < 888 → (mset (mset (mset (mset (mset (mset (mset M1 888 25 (M1 444 4)) 888 26 (-1 : Int)) 440 21 (0 : Int)) 440 35 (0 : Int)) 440 36 (0 : Int)) 440 37 (0 : Int)) 440 38 (0 : Int)) a j = M1 a j := by
          intro a j h1 h2
          rw [ms_na (by omega), ms_na (by omega), ms_na (by omega), ms_na (by omega), ms_na (by omega), ms_na (by omega), ms_na (by omega)]
        exact ⟨fun k hk => (g 444 k (by omega) (by omega)).trans (hc.1 k hk), fun i hi => (g 446 i (by omega) (by omega)).trans (hc.2.1 i hi), fun i hi => ⟨(g _ 0 (by omega) (by omega)).trans (hc.2.2.1 i hi).1, (g _ 1 (by omega) (by omega)).trans (hc.2.2.1 i hi).2⟩, fun i hi => (g 448 i (by omega) (by omega)).trans (hc.2.2.2.1 i hi), fun i hi => (g 450 i (by omega) (by omega)).trans (hc.2.2.2.2 i hi)⟩
      · have g : ∀ j, j < 25 → (mset (mset (mset (mset (mset (mset (mset M1 888 25 (M1 444 4)) 888 26 (-1 : Int)) 440 21 (0 : Int)) 440 35 (0 : Int)) 440 36 (0 : Int)) 440 37 (0 : Int)) 440 38 (0 : Int)) 888 j = M1 888 j := by
          intro j h1
          rw [ms_na (by omega), ms_na (by omega), ms_na (by omega), ms_na (by omega), ms_na (by omega), ms_nk (by omega), ms_nk (by omega)]
        refine ⟨fun q hq => ?_, ?_, ?_⟩
        · rw [g q (by omega), g (6 + q) (by omega), g (12 + q) (by omega), g (18 + q) (by omega)]
          obtain ⟨a1, a2⟩ := h1 q (by omega)
          rw [a1, a2 hq, h2 (12 + q) (by omega) (by omega), h2 (18 + q) (by omega) (by omega)]
          simp [begS]
        · rw [g 24 (by omega), h2 24 (by omega) (by omega)]; simp [begS]
        · rw [ms_na (by omega), ms_na (by omega), ms_na (by omega), ms_na (by omega), ms_na (by omega), ms_nk (by omega), ms_eq, e4]; simp [begS]
      · rw [ms_na (by omega), ms_na (by omega), ms_na (by omega), ms_na (by omega), ms_na (by omega), ms_eq]
      · rw [ms_nk (by decide), ms_nk (by decide), ms_nk (by decide), ms_nk (by decide), ms_eq]
      · rw [ms_nk (by decide), ms_nk (by decide), ms_nk (by decide), ms_eq]
      · rw [ms_nk (by decide), ms_nk (by decide), ms_eq]
      · rw [ms_nk (by decide), ms_eq]
      · rw [ms_eq]
    | succ f ih =>
      intro i hi M1 x1 f1 hc h1 h2
      have hi6 : i < 6 := by omega
      have e1 : M1 444 1 = (nSt c : Int) := (hc.1 1 (by decide)).trans en
      have hc' : ∀ u v w x, MCc (mset (mset M1 888 u v) 888 w x) c := by
        intro u v w x
        have g : ∀ a j, a ≠ 888 → (mset (mset M1 888 u v) 888 w x) a j = M1 a j := fun a j ha => by rw [ms_na ha, ms_na ha]
        exact ⟨fun k hk => (g 444 k (by omega)).trans (hc.1 k hk), fun i hi => (g 446 i (by omega)).trans (hc.2.1 i hi), fun i hi => ⟨(g _ 0 (by omega)).trans (hc.2.2.1 i hi).1, (g _ 1 (by omega)).trans (hc.2.2.1 i hi).2⟩, fun i hi => (g 448 i (by omega)).trans (hc.2.2.2.1 i hi), fun i hi => (g 450 i (by omega)).trans (hc.2.2.2.2 i hi)⟩
      have go : ∀ v, (i < nSt c → v = c 3 i) → Wp (d + 1) 179 156 [vR 440, vI (w32 ((i : Int) + 1))] [] (mset (mset M1 888 (Int.toNat (w32 (0 + (i : Int)))) (-1)) 888 (Int.toNat (w32 (6 + (i : Int)))) v) K Q := by
        intro v hv
        rw [ix0 hi6, ix6 hi6, w1 (i := i) (by omega)]
        refine ih (i + 1) (by omega) _ ((x1.set (nfa o888' _)).set (nfa o888' _)) ((f1.up (by omega)).up (by omega)) (hc' _ _ _ _) (fun p hp => ?_) (fun j h3 h4 => ?_)
        · by_cases hpi : p = i
          · subst hpi
            refine ⟨by rw [ms_nk (by omega), ms_eq], fun hq => by rw [ms_eq]; exact hv hq⟩
          · obtain ⟨a1, a2⟩ := h1 p (by omega)
            exact ⟨by rw [ms_nk (by omega), ms_nk hpi]; exact a1, fun hq => by rw [ms_nk (by omega), ms_nk (by omega)]; exact a2 hq⟩
        · rw [ms_nk (by omega), ms_nk (by omega)]; exact h2 j h3 h4
      refine u179_156 hK x1 ⟨fun h => absurd h (by omega), fun _ => ⟨bx0 hi6, fun h => ⟨bx6 hi6, go 0 (fun h9 => absurd h (by omega))⟩, fun h => ⟨⟨by omega, by omega⟩, bx6 hi6, go _ (fun h9 => ?_)⟩⟩⟩
      rw [Int.toNat_natCast]
      exact (hc.2.2.1 i (by omega)).2
  have loop135 : ∀ f i, i + f = 27 → ∀ M1, FX M1 → FrNew M M1 → MCc M1 c → (∀ j, j < i → M1 888 j = 0) → Wp (d + 1) 179 135 [vR 440, vI (i : Int)] [] M1 K Q := by
    intro f
    induction f with
    | zero =>
      intro i hi M1 x1 f1 hc h1
      refine u179_135 hK x1 ⟨fun _ => loop156 6 0 rfl M1 x1 f1 hc (fun p hp => absurd hp (by omega)) (fun j _ h => h1 j (by omega)), fun h => absurd h (by omega)⟩
    | succ f ih =>
      intro i hi M1 x1 f1 hc h1
      have hc' : ∀ u v, MCc (mset M1 888 u v) c := by
        intro u v
        have g : ∀ a j, a ≠ 888 → (mset M1 888 u v) a j = M1 a j := fun a j ha => by rw [ms_na ha]
        exact ⟨fun k hk => (g 444 k (by omega)).trans (hc.1 k hk), fun i hi => (g 446 i (by omega)).trans (hc.2.1 i hi), fun i hi => ⟨(g _ 0 (by omega)).trans (hc.2.2.1 i hi).1, (g _ 1 (by omega)).trans (hc.2.2.1 i hi).2⟩, fun i hi => (g 448 i (by omega)).trans (hc.2.2.2.1 i hi), fun i hi => (g 450 i (by omega)).trans (hc.2.2.2.2 i hi)⟩
      refine u179_135 hK x1 ⟨fun h => absurd h (by omega), fun _ => ⟨⟨by omega, by omega⟩, ?_⟩⟩
      rw [w1 (by omega), Int.toNat_natCast]
      refine ih (i + 1) (by omega) _ (x1.set (nfa o888' _)) (f1.up (by omega)) (hc' _ _) (fun j hj => ?_)
      by_cases hji : j = i
      · subst hji; rw [ms_eq]
      · rw [ms_nk hji]; exact h1 j (by omega)
  -- rain
  have loop88 : ∀ f i, i + f = (c 0 3).toNat → ∀ M1, FX M1 → FrNew M M1 → (∀ j, j < 6 → M1 444 j = c 0 j) → (∀ j : Nat, (j : Int) < c 0 0 → M1 446 j = c 1 j) → (∀ j : Nat, (j : Int) < c 0 2 → M1 448 j = c 4 j) → (∀ j, j < i → M1 450 j = c 5 j) → Wp (d + 1) 179 88 [vR 440, vI (i : Int)] [] M1 K Q := by
    intro f
    induction f with
    | zero =>
      intro i hi M1 x1 f1 a0 a1 a4 a5
      have e3 := a0 3 (by decide)
      refine u179_88 hK x1 ⟨fun _ => ?_, fun h => absurd h (by omega)⟩
      rw [a0 1 (by decide), en]
      obtain ⟨tT, tS, lT, lS, hr⟩ := lays451
      refine g177 (z := 2) hK x1 tT tS (by rw [lT]; exact hn6) (by rw [lS]; exact hn6) (by omega) (by omega) (fun j hj => (hr j (by omega)).1) (fun j hj => (hr j (by omega)).2) (by omega) (fun M2 x2 f2 h2 => Bk_n (u179_133 hK x2 ?_))
      refine loop135 27 0 rfl M2 x2 (fun a j p q => (f2 a j (by omega)).trans (f1 a j p q)) ⟨fun j hj => (f2 444 j (by omega)).trans (a0 j hj), fun j hj => (f2 446 j (by omega)).trans (a1 j hj), fun j hj => ?_, fun j hj => (f2 448 j (by omega)).trans (a4 j hj), fun j hj => (f2 450 j (by omega)).trans (a5 j (by omega))⟩ (fun j hj => absurd hj (by omega))
      have r0 := h2 j 0 (by omega) (by omega)
      have r1 := h2 j 1 (by omega) (by omega)
      obtain ⟨b0, b1⟩ := c2 j hj
      have p1 : ∀ u, M1 (451 + 1 + j) u = M (452 + j) u := fun u => f1 (452 + j) u (by omega) (by omega)
      exact ⟨r0.trans ((p1 0).trans b0), r1.trans ((p1 1).trans b1)⟩
    | succ f ih =>
      intro i hi M1 x1 f1 a0 a1 a4 a5
      have e3 := a0 3 (by decide)
      have r : M1 449 i = c 5 i := (f1 449 i (by omega) (by omega)).trans (c4 i (by omega))
      refine u179_88 hK x1 ⟨fun h => absurd h (by omega), fun _ => ⟨⟨by omega, by omega⟩, ⟨by omega, by omega⟩, ?_⟩⟩
      rw [w1 (by omega), Int.toNat_natCast, r]
      refine ih (i + 1) (by omega) _ (x1.set (no450 _)) (f1.up (by omega)) (fun j hj => (ms_na (by decide)).trans (a0 j hj)) (fun j hj => (ms_na (by decide)).trans (a1 j hj)) (fun j hj => (ms_na (by decide)).trans (a4 j hj)) (fun j hj => ?_)
      by_cases hji : j = i
      · subst hji; rw [ms_eq]
      · rw [ms_nk hji]; exact a5 j (by omega)
  have loop58 : ∀ f i, i + f = nDe c → ∀ M1, FX M1 → FrNew M M1 → (∀ j, j < 6 → M1 444 j = c 0 j) → (∀ j : Nat, (j : Int) < c 0 0 → M1 446 j = c 1 j) → (∀ j, j < i → M1 448 j = c 4 j) → Wp (d + 1) 179 58 [vR 440, vI (i : Int)] [] M1 K Q := by
    intro f
    induction f with
    | zero =>
      intro i hi M1 x1 f1 a0 a1 a4
      have e2 := a0 2 (by decide)
      refine u179_58 hK x1 ⟨fun _ => loop88 (c 0 3).toNat 0 (by omega) M1 x1 f1 a0 a1 (fun j hj => a4 j (by omega)) (fun j hj => absurd hj (by omega)), fun h => absurd h (by omega)⟩
    | succ f ih =>
      intro i hi M1 x1 f1 a0 a1 a4
      have e2 := a0 2 (by decide)
      have r : M1 447 i = c 4 i := (f1 447 i (by omega) (by omega)).trans (c3 i (by omega))
      refine u179_58 hK x1 ⟨fun h => absurd h (by omega), fun _ => ⟨⟨by omega, by omega⟩, ⟨by omega, by omega⟩, ?_⟩⟩
      rw [w1 (by omega), Int.toNat_natCast, r]
      refine ih (i + 1) (by omega) _ (x1.set (no448 _)) (f1.up (by omega)) (fun j hj => (ms_na (by decide)).trans (a0 j hj)) (fun j hj => (ms_na (by decide)).trans (a1 j hj)) (fun j hj => ?_)
      by_cases hji : j = i
      · subst hji; rw [ms_eq]
      · rw [ms_nk hji]; exact a4 j (by omega)
  have loop28 : ∀ f i, i + f = nCe c → ∀ M1, FX M1 → FrNew M M1 → (∀ j, j < 6 → M1 444 j = c 0 j) → (∀ j, j < i → M1 446 j = c 1 j) → Wp (d + 1) 179 28 [vR 440, vI (i : Int)] [] M1 K Q := by
    intro f
    induction f with
    | zero =>
      intro i hi M1 x1 f1 a0 a1
      have e2 := a0 0 (by decide)
      refine u179_28 hK x1 ⟨fun _ => loop58 (nDe c) 0 (by omega) M1 x1 f1 a0 (fun j hj => a1 j (by omega)) (fun j hj => absurd hj (by omega)), fun h => absurd h (by omega)⟩
    | succ f ih =>
      intro i hi M1 x1 f1 a0 a1
      have e2 := a0 0 (by decide)
      have r : M1 445 i = c 1 i := (f1 445 i (by omega) (by omega)).trans (c1 i (by omega))
      refine u179_28 hK x1 ⟨fun h => absurd h (by omega), fun _ => ⟨⟨by omega, by omega⟩, ⟨by omega, by omega⟩, ?_⟩⟩
      rw [w1 (by omega), Int.toNat_natCast, r]
      refine ih (i + 1) (by omega) _ (x1.set (no446 _)) (f1.up (by omega)) (fun j hj => (ms_na (by decide)).trans (a0 j hj)) (fun j hj => ?_)
      by_cases hji : j = i
      · subst hji; rw [ms_eq]
      · rw [ms_nk hji]; exact a1 j (by omega)
  have loop2 : ∀ f i, i + f = 6 → ∀ M1, FX M1 → FrNew M M1 → (∀ j, j < i → M1 444 j = c 0 j) → Wp (d + 1) 179 2 [vR 440, vI (i : Int)] [] M1 K Q := by
    intro f
    induction f with
    | zero =>
      intro i hi M1 x1 f1 a0
      exact u179_2 hK x1 ⟨fun _ => loop28 (nCe c) 0 (by omega) M1 x1 f1 (fun j hj => a0 j (by omega)) (fun j hj => absurd hj (by omega)), fun h => absurd h (by omega)⟩
    | succ f ih =>
      intro i hi M1 x1 f1 a0
      have r : M1 443 i = c 0 i := (f1 443 i (by omega) (by omega)).trans (c0 i (by omega))
      refine u179_2 hK x1 ⟨fun h => absurd h (by omega), fun _ => ⟨⟨by omega, by omega⟩, ⟨by omega, by omega⟩, ?_⟩⟩
      rw [w1 (by omega), Int.toNat_natCast, r]
      refine ih (i + 1) (by omega) _ (x1.set (no444 _)) (f1.up (by omega)) (fun j hj => ?_)
      by_cases hji : j = i
      · subst hji; rw [ms_eq]
      · rw [ms_nk hji]; exact a0 j (by omega)
  exact u179_0 hK hX (loop2 6 0 rfl M hX FrNew.rf (fun j hj => absurd hj (by omega)))
end NW
