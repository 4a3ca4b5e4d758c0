theorem u217_0 {d : Nat} {l1 : Int} {l2 : Int} {M : Mem} {K : KK} {Q : RR → Mem → KK → Prop} (hK : K.1 = 923) (hX : FX M)  (h : (0 ≤ (w32 ((6 : Int) + l1)) ∧ (w32 ((6 : Int) + l1)) < (27 : Int)) ∧ (0 ≤ (w32 ((6 : Int) + l1)) ∧ (w32 ((6 : Int) + l1)) < (27 : Int)) ∧ ∃ c3 : Mem, ∃ s4 : Mem, ∃ dr5 : Int, SM M 888 c3 s4 dr5 ∧ ∃ c7 : Mem, ∃ L8 : LC, ∃ p9 : Nat, (l1 = (p9 : Int) ∧ MCc M c7 ∧ CW c7 ∧ LM M L8 ∧ p9 < nSt c7 ∧ 0 ≤ l2 ∧ l2 + c7 2 p9 ≤ c7 0 0) ∧ (∀ (M13 : Mem), FX M13 → FrV M M13 → Q (.inl (some (vI (min (M 888 (Int.toNat (w32 ((6 : Int) + l1)))) (whB c7 L8 p9 l2 (M 888 (Int.toNat (w32 ((6 : Int) + l1)))) (rainM c3 s4 dr5) (0 : Int) (0 : Int) (M 888 24)))))) M13 K)) : Wp (d + 4) 217 0 [vR 440, vI l1, vI l2] [] M K Q := by
  refine r_aload_n c217_0 rfl ?_
  refine r_getR c217_1 (oK hK o440) (FX.get (b := 888) hX (by decide) (by decide +kernel) (by decide)) (by decide) ?_
  refine r_bipush c217_4 ?_
  refine r_iload_n c217_6 rfl ?_
  refine r_iadd c217_7 ?_
  obtain ⟨s1, h⟩ := h
  refine r_iae c217_8 (oK hK o888) (bd l888 s1) rfl ?_
  refine r_aload_n c217_9 rfl ?_
  refine r_iload_n c217_10 rfl ?_
  refine r_iload_n c217_11 rfl ?_
  refine r_aload_n c217_12 rfl ?_
  refine r_getR c217_13 (oK hK o440) (FX.get (b := 888) hX (by decide) (by decide +kernel) (by decide)) (by decide) ?_
  refine r_bipush c217_16 ?_
  refine r_iload_n c217_18 rfl ?_
  refine r_iadd c217_19 ?_
  obtain ⟨s2, h⟩ := h
  refine r_iae c217_20 (oK hK o888) (bd l888 s2) rfl ?_
  refine r_aload_n c217_21 rfl ?_
  refine r_aload_n c217_22 rfl ?_
  refine r_getR c217_23 (oK hK o440) (FX.get (b := 888) hX (by decide) (by decide +kernel) (by decide)) (by decide) ?_
  obtain ⟨c3, h⟩ := h
  obtain ⟨s4, h⟩ := h
  obtain ⟨dr5, h⟩ := h
  obtain ⟨p6, h⟩ := h
  refine r_call c217_26 rfl rfl (Nat.le_of_ble_eq_true rfl) (okc_r rfl rfl (oK hK o440)) (g193 hK hX o888 l888 p6 (Bk_v ?_))
  refine r_iconst c217_29 ?_
  refine r_iconst c217_30 ?_
  refine r_aload_n c217_31 rfl ?_
  refine r_getR c217_32 (oK hK o440) (FX.get (b := 888) hX (by decide) (by decide +kernel) (by decide)) (by decide) ?_
  refine r_bipush c217_35 ?_
  refine r_iae c217_37 (oK hK o888) (bd l888 (by decide)) rfl ?_
  obtain ⟨c7, h⟩ := h
  obtain ⟨L8, h⟩ := h
  obtain ⟨p9, h⟩ := h
  obtain ⟨p10, h⟩ := h
  refine r_call c217_38 rfl rfl (Nat.le_of_ble_eq_true rfl) (okc_r rfl rfl (oK hK o440)) (g194 hK hX p10 (fun M13 x11 p12 => Bk_v ?_))
  replace h := h M13 x11 p12
  refine r_call c217_41 rfl rfl (Nat.le_of_ble_eq_true rfl) (okc_s rfl rfl rfl) (g154 hK x11  (Bk_v ?_))
  exact r_iret c217_44 (Or.inl rfl) h
theorem u218_0 {d : Nat} {l1 : Int} {l2 : Int} {l3 : Int} {l4 : Int} {M : Mem} {K : KK} {Q : RR → Mem → KK → Prop} (hK : K.1 = 923) (hX : FX M)  (h : (0 ≤ l2 ∧ l2 < (7 : Int)) ∧ ((M 440 45) < (w32 (l4 + (M 913 (Int.toNat l2)))) → (¬ l2 = (M 444 1) → Wp (d + 1) 218 66 [vR 440, vI l1, vI l2, vI l3, vI l4, vI (0 : Int), vU] [] M K Q) ∧ (l2 = (M 444 1) → Wp (d + 1) 218 36 [vR 440, vI l1, vI l2, vI l3, vI l4, vI (0 : Int), vU] [] (mset M 440 45 l4) K Q)) ∧ (¬ ((M 440 45) < (w32 (l4 + (M 913 (Int.toNat l2))))) → Q (.inl none) M K)) : Wp (d + 1) 218 0 [vR 440, vI l1, vI l2, vI l3, vI l4, vU, vU] [] M K Q := by
  refine r_iload c218_0 rfl ?_
  refine r_aload_n c218_2 rfl ?_
  refine r_getR c218_3 (oK hK o440) (FX.get (b := 913) hX (by decide) (by decide +kernel) (by decide)) (by decide) ?_
  refine r_iload_n c218_6 rfl ?_
  obtain ⟨s1, h⟩ := h
  refine r_iae c218_7 (oK hK o913) (bd l913 s1) rfl ?_
  refine r_iadd c218_8 ?_
  refine r_aload_n c218_9 rfl ?_
  refine r_getIe c218_10 (oK hK o440) rfl ?_
  refine r_icmpP (P := (M 440 45) < (w32 (l4 + (M 913 (Int.toNat l2))))) c218_13 rfl (fun hc2 => ?_) (fun hc2 => ?_)
  · replace h := h.1 hc2
    refine r_iload_n c218_17 rfl ?_
    refine r_aload_n c218_18 rfl ?_
    refine r_getR c218_19 (oK hK o440) (FX.get (b := 444) hX (by decide) (by decide +kernel) (by decide)) (by decide) ?_
    refine r_iconst c218_22 ?_
    refine r_iae c218_23 (oK hK o444) (bd l444 (by decide)) rfl ?_
    refine r_icmpP (P := ¬ l2 = (M 444 1)) c218_24 rfl (fun hc3 => ?_) (fun hc3 => ?_)
    · replace h := h.1 hc3
      refine r_iconst c218_63 ?_
      refine r_istore c218_64 (Nat.le_of_ble_eq_true rfl) ?_
      exact h
    · have hc4 := Classical.not_not.mp hc3
      replace h := h.2 hc4
      refine r_aload_n c218_27 rfl ?_
      refine r_iload c218_28 rfl ?_
      refine r_putI c218_30 (oK hK o440) ?_
      have x5 := FX.set (v := l4) (a := 440) (k := 45) hX (by decide +kernel)
      refine r_iconst c218_33 ?_
      refine r_istore c218_34 (Nat.le_of_ble_eq_true rfl) ?_
      exact h
  · replace h := h.2 hc2
    exact r_ret c218_16 h
theorem u218_36 {d : Nat} {l1 : Int} {l2 : Int} {l3 : Int} {l4 : Int} {l5 : Int} {M : Mem} {K : KK} {Q : RR → Mem → KK → Prop} (hK : K.1 = 923) (hX : FX M)  (h : (l2 ≤ l5 → Q (.inl none) M K) ∧ (¬ (l2 ≤ l5) → (0 ≤ l5 ∧ l5 < (6 : Int)) ∧ (0 ≤ l5 ∧ l5 < (6 : Int)) ∧ Wp (d + 1) 218 36 [vR 440, vI l1, vI l2, vI l3, vI l4, vI (w32 (l5 + 1)), vU] [] (mset M 912 (Int.toNat l5) (M 911 (Int.toNat l5))) K Q)) : Wp (d + 1) 218 36 [vR 440, vI l1, vI l2, vI l3, vI l4, vI l5, vU] [] M K Q := by
  refine r_iload c218_36 rfl ?_
  refine r_iload_n c218_38 rfl ?_
  refine r_icmpP (P := l2 ≤ l5) c218_39 rfl (fun hc1 => ?_) (fun hc1 => ?_)
  · replace h := h.1 hc1
    exact r_ret c218_62 h
  · replace h := h.2 hc1
    refine r_aload_n c218_42 rfl ?_
    refine r_getR c218_43 (oK hK o440) (FX.get (b := 912) hX (by decide) (by decide +kernel) (by decide)) (by decide) ?_
    refine r_iload c218_46 rfl ?_
    refine r_aload_n c218_48 rfl ?_
    refine r_getR c218_49 (oK hK o440) (FX.get (b := 911) hX (by decide) (by decide +kernel) (by decide)) (by decide) ?_
    refine r_iload c218_52 rfl ?_
    obtain ⟨s2, h⟩ := h
    refine r_iae c218_54 (oK hK o911) (bd l911 s2) rfl ?_
    obtain ⟨s3, h⟩ := h
    refine r_ias c218_55 (oK hK o912) (bd l912 s3) ?_
    have x4 := FX.set (v := (M 911 (Int.toNat l5))) (a := 912) (k := (Int.toNat l5)) hX (nfa o912 _)
    refine r_iinc c218_56 rfl ?_
    refine r_goto c218_59 ?_
    exact h
theorem u218_66 {d : Nat} {l1 : Int} {l2 : Int} {l3 : Int} {l4 : Int} {l5 : Int} {l6 : PV} {M : Mem} {K : KK} {Q : RR → Mem → KK → Prop} (hK : K.1 = 923) (hX : FX M)  (h : (0 ≤ l2 ∧ l2 < (6 : Int)) ∧ ((M 444 0) < (w32 (l5 + (M (459 + Int.toNat l2) 0))) → (0 ≤ l2 ∧ l2 < (6 : Int)) ∧ Wm d 218 [vR 440, vI l1, vI (w32 (l2 + (1 : Int))), vI l3, vI l4] (mset M 911 (Int.toNat l2) (-1 : Int)) K (Bk d 218 172 175 218 [vR 440, vI l1, vI l2, vI l3, vI l4, vI l5, l6] [] Q)) ∧ (¬ ((M 444 0) < (w32 (l5 + (M (459 + Int.toNat l2) 0)))) → (¬ (jand (jshr l1 l2) 1 = 1) → (0 ≤ l2 ∧ l2 < (6 : Int)) ∧ Wm d 218 [vR 440, vI l1, vI (w32 (l2 + (1 : Int))), vI l3, vI l4] (mset M 911 (Int.toNat l2) (-1 : Int)) K (Bk d 218 172 175 218 [vR 440, vI l1, vI l2, vI l3, vI l4, vI l5, l6] [] Q)) ∧ ((jand (jshr l1 l2) 1 = 1) → (0 ≤ l2 ∧ l2 < (6 : Int)) ∧ ((jand l3 (jshl (w32 ((jshl (1 : Int) (M (459 + Int.toNat l2) 0)) - (1 : Int))) l5)) = (0 : Int) → (0 ≤ l2 ∧ l2 < (6 : Int)) ∧ Wm d 217 [vR 440, vI l2, vI l5] (mset M 911 (Int.toNat l2) l5) K (Bk d 218 144 147 217 [vR 440, vI l1, vI l2, vI l3, vI l4, vI l5, vI (jshl (w32 ((jshl (1 : Int) (M (459 + Int.toNat l2) 0)) - (1 : Int))) l5)] [vI l4, vI (jor l3 (jshl (w32 ((jshl (1 : Int) (M (459 + Int.toNat l2) 0)) - (1 : Int))) l5)), vI (w32 (l2 + (1 : Int))), vI l1, vR 440] Q)) ∧ (¬ ((jand l3 (jshl (w32 ((jshl (1 : Int) (M (459 + Int.toNat l2) 0)) - (1 : Int))) l5)) = (0 : Int)) → Wp (d + 1) 218 151 [vR 440, vI l1, vI l2, vI l3, vI l4, vI l5, vI (jshl (w32 ((jshl (1 : Int) (M (459 + Int.toNat l2) 0)) - (1 : Int))) l5)] [] M K Q)))) : Wp (d + 1) 218 66 [vR 440, vI l1, vI l2, vI l3, vI l4, vI l5, l6] [] M K Q := by
  refine r_iload c218_66 rfl ?_
  refine r_aload_n c218_68 rfl ?_
  refine r_getR c218_69 (oK hK o440) (FX.get (b := 458) hX (by decide) (by decide +kernel) (by decide)) (by decide) ?_
  refine r_iload_n c218_72 rfl ?_
  obtain ⟨s1, h⟩ := h
  refine r_aa c218_73 (mrw o458 hK) (bd l458 s1) (rf458 hX s1) (by omega) ?_
  refine r_iconst c218_74 ?_
  refine r_iae c218_75 (oK hK (ro458 s1)) (bd (rz458 s1) (by decide)) rfl ?_
  refine r_iadd c218_76 ?_
  refine r_aload_n c218_77 rfl ?_
  refine r_getR c218_78 (oK hK o440) (FX.get (b := 444) hX (by decide) (by decide +kernel) (by decide)) (by decide) ?_
  refine r_iconst c218_81 ?_
  refine r_iae c218_82 (oK hK o444) (bd l444 (by decide)) rfl ?_
  refine r_icmpP (P := (M 444 0) < (w32 (l5 + (M (459 + Int.toNat l2) 0)))) c218_83 rfl (fun hc2 => ?_) (fun hc2 => ?_)
  · replace h := h.1 hc2
    refine r_aload_n c218_157 rfl ?_
    refine r_getR c218_158 (oK hK o440) (FX.get (b := 911) hX (by decide) (by decide +kernel) (by decide)) (by decide) ?_
    refine r_iload_n c218_161 rfl ?_
    refine r_iconst c218_162 ?_
    obtain ⟨s3, h⟩ := h
    refine r_ias c218_163 (oK hK o911) (bd l911 s3) ?_
    have x4 := FX.set (v := (-1 : Int)) (a := 911) (k := (Int.toNat l2)) hX (nfa o911 _)
    refine r_aload_n c218_164 rfl ?_
    refine r_iload_n c218_165 rfl ?_
    refine r_iload_n c218_166 rfl ?_
    refine r_iconst c218_167 ?_
    refine r_iadd c218_168 ?_
    refine r_iload_n c218_169 rfl ?_
    refine r_iload c218_170 rfl ?_
    exact r_call c218_172 rfl rfl (Nat.le_of_ble_eq_true rfl) (okc_r rfl rfl (oK hK o440)) h
  · replace h := h.2 hc2
    refine r_iload_n c218_86 rfl ?_
    refine r_iload_n c218_87 rfl ?_
    refine r_call c218_88 rfl rfl (Nat.le_of_ble_eq_true rfl) (okc_s rfl rfl rfl) (g156 hK hX  (Bk_v ?_))
    refine r_ifP (P := ¬ (jand (jshr l1 l2) 1 = 1)) c218_91 bI_eq (fun hc5 => ?_) (fun hc5 => ?_)
    · replace h := h.1 hc5
      refine r_aload_n c218_157 rfl ?_
      refine r_getR c218_158 (oK hK o440) (FX.get (b := 911) hX (by decide) (by decide +kernel) (by decide)) (by decide) ?_
      refine r_iload_n c218_161 rfl ?_
      refine r_iconst c218_162 ?_
      obtain ⟨s7, h⟩ := h
      refine r_ias c218_163 (oK hK o911) (bd l911 s7) ?_
      have x8 := FX.set (v := (-1 : Int)) (a := 911) (k := (Int.toNat l2)) hX (nfa o911 _)
      refine r_aload_n c218_164 rfl ?_
      refine r_iload_n c218_165 rfl ?_
      refine r_iload_n c218_166 rfl ?_
      refine r_iconst c218_167 ?_
      refine r_iadd c218_168 ?_
      refine r_iload_n c218_169 rfl ?_
      refine r_iload c218_170 rfl ?_
      exact r_call c218_172 rfl rfl (Nat.le_of_ble_eq_true rfl) (okc_r rfl rfl (oK hK o440)) h
    · have hc6 := Classical.not_not.mp hc5
      replace h := h.2 hc6
      refine r_iconst c218_94 ?_
      refine r_aload_n c218_95 rfl ?_
      refine r_getR c218_96 (oK hK o440) (FX.get (b := 458) hX (by decide) (by decide +kernel) (by decide)) (by decide) ?_
      refine r_iload_n c218_99 rfl ?_
      obtain ⟨s9, h⟩ := h
      refine r_aa c218_100 (mrw o458 hK) (bd l458 s9) (rf458 hX s9) (by omega) ?_
      refine r_iconst c218_101 ?_
      refine r_iae c218_102 (oK hK (ro458 s9)) (bd (rz458 s9) (by decide)) rfl ?_
      refine r_ishl c218_103 ?_
      refine r_iconst c218_104 ?_
      refine r_isub c218_105 ?_
      refine r_iload c218_106 rfl ?_
      refine r_ishl c218_108 ?_
      refine r_istore c218_109 (Nat.le_of_ble_eq_true rfl) ?_
      refine r_iload_n c218_111 rfl ?_
      refine r_iload c218_112 rfl ?_
      refine r_iand c218_114 ?_
      refine r_ifP (P := (jand l3 (jshl (w32 ((jshl (1 : Int) (M (459 + Int.toNat l2) 0)) - (1 : Int))) l5)) = (0 : Int)) c218_115 rfl (fun hc10 => ?_) (fun hc10 => ?_)
      · replace h := h.1 hc10
        refine r_aload_n c218_121 rfl ?_
        refine r_getR c218_122 (oK hK o440) (FX.get (b := 911) hX (by decide) (by decide +kernel) (by decide)) (by decide) ?_
        refine r_iload_n c218_125 rfl ?_
        refine r_iload c218_126 rfl ?_
        obtain ⟨s11, h⟩ := h
        refine r_ias c218_128 (oK hK o911) (bd l911 s11) ?_
        have x12 := FX.set (v := l5) (a := 911) (k := (Int.toNat l2)) hX (nfa o911 _)
        refine r_aload_n c218_129 rfl ?_
        refine r_iload_n c218_130 rfl ?_
        refine r_iload_n c218_131 rfl ?_
        refine r_iconst c218_132 ?_
        refine r_iadd c218_133 ?_
        refine r_iload_n c218_134 rfl ?_
        refine r_iload c218_135 rfl ?_
        refine r_ior c218_137 ?_
        refine r_iload c218_138 rfl ?_
        refine r_aload_n c218_140 rfl ?_
        refine r_iload_n c218_141 rfl ?_
        refine r_iload c218_142 rfl ?_
        exact r_call c218_144 rfl rfl (Nat.le_of_ble_eq_true rfl) (okc_r rfl rfl (oK hK o440)) h
      · replace h := h.2 hc10
        refine r_goto c218_118 ?_
        exact h
theorem u218_147 {d : Nat} {l1 : Int} {l2 : Int} {l3 : Int} {l4 : Int} {l5 : Int} {l6 : Int} {t1 : Int} {t2 : Int} {t3 : Int} {t4 : Int} {t5 : Int} {M : Mem} {K : KK} {Q : RR → Mem → KK → Prop} (hK : K.1 = 923) (hX : FX M)  (h : Wm d 218 [vR 440, vI t1, vI t2, vI t3, vI (w32 (t4 + t5))] M K (Bk d 218 148 151 218 [vR 440, vI l1, vI l2, vI l3, vI l4, vI l5, vI l6] [] Q)) : Wp (d + 1) 218 147 [vR 440, vI l1, vI l2, vI l3, vI l4, vI l5, vI l6] [vI t5, vI t4, vI t3, vI t2, vI t1, vR 440] M K Q := by
  refine r_iadd c218_147 ?_
  exact r_call c218_148 rfl rfl (Nat.le_of_ble_eq_true rfl) (okc_r rfl rfl (oK hK o440)) h
theorem u218_151 {d : Nat} {l1 : Int} {l2 : Int} {l3 : Int} {l4 : Int} {l5 : Int} {l6 : Int} {M : Mem} {K : KK} {Q : RR → Mem → KK → Prop} (hK : K.1 = 923) (hX : FX M)  (h : Wp (d + 1) 218 66 [vR 440, vI l1, vI l2, vI l3, vI l4, vI (w32 (l5 + 1)), vI l6] [] M K Q) : Wp (d + 1) 218 151 [vR 440, vI l1, vI l2, vI l3, vI l4, vI l5, vI l6] [] M K Q := by
  refine r_iinc c218_151 rfl ?_
  refine r_goto c218_154 ?_
  exact h
theorem u218_175 {d : Nat} {l1 : Int} {l2 : Int} {l3 : Int} {l4 : Int} {l5 : Int} {l6 : PV} {M : Mem} {K : KK} {Q : RR → Mem → KK → Prop} (hK : K.1 = 923) (hX : FX M)  (h : Q (.inl none) M K) : Wp (d + 1) 218 175 [vR 440, vI l1, vI l2, vI l3, vI l4, vI l5, l6] [] M K Q := by
  exact r_ret c218_175 h
theorem u219_0 {d : Nat} {l1 : Int} {M : Mem} {K : KK} {Q : RR → Mem → KK → Prop} (hK : K.1 = 923) (hX : FX M)  (h : (0 ≤ (M 444 1) ∧ (M 444 1) < (7 : Int)) ∧ Wp (d + 1) 219 26 [vR 440, vI l1, vI (w32 ((M 444 1) - (1 : Int))), vU, vU] [] (mset (mset M 440 45 (-1 : Int)) 913 (Int.toNat (M 444 1)) (0 : Int)) K Q) : Wp (d + 1) 219 0 [vR 440, vI l1, vU, vU, vU] [] M K Q := by
  refine r_aload_n c219_0 rfl ?_
  refine r_iconst c219_1 ?_
  refine r_putI c219_2 (oK hK o440) ?_
  have x1 := FX.set (v := (-1 : Int)) (a := 440) (k := 45) hX (by decide +kernel)
  refine r_aload_n c219_5 rfl ?_
  refine r_getR c219_6 (oK hK o440) (FX.get (b := 913) x1 (by decide) (by decide +kernel) (by decide)) (by decide) ?_
  refine r_aload_n c219_9 rfl ?_
  refine r_getR c219_10 (oK hK o440) (FX.get (b := 444) x1 (by decide) (by decide +kernel) (by decide)) (by decide) ?_
  refine r_iconst c219_13 ?_
  refine r_iae c219_14 (oK hK o444) (bd l444 (by decide)) (ms_na (by decide)) ?_
  refine r_iconst c219_15 ?_
  obtain ⟨s2, h⟩ := h
  refine r_ias c219_16 (oK hK o913) (bd l913 s2) ?_
  have x3 := FX.set (v := (0 : Int)) (a := 913) (k := (Int.toNat (M 444 1))) x1 (nfa o913 _)
  refine r_aload_n c219_17 rfl ?_
  refine r_getR c219_18 (oK hK o440) (FX.get (b := 444) x3 (by decide) (by decide +kernel) (by decide)) (by decide) ?_
  refine r_iconst c219_21 ?_
  refine r_iae c219_22 (oK hK o444) (bd l444 (by decide)) (Eq.trans (ms_na (by decide)) (ms_na (by decide))) ?_
  refine r_iconst c219_23 ?_
  refine r_isub c219_24 ?_
  refine r_istore_n c219_25 (Nat.le_of_ble_eq_true rfl) ?_
  exact h
theorem u219_26 {d : Nat} {l1 : Int} {l2 : Int} {l3 : PV} {l4 : PV} {M : Mem} {K : KK} {Q : RR → Mem → KK → Prop} (hK : K.1 = 923) (hX : FX M)  (h : (l2 < (0 : Int) → Wm d 218 [vR 440, vI l1, vI (0 : Int), vI (0 : Int), vI (0 : Int)] M K (Bk d 219 108 111 218 [vR 440, vI l1, vI l2, l3, l4] [] Q)) ∧ (¬ (l2 < (0 : Int)) → Wp (d + 1) 219 35 [vR 440, vI l1, vI l2, vI (0 : Int), vI (0 : Int)] [] M K Q)) : Wp (d + 1) 219 26 [vR 440, vI l1, vI l2, l3, l4] [] M K Q := by
  refine r_iload_n c219_26 rfl ?_
  refine r_ifP (P := l2 < (0 : Int)) c219_27 rfl (fun hc1 => ?_) (fun hc1 => ?_)
  · replace h := h.1 hc1
    refine r_aload_n c219_103 rfl ?_
    refine r_iload_n c219_104 rfl ?_
    refine r_iconst c219_105 ?_
    refine r_iconst c219_106 ?_
    refine r_iconst c219_107 ?_
    exact r_call c219_108 rfl rfl (Nat.le_of_ble_eq_true rfl) (okc_r rfl rfl (oK hK o440)) h
  · replace h := h.2 hc1
    refine r_iconst c219_30 ?_
    refine r_istore_n c219_31 (Nat.le_of_ble_eq_true rfl) ?_
    refine r_iconst c219_32 ?_
    refine r_istore c219_33 (Nat.le_of_ble_eq_true rfl) ?_
    exact h
theorem u219_35 {d : Nat} {l1 : Int} {l2 : Int} {l3 : Int} {l4 : Int} {M : Mem} {K : KK} {Q : RR → Mem → KK → Prop} (hK : K.1 = 923) (hX : FX M)  (h : (0 ≤ l2 ∧ l2 < (6 : Int)) ∧ ((M 444 0) < (w32 (l4 + (M (459 + Int.toNat l2) 0))) → (0 ≤ (w32 (l2 + (1 : Int))) ∧ (w32 (l2 + (1 : Int))) < (7 : Int)) ∧ (0 ≤ l2 ∧ l2 < (7 : Int)) ∧ Wp (d + 1) 219 26 [vR 440, vI l1, vI (w32 (l2 + (-1))), vI l3, vI l4] [] (mset M 913 (Int.toNat l2) (w32 ((M 913 (Int.toNat (w32 (l2 + (1 : Int))))) + l3))) K Q) ∧ (¬ ((M 444 0) < (w32 (l4 + (M (459 + Int.toNat l2) 0)))) → (¬ (jand (jshr l1 l2) 1 = 1) → (0 ≤ (w32 (l2 + (1 : Int))) ∧ (w32 (l2 + (1 : Int))) < (7 : Int)) ∧ (0 ≤ l2 ∧ l2 < (7 : Int)) ∧ Wp (d + 1) 219 26 [vR 440, vI l1, vI (w32 (l2 + (-1))), vI l3, vI l4] [] (mset M 913 (Int.toNat l2) (w32 ((M 913 (Int.toNat (w32 (l2 + (1 : Int))))) + l3))) K Q) ∧ ((jand (jshr l1 l2) 1 = 1) → Wm d 217 [vR 440, vI l2, vI l4] M K (Bk d 219 68 71 217 [vR 440, vI l1, vI l2, vI l3, vI l4] [vI l3] Q)))) : Wp (d + 1) 219 35 [vR 440, vI l1, vI l2, vI l3, vI l4] [] M K Q := by
  refine r_iload c219_35 rfl ?_
  refine r_aload_n c219_37 rfl ?_
  refine r_getR c219_38 (oK hK o440) (FX.get (b := 458) hX (by decide) (by decide +kernel) (by decide)) (by decide) ?_
  refine r_iload_n c219_41 rfl ?_
  obtain ⟨s1, h⟩ := h
  refine r_aa c219_42 (mrw o458 hK) (bd l458 s1) (rf458 hX s1) (by omega) ?_
  refine r_iconst c219_43 ?_
  refine r_iae c219_44 (oK hK (ro458 s1)) (bd (rz458 s1) (by decide)) rfl ?_
  refine r_iadd c219_45 ?_
  refine r_aload_n c219_46 rfl ?_
  refine r_getR c219_47 (oK hK o440) (FX.get (b := 444) hX (by decide) (by decide +kernel) (by decide)) (by decide) ?_
  refine r_iconst c219_50 ?_
  refine r_iae c219_51 (oK hK o444) (bd l444 (by decide)) rfl ?_
  refine r_icmpP (P := (M 444 0) < (w32 (l4 + (M (459 + Int.toNat l2) 0)))) c219_52 rfl (fun hc2 => ?_) (fun hc2 => ?_)
  · replace h := h.1 hc2
    refine r_aload_n c219_81 rfl ?_
    refine r_getR c219_82 (oK hK o440) (FX.get (b := 913) hX (by decide) (by decide +kernel) (by decide)) (by decide) ?_
    refine r_iload_n c219_85 rfl ?_
    refine r_aload_n c219_86 rfl ?_
    refine r_getR c219_87 (oK hK o440) (FX.get (b := 913) hX (by decide) (by decide +kernel) (by decide)) (by decide) ?_
    refine r_iload_n c219_90 rfl ?_
    refine r_iconst c219_91 ?_
    refine r_iadd c219_92 ?_
    obtain ⟨s3, h⟩ := h
    refine r_iae c219_93 (oK hK o913) (bd l913 s3) rfl ?_
    refine r_iload_n c219_94 rfl ?_
    refine r_iadd c219_95 ?_
    obtain ⟨s4, h⟩ := h
    refine r_ias c219_96 (oK hK o913) (bd l913 s4) ?_
    have x5 := FX.set (v := (w32 ((M 913 (Int.toNat (w32 (l2 + (1 : Int))))) + l3))) (a := 913) (k := (Int.toNat l2)) hX (nfa o913 _)
    refine r_iinc c219_97 rfl ?_
    refine r_goto c219_100 ?_
    exact h
  · replace h := h.2 hc2
    refine r_iload_n c219_55 rfl ?_
    refine r_iload_n c219_56 rfl ?_
    refine r_call c219_57 rfl rfl (Nat.le_of_ble_eq_true rfl) (okc_s rfl rfl rfl) (g156 hK hX  (Bk_v ?_))
    refine r_ifP (P := ¬ (jand (jshr l1 l2) 1 = 1)) c219_60 bI_eq (fun hc6 => ?_) (fun hc6 => ?_)
    · replace h := h.1 hc6
      refine r_aload_n c219_81 rfl ?_
      refine r_getR c219_82 (oK hK o440) (FX.get (b := 913) hX (by decide) (by decide +kernel) (by decide)) (by decide) ?_
      refine r_iload_n c219_85 rfl ?_
      refine r_aload_n c219_86 rfl ?_
      refine r_getR c219_87 (oK hK o440) (FX.get (b := 913) hX (by decide) (by decide +kernel) (by decide)) (by decide) ?_
      refine r_iload_n c219_90 rfl ?_
      refine r_iconst c219_91 ?_
      refine r_iadd c219_92 ?_
      obtain ⟨s8, h⟩ := h
      refine r_iae c219_93 (oK hK o913) (bd l913 s8) rfl ?_
      refine r_iload_n c219_94 rfl ?_
      refine r_iadd c219_95 ?_
      obtain ⟨s9, h⟩ := h
      refine r_ias c219_96 (oK hK o913) (bd l913 s9) ?_
      have x10 := FX.set (v := (w32 ((M 913 (Int.toNat (w32 (l2 + (1 : Int))))) + l3))) (a := 913) (k := (Int.toNat l2)) hX (nfa o913 _)
      refine r_iinc c219_97 rfl ?_
      refine r_goto c219_100 ?_
      exact h
    · have hc7 := Classical.not_not.mp hc6
      replace h := h.2 hc7
      refine r_iload_n c219_63 rfl ?_
      refine r_aload_n c219_64 rfl ?_
      refine r_iload_n c219_65 rfl ?_
      refine r_iload c219_66 rfl ?_
      exact r_call c219_68 rfl rfl (Nat.le_of_ble_eq_true rfl) (okc_r rfl rfl (oK hK o440)) h
theorem u219_71 {d : Nat} {l1 : Int} {l2 : Int} {l3 : Int} {l4 : Int} {t0 : Int} {t1 : Int} {M : Mem} {K : KK} {Q : RR → Mem → KK → Prop} (hK : K.1 = 923) (hX : FX M)  (h : Wp (d + 1) 219 35 [vR 440, vI l1, vI l2, vI (max t0 t1), vI (w32 (l4 + 1))] [] M K Q) : Wp (d + 1) 219 71 [vR 440, vI l1, vI l2, vI l3, vI l4] [vI t1, vI t0] M K Q := by
  refine r_call c219_71 rfl rfl (Nat.le_of_ble_eq_true rfl) (okc_s rfl rfl rfl) (g155 hK hX  (Bk_v ?_))
  refine r_istore_n c219_74 (Nat.le_of_ble_eq_true rfl) ?_
  refine r_iinc c219_75 rfl ?_
  refine r_goto c219_78 ?_
  exact h
theorem u219_111 {d : Nat} {l1 : Int} {l2 : Int} {l3 : PV} {l4 : PV} {M : Mem} {K : KK} {Q : RR → Mem → KK → Prop} (hK : K.1 = 923) (hX : FX M)  (h : Q (.inl none) M K) : Wp (d + 1) 219 111 [vR 440, vI l1, vI l2, l3, l4] [] M K Q := by
  exact r_ret c219_111 h
/-! strips laid so that most is gone: the model -/
/-- the most that a strip can bring, cells below k -/
def pkM (c s : Mem) (L : LC) (T p : Nat) : Nat → Int
  | 0 => 0
  | x + 1 => if T.testBit p = true ∧ x + yN c p ≤ nCe c then max (pkM c s L T p x) (pkE c s L p x) else pkM c s L T p x
def rsT (c s : Mem) (L : LC) (T : Nat) : Nat → Int
  | 0 => 0
  | j + 1 => rsT c s L T j + pkM c s L T (nSt c - (j + 1)) 13
def rsP (c s : Mem) (L : LC) (T p : Nat) : Int := rsT c s L T (nSt c - p)
section MP
variable {c s : Mem} {L : LC} {T p S : Nat}
theorem pkM_rg (hs : LW c s) (hp : p < nSt c) : ∀ k, 0 ≤ pkM c s L T p k ∧ pkM c s L T p k ≤ 99 := by
  intro k
  induction k with
  | zero => exact ⟨Int.le_refl _, by show (0 : Int) ≤ _; omega⟩
  | succ k ih => have := pkE_rg (L := L) hs hp k; simp only [pkM]; split <;> omega
theorem pkM_ge (hs : LW c s) (hp : p < nSt c) {x : Nat} (hT : T.testBit p = true) (hx : x + yN c p ≤ nCe c) : ∀ k, x < k → pkE c s L p x ≤ pkM c s L T p k := by
  intro k
  induction k with
  | zero => intro h; omega
  | succ k ih =>
    intro h
    simp only [pkM]
    by_cases hxk : x = k
    · subst hxk; rw [if_pos ⟨hT, hx⟩]; omega
    · have := ih (by omega)
      split <;> omega
theorem pkM_stop {k : Nat} (hk : nCe c + 1 - yN c p ≤ k ∨ T.testBit p = false) : ∀ j, pkM c s L T p (k + j) = pkM c s L T p k := by
  intro j
  induction j with
  | zero => rfl
  | succ j ih =>
    show pkM c s L T p ((k + j) + 1) = _
    simp only [pkM]
    rw [if_neg (fun h => ?_)]; exact ih
    rcases hk with hk | hk
    · have := h.2; omega
    · rw [hk] at h; exact absurd h.1 (by decide)
theorem rsT_rg (hs : LW c s) : ∀ j, j ≤ nSt c → 0 ≤ rsT c s L T j ∧ rsT c s L T j ≤ 99 * (j : Int) := by
  intro j
  induction j with
  | zero => intro _; simp only [rsT]; omega
  | succ j ih => intro h; have := ih (by omega); have := pkM_rg (L := L) (T := T) (p := nSt c - (j + 1)) hs (by omega) 13; simp only [rsT]; omega
theorem rsP_s (h : p < nSt c) : rsP c s L T p = rsP c s L T (p + 1) + pkM c s L T p 13 := by
  unfold rsP
  rw [show nSt c - p = (nSt c - (p + 1)) + 1 by omega]
  show rsT c s L T (nSt c - (p + 1)) + pkM c s L T (nSt c - ((nSt c - (p + 1)) + 1)) 13 = _
  rw [show nSt c - ((nSt c - (p + 1)) + 1) = p by omega]
theorem rsP_N : rsP c s L T (nSt c) = 0 := by unfold rsP; rw [Nat.sub_self]; rfl
theorem rsP_rg (hs : LW c s) (hN : nSt c ≤ 6) : 0 ≤ rsP c s L T p ∧ rsP c s L T p ≤ 594 := by
  have := rsT_rg (L := L) (T := T) hs (nSt c - p) (by omega); unfold rsP; omega
theorem pkT_rs (hs : LW c s) (hw : CW c) : ∀ j S, j ≤ nSt c → pkT c s L T j S ≤ rsT c s L T j := by
  intro j
  induction j with
  | zero => intro S _; exact Int.le_refl _
  | succ j ih =>
    intro S hj
    have h0 := rsT_rg (L := L) (T := T) hs j (by omega)
    have hp : nSt c - (j + 1) < nSt c := by omega
    have hm := pkM_rg (L := L) (T := T) hs hp 13
    have h2 := fd_mx (g := pkg c s L T (nSt c - (j + 1)) S (pkT c s L T j)) (B := pkM c s L T (nSt c - (j + 1)) 13 + rsT c s L T j) (fun x => by
      have hrg := pkg_rg (L := L) (T := T) (S := S) hs hp (V := pkT c s L T j) (B := 99 * (j : Int)) (fun S => pkT_rg hs j S (by omega)) (by omega) x
      refine ⟨hrg.1, ?_⟩
      unfold pkg
      split
      · rename_i h
        have a := pkM_ge (L := L) hs hp h.1 h.2.1 13 (by have := hw.n.2.1.2; have := h.2.1; omega)
        have b := ih (S ||| rowB x (yN c (nSt c - (j + 1)))) (by omega)
        omega
      · omega) (by omega) 13
    have h1 := ih S (by omega)
    simp only [pkT, rsT]; omega
theorem pkV_rs (hs : LW c s) (hw : CW c) : pkV c s L T p S ≤ rsP c s L T p := pkT_rs hs hw _ _ (by omega)
end MP
section MQ
variable {d : Nat} {M M' : Mem} {K : KK} {Q : RR → Mem → KK → Prop} {c s : Mem} {L : LC} {T : Nat}
theorem pm_o : (isO 923 911 20 = true ∧ ln 911 = 6) ∧ (isO 923 912 20 = true ∧ ln 912 = 6) ∧ (isO 923 913 20 = true ∧ ln 913 = 7) := by decide +kernel
theorem nf440_45 : fxT 440 45 = 0 := by decide +kernel
theorem g217 {p x : Nat} (hK : K.1 = 923) (hX : FX M) (h : GM M c L s) (hp : p < nSt c) (hx : x + yN c p ≤ nCe c) (kk : ∀ M', FX M' → FrV M M' → Q (.inl (some (vI (pkE c s L p x)))) M' K) : Wm (d + 4) 217 [vR 440, vI (p : Int), vI (x : Int)] M K Q := by
  obtain ⟨hS, hL⟩ := h
  have hS' := hS
  obtain ⟨hc, hw, hl, hlw, hd⟩ := hS
  have hp6 : p < 6 := by have := hw.n.1.2; omega
  obtain ⟨e0, e1, e2, e3⟩ := hl.1 p hp
  have hc2 : c 2 p = (yN c p : Int) := by have := hw.y hp; unfold yN; omega
  refine u217_0 hK hX ?_
  rw [ix6 hp6, e1, hl.2.1]
  refine ⟨bx6 hp6, bx6 hp6, c, s, -1, hS', c, L, p, ⟨rfl, hc, hw, hL, hp, by omega, by have := hw.n.2.1.1; omega⟩, fun M1 x1 f1 => ?_⟩
  have := kk M1 x1 f1
  unfold pkE whD at this
  unfold rainM; rw [if_pos rfl]; exact this
/-- what the search may change, from strip p on -/
def FrBb (p : Nat) (M M' : Mem) : Prop := ∀ a k, a ≠ 805 → a ≠ 806 → a ≠ 912 → ¬ (a = 911 ∧ p ≤ k) → ¬ (a = 440 ∧ k = 45) → M' a k = M a k
theorem FrBb.q {p : Nat} (h : FrBb p M M') : FrQm M M' := fun a k hs => h a k (by unfold scM at hs; omega) (by unfold scM at hs; omega) (by unfold scM at hs; omega) (by unfold scM at hs; omega) (by unfold scM at hs; omega)
theorem FrBb.tr {p : Nat} {M1 M2 : Mem} (h1 : FrBb p M M1) (h2 : FrBb p M1 M2) : FrBb p M M2 := fun a k q1 q2 q3 q4 q5 => (h2 a k q1 q2 q3 q4 q5).trans (h1 a k q1 q2 q3 q4 q5)
theorem FrBb.rf {p : Nat} : FrBb p M M := fun _ _ _ _ _ _ _ => rfl
theorem FrBb.lo {p : Nat} (h : FrBb (p + 1) M M') : FrBb p M M' := fun a k q1 q2 q3 q4 q5 => h a k q1 q2 q3 (by omega) q5
theorem FrV.b {p : Nat} (h : FrV M M') : FrBb p M M' := fun a k q1 q2 _ _ _ => h a k q1 q2
theorem FrBb.laid {p : Nat} {v : Int} : FrBb p M (mset M 911 p v) := fun a k _ _ _ q4 _ => by
  unfold mset; rw [if_neg (fun h => q4 (by omega))]
/-- how the search from (p, S) ends: the best, b: the laying -/
def BEnd (c s : Mem) (L : LC) (T : Nat) (M M' : Mem) (p S : Nat) (sum : Int) : Prop := (M 440 45 < sum + pkV c s L T p S → M' 440 45 = sum + pkV c s L T p S ∧ (∀ i, i < p → M' 912 i = M 911 i) ∧ ∀ i, p ≤ i → i < nSt c → M' 912 i = pkX c s L T i (pkF c s L T p S (i - p))) ∧ (¬ M 440 45 < sum + pkV c s L T p S → M' 440 45 = M 440 45 ∧ ∀ i, i < nSt c → M' 912 i = M 912 i)
/-- within a strip, cells below x done -/
def BMid (c s : Mem) (L : LC) (T : Nat) (M M' : Mem) (p S : Nat) (sum : Int) (C : Int × Nat) : Prop := ((C.1 ≠ -1 ∧ M 440 45 < sum + C.1) → M' 440 45 = sum + C.1 ∧ (∀ i, i < p → M' 912 i = M 911 i) ∧ M' 912 p = (C.2 : Int) ∧ ∀ i, p < i → i < nSt c → M' 912 i = pkX c s L T i (pkF c s L T (p + 1) (S ||| rowB C.2 (yN c p)) (i - (p + 1)))) ∧ (¬ (C.1 ≠ -1 ∧ M 440 45 < sum + C.1) → M' 440 45 = M 440 45 ∧ ∀ i, i < nSt c → M' 912 i = M 912 i)
theorem g218 (hTl : T < 64) : ∀ (j p : Nat), p + j = nSt c → ∀ (d : Nat) (M : Mem) (K : KK) (Q : RR → Mem → KK → Prop) (S : Nat) (sum : Int), j + 5 ≤ d → K.1 = 923 → FX M → GM M c L s → (∀ i, p ≤ i → i ≤ nSt c → M 913 i = rsP c s L T i) → (-1 ≤ M 440 45 ∧ M 440 45 ≤ 2000) → S < 2 ^ nCe c → (0 ≤ sum ∧ sum ≤ 99 * (p : Int)) → (∀ M', FX M' → FrBb p M M' → BEnd c s L T M M' p S sum → Q (.inl none) M' K) → Wm d 218 [vR 440, vI (T : Int), vI (p : Int), vI (S : Int), vI sum] M K Q := by
  intro j
  induction j with
  | zero =>
    intro p hpj d M K Q S sum hd hK hX hG hR hm hS hsum k
    obtain ⟨d, rfl⟩ : ∃ e, d = e + 5 := ⟨d - 5, by omega⟩
    have hpN : p = nSt c := by omega
    subst hpN
    have hN := hG.1.2.1.n.1.2
    have e12 := hR (nSt c) (Nat.le_refl _) (Nat.le_refl _)
    rw [rsP_N] at e12
    refine u218_0 hK hX ⟨by omega, fun h => ⟨fun h2 => absurd hG.n.symm h2, fun _ => ?_⟩, fun h => ?_⟩
    · rw [Int.toNat_natCast, e12, Int.add_zero, w32_id (by omega)] at h
      have loop : ∀ f i, i + f = nSt c → ∀ M1, FX M1 → (∀ a k, a ≠ 912 → M1 a k = mset M 440 45 sum a k) → (∀ q, q < i → M1 912 q = M 911 q) → Wp (d + 5) 218 36 [vR 440, vI (T : Int), vI (nSt c : Int), vI (S : Int), vI sum, vI (i : Int), vU] [] M1 K Q := by
        intro f
        induction f with
        | zero =>
          intro i hi M1 x1 f1 w1'
          refine u218_36 hK x1 ⟨fun _ => ?_, fun h9 => absurd (by omega) h9⟩
          refine k M1 x1 (fun a q _ _ h3 _ h5 => (f1 a q h3).trans (by unfold mset; rw [if_neg h5])) ⟨fun h9 => ⟨?_, fun i hi => w1' i (by omega), fun i h7 h8 => absurd h7 (by omega)⟩, fun h9 => absurd ?_ h9⟩
          · rw [pkV_N, f1 _ _ (by decide), ms_eq]; omega
          · rw [pkV_N]; omega
        | succ f ih =>
          intro i hi M1 x1 f1 w1'
          refine u218_36 hK x1 ⟨fun h9 => absurd h9 (by omega), fun _ => ⟨by omega, by omega, ?_⟩⟩
          rw [Int.toNat_natCast, w1 (by omega)]
          refine ih (i + 1) (by omega) _ (x1.set (nfa pm_o.2.1.1 _)) (fun a q h => (ms_na h).trans (f1 a q h)) (fun q hq => ?_)
          by_cases hqi : q = i
          · subst hqi; rw [ms_eq, f1 _ _ (by decide), ms_na (by decide)]
          · rw [ms_nk hqi]; exact w1' q (by omega)
      exact loop (nSt c) 0 (Nat.zero_add _) _ (hX.set nf440_45) (fun _ _ _ => rfl) (fun q hq => absurd hq (by omega))
    · rw [Int.toNat_natCast, e12, Int.add_zero, w32_id (by omega)] at h
      refine k M hX FrBb.rf ⟨fun h9 => absurd ?_ h, fun _ => ⟨rfl, fun _ _ => rfl⟩⟩
      rw [pkV_N] at h9; omega
  | succ j ih =>
    intro p hpj d M K Q S sum hd hK hX hG hR hm hS hsum k
    obtain ⟨d, rfl⟩ : ∃ e, d = e + 6 := ⟨d - 6, by omega⟩
    have hw := hG.1.2.1
    have hlw := hG.1.2.2.2.1
    have hN := hw.n.1.2
    have hC := hw.n.2.1.2
    have hp : p < nSt c := by omega
    have hy := hw.y hp
    have hy2 : c 2 p = (yN c p : Int) := by unfold yN; omega
    have hS2 : S < 4096 := Nat.lt_of_lt_of_le hS (p12 hC)
    have e12 := hR p (Nat.le_refl _) (by omega)
    have rr := rsP_rg (L := L) (T := T) (p := p) hlw hN
    have vv := pkV_rs (L := L) (T := T) (p := p) (S := S) hlw hw
    have vs := pkV_s (s := s) (L := L) (T := T) (S := S) hp
    have v1 := pkV_rg (L := L) (T := T) (p := p + 1) (S := S) hlw hN
    refine u218_0 hK hX ⟨by omega, fun h => ⟨fun _ => ?_, fun h2 => absurd h2 (by rw [hG.n]; omega)⟩, fun h => ?_⟩
    · -- the cells one by one
      have facts : ∀ M1, FrBb p M M1 → M1 444 0 = (nCe c : Int) ∧ M1 (459 + p) 0 = (yN c p : Int) := by
        intro M1 f1
        have g1 := hG.q f1.q
        refine ⟨g1.cen.1, ?_⟩
        have := (g1.1.1.2.2.1 p (by have := hw.n.1.1; omega)).1
        rw [this, hy2]
      have hrow : ∀ M1, FrBb p M M1 → ∀ i, p + 1 ≤ i → i ≤ nSt c → M1 913 i = rsP c s L T i := fun M1 f1 i h1 h2 => (f1 _ _ (by decide) (by decide) (by decide) (by omega) (by omega)).trans (hR i (by omega) h2)
      have fin : ∀ M1 x, FX M1 → FrBb p M M1 → BMid c s L T M M1 p S sum (pkC c s L T p S x) → pkC c s L T p S 13 = pkC c s L T p S x → (-1 ≤ M1 440 45 ∧ M1 440 45 ≤ 2000) → ∀ (xi : Int) (v : PV), Wm (d + 5) 218 [vR 440, vI (T : Int), vI (w32 ((p : Int) + 1)), vI (S : Int), vI sum] (mset M1 911 (Int.toNat (p : Int)) (-1)) K (Bk (d + 5) 218 172 175 218 [vR 440, vI (T : Int), vI (p : Int), vI (S : Int), vI sum, vI xi, v] [] Q) := by
        intro M1 x x1 f1 hB hst hm1 xi v
        rw [w1 (by omega), Int.toNat_natCast]
        have f2 : FrBb p M (mset M1 911 p (-1)) := f1.tr FrBb.laid
        rw [← hst] at hB
        have eM : mset M1 911 p (-1) 440 45 = M1 440 45 := ms_na (by decide)
        refine ih (p + 1) (by omega) (d + 5) _ K _ S sum (by omega) hK (x1.set (nfa pm_o.1.1 _)) (hG.q f2.q) (hrow _ f2) (by rw [eM]; exact hm1) hS ⟨hsum.1, by omega⟩ (fun M3 x3 f3 hE => Bk_n (u218_175 hK x3 ?_))
        obtain ⟨E1, E2⟩ := hE
        rw [eM] at E1 E2
        obtain ⟨B1, B2⟩ := hB
        refine k M3 x3 (f2.tr f3.lo) ⟨fun hlt => ?_, fun hge => ?_⟩
        · by_cases hc1 : (pkC c s L T p S 13).1 ≠ -1 ∧ M 440 45 < sum + (pkC c s L T p S 13).1
          · obtain ⟨b1, b2, b3, b4⟩ := B1 hc1
            by_cases hlt2 : (pkC c s L T p S 13).1 < pkV c s L T (p + 1) S
            · obtain ⟨a1, a2, a3⟩ := E1 (by rw [b1]; omega)
              have hoff : ¬ pkOn c s L T p S := fun h9 => by have := h9.2; omega
              have eX : pkX c s L T p S = -1 := by unfold pkX; rw [if_neg hoff]
              have eS : pkS c s L T p S = S := by unfold pkS; rw [if_neg hoff]
              refine ⟨by rw [a1]; omega, fun i hi => ?_, fun i h1 h2 => ?_⟩
              · rw [a2 i (by omega), ms_nk (by omega)]; exact f1 _ _ (by decide) (by decide) (by decide) (by omega) (by omega)
              · by_cases hip : i = p
                · subst hip
                  rw [a2 i (by omega), ms_eq, Nat.sub_self]; exact eX.symm
                · rw [a3 i (by omega) h2, show i - p = (i - (p + 1)) + 1 by omega, pkF_s, eS]
            · obtain ⟨a1, a2⟩ := E2 (by rw [b1]; omega)
              have hon : pkOn c s L T p S := ⟨hc1.1, by omega⟩
              have eX : pkX c s L T p S = ((pkC c s L T p S 13).2 : Int) := by unfold pkX; rw [if_pos hon]
              have eS : pkS c s L T p S = S ||| rowB (pkC c s L T p S 13).2 (yN c p) := by unfold pkS; rw [if_pos hon]
              refine ⟨by rw [a1, b1]; omega, fun i hi => ?_, fun i h1 h2 => ?_⟩
              · rw [a2 i (by omega), ms_na (by decide)]; exact b2 i hi
              · rw [a2 i h2, ms_na (by decide)]
                by_cases hip : i = p
                · subst hip; rw [b3, Nat.sub_self]; exact eX.symm
                · rw [b4 i (by omega) h2, show i - p = (i - (p + 1)) + 1 by omega, pkF_s, eS]
          · obtain ⟨b1, b2⟩ := B2 hc1
            have hcl := pkC_rg (L := L) (T := T) (S := S) hlw hN hp 13
            have hlt2 : (pkC c s L T p S 13).1 < pkV c s L T (p + 1) S ∧ M 440 45 < sum + pkV c s L T (p + 1) S := by
              by_cases h9 : (pkC c s L T p S 13).1 = -1
              · omega
              · have : ¬ M 440 45 < sum + (pkC c s L T p S 13).1 := fun h8 => hc1 ⟨h9, h8⟩
                omega
            obtain ⟨a1, a2, a3⟩ := E1 (by rw [b1]; omega)
            have hoff : ¬ pkOn c s L T p S := fun h9 => by have := h9.2; omega
            have eX : pkX c s L T p S = -1 := by unfold pkX; rw [if_neg hoff]
            have eS : pkS c s L T p S = S := by unfold pkS; rw [if_neg hoff]
            refine ⟨by rw [a1]; omega, fun i hi => ?_, fun i h1 h2 => ?_⟩
            · rw [a2 i (by omega), ms_nk (by omega)]; exact f1 _ _ (by decide) (by decide) (by decide) (by omega) (by omega)
            · by_cases hip : i = p
              · subst hip
                rw [a2 i (by omega), ms_eq, Nat.sub_self]; exact eX.symm
              · rw [a3 i (by omega) h2, show i - p = (i - (p + 1)) + 1 by omega, pkF_s, eS]
        · obtain ⟨b1, b2⟩ := B2 (fun h9 => by omega)
          obtain ⟨a1, a2⟩ := E2 (by rw [b1]; omega)
          refine ⟨a1.trans b1, fun i hi => ?_⟩
          rw [a2 i hi, ms_na (by decide)]; exact b2 i hi
      have loop : ∀ f x, x + f = nCe c + 1 - yN c p → ∀ (v : PV) M1, FX M1 → FrBb p M M1 → BMid c s L T M M1 p S sum (pkC c s L T p S x) → (-1 ≤ M1 440 45 ∧ M1 440 45 ≤ 2000) → (T.testBit p = false → x = 0) → Wp (d + 6) 218 66 [vR 440, vI (T : Int), vI (p : Int), vI (S : Int), vI sum, vI (x : Int), v] [] M1 K Q := by
        intro f
        induction f with
        | zero =>
          intro x hx v M1 x1 f1 hB hm1 _
          obtain ⟨q0, q1⟩ := facts M1 f1
          refine u218_66 hK x1 ⟨by omega, fun _ => ⟨by omega, fin M1 x x1 f1 hB (pkC_stop (Or.inl (by omega)) (by omega)) hm1 _ _⟩, fun h9 => absurd ?_ h9⟩
          rw [q0, Int.toNat_natCast, q1, w32_id (by omega)]; omega
        | succ f ihf =>
          intro x hx v M1 x1 f1 hB hm1 hT0
          obtain ⟨q0, q1⟩ := facts M1 f1
          have hx' : x + yN c p ≤ nCe c := by omega
          refine u218_66 hK x1 ⟨by omega, fun h9 => absurd h9 ?_, fun _ => ?_⟩
          · rw [q0, Int.toNat_natCast, q1, w32_id (by omega)]; omega
          rw [bit_1 (by omega) (by omega)]
          refine ⟨fun h9 => ⟨by omega, ?_⟩, fun hT => ⟨by omega, ?_⟩⟩
          · have hT : T.testBit p = false := by cases hq : T.testBit p with
              | false => rfl
              | true => exact absurd hq h9
            exact fin M1 x x1 f1 hB (pkC_stop (Or.inr hT) (by omega)) hm1 _ _
          · have rl := rowB_lt (x := x) (m := yN c p) (b := nCe c) hx'
            have rl2 := rowB_lt (x := x) (m := yN c p) (b := 12) (by omega)
            have yl : 2 ^ yN c p ≤ 4096 := p12 (by omega)
            have y0 : 0 < 2 ^ yN c p := Nat.pow_pos (by decide)
            have eon : jshl (w32 (jshl 1 (M1 (459 + Int.toNat (p : Int)) 0) - 1)) (x : Int) = (rowB x (yN c p) : Int) := by
              rw [Int.toNat_natCast, q1, jshl_1 (by omega), w32_id (by omega), show ((2 ^ yN c p : Nat) : Int) - 1 = (rowB 0 (yN c p) : Int) by unfold rowB; rw [Nat.pow_zero, Nat.mul_one]; omega]
              exact row_sh (by omega)
            rw [eon, jand_0 hS2 rl2]
            have cs := pkC_s (c := c) (s := s) (L := L) (T := T) (p := p) (S := S) (k := x)
            refine ⟨fun h0 => ⟨by omega, ?_⟩, fun h0 => ?_⟩
            · have eg : pkE c s L p x + pkV c s L T (p + 1) (S ||| rowB x (yN c p)) = pkg c s L T p S (pkV c s L T (p + 1)) x := by unfold pkg; rw [if_pos ⟨hT, hx', h0⟩]
              have r1 := pkE_rg (L := L) hlw hp x
              have r2 := pkV_rg (L := L) (T := T) (p := p + 1) (S := S ||| rowB x (yN c p)) hlw hN
              rw [Int.toNat_natCast, jor_n (by omega) (by omega), w1 (by omega)]
              have f2 : FrBb p M (mset M1 911 p (x : Int)) := f1.tr FrBb.laid
              refine g217 hK (x1.set (nfa pm_o.1.1 _)) (hG.q f2.q) hp hx' (fun M3 x3 f3 => Bk_v (u218_147 hK x3 ?_))
              have f3' : FrBb p M M3 := f2.tr f3.b
              rw [w32_id (by omega)]
              have eM : M3 440 45 = M1 440 45 := (f3 _ _ (by decide) (by decide)).trans (ms_na (by decide))
              refine ih (p + 1) (by omega) (d + 5) M3 K _ _ _ (by omega) hK x3 (hG.q f3'.q) (hrow M3 f3') (by rw [eM]; exact hm1) (Nat.or_lt_two_pow hS rl) ⟨by omega, by omega⟩ (fun M4 x4 f4 hE => Bk_n (u218_151 hK x4 ?_))
              rw [w1 (by omega)]
              obtain ⟨E1, E2⟩ := hE
              rw [eM] at E1 E2
              obtain ⟨B1, B2⟩ := hB
              have f14 := f3'.tr f4.lo
              have crg := pkC_rg (L := L) (T := T) (S := S) hlw hN hp x
              have l3 : ∀ i, M3 911 i = mset M1 911 p (x : Int) 911 i := fun i => f3 _ _ (by decide) (by decide)
              have b3 : ∀ i, M3 912 i = M1 912 i := fun i => (f3 _ _ (by decide) (by decide)).trans (ms_na (by decide))
              have key : BMid c s L T M M4 p S sum (pkC c s L T p S (x + 1)) ∧ (-1 ≤ M4 440 45 ∧ M4 440 45 ≤ 2000) := by
                have nw : M1 440 45 < sum + pkg c s L T p S (pkV c s L T (p + 1)) x → M4 440 45 = sum + pkg c s L T p S (pkV c s L T (p + 1)) x ∧ (∀ i, i < p → M4 912 i = M 911 i) ∧ M4 912 p = (x : Int) ∧ ∀ i, p < i → i < nSt c → M4 912 i = pkX c s L T i (pkF c s L T (p + 1) (S ||| rowB x (yN c p)) (i - (p + 1))) := by
                  intro h8
                  obtain ⟨a1, a2, a3⟩ := E1 (by omega)
                  refine ⟨by rw [a1]; omega, fun i hi => ?_, ?_, fun i h1 h2 => a3 i (by omega) h2⟩
                  · rw [a2 i (by omega), l3, ms_nk (by omega)]; exact f1 _ _ (by decide) (by decide) (by decide) (by omega) (by omega)
                  · rw [a2 p (by omega), l3, ms_eq]
                have od : ¬ M1 440 45 < sum + pkg c s L T p S (pkV c s L T (p + 1)) x → M4 440 45 = M1 440 45 ∧ ∀ i, i < nSt c → M4 912 i = M1 912 i := by
                  intro h8
                  obtain ⟨a1, a2⟩ := E2 (by omega)
                  exact ⟨a1, fun i hi => (a2 i hi).trans (b3 i)⟩
                by_cases h8 : M1 440 45 < sum + pkg c s L T p S (pkV c s L T (p + 1)) x
                · obtain ⟨n1, n2, n3, n4⟩ := nw h8
                  have hlt : (pkC c s L T p S x).1 < pkg c s L T p S (pkV c s L T (p + 1)) x ∧ M 440 45 < sum + pkg c s L T p S (pkV c s L T (p + 1)) x := by
                    by_cases hc1 : (pkC c s L T p S x).1 ≠ -1 ∧ M 440 45 < sum + (pkC c s L T p S x).1
                    · have := (B1 hc1).1; omega
                    · have b1 := (B2 hc1).1
                      by_cases h7 : (pkC c s L T p S x).1 = -1
                      · omega
                      · have : ¬ M 440 45 < sum + (pkC c s L T p S x).1 := fun h6 => hc1 ⟨h7, h6⟩
                        omega
                  rw [cs, if_pos ⟨by omega, hlt.1⟩]
                  exact ⟨⟨fun _ => ⟨n1, n2, n3, n4⟩, fun h6 => absurd ⟨by dsimp only; omega, hlt.2⟩ h6⟩, by omega⟩
                · obtain ⟨n1, n2⟩ := od h8
                  by_cases hc1 : (pkC c s L T p S x).1 ≠ -1 ∧ M 440 45 < sum + (pkC c s L T p S x).1
                  · obtain ⟨b1, b2, b4, b5⟩ := B1 hc1
                    rw [cs, if_neg (fun h6 => by omega)]
                    refine ⟨⟨fun _ => ⟨n1.trans b1, fun i hi => (n2 i (by omega)).trans (b2 i hi), (n2 p hp).trans b4, fun i h1 h2 => (n2 i h2).trans (b5 i h1 h2)⟩, fun h6 => absurd hc1 h6⟩, by omega⟩
                  · obtain ⟨b1, b2⟩ := B2 hc1
                    have hno : ¬ ((pkC c s L T p S (x + 1)).1 ≠ -1 ∧ M 440 45 < sum + (pkC c s L T p S (x + 1)).1) := by
                      rw [cs]
                      split
                      · dsimp only; omega
                      · exact hc1
                    exact ⟨⟨fun h6 => absurd h6 hno, fun _ => ⟨n1.trans b1, fun i hi => (n2 i hi).trans (b2 i hi)⟩⟩, by omega⟩
              exact ihf (x + 1) (by omega) _ M4 x4 f14 key.1 key.2 (fun h8 => by rw [hT] at h8; exact absurd h8 (by decide))
            · refine u218_151 hK x1 ?_
              rw [w1 (by omega)]
              have e : pkg c s L T p S (pkV c s L T (p + 1)) x = -1 := by unfold pkg; rw [if_neg (fun h9 => h0 h9.2.2)]
              refine ihf (x + 1) (by omega) _ M1 x1 f1 ?_ hm1 (fun h8 => by rw [hT] at h8; exact absurd h8 (by decide))
              rw [cs, if_neg (fun h9 => h9.1 e)]; exact hB
      exact loop (nCe c + 1 - yN c p) 0 (Nat.zero_add _) vU M hX FrBb.rf ⟨fun h9 => absurd rfl h9.1, fun _ => ⟨rfl, fun _ _ => rfl⟩⟩ hm (fun _ => rfl)
    · rw [Int.toNat_natCast, e12, w32_id (by omega)] at h
      exact k M hX FrBb.rf ⟨fun h9 => absurd h9 (by omega), fun _ => ⟨rfl, fun _ _ => rfl⟩⟩
end MQ
