theorem u50_0 {d : Nat} {l0 : Nat} {l1 : Int} {l2 : Int} {M : Mem} {K : KK} {Q : RR → Mem → KK → Prop} (hK : K.1 = 922) (hX : FX M) (k0 : isO 922 l0 2 = true) (h : ∃ L3 : LC, (CR (mset (mset M (l0 + 1) 2 l1) (l0 + 1) 3 l2) l0 L3 ∧ Vd L3 0 1) ∧ (∀ (M7 : Mem), FX M7 → FrK l0 (mset (mset M (l0 + 1) 2 l1) (l0 + 1) 3 l2) M7 → Q (.inl (some (vI (jmax (0 : Int) (w32 (l1 - (clmp ((evA ((mset (mset M (l0 + 1) 2 l1) (l0 + 1) 3 l2) (l0 + 1)) L3).2 0)))))))) M7 K)) : Wp (d + 2) 50 0 [vR l0, vI l1, vI l2] [] M K Q := by
  refine r_aload_n c50_0 rfl ?_
  refine r_getR c50_1 (oK hK k0) (fx2_0 hX k0) (by omega) ?_
  refine r_iconst c50_4 ?_
  refine r_iload_n c50_5 rfl ?_
  refine r_ias c50_6 (oK hK (q2_0 k0)) (bd (z2_0 k0) (by decide)) ?_
  have x1 := FX.set (v := l1) (a := (l0 + 1)) (k := 2) hX (nfa (q2_0 k0) _)
  refine r_aload_n c50_7 rfl ?_
  refine r_getR c50_8 (oK hK k0) (fx2_0 x1 k0) (by omega) ?_
  refine r_iconst c50_11 ?_
  refine r_iload_n c50_12 rfl ?_
  refine r_ias c50_13 (oK hK (q2_0 k0)) (bd (z2_0 k0) (by decide)) ?_
  have x2 := FX.set (v := l2) (a := (l0 + 1)) (k := 3) x1 (nfa (q2_0 k0) _)
  refine r_iconst c50_14 ?_
  refine r_iload_n c50_15 rfl ?_
  refine r_aload_n c50_16 rfl ?_
  obtain ⟨L3, h⟩ := h
  obtain ⟨p4, h⟩ := h
  refine r_call c50_17 rfl rfl (Nat.le_of_ble_eq_true rfl) (okc_r rfl rfl (oK hK k0)) (g26 hK x2 k0 p4 (fun M7 x5 p6 => Bk_v ?_))
  replace h := h M7 x5 p6
  refine r_isub c50_20 ?_
  refine r_max c50_21 (Nat.le_of_ble_eq_true rfl) ?_
  exact r_iret c50_24 (Or.inl rfl) h
theorem u49_0 {d : Nat} {l1 : Nat} {l2 : Nat} {l3 : Int} {l4 : Int} {l5 : Int} {l6 : Int} {M : Mem} {K : KK} {Q : RR → Mem → KK → Prop} (hK : K.1 = 922) (hX : FX M) (k1 : isO 922 l1 0 = true) (k2 : isO 922 l2 3 = true) (h : Wp (d + 2) 49 3 [vR 143, vR l1, vR l2, vI l3, vI l4, vI l5, vI l6, vI (0 : Int), vU, vU] [] M K Q) : Wp (d + 2) 49 0 [vR 143, vR l1, vR l2, vI l3, vI l4, vI l5, vI l6, vU, vU, vU] [] M K Q := by
  refine r_iconst c49_0 ?_
  refine r_istore c49_1 (Nat.le_of_ble_eq_true rfl) ?_
  exact h
theorem u49_3 {d : Nat} {l1 : Nat} {l2 : Nat} {l3 : Int} {l4 : Int} {l5 : Int} {l6 : Int} {l7 : Int} {M : Mem} {K : KK} {Q : RR → Mem → KK → Prop} (hK : K.1 = 922) (hX : FX M) (k1 : isO 922 l1 0 = true) (k2 : isO 922 l2 3 = true) (h : ((99 : Int) < l7 → (0 ≤ l3 ∧ l3 < (6 : Int)) ∧ ((M (l2 + 2) (Int.toNat l3)) = (-1 : Int) → Wp (d + 2) 49 39 [vR 143, vR l1, vR l2, vI l3, vI l4, vI l5, vI l6, vI l7, vU, vU] [vI (0 : Int)] M K Q) ∧ (¬ ((M (l2 + 2) (Int.toNat l3)) = (-1 : Int)) → Wp (d + 2) 49 39 [vR 143, vR l1, vR l2, vI l3, vI l4, vI l5, vI l6, vI l7, vU, vU] [vI (1 : Int)] M K Q)) ∧ (¬ ((99 : Int) < l7) → ∃ b4 : Nat, (M 143 1) = (b4 : Int) ∧ isO 922 b4 22 = true ∧ ln b4 = 100 ∧ (0 ≤ l7 ∧ l7 < (100 : Int)) ∧ Wp (d + 2) 49 3 [vR 143, vR l1, vR l2, vI l3, vI l4, vI l5, vI l6, vI (w32 (l7 + 1)), vU, vU] [] (mset M b4 (Int.toNat l7) (0 : Int)) K Q)) : Wp (d + 2) 49 3 [vR 143, vR l1, vR l2, vI l3, vI l4, vI l5, vI l6, vI l7, vU, vU] [] M K Q := by
  refine r_iload c49_3 rfl ?_
  refine r_bipush c49_5 ?_
  refine r_icmpP (P := (99 : Int) < l7) c49_7 rfl (fun hc1 => ?_) (fun hc1 => ?_)
  · replace h := h.1 hc1
    refine r_aload_n c49_24 rfl ?_
    refine r_getR c49_25 (oK hK k2) (fx3_1 hX k2) (by omega) ?_
    refine r_iload_n c49_28 rfl ?_
    obtain ⟨s2, h⟩ := h
    refine r_iae c49_29 (oK hK (q3_1 k2)) (bd (z3_1 k2) s2) rfl ?_
    refine r_iconst c49_30 ?_
    refine r_icmpP (P := (M (l2 + 2) (Int.toNat l3)) = (-1 : Int)) c49_31 rfl (fun hc3 => ?_) (fun hc3 => ?_)
    · replace h := h.1 hc3
      refine r_iconst c49_38 ?_
      exact h
    · replace h := h.2 hc3
      refine r_iconst c49_34 ?_
      refine r_goto c49_35 ?_
      exact h
  · replace h := h.2 hc1
    refine r_aload_n c49_10 rfl ?_
    obtain ⟨b4, h⟩ := h
    obtain ⟨e5, h⟩ := h
    obtain ⟨k6, h⟩ := h
    obtain ⟨z7, h⟩ := h
    refine r_getR c49_11 (oK hK o143) e5 (by have := (isO_d k6).1; omega) ?_
    refine r_iload c49_14 rfl ?_
    refine r_lconst c49_16 ?_
    obtain ⟨s8, h⟩ := h
    refine r_las c49_17 (oK hK k6) (bd z7 s8) ?_
    have x9 := FX.set (v := (0 : Int)) (a := b4) (k := (Int.toNat l7)) hX (nfl k6 _)
    refine r_iinc c49_18 rfl ?_
    refine r_goto c49_21 ?_
    exact h
theorem u49_39 {d : Nat} {l1 : Nat} {l2 : Nat} {l3 : Int} {l4 : Int} {l5 : Int} {l6 : Int} {l7 : Int} {t0 : Int} {M : Mem} {K : KK} {Q : RR → Mem → KK → Prop} (hK : K.1 = 922) (hX : FX M) (k1 : isO 922 l1 0 = true) (k2 : isO 922 l2 3 = true) (h : (0 ≤ l3 ∧ l3 < (6 : Int)) ∧ ∃ c2 : Mem, ∃ s3 : Mem, ∃ L4 : LC, ∃ la5 : Nat, ∃ p6 : Nat, (l3 = (p6 : Int) ∧ SKc M l1 l2 c2 s3 ∧ LWC M l1 L4 la5 ∧ p6 < nSt c2 ∧ ((M (l2 + 2) (Int.toNat l3)) = -1 ∨ (0 ≤ (M (l2 + 2) (Int.toNat l3)) ∧ (M (l2 + 2) (Int.toNat l3)) + c2 2 p6 ≤ c2 0 0))) ∧ (∀ (M10 : Mem), FX M10 → (Fr1 (la5 + 1) M M10 ∧ ∀ j, j < 8 → M10 (la5 + 1) j = fcts (sunS c2 (M (l2 + 2) (Int.toNat l3)) (c2 2 p6)) (c2 2 p6) (s3 1 p6) (rainS c2 (s3 4 0)) 0 0 (s3 4 0) (M (l2 + 2) (Int.toNat l3)) j) → isO 922 la5 2 = true ∧ (¬ l4 = (0 : Int) → Wp (d + 2) 49 108 [vR 143, vR l1, vR l2, vI l3, vI l4, vI l5, vI l6, vI t0, vR (la5 + 1), vI (0 : Int)] [] (mset (mset (mset M10 (la5 + 1) 6 (w32 ((M10 l2 4) + l4))) (la5 + 1) 4 (0 : Int)) (la5 + 1) 5 (0 : Int)) K Q) ∧ (l4 = (0 : Int) → (0 ≤ l3 ∧ l3 < (6 : Int)) ∧ (0 ≤ l3 ∧ l3 < (6 : Int)) ∧ Wp (d + 2) 49 108 [vR 143, vR l1, vR l2, vI l3, vI l4, vI l5, vI l6, vI t0, vR (la5 + 1), vI (0 : Int)] [] (mset (mset (mset M10 (la5 + 1) 6 (w32 ((M10 l2 4) + l4))) (la5 + 1) 4 (M10 (l2 + 3) (Int.toNat l3))) (la5 + 1) 5 (M10 (l2 + 4) (Int.toNat l3))) K Q))) : Wp (d + 2) 49 39 [vR 143, vR l1, vR l2, vI l3, vI l4, vI l5, vI l6, vI l7, vU, vU] [vI t0] M K Q := by
  refine r_istore c49_39 (Nat.le_of_ble_eq_true rfl) ?_
  refine r_aload_n c49_41 rfl ?_
  refine r_aload_n c49_42 rfl ?_
  refine r_iload_n c49_43 rfl ?_
  refine r_aload_n c49_44 rfl ?_
  refine r_getR c49_45 (oK hK k2) (fx3_1 hX k2) (by omega) ?_
  refine r_iload_n c49_48 rfl ?_
  obtain ⟨s1, h⟩ := h
  refine r_iae c49_49 (oK hK (q3_1 k2)) (bd (z3_1 k2) s1) rfl ?_
  obtain ⟨c2, h⟩ := h
  obtain ⟨s3, h⟩ := h
  obtain ⟨L4, h⟩ := h
  obtain ⟨la5, h⟩ := h
  obtain ⟨p6, h⟩ := h
  obtain ⟨p7, h⟩ := h
  refine r_call c49_50 rfl rfl (Nat.le_of_ble_eq_true rfl) (okc_r rfl rfl (oK hK k2)) (g46 hK hX k2 k1 p7 (fun M10 x8 p9 => Bk_v ?_))
  replace h := h M10 x8 p9
  obtain ⟨kl11, h⟩ := h
  refine r_astore c49_53 (Nat.le_of_ble_eq_true rfl) ?_
  refine r_aload c49_55 rfl ?_
  refine r_bipush c49_57 ?_
  refine r_aload_n c49_59 rfl ?_
  refine r_getIe c49_60 (oK hK k2) rfl ?_
  refine r_iload c49_63 rfl ?_
  refine r_iadd c49_65 ?_
  refine r_ias c49_66 (oK hK (q2_0 kl11)) (bd (z2_0 kl11) (by decide)) ?_
  have x12 := FX.set (v := (w32 ((M10 l2 4) + l4))) (a := (la5 + 1)) (k := 6) x8 (nfa (q2_0 kl11) _)
  refine r_aload c49_67 rfl ?_
  refine r_iconst c49_69 ?_
  refine r_iload c49_70 rfl ?_
  refine r_ifP (P := ¬ l4 = (0 : Int)) c49_72 rfl (fun hc13 => ?_) (fun hc13 => ?_)
  · replace h := h.1 hc13
    refine r_iconst c49_84 ?_
    refine r_ias c49_85 (oK hK (q2_0 kl11)) (bd (z2_0 kl11) (by decide)) ?_
    have x15 := FX.set (v := (0 : Int)) (a := (la5 + 1)) (k := 4) x12 (nfa (q2_0 kl11) _)
    refine r_aload c49_86 rfl ?_
    refine r_iconst c49_88 ?_
    refine r_iload c49_89 rfl ?_
    refine r_ifP (P := ¬ l4 = (0 : Int)) c49_91 rfl (fun hc => ?_) (fun hc => absurd hc13 hc)
    refine r_iconst c49_103 ?_
    refine r_ias c49_104 (oK hK (q2_0 kl11)) (bd (z2_0 kl11) (by decide)) ?_
    have x16 := FX.set (v := (0 : Int)) (a := (la5 + 1)) (k := 5) x15 (nfa (q2_0 kl11) _)
    refine r_iconst c49_105 ?_
    refine r_istore c49_106 (Nat.le_of_ble_eq_true rfl) ?_
    exact h
  · have hc14 := Classical.not_not.mp hc13
    replace h := h.2 hc14
    refine r_aload_n c49_75 rfl ?_
    refine r_getR c49_76 (oK hK k2) (fx3_2 x12 k2) (by omega) ?_
    refine r_iload_n c49_79 rfl ?_
    obtain ⟨s17, h⟩ := h
    refine r_iae c49_80 (oK hK (q3_2 k2)) (bd (z3_2 k2) s17) (ms_na (by have := rg3 k2; have := rg2 kl11; omega)) ?_
    refine r_goto c49_81 ?_
    refine r_ias c49_85 (oK hK (q2_0 kl11)) (bd (z2_0 kl11) (by decide)) ?_
    have x18 := FX.set (v := (M10 (l2 + 3) (Int.toNat l3))) (a := (la5 + 1)) (k := 4) x12 (nfa (q2_0 kl11) _)
    refine r_aload c49_86 rfl ?_
    refine r_iconst c49_88 ?_
    refine r_iload c49_89 rfl ?_
    refine r_ifP (P := ¬ l4 = (0 : Int)) c49_91 rfl (fun hc => absurd hc14 hc) (fun hc => ?_)
    refine r_aload_n c49_94 rfl ?_
    refine r_getR c49_95 (oK hK k2) (fx3_3 x18 k2) (by omega) ?_
    refine r_iload_n c49_98 rfl ?_
    obtain ⟨s19, h⟩ := h
    refine r_iae c49_99 (oK hK (q3_3 k2)) (bd (z3_3 k2) s19) (Eq.trans (ms_na (by have := rg3 k2; have := rg2 kl11; omega)) (ms_na (by have := rg3 k2; have := rg2 kl11; omega))) ?_
    refine r_goto c49_100 ?_
    refine r_ias c49_104 (oK hK (q2_0 kl11)) (bd (z2_0 kl11) (by decide)) ?_
    have x20 := FX.set (v := (M10 (l2 + 4) (Int.toNat l3))) (a := (la5 + 1)) (k := 5) x18 (nfa (q2_0 kl11) _)
    refine r_iconst c49_105 ?_
    refine r_istore c49_106 (Nat.le_of_ble_eq_true rfl) ?_
    exact h
theorem u49_108 {d : Nat} {l1 : Nat} {l2 : Nat} {l3 : Int} {l4 : Int} {l5 : Int} {l6 : Int} {l7 : Int} {l8 : Nat} {l9 : Int} {M : Mem} {K : KK} {Q : RR → Mem → KK → Prop} (hK : K.1 = 922) (hX : FX M) (k1 : isO 922 l1 0 = true) (k2 : isO 922 l2 3 = true) (h : ((99 : Int) < l9 → ∃ b2 : Nat, (M 143 0) = (b2 : Int) ∧ isO 922 b2 22 = true ∧ ln b2 = 100 ∧ ∃ b6 : Nat, (M 143 1) = (b6 : Int) ∧ isO 922 b6 22 = true ∧ ln b6 = 100 ∧ Q (.inl none) (mset (mset M 143 0 ((b6 : Nat) : Int)) 143 1 ((b2 : Nat) : Int)) K) ∧ (¬ ((99 : Int) < l9) → ∃ b12 : Nat, (M 143 0) = (b12 : Int) ∧ isO 922 b12 22 = true ∧ ln b12 = 100 ∧ (0 ≤ l9 ∧ l9 < (100 : Int)) ∧ ((jcmp (M b12 (Int.toNat l9)) (0 : Int)) ≤ (0 : Int) → Wp (d + 2) 49 108 [vR 143, vR l1, vR l2, vI l3, vI l4, vI l5, vI l6, vI l7, vR l8, vI (w32 (l9 + 1))] [] M K Q) ∧ (¬ ((jcmp (M b12 (Int.toNat l9)) (0 : Int)) ≤ (0 : Int)) → ∃ b18 : Nat, (M 143 1) = (b18 : Int) ∧ isO 922 b18 22 = true ∧ ln b18 = 100 ∧ (l7 = (0 : Int) → Wp (d + 2) 49 152 [vR 143, vR l1, vR l2, vI l3, vI l4, vI l5, vI l6, vI l7, vR l8, vI l9] [vI l9, vR b18] M K Q) ∧ (¬ (l7 = (0 : Int)) → ∃ b23 : Nat, (M l1 11) = (b23 : Int) ∧ isO 922 b23 2 = true ∧ Wm (d + 1) 50 [vR b23, vI l9, vI l6] M K (Bk (d + 1) 49 144 147 50 [vR 143, vR l1, vR l2, vI l3, vI l4, vI l5, vI l6, vI l7, vR l8, vI l9] [vR b18] Q))))) : Wp (d + 2) 49 108 [vR 143, vR l1, vR l2, vI l3, vI l4, vI l5, vI l6, vI l7, vR l8, vI l9] [] M K Q := by
  refine r_iload c49_108 rfl ?_
  refine r_bipush c49_110 ?_
  refine r_icmpP (P := (99 : Int) < l9) c49_112 rfl (fun hc1 => ?_) (fun hc1 => ?_)
  · replace h := h.1 hc1
    refine r_aload_n c49_215 rfl ?_
    obtain ⟨b2, h⟩ := h
    obtain ⟨e3, h⟩ := h
    obtain ⟨k4, h⟩ := h
    obtain ⟨z5, h⟩ := h
    refine r_getR c49_216 (oK hK o143) e3 (by have := (isO_d k4).1; omega) ?_
    refine r_astore c49_219 (Nat.le_of_ble_eq_true rfl) ?_
    refine r_aload_n c49_221 rfl ?_
    refine r_aload_n c49_222 rfl ?_
    obtain ⟨b6, h⟩ := h
    obtain ⟨e7, h⟩ := h
    obtain ⟨k8, h⟩ := h
    obtain ⟨z9, h⟩ := h
    refine r_getR c49_223 (oK hK o143) e7 (by have := (isO_d k8).1; omega) ?_
    refine r_putR c49_226 (oK hK o143) (by have := (isO_d k8).1; omega) ?_
    have x10 := FX.set (v := ((b6 : Nat) : Int)) (a := 143) (k := 0) hX (by decide +kernel)
    refine r_aload_n c49_229 rfl ?_
    refine r_aload c49_230 rfl ?_
    refine r_putR c49_232 (oK hK o143) (by have := (isO_d k4).1; omega) ?_
    have x11 := FX.set (v := ((b2 : Nat) : Int)) (a := 143) (k := 1) x10 (by decide +kernel)
    exact r_ret c49_235 h
  · replace h := h.2 hc1
    refine r_aload_n c49_115 rfl ?_
    obtain ⟨b12, h⟩ := h
    obtain ⟨e13, h⟩ := h
    obtain ⟨k14, h⟩ := h
    obtain ⟨z15, h⟩ := h
    refine r_getR c49_116 (oK hK o143) e13 (by have := (isO_d k14).1; omega) ?_
    refine r_iload c49_119 rfl ?_
    obtain ⟨s16, h⟩ := h
    refine r_lae c49_121 (oK hK k14) (bd z15 s16) rfl ?_
    refine r_lconst c49_122 ?_
    refine r_lcmp c49_123 ?_
    refine r_ifP (P := (jcmp (M b12 (Int.toNat l9)) (0 : Int)) ≤ (0 : Int)) c49_124 rfl (fun hc17 => ?_) (fun hc17 => ?_)
    · replace h := h.1 hc17
      refine r_iinc c49_209 rfl ?_
      refine r_goto c49_212 ?_
      exact h
    · replace h := h.2 hc17
      refine r_aload_n c49_127 rfl ?_
      obtain ⟨b18, h⟩ := h
      obtain ⟨e19, h⟩ := h
      obtain ⟨k20, h⟩ := h
      obtain ⟨z21, h⟩ := h
      refine r_getR c49_128 (oK hK o143) e19 (by have := (isO_d k20).1; omega) ?_
      refine r_iload c49_131 rfl ?_
      refine r_ifP (P := l7 = (0 : Int)) c49_133 rfl (fun hc22 => ?_) (fun hc22 => ?_)
      · replace h := h.1 hc22
        refine r_iload c49_150 rfl ?_
        exact h
      · replace h := h.2 hc22
        refine r_aload_n c49_136 rfl ?_
        obtain ⟨b23, h⟩ := h
        obtain ⟨e24, h⟩ := h
        obtain ⟨k25, h⟩ := h
        refine r_getR c49_137 (oK hK k1) e24 (by have := (isO_d k25).1; omega) ?_
        refine r_iload c49_140 rfl ?_
        refine r_iload c49_142 rfl ?_
        exact r_call c49_144 rfl rfl (Nat.le_of_ble_eq_true rfl) (okc_s rfl rfl rfl) h
theorem u49_147 {d : Nat} {l1 : Nat} {l2 : Nat} {l3 : Int} {l4 : Int} {l5 : Int} {l6 : Int} {l7 : Int} {l8 : Nat} {l9 : Int} {t0 : Nat} {t1 : Int} {M : Mem} {K : KK} {Q : RR → Mem → KK → Prop} (hK : K.1 = 922) (hX : FX M) (k1 : isO 922 l1 0 = true) (k2 : isO 922 l2 3 = true) (h : Wp (d + 2) 49 152 [vR 143, vR l1, vR l2, vI l3, vI l4, vI l5, vI l6, vI l7, vR l8, vI l9] [vI t1, vR t0] M K Q) : Wp (d + 2) 49 147 [vR 143, vR l1, vR l2, vI l3, vI l4, vI l5, vI l6, vI l7, vR l8, vI l9] [vI t1, vR t0] M K Q := by
  refine r_goto c49_147 ?_
  exact h
theorem u49_152 {d : Nat} {l1 : Nat} {l2 : Nat} {l3 : Int} {l4 : Int} {l5 : Int} {l6 : Int} {l7 : Int} {l8 : Nat} {l9 : Int} {t0 : Nat} {t1 : Int} {M : Mem} {K : KK} {Q : RR → Mem → KK → Prop} (hK : K.1 = 922) (hX : FX M) (k1 : isO 922 l1 0 = true) (k2 : isO 922 l2 3 = true) (h : isO 922 t0 22 = true ∧ (0 ≤ t1 ∧ t1 < (ln t0 : Int)) ∧ ∃ b3 : Nat, (M 143 0) = (b3 : Int) ∧ isO 922 b3 22 = true ∧ ln b3 = 100 ∧ (0 ≤ l9 ∧ l9 < (100 : Int)) ∧ (0 ≤ t1 ∧ t1 < (ln t0 : Int)) ∧ ∃ b10 : Nat, ((mset M t0 (Int.toNat t1) (w64 ((M t0 (Int.toNat t1)) + (w64 ((M b3 (Int.toNat l9)) * l5))))) 143 1) = (b10 : Int) ∧ isO 922 b10 22 = true ∧ ln b10 = 100 ∧ (l7 = (0 : Int) → (0 ≤ l9 ∧ l9 < (100 : Int)) ∧ ∃ b16 : Nat, ((mset M t0 (Int.toNat t1) (w64 ((M t0 (Int.toNat t1)) + (w64 ((M b3 (Int.toNat l9)) * l5))))) 143 0) = (b16 : Int) ∧ isO 922 b16 22 = true ∧ ln b16 = 100 ∧ (0 ≤ l9 ∧ l9 < (100 : Int)) ∧ (0 ≤ l9 ∧ l9 < (100 : Int)) ∧ Wp (d + 2) 49 108 [vR 143, vR l1, vR l2, vI l3, vI l4, vI l5, vI l6, vI l7, vR l8, vI (w32 (l9 + 1))] [] (mset (mset M t0 (Int.toNat t1) (w64 ((M t0 (Int.toNat t1)) + (w64 ((M b3 (Int.toNat l9)) * l5))))) b10 (Int.toNat l9) (w64 (((mset M t0 (Int.toNat t1) (w64 ((M t0 (Int.toNat t1)) + (w64 ((M b3 (Int.toNat l9)) * l5))))) b10 (Int.toNat l9)) + (w64 (((mset M t0 (Int.toNat t1) (w64 ((M t0 (Int.toNat t1)) + (w64 ((M b3 (Int.toNat l9)) * l5))))) b16 (Int.toNat l9)) * (w32 ((16 : Int) - l5))))))) K Q) ∧ (¬ (l7 = (0 : Int)) → ∃ b23 : Nat, ((mset M t0 (Int.toNat t1) (w64 ((M t0 (Int.toNat t1)) + (w64 ((M b3 (Int.toNat l9)) * l5))))) l1 11) = (b23 : Int) ∧ isO 922 b23 2 = true ∧ Wm (d + 1) 50 [vR b23, vI l9, vI (0 : Int)] (mset M t0 (Int.toNat t1) (w64 ((M t0 (Int.toNat t1)) + (w64 ((M b3 (Int.toNat l9)) * l5))))) K (Bk (d + 1) 49 183 186 50 [vR 143, vR l1, vR l2, vI l3, vI l4, vI l5, vI l6, vI l7, vR l8, vI l9] [vR b10] Q))) : Wp (d + 2) 49 152 [vR 143, vR l1, vR l2, vI l3, vI l4, vI l5, vI l6, vI l7, vR l8, vI l9] [vI t1, vR t0] M K Q := by
  refine r_dup2 c49_152 ?_
  obtain ⟨o1, h⟩ := h
  obtain ⟨s2, h⟩ := h
  refine r_lae c49_153 (oK hK o1) s2 rfl ?_
  refine r_aload_n c49_154 rfl ?_
  obtain ⟨b3, h⟩ := h
  obtain ⟨e4, h⟩ := h
  obtain ⟨k5, h⟩ := h
  obtain ⟨z6, h⟩ := h
  refine r_getR c49_155 (oK hK o143) e4 (by have := (isO_d k5).1; omega) ?_
  refine r_iload c49_158 rfl ?_
  obtain ⟨s7, h⟩ := h
  refine r_lae c49_160 (oK hK k5) (bd z6 s7) rfl ?_
  refine r_iload c49_161 rfl ?_
  refine r_i2l c49_163 ?_
  refine r_lmul c49_164 ?_
  refine r_ladd c49_165 ?_
  obtain ⟨s8, h⟩ := h
  refine r_las c49_166 (oK hK o1) s8 ?_
  have x9 := FX.set (v := (w64 ((M t0 (Int.toNat t1)) + (w64 ((M b3 (Int.toNat l9)) * l5))))) (a := t0) (k := (Int.toNat t1)) hX (nfl o1 _)
  refine r_aload_n c49_167 rfl ?_
  obtain ⟨b10, h⟩ := h
  obtain ⟨e11, h⟩ := h
  obtain ⟨k12, h⟩ := h
  obtain ⟨z13, h⟩ := h
  refine r_getR c49_168 (oK hK o143) e11 (by have := (isO_d k12).1; omega) ?_
  refine r_iload c49_171 rfl ?_
  refine r_ifP (P := l7 = (0 : Int)) c49_173 rfl (fun hc14 => ?_) (fun hc14 => ?_)
  · replace h := h.1 hc14
    refine r_iload c49_189 rfl ?_
    refine r_dup2 c49_191 ?_
    obtain ⟨s15, h⟩ := h
    refine r_lae c49_192 (oK hK k12) (bd z13 s15) rfl ?_
    refine r_aload_n c49_193 rfl ?_
    obtain ⟨b16, h⟩ := h
    obtain ⟨e17, h⟩ := h
    obtain ⟨k18, h⟩ := h
    obtain ⟨z19, h⟩ := h
    refine r_getR c49_194 (oK hK o143) e17 (by have := (isO_d k18).1; omega) ?_
    refine r_iload c49_197 rfl ?_
    obtain ⟨s20, h⟩ := h
    refine r_lae c49_199 (oK hK k18) (bd z19 s20) rfl ?_
    refine r_bipush c49_200 ?_
    refine r_iload c49_202 rfl ?_
    refine r_isub c49_204 ?_
    refine r_i2l c49_205 ?_
    refine r_lmul c49_206 ?_
    refine r_ladd c49_207 ?_
    obtain ⟨s21, h⟩ := h
    refine r_las c49_208 (oK hK k12) (bd z13 s21) ?_
    have x22 := FX.set (v := (w64 (((mset M t0 (Int.toNat t1) (w64 ((M t0 (Int.toNat t1)) + (w64 ((M b3 (Int.toNat l9)) * l5))))) b10 (Int.toNat l9)) + (w64 (((mset M t0 (Int.toNat t1) (w64 ((M t0 (Int.toNat t1)) + (w64 ((M b3 (Int.toNat l9)) * l5))))) b16 (Int.toNat l9)) * (w32 ((16 : Int) - l5))))))) (a := b10) (k := (Int.toNat l9)) x9 (nfl k12 _)
    refine r_iinc c49_209 rfl ?_
    refine r_goto c49_212 ?_
    exact h
  · replace h := h.2 hc14
    refine r_aload_n c49_176 rfl ?_
    obtain ⟨b23, h⟩ := h
    obtain ⟨e24, h⟩ := h
    obtain ⟨k25, h⟩ := h
    refine r_getR c49_177 (oK hK k1) e24 (by have := (isO_d k25).1; omega) ?_
    refine r_iload c49_180 rfl ?_
    refine r_iconst c49_182 ?_
    exact r_call c49_183 rfl rfl (Nat.le_of_ble_eq_true rfl) (okc_s rfl rfl rfl) h
theorem u49_186 {d : Nat} {l1 : Nat} {l2 : Nat} {l3 : Int} {l4 : Int} {l5 : Int} {l6 : Int} {l7 : Int} {l8 : Nat} {l9 : Int} {t0 : Nat} {t1 : Int} {M : Mem} {K : KK} {Q : RR → Mem → KK → Prop} (hK : K.1 = 922) (hX : FX M) (k1 : isO 922 l1 0 = true) (k2 : isO 922 l2 3 = true) (h : isO 922 t0 22 = true ∧ (0 ≤ t1 ∧ t1 < (ln t0 : Int)) ∧ ∃ b3 : Nat, (M 143 0) = (b3 : Int) ∧ isO 922 b3 22 = true ∧ ln b3 = 100 ∧ (0 ≤ l9 ∧ l9 < (100 : Int)) ∧ (0 ≤ t1 ∧ t1 < (ln t0 : Int)) ∧ Wp (d + 2) 49 108 [vR 143, vR l1, vR l2, vI l3, vI l4, vI l5, vI l6, vI l7, vR l8, vI (w32 (l9 + 1))] [] (mset M t0 (Int.toNat t1) (w64 ((M t0 (Int.toNat t1)) + (w64 ((M b3 (Int.toNat l9)) * (w32 ((16 : Int) - l5))))))) K Q) : Wp (d + 2) 49 186 [vR 143, vR l1, vR l2, vI l3, vI l4, vI l5, vI l6, vI l7, vR l8, vI l9] [vI t1, vR t0] M K Q := by
  refine r_goto c49_186 ?_
  refine r_dup2 c49_191 ?_
  obtain ⟨o1, h⟩ := h
  obtain ⟨s2, h⟩ := h
  refine r_lae c49_192 (oK hK o1) s2 rfl ?_
  refine r_aload_n c49_193 rfl ?_
  obtain ⟨b3, h⟩ := h
  obtain ⟨e4, h⟩ := h
  obtain ⟨k5, h⟩ := h
  obtain ⟨z6, h⟩ := h
  refine r_getR c49_194 (oK hK o143) e4 (by have := (isO_d k5).1; omega) ?_
  refine r_iload c49_197 rfl ?_
  obtain ⟨s7, h⟩ := h
  refine r_lae c49_199 (oK hK k5) (bd z6 s7) rfl ?_
  refine r_bipush c49_200 ?_
  refine r_iload c49_202 rfl ?_
  refine r_isub c49_204 ?_
  refine r_i2l c49_205 ?_
  refine r_lmul c49_206 ?_
  refine r_ladd c49_207 ?_
  obtain ⟨s8, h⟩ := h
  refine r_las c49_208 (oK hK o1) s8 ?_
  have x9 := FX.set (v := (w64 ((M t0 (Int.toNat t1)) + (w64 ((M b3 (Int.toNat l9)) * (w32 ((16 : Int) - l5))))))) (a := t0) (k := (Int.toNat t1)) hX (nfl o1 _)
  refine r_iinc c49_209 rfl ?_
  refine r_goto c49_212 ?_
  exact h
theorem u48_0 {d : Nat} {l1 : Nat} {l2 : Nat} {l3 : Int} {l4 : Int} {l5 : Int} {l6 : Int} {M : Mem} {K : KK} {Q : RR → Mem → KK → Prop} (hK : K.1 = 922) (hX : FX M) (k1 : isO 922 l1 0 = true) (k2 : isO 922 l2 3 = true) (h : Wp (d + 1) 48 3 [vR 143, vR l1, vR l2, vI l3, vI l4, vI l5, vI l6, vI (0 : Int)] [] M K Q) : Wp (d + 1) 48 0 [vR 143, vR l1, vR l2, vI l3, vI l4, vI l5, vI l6, vU] [] M K Q := by
  refine r_iconst c48_0 ?_
  refine r_istore c48_1 (Nat.le_of_ble_eq_true rfl) ?_
  exact h
theorem u48_3 {d : Nat} {l1 : Nat} {l2 : Nat} {l3 : Int} {l4 : Int} {l5 : Int} {l6 : Int} {l7 : Int} {M : Mem} {K : KK} {Q : RR → Mem → KK → Prop} (hK : K.1 = 922) (hX : FX M) (k1 : isO 922 l1 0 = true) (k2 : isO 922 l2 3 = true) (h : ((99 : Int) < l7 → Wp (d + 1) 48 47 [vR 143, vR l1, vR l2, vI l3, vI l4, vI l5, vI l6, vI (0 : Int)] [] (mset M 143 3 (1 : Int)) K Q) ∧ (¬ ((99 : Int) < l7) → ∃ b3 : Nat, (M 143 0) = (b3 : Int) ∧ isO 922 b3 22 = true ∧ ln b3 = 100 ∧ (0 ≤ l3 ∧ l3 < (6 : Int)) ∧ (¬ l7 = (M (l2 + 1) (Int.toNat l3)) → (0 ≤ l7 ∧ l7 < (100 : Int)) ∧ Wp (d + 1) 48 3 [vR 143, vR l1, vR l2, vI l3, vI l4, vI l5, vI l6, vI (w32 (l7 + 1))] [] (mset M b3 (Int.toNat l7) (0 : Int)) K Q) ∧ (l7 = (M (l2 + 1) (Int.toNat l3)) → (0 ≤ l7 ∧ l7 < (100 : Int)) ∧ Wp (d + 1) 48 3 [vR 143, vR l1, vR l2, vI l3, vI l4, vI l5, vI l6, vI (w32 (l7 + 1))] [] (mset M b3 (Int.toNat l7) (1 : Int)) K Q))) : Wp (d + 1) 48 3 [vR 143, vR l1, vR l2, vI l3, vI l4, vI l5, vI l6, vI l7] [] M K Q := by
  refine r_iload c48_3 rfl ?_
  refine r_bipush c48_5 ?_
  refine r_icmpP (P := (99 : Int) < l7) c48_7 rfl (fun hc1 => ?_) (fun hc1 => ?_)
  · replace h := h.1 hc1
    refine r_aload_n c48_39 rfl ?_
    refine r_lconst c48_40 ?_
    refine r_putL c48_41 (oK hK o143) ?_
    have x2 := FX.set (v := (1 : Int)) (a := 143) (k := 3) hX (by decide +kernel)
    refine r_iconst c48_44 ?_
    refine r_istore c48_45 (Nat.le_of_ble_eq_true rfl) ?_
    exact h
  · replace h := h.2 hc1
    refine r_aload_n c48_10 rfl ?_
    obtain ⟨b3, h⟩ := h
    obtain ⟨e4, h⟩ := h
    obtain ⟨k5, h⟩ := h
    obtain ⟨z6, h⟩ := h
    refine r_getR c48_11 (oK hK o143) e4 (by have := (isO_d k5).1; omega) ?_
    refine r_iload c48_14 rfl ?_
    refine r_iload c48_16 rfl ?_
    refine r_aload_n c48_18 rfl ?_
    refine r_getR c48_19 (oK hK k2) (fx3_0 hX k2) (by omega) ?_
    refine r_iload_n c48_22 rfl ?_
    obtain ⟨s7, h⟩ := h
    refine r_iae c48_23 (oK hK (q3_0 k2)) (bd (z3_0 k2) s7) rfl ?_
    refine r_icmpP (P := ¬ l7 = (M (l2 + 1) (Int.toNat l3))) c48_24 rfl (fun hc8 => ?_) (fun hc8 => ?_)
    · replace h := h.1 hc8
      refine r_lconst c48_31 ?_
      obtain ⟨s10, h⟩ := h
      refine r_las c48_32 (oK hK k5) (bd z6 s10) ?_
      have x11 := FX.set (v := (0 : Int)) (a := b3) (k := (Int.toNat l7)) hX (nfl k5 _)
      refine r_iinc c48_33 rfl ?_
      refine r_goto c48_36 ?_
      exact h
    · have hc9 := Classical.not_not.mp hc8
      replace h := h.2 hc9
      refine r_lconst c48_27 ?_
      refine r_goto c48_28 ?_
      obtain ⟨s12, h⟩ := h
      refine r_las c48_32 (oK hK k5) (bd z6 s12) ?_
      have x13 := FX.set (v := (1 : Int)) (a := b3) (k := (Int.toNat l7)) hX (nfl k5 _)
      refine r_iinc c48_33 rfl ?_
      refine r_goto c48_36 ?_
      exact h
theorem u48_47 {d : Nat} {l1 : Nat} {l2 : Nat} {l3 : Int} {l4 : Int} {l5 : Int} {l6 : Int} {l7 : Int} {M : Mem} {K : KK} {Q : RR → Mem → KK → Prop} (hK : K.1 = 922) (hX : FX M) (k1 : isO 922 l1 0 = true) (k2 : isO 922 l2 3 = true) (h : (l6 ≤ l7 → ∃ b2 : Nat, (M 143 0) = (b2 : Int) ∧ isO 922 b2 22 = true ∧ ln b2 = 100 ∧ Wp (d + 1) 48 98 [vR 143, vR l1, vR l2, vI l3, vI l4, vI l5, vI l6, vI (0 : Int)] [] (mset M 143 2 (M b2 0)) K Q) ∧ (¬ (l6 ≤ l7) → Wm d 49 [vR 143, vR l1, vR l2, vI l3, vI l7, vI l4, vI l5] M K (Bk d 48 64 67 49 [vR 143, vR l1, vR l2, vI l3, vI l4, vI l5, vI l6, vI l7] [] Q))) : Wp (d + 1) 48 47 [vR 143, vR l1, vR l2, vI l3, vI l4, vI l5, vI l6, vI l7] [] M K Q := by
  refine r_iload c48_47 rfl ?_
  refine r_iload c48_49 rfl ?_
  refine r_icmpP (P := l6 ≤ l7) c48_51 rfl (fun hc1 => ?_) (fun hc1 => ?_)
  · replace h := h.1 hc1
    refine r_aload_n c48_85 rfl ?_
    refine r_aload_n c48_86 rfl ?_
    obtain ⟨b2, h⟩ := h
    obtain ⟨e3, h⟩ := h
    obtain ⟨k4, h⟩ := h
    obtain ⟨z5, h⟩ := h
    refine r_getR c48_87 (oK hK o143) e3 (by have := (isO_d k4).1; omega) ?_
    refine r_iconst c48_90 ?_
    refine r_lae c48_91 (oK hK k4) (bd z5 (by decide)) rfl ?_
    refine r_putL c48_92 (oK hK o143) ?_
    have x6 := FX.set (v := (M b2 0)) (a := 143) (k := 2) hX (by decide +kernel)
    refine r_iconst c48_95 ?_
    refine r_istore c48_96 (Nat.le_of_ble_eq_true rfl) ?_
    exact h
  · replace h := h.2 hc1
    refine r_aload_n c48_54 rfl ?_
    refine r_aload_n c48_55 rfl ?_
    refine r_aload_n c48_56 rfl ?_
    refine r_iload_n c48_57 rfl ?_
    refine r_iload c48_58 rfl ?_
    refine r_iload c48_60 rfl ?_
    refine r_iload c48_62 rfl ?_
    exact r_call c48_64 rfl rfl (Nat.le_of_ble_eq_true rfl) (okc_r rfl rfl (oK hK o143)) h
theorem u48_67 {d : Nat} {l1 : Nat} {l2 : Nat} {l3 : Int} {l4 : Int} {l5 : Int} {l6 : Int} {l7 : Int} {M : Mem} {K : KK} {Q : RR → Mem → KK → Prop} (hK : K.1 = 922) (hX : FX M) (k1 : isO 922 l1 0 = true) (k2 : isO 922 l2 3 = true) (h : Wp (d + 1) 48 47 [vR 143, vR l1, vR l2, vI l3, vI l4, vI l5, vI l6, vI (w32 (l7 + 1))] [] (mset M 143 3 (w64 ((M 143 3) * (16 : Int)))) K Q) : Wp (d + 1) 48 67 [vR 143, vR l1, vR l2, vI l3, vI l4, vI l5, vI l6, vI l7] [] M K Q := by
  refine r_aload_n c48_67 rfl ?_
  refine r_dupr c48_68 ?_
  refine r_getLe c48_69 (oK hK o143) rfl ?_
  refine r_ldc2 c48_72 ?_
  refine r_lmul c48_75 ?_
  refine r_putL c48_76 (oK hK o143) ?_
  have x1 := FX.set (v := (w64 ((M 143 3) * (16 : Int)))) (a := 143) (k := 3) hX (by decide +kernel)
  refine r_iinc c48_79 rfl ?_
  refine r_goto c48_82 ?_
  exact h
theorem u48_98 {d : Nat} {l1 : Nat} {l2 : Nat} {l3 : Int} {l4 : Int} {l5 : Int} {l6 : Int} {l7 : Int} {M : Mem} {K : KK} {Q : RR → Mem → KK → Prop} (hK : K.1 = 922) (hX : FX M) (k1 : isO 922 l1 0 = true) (k2 : isO 922 l2 3 = true) (h : ((w32 ((4 : Int) * l6)) ≤ l7 → Q (.inl none) M K) ∧ (¬ ((w32 ((4 : Int) * l6)) ≤ l7) → (¬ (jcmp (Int.tmod (M 143 2) (2 : Int)) (0 : Int)) = (0 : Int) → Q (.inl none) M K) ∧ ((jcmp (Int.tmod (M 143 2) (2 : Int)) (0 : Int)) = (0 : Int) → Wp (d + 1) 48 98 [vR 143, vR l1, vR l2, vI l3, vI l4, vI l5, vI l6, vI (w32 (l7 + 1))] [] (mset (mset M 143 2 (w64 (Int.tdiv (M 143 2) (2 : Int)))) 143 3 (w64 (Int.tdiv (M 143 3) (2 : Int)))) K Q))) : Wp (d + 1) 48 98 [vR 143, vR l1, vR l2, vI l3, vI l4, vI l5, vI l6, vI l7] [] M K Q := by
  refine r_iload c48_98 rfl ?_
  refine r_iconst c48_100 ?_
  refine r_iload c48_101 rfl ?_
  refine r_imul c48_103 ?_
  refine r_icmpP (P := (w32 ((4 : Int) * l6)) ≤ l7) c48_104 rfl (fun hc1 => ?_) (fun hc1 => ?_)
  · replace h := h.1 hc1
    exact r_ret c48_150 h
  · replace h := h.2 hc1
    refine r_aload_n c48_107 rfl ?_
    refine r_getLe c48_108 (oK hK o143) rfl ?_
    refine r_ldc2 c48_111 ?_
    refine r_lrem c48_114 (by decide) ?_
    refine r_lconst c48_115 ?_
    refine r_lcmp c48_116 ?_
    refine r_ifP (P := ¬ (jcmp (Int.tmod (M 143 2) (2 : Int)) (0 : Int)) = (0 : Int)) c48_117 rfl (fun hc2 => ?_) (fun hc2 => ?_)
    · replace h := h.1 hc2
      exact r_ret c48_150 h
    · have hc3 := Classical.not_not.mp hc2
      replace h := h.2 hc3
      refine r_aload_n c48_120 rfl ?_
      refine r_dupr c48_121 ?_
      refine r_getLe c48_122 (oK hK o143) rfl ?_
      refine r_ldc2 c48_125 ?_
      refine r_ldiv c48_128 (by decide) ?_
      refine r_putL c48_129 (oK hK o143) ?_
      have x4 := FX.set (v := (w64 (Int.tdiv (M 143 2) (2 : Int)))) (a := 143) (k := 2) hX (by decide +kernel)
      refine r_aload_n c48_132 rfl ?_
      refine r_dupr c48_133 ?_
      refine r_getLe c48_134 (oK hK o143) (ms_nk (by decide)) ?_
      refine r_ldc2 c48_137 ?_
      refine r_ldiv c48_140 (by decide) ?_
      refine r_putL c48_141 (oK hK o143) ?_
      have x5 := FX.set (v := (w64 (Int.tdiv (M 143 3) (2 : Int)))) (a := 143) (k := 3) x4 (by decide +kernel)
      refine r_iinc c48_144 rfl ?_
      refine r_goto c48_147 ?_
      exact h
theorem u226_0 {d : Nat} {l1 : Nat} {l2 : Int} {l3 : Int} {l4 : Int} {l5 : Int} {l6 : Int} {l7 : Int} {l8 : Int} {l9 : Int} {M : Mem} {K : KK} {Q : RR → Mem → KK → Prop} (hK : K.1 = 922) (hX : FX M)  (h : (¬ l5 = (0 : Int) → isO 922 l1 20 = true ∧ (0 ≤ (w32 ((0 : Int) + l2)) ∧ (w32 ((0 : Int) + l2)) < (ln l1 : Int)) ∧ ∃ c5 : Mem, ∃ L6 : LC, ∃ p7 : Nat, (l2 = (p7 : Int) ∧ MCc M c5 ∧ CW c5 ∧ LM M L6 ∧ p7 < nSt c5 ∧ 0 ≤ (M l1 (Int.toNat (w32 ((0 : Int) + l2)))) ∧ (M l1 (Int.toNat (w32 ((0 : Int) + l2)))) + c5 2 p7 ≤ c5 0 0) ∧ (∀ (M11 : Mem), FX M11 → FrV M M11 → (0 ≤ (w32 ((0 : Int) + l2)) ∧ (w32 ((0 : Int) + l2)) < (ln l1 : Int)) ∧ ∃ c13 : Mem, ∃ L14 : LC, ∃ p15 : Nat, (l2 = (p15 : Int) ∧ MCc M11 c13 ∧ CW c13 ∧ LM M11 L14 ∧ p15 < nSt c13 ∧ 0 ≤ (M11 l1 (Int.toNat (w32 ((0 : Int) + l2)))) ∧ (M11 l1 (Int.toNat (w32 ((0 : Int) + l2)))) + c13 2 p15 ≤ c13 0 0) ∧ (∀ (M19 : Mem), FX M19 → FrV M11 M19 → Wm (d + 3) 226 [vR 439, vR l1, vI l2, vI l3, vI l4, vI (w32 (l5 - (1 : Int))), vI (max (0 : Int) (w32 (l6 - (whB c13 L14 p15 (M11 l1 (Int.toNat (w32 ((0 : Int) + l2)))) l6 l4 l8 l9 l7)))), vI (w32 (l7 + (1 : Int))), vI (0 : Int), vI (0 : Int)] M19 K (Bk (d + 3) 226 93 96 226 [vR 439, vR l1, vI l2, vI l3, vI l4, vI l5, vI l6, vI l7, vI l8, vI l9, vI (max (0 : Int) (w32 (l6 - (whB c5 L6 p7 (M l1 (Int.toNat (w32 ((0 : Int) + l2)))) l6 (0 : Int) l8 l9 l7)))), vI (max (0 : Int) (w32 (l6 - (whB c13 L14 p15 (M11 l1 (Int.toNat (w32 ((0 : Int) + l2)))) l6 l4 l8 l9 l7))))] [vL l3] Q)))) ∧ (l5 = (0 : Int) → (¬ l6 = (0 : Int) → Q (.inl (some (vL (0 : Int)))) M K) ∧ (l6 = (0 : Int) → Q (.inl (some (vL (1 : Int)))) M K))) : Wp (d + 4) 226 0 [vR 439, vR l1, vI l2, vI l3, vI l4, vI l5, vI l6, vI l7, vI l8, vI l9, vU, vU] [] M K Q := by
  refine r_iload c226_0 rfl ?_
  refine r_ifP (P := ¬ l5 = (0 : Int)) c226_2 rfl (fun hc1 => ?_) (fun hc1 => ?_)
  · replace h := h.1 hc1
    refine r_iconst c226_16 ?_
    refine r_iload c226_17 rfl ?_
    refine r_aload_n c226_19 rfl ?_
    refine r_iload_n c226_20 rfl ?_
    refine r_aload_n c226_21 rfl ?_
    refine r_iconst c226_22 ?_
    refine r_iload_n c226_23 rfl ?_
    refine r_iadd c226_24 ?_
    obtain ⟨o3, h⟩ := h
    obtain ⟨s4, h⟩ := h
    refine r_iae c226_25 (oK hK o3) s4 rfl ?_
    refine r_iload c226_26 rfl ?_
    refine r_iconst c226_28 ?_
    refine r_iload c226_29 rfl ?_
    refine r_iload c226_31 rfl ?_
    refine r_iload c226_33 rfl ?_
    obtain ⟨c5, h⟩ := h
    obtain ⟨L6, h⟩ := h
    obtain ⟨p7, h⟩ := h
    obtain ⟨p8, h⟩ := h
    refine r_call c226_35 rfl rfl (Nat.le_of_ble_eq_true rfl) (okc_r rfl rfl (oK hK o439)) (g194 hK hX p8 (fun M11 x9 p10 => Bk_v ?_))
    replace h := h M11 x9 p10
    refine r_isub c226_38 ?_
    refine r_call c226_39 rfl rfl (Nat.le_of_ble_eq_true rfl) (okc_s rfl rfl rfl) (g155 hK x9  (Bk_v ?_))
    refine r_istore c226_42 (Nat.le_of_ble_eq_true rfl) ?_
    refine r_iconst c226_44 ?_
    refine r_iload c226_45 rfl ?_
    refine r_aload_n c226_47 rfl ?_
    refine r_iload_n c226_48 rfl ?_
    refine r_aload_n c226_49 rfl ?_
    refine r_iconst c226_50 ?_
    refine r_iload_n c226_51 rfl ?_
    refine r_iadd c226_52 ?_
    obtain ⟨s12, h⟩ := h
    refine r_iae c226_53 (oK hK o3) s12 rfl ?_
    refine r_iload c226_54 rfl ?_
    refine r_iload c226_56 rfl ?_
    refine r_iload c226_58 rfl ?_
    refine r_iload c226_60 rfl ?_
    refine r_iload c226_62 rfl ?_
    obtain ⟨c13, h⟩ := h
    obtain ⟨L14, h⟩ := h
    obtain ⟨p15, h⟩ := h
    obtain ⟨p16, h⟩ := h
    refine r_call c226_64 rfl rfl (Nat.le_of_ble_eq_true rfl) (okc_r rfl rfl (oK hK o439)) (g194 hK x9 p16 (fun M19 x17 p18 => Bk_v ?_))
    replace h := h M19 x17 p18
    refine r_isub c226_67 ?_
    refine r_call c226_68 rfl rfl (Nat.le_of_ble_eq_true rfl) (okc_s rfl rfl rfl) (g155 hK x17  (Bk_v ?_))
    refine r_istore c226_71 (Nat.le_of_ble_eq_true rfl) ?_
    refine r_iload_n c226_73 rfl ?_
    refine r_i2l c226_74 ?_
    refine r_aload_n c226_75 rfl ?_
    refine r_aload_n c226_76 rfl ?_
    refine r_iload_n c226_77 rfl ?_
    refine r_iload_n c226_78 rfl ?_
    refine r_iload c226_79 rfl ?_
    refine r_iload c226_81 rfl ?_
    refine r_iconst c226_83 ?_
    refine r_isub c226_84 ?_
    refine r_iload c226_85 rfl ?_
    refine r_iload c226_87 rfl ?_
    refine r_iconst c226_89 ?_
    refine r_iadd c226_90 ?_
    refine r_iconst c226_91 ?_
    refine r_iconst c226_92 ?_
    exact r_call c226_93 rfl rfl (Nat.le_of_ble_eq_true rfl) (okc_r rfl rfl (oK hK o439)) h
  · have hc2 := Classical.not_not.mp hc1
    replace h := h.2 hc2
    refine r_iload c226_5 rfl ?_
    refine r_ifP (P := ¬ l6 = (0 : Int)) c226_7 rfl (fun hc20 => ?_) (fun hc20 => ?_)
    · replace h := h.1 hc20
      refine r_lconst c226_14 ?_
      exact r_lret c226_15 h
    · have hc21 := Classical.not_not.mp hc20
      replace h := h.2 hc21
      refine r_lconst c226_10 ?_
      refine r_goto c226_11 ?_
      exact r_lret c226_15 h
theorem u226_96 {d : Nat} {l1 : Nat} {l2 : Int} {l3 : Int} {l4 : Int} {l5 : Int} {l6 : Int} {l7 : Int} {l8 : Int} {l9 : Int} {l10 : Int} {l11 : Int} {t0 : Int} {t1 : Int} {M : Mem} {K : KK} {Q : RR → Mem → KK → Prop} (hK : K.1 = 922) (hX : FX M)  (h : Wm (d + 3) 226 [vR 439, vR l1, vI l2, vI l3, vI l4, vI (w32 (l5 - (1 : Int))), vI l10, vI (w32 (l7 + (1 : Int))), vI (0 : Int), vI (0 : Int)] M K (Bk (d + 3) 226 120 123 226 [vR 439, vR l1, vI l2, vI l3, vI l4, vI l5, vI l6, vI l7, vI l8, vI l9, vI l10, vI l11] [vL (w32 ((16 : Int) - l3)), vL (w64 (t0 * t1))] Q)) : Wp (d + 4) 226 96 [vR 439, vR l1, vI l2, vI l3, vI l4, vI l5, vI l6, vI l7, vI l8, vI l9, vI l10, vI l11] [vL t1, vL t0] M K Q := by
  refine r_lmul c226_96 ?_
  refine r_bipush c226_97 ?_
  refine r_iload_n c226_99 rfl ?_
  refine r_isub c226_100 ?_
  refine r_i2l c226_101 ?_
  refine r_aload_n c226_102 rfl ?_
  refine r_aload_n c226_103 rfl ?_
  refine r_iload_n c226_104 rfl ?_
  refine r_iload_n c226_105 rfl ?_
  refine r_iload c226_106 rfl ?_
  refine r_iload c226_108 rfl ?_
  refine r_iconst c226_110 ?_
  refine r_isub c226_111 ?_
  refine r_iload c226_112 rfl ?_
  refine r_iload c226_114 rfl ?_
  refine r_iconst c226_116 ?_
  refine r_iadd c226_117 ?_
  refine r_iconst c226_118 ?_
  refine r_iconst c226_119 ?_
  exact r_call c226_120 rfl rfl (Nat.le_of_ble_eq_true rfl) (okc_r rfl rfl (oK hK o439)) h
theorem u226_123 {d : Nat} {l1 : Nat} {l2 : Int} {l3 : Int} {l4 : Int} {l5 : Int} {l6 : Int} {l7 : Int} {l8 : Int} {l9 : Int} {l10 : Int} {l11 : Int} {t0 : Int} {t1 : Int} {t2 : Int} {M : Mem} {K : KK} {Q : RR → Mem → KK → Prop} (hK : K.1 = 922) (hX : FX M)  (h : Q (.inl (some (vL (w64 (t0 + (w64 (t1 * t2))))))) M K) : Wp (d + 4) 226 123 [vR 439, vR l1, vI l2, vI l3, vI l4, vI l5, vI l6, vI l7, vI l8, vI l9, vI l10, vI l11] [vL t2, vL t1, vL t0] M K Q := by
  refine r_lmul c226_123 ?_
  refine r_ladd c226_124 ?_
  exact r_lret c226_125 h
theorem u227_0 {d : Nat} {l1 : Int} {l2 : Int} {l3 : Int} {l4 : Int} {l5 : Int} {M : Mem} {K : KK} {Q : RR → Mem → KK → Prop} (hK : K.1 = 922) (hX : FX M)  (h : Wm d 208 [vR 439, vI l1] (mset M 439 0 (0 : Int)) K (Bk d 227 8 11 208 [vR 439, vI l1, vI l2, vI l3, vI l4, vI l5, vU, vU, vU, vU, vU, vU, vU, vU, vU, vU] [vR 439] Q)) : Wp (d + 1) 227 0 [vR 439, vI l1, vI l2, vI l3, vI l4, vI l5, vU, vU, vU, vU, vU, vU, vU, vU, vU, vU] [] M K Q := by
  refine r_aload_n c227_0 rfl ?_
  refine r_iconst c227_1 ?_
  refine r_putI c227_2 (oK hK o439) ?_
  have x1 := FX.set (v := (0 : Int)) (a := 439) (k := 0) hX (by decide +kernel)
  refine r_aload_n c227_5 rfl ?_
  refine r_aload_n c227_6 rfl ?_
  refine r_iload_n c227_7 rfl ?_
  exact r_call c227_8 rfl rfl (Nat.le_of_ble_eq_true rfl) (okc_r rfl rfl (oK hK o439)) h
theorem u227_11 {d : Nat} {l1 : Int} {l2 : Int} {l3 : Int} {l4 : Int} {l5 : Int} {t1 : Int} {M : Mem} {K : KK} {Q : RR → Mem → KK → Prop} (hK : K.1 = 922) (hX : FX M)  (h : (¬ t1 = (0 : Int) → Wm d 152 [vR 439, vI (0 : Int), vI (1 : Int), vI (0 : Int)] M K (Bk d 227 21 24 152 [vR 439, vI l1, vI l2, vI l3, vI l4, vI l5, vU, vU, vU, vU, vU, vU, vU, vU, vU, vU] [] Q)) ∧ (t1 = (0 : Int) → Wm d 152 [vR 439, vI (1 : Int), vI (1 : Int), vI (0 : Int)] M K (Bk d 227 21 24 152 [vR 439, vI l1, vI l2, vI l3, vI l4, vI l5, vU, vU, vU, vU, vU, vU, vU, vU, vU, vU] [] Q))) : Wp (d + 1) 227 11 [vR 439, vI l1, vI l2, vI l3, vI l4, vI l5, vU, vU, vU, vU, vU, vU, vU, vU, vU, vU] [vI t1, vR 439] M K Q := by
  refine r_ifP (P := ¬ t1 = (0 : Int)) c227_11 rfl (fun hc1 => ?_) (fun hc1 => ?_)
  · replace h := h.1 hc1
    refine r_iconst c227_18 ?_
    refine r_iconst c227_19 ?_
    refine r_iconst c227_20 ?_
    exact r_call c227_21 rfl rfl (Nat.le_of_ble_eq_true rfl) (okc_r rfl rfl (oK hK o439)) h
  · have hc2 := Classical.not_not.mp hc1
    replace h := h.2 hc2
    refine r_iconst c227_14 ?_
    refine r_goto c227_15 ?_
    refine r_iconst c227_19 ?_
    refine r_iconst c227_20 ?_
    exact r_call c227_21 rfl rfl (Nat.le_of_ble_eq_true rfl) (okc_r rfl rfl (oK hK o439)) h
theorem u227_24 {d : Nat} {l1 : Int} {l2 : Int} {l3 : Int} {l4 : Int} {l5 : Int} {t0 : Int} {M : Mem} {K : KK} {Q : RR → Mem → KK → Prop} (hK : K.1 = 922) (hX : FX M)  (h : (¬ t0 = (0 : Int) → Q (.inl (some (vL (0 : Int)))) M K) ∧ (t0 = (0 : Int) → (¬ ((0 : Int) ≤ l2 ∧ l2 ≤ (16 : Int)) → Wm d 152 [vR 439, vI (1 : Int), vI (2 : Int), vI (1 : Int)] M K (Bk d 227 76 79 152 [vR 439, vI l1, vI l2, vI l3, vI l4, vI l5, vU, vU, vU, vU, vU, vU, vU, vU, vU, vU] [] Q)) ∧ (((0 : Int) ≤ l2 ∧ l2 ≤ (16 : Int)) → (¬ ((0 : Int) ≤ l3 ∧ l3 ≤ (9 : Int)) → Wm d 152 [vR 439, vI (1 : Int), vI (2 : Int), vI (1 : Int)] M K (Bk d 227 76 79 152 [vR 439, vI l1, vI l2, vI l3, vI l4, vI l5, vU, vU, vU, vU, vU, vU, vU, vU, vU, vU] [] Q)) ∧ (((0 : Int) ≤ l3 ∧ l3 ≤ (9 : Int)) → (¬ ((0 : Int) ≤ l4 ∧ l4 ≤ (8 : Int)) → Wm d 152 [vR 439, vI (1 : Int), vI (2 : Int), vI (1 : Int)] M K (Bk d 227 76 79 152 [vR 439, vI l1, vI l2, vI l3, vI l4, vI l5, vU, vU, vU, vU, vU, vU, vU, vU, vU, vU] [] Q)) ∧ (((0 : Int) ≤ l4 ∧ l4 ≤ (8 : Int)) → (((0 : Int) ≤ l5 ∧ l5 ≤ (1 : Int)) → Wm d 152 [vR 439, vI (0 : Int), vI (2 : Int), vI (1 : Int)] M K (Bk d 227 76 79 152 [vR 439, vI l1, vI l2, vI l3, vI l4, vI l5, vU, vU, vU, vU, vU, vU, vU, vU, vU, vU] [] Q)) ∧ (¬ ((0 : Int) ≤ l5 ∧ l5 ≤ (1 : Int)) → Wm d 152 [vR 439, vI (1 : Int), vI (2 : Int), vI (1 : Int)] M K (Bk d 227 76 79 152 [vR 439, vI l1, vI l2, vI l3, vI l4, vI l5, vU, vU, vU, vU, vU, vU, vU, vU, vU, vU] [] Q))))))) : Wp (d + 1) 227 24 [vR 439, vI l1, vI l2, vI l3, vI l4, vI l5, vU, vU, vU, vU, vU, vU, vU, vU, vU, vU] [vI t0] M K Q := by
  refine r_ifP (P := ¬ t0 = (0 : Int)) c227_24 rfl (fun hc1 => ?_) (fun hc1 => ?_)
  · replace h := h.1 hc1
    refine r_lconst c227_82 ?_
    exact r_lret c227_83 h
  · have hc2 := Classical.not_not.mp hc1
    replace h := h.2 hc2
    refine r_aload_n c227_27 rfl ?_
    refine r_iload_n c227_28 rfl ?_
    refine r_iconst c227_29 ?_
    refine r_bipush c227_30 ?_
    refine r_call c227_32 rfl rfl (Nat.le_of_ble_eq_true rfl) (okc_s rfl rfl rfl) (g153 hK hX  (Bk_v ?_))
    refine r_ifP (P := ¬ ((0 : Int) ≤ l2 ∧ l2 ≤ (16 : Int))) c227_35 bI_eq (fun hc3 => ?_) (fun hc3 => ?_)
    · replace h := h.1 hc3
      refine r_iconst c227_69 ?_
      refine r_goto c227_70 ?_
      refine r_iconst c227_74 ?_
      refine r_iconst c227_75 ?_
      exact r_call c227_76 rfl rfl (Nat.le_of_ble_eq_true rfl) (okc_r rfl rfl (oK hK o439)) h
    · have hc4 := Classical.not_not.mp hc3
      replace h := h.2 hc4
      refine r_iload_n c227_38 rfl ?_
      refine r_iconst c227_39 ?_
      refine r_bipush c227_40 ?_
      refine r_call c227_42 rfl rfl (Nat.le_of_ble_eq_true rfl) (okc_s rfl rfl rfl) (g153 hK hX  (Bk_v ?_))
      refine r_ifP (P := ¬ ((0 : Int) ≤ l3 ∧ l3 ≤ (9 : Int))) c227_45 bI_eq (fun hc5 => ?_) (fun hc5 => ?_)
      · replace h := h.1 hc5
        refine r_iconst c227_69 ?_
        refine r_goto c227_70 ?_
        refine r_iconst c227_74 ?_
        refine r_iconst c227_75 ?_
        exact r_call c227_76 rfl rfl (Nat.le_of_ble_eq_true rfl) (okc_r rfl rfl (oK hK o439)) h
      · have hc6 := Classical.not_not.mp hc5
        replace h := h.2 hc6
        refine r_iload c227_48 rfl ?_
        refine r_iconst c227_50 ?_
        refine r_bipush c227_51 ?_
        refine r_call c227_53 rfl rfl (Nat.le_of_ble_eq_true rfl) (okc_s rfl rfl rfl) (g153 hK hX  (Bk_v ?_))
        refine r_ifP (P := ¬ ((0 : Int) ≤ l4 ∧ l4 ≤ (8 : Int))) c227_56 bI_eq (fun hc7 => ?_) (fun hc7 => ?_)
        · replace h := h.1 hc7
          refine r_iconst c227_69 ?_
          refine r_goto c227_70 ?_
          refine r_iconst c227_74 ?_
          refine r_iconst c227_75 ?_
          exact r_call c227_76 rfl rfl (Nat.le_of_ble_eq_true rfl) (okc_r rfl rfl (oK hK o439)) h
        · have hc8 := Classical.not_not.mp hc7
          replace h := h.2 hc8
          refine r_iload c227_59 rfl ?_
          refine r_iconst c227_61 ?_
          refine r_iconst c227_62 ?_
          refine r_call c227_63 rfl rfl (Nat.le_of_ble_eq_true rfl) (okc_s rfl rfl rfl) (g153 hK hX  (Bk_v ?_))
          refine r_ifP (P := ((0 : Int) ≤ l5 ∧ l5 ≤ (1 : Int))) c227_66 bI_ne (fun hc9 => ?_) (fun hc9 => ?_)
          · replace h := h.1 hc9
            refine r_iconst c227_73 ?_
            refine r_iconst c227_74 ?_
            refine r_iconst c227_75 ?_
            exact r_call c227_76 rfl rfl (Nat.le_of_ble_eq_true rfl) (okc_r rfl rfl (oK hK o439)) h
          · replace h := h.2 hc9
            refine r_iconst c227_69 ?_
            refine r_goto c227_70 ?_
            refine r_iconst c227_74 ?_
            refine r_iconst c227_75 ?_
            exact r_call c227_76 rfl rfl (Nat.le_of_ble_eq_true rfl) (okc_r rfl rfl (oK hK o439)) h
theorem u227_79 {d : Nat} {l1 : Int} {l2 : Int} {l3 : Int} {l4 : Int} {l5 : Int} {t0 : Int} {M : Mem} {K : KK} {Q : RR → Mem → KK → Prop} (hK : K.1 = 922) (hX : FX M)  (h : (t0 = (0 : Int) → (0 ≤ (w32 ((0 : Int) + l1)) ∧ (w32 ((0 : Int) + l1)) < (27 : Int)) ∧ (¬ (M 887 (Int.toNat (w32 ((0 : Int) + l1)))) = (-1 : Int) → (0 ≤ (w32 ((6 : Int) + l1)) ∧ (w32 ((6 : Int) + l1)) < (27 : Int)) ∧ (0 ≤ (w32 ((12 : Int) + l1)) ∧ (w32 ((12 : Int) + l1)) < (27 : Int)) ∧ (0 ≤ (w32 ((18 : Int) + l1)) ∧ (w32 ((18 : Int) + l1)) < (27 : Int)) ∧ Wm d 226 [vR 439, vR 887, vI l1, vI l2, vI l3, vI l4, vI (M 887 (Int.toNat (w32 ((6 : Int) + l1)))), vI (M 887 24), vI (M 887 (Int.toNat (w32 ((12 : Int) + l1)))), vI (M 887 (Int.toNat (w32 ((18 : Int) + l1))))] M K (Bk d 227 169 172 226 [vR 439, vI l1, vI l2, vI l3, vI l4, vI l5, vL (jlshl (1 : Int) (w32 ((4 : Int) * l4))), vU, vU, vU, vU, vU, vU, vU, vU, vU] [] Q)) ∧ ((M 887 (Int.toNat (w32 ((0 : Int) + l1)))) = (-1 : Int) → (0 ≤ (w32 ((6 : Int) + l1)) ∧ (w32 ((6 : Int) + l1)) < (27 : Int)) ∧ (¬ (M 887 (Int.toNat (w32 ((6 : Int) + l1)))) = (0 : Int) → Wp (d + 1) 227 172 [vR 439, vI l1, vI l2, vI l3, vI l4, vI l5, vL (jlshl (1 : Int) (w32 ((4 : Int) * l4))), vU, vU, vU, vU, vU, vU, vU, vU, vU] [vL (0 : Int)] M K Q) ∧ ((M 887 (Int.toNat (w32 ((6 : Int) + l1)))) = (0 : Int) → Wp (d + 1) 227 172 [vR 439, vI l1, vI l2, vI l3, vI l4, vI l5, vL (jlshl (1 : Int) (w32 ((4 : Int) * l4))), vU, vU, vU, vU, vU, vU, vU, vU, vU] [vL (jlshl (1 : Int) (w32 ((4 : Int) * l4)))] M K Q))) ∧ (¬ (t0 = (0 : Int)) → Q (.inl (some (vL (0 : Int)))) M K)) : Wp (d + 1) 227 79 [vR 439, vI l1, vI l2, vI l3, vI l4, vI l5, vU, vU, vU, vU, vU, vU, vU, vU, vU, vU] [vI t0] M K Q := by
  refine r_ifP (P := t0 = (0 : Int)) c227_79 rfl (fun hc1 => ?_) (fun hc1 => ?_)
  · replace h := h.1 hc1
    refine r_lconst c227_84 ?_
    refine r_iconst c227_85 ?_
    refine r_iload c227_86 rfl ?_
    refine r_imul c227_88 ?_
    refine r_lshl c227_89 ?_
    refine r_lstore c227_90 (Nat.le_of_ble_eq_true rfl) ?_
    refine r_aload_n c227_92 rfl ?_
    refine r_getR c227_93 (oK hK o439) (FX.get (b := 887) hX (by decide) (by decide +kernel) (by decide)) (by decide) ?_
    refine r_iconst c227_96 ?_
    refine r_iload_n c227_97 rfl ?_
    refine r_iadd c227_98 ?_
    obtain ⟨s2, h⟩ := h
    refine r_iae c227_99 (oK hK o887) (bd l887 s2) rfl ?_
    refine r_iconst c227_100 ?_
    refine r_icmpP (P := ¬ (M 887 (Int.toNat (w32 ((0 : Int) + l1)))) = (-1 : Int)) c227_101 rfl (fun hc3 => ?_) (fun hc3 => ?_)
    · replace h := h.1 hc3
      refine r_aload_n c227_125 rfl ?_
      refine r_aload_n c227_126 rfl ?_
      refine r_getR c227_127 (oK hK o439) (FX.get (b := 887) hX (by decide) (by decide +kernel) (by decide)) (by decide) ?_
      refine r_iload_n c227_130 rfl ?_
      refine r_iload_n c227_131 rfl ?_
      refine r_iload_n c227_132 rfl ?_
      refine r_iload c227_133 rfl ?_
      refine r_aload_n c227_135 rfl ?_
      refine r_getR c227_136 (oK hK o439) (FX.get (b := 887) hX (by decide) (by decide +kernel) (by decide)) (by decide) ?_
      refine r_bipush c227_139 ?_
      refine r_iload_n c227_141 rfl ?_
      refine r_iadd c227_142 ?_
      obtain ⟨s5, h⟩ := h
      refine r_iae c227_143 (oK hK o887) (bd l887 s5) rfl ?_
      refine r_aload_n c227_144 rfl ?_
      refine r_getR c227_145 (oK hK o439) (FX.get (b := 887) hX (by decide) (by decide +kernel) (by decide)) (by decide) ?_
      refine r_bipush c227_148 ?_
      refine r_iae c227_150 (oK hK o887) (bd l887 (by decide)) rfl ?_
      refine r_aload_n c227_151 rfl ?_
      refine r_getR c227_152 (oK hK o439) (FX.get (b := 887) hX (by decide) (by decide +kernel) (by decide)) (by decide) ?_
      refine r_bipush c227_155 ?_
      refine r_iload_n c227_157 rfl ?_
      refine r_iadd c227_158 ?_
      obtain ⟨s6, h⟩ := h
      refine r_iae c227_159 (oK hK o887) (bd l887 s6) rfl ?_
      refine r_aload_n c227_160 rfl ?_
      refine r_getR c227_161 (oK hK o439) (FX.get (b := 887) hX (by decide) (by decide +kernel) (by decide)) (by decide) ?_
      refine r_bipush c227_164 ?_
      refine r_iload_n c227_166 rfl ?_
      refine r_iadd c227_167 ?_
      obtain ⟨s7, h⟩ := h
      refine r_iae c227_168 (oK hK o887) (bd l887 s7) rfl ?_
      exact r_call c227_169 rfl rfl (Nat.le_of_ble_eq_true rfl) (okc_r rfl rfl (oK hK o439)) h
    · have hc4 := Classical.not_not.mp hc3
      replace h := h.2 hc4
      refine r_aload_n c227_104 rfl ?_
      refine r_getR c227_105 (oK hK o439) (FX.get (b := 887) hX (by decide) (by decide +kernel) (by decide)) (by decide) ?_
      refine r_bipush c227_108 ?_
      refine r_iload_n c227_110 rfl ?_
      refine r_iadd c227_111 ?_
      obtain ⟨s8, h⟩ := h
      refine r_iae c227_112 (oK hK o887) (bd l887 s8) rfl ?_
      refine r_ifP (P := ¬ (M 887 (Int.toNat (w32 ((6 : Int) + l1)))) = (0 : Int)) c227_113 rfl (fun hc9 => ?_) (fun hc9 => ?_)
      · replace h := h.1 hc9
        refine r_lconst c227_121 ?_
        refine r_goto c227_122 ?_
        exact h
      · have hc10 := Classical.not_not.mp hc9
        replace h := h.2 hc10
        refine r_lload c227_116 rfl ?_
        refine r_goto c227_118 ?_
        exact h
  · replace h := h.2 hc1
    refine r_lconst c227_82 ?_
    exact r_lret c227_83 h
theorem u227_172 {d : Nat} {l1 : Int} {l2 : Int} {l3 : Int} {l4 : Int} {l5 : Int} {l6 : Int} {t0 : Int} {M : Mem} {K : KK} {Q : RR → Mem → KK → Prop} (hK : K.1 = 922) (hX : FX M)  (h : Wp (d + 1) 227 182 [vR 439, vI l1, vI l2, vI l3, vI l4, vI l5, vL l6, vU, vL t0, vU, vL l6, vU, vL t0, vU, vU, vU] [] M K Q) : Wp (d + 1) 227 172 [vR 439, vI l1, vI l2, vI l3, vI l4, vI l5, vL l6, vU, vU, vU, vU, vU, vU, vU, vU, vU] [vL t0] M K Q := by
  refine r_lstore c227_172 (Nat.le_of_ble_eq_true rfl) ?_
  refine r_lload c227_174 rfl ?_
  refine r_lstore c227_176 (Nat.le_of_ble_eq_true rfl) ?_
  refine r_lload c227_178 rfl ?_
  refine r_lstore c227_180 (Nat.le_of_ble_eq_true rfl) ?_
  exact h
theorem u227_182 {d : Nat} {l1 : Int} {l2 : Int} {l3 : Int} {l4 : Int} {l5 : Int} {l6 : Int} {l8 : Int} {l10 : Int} {l12 : Int} {l14 : PV} {M : Mem} {K : KK} {Q : RR → Mem → KK → Prop} (hK : K.1 = 922) (hX : FX M)  (h : ((jcmp l12 (0 : Int)) = (0 : Int) → (¬ l5 = (0 : Int) → l10 ≠ 0 ∧ Q (.inl (some (vL (w64 (Int.tdiv l6 l10))))) M K) ∧ (l5 = (0 : Int) → l10 ≠ 0 ∧ Q (.inl (some (vL (w64 (Int.tdiv l8 l10))))) M K)) ∧ (¬ ((jcmp l12 (0 : Int)) = (0 : Int)) → l12 ≠ 0 ∧ Wp (d + 1) 227 182 [vR 439, vI l1, vI l2, vI l3, vI l4, vI l5, vL l6, vU, vL l8, vU, vL l12, vU, vL (Int.tmod l10 l12), vU, vL (Int.tmod l10 l12), vU] [] M K Q)) : Wp (d + 1) 227 182 [vR 439, vI l1, vI l2, vI l3, vI l4, vI l5, vL l6, vU, vL l8, vU, vL l10, vU, vL l12, vU, l14, vU] [] M K Q := by
  refine r_lload c227_182 rfl ?_
  refine r_lconst c227_184 ?_
  refine r_lcmp c227_185 ?_
  refine r_ifP (P := (jcmp l12 (0 : Int)) = (0 : Int)) c227_186 rfl (fun hc1 => ?_) (fun hc1 => ?_)
  · replace h := h.1 hc1
    refine r_iload c227_207 rfl ?_
    refine r_ifP (P := ¬ l5 = (0 : Int)) c227_209 rfl (fun hc2 => ?_) (fun hc2 => ?_)
    · replace h := h.1 hc2
      refine r_lload c227_220 rfl ?_
      refine r_lload c227_222 rfl ?_
      obtain ⟨s4, h⟩ := h
      refine r_ldiv c227_224 s4 ?_
      exact r_lret c227_225 h
    · have hc3 := Classical.not_not.mp hc2
      replace h := h.2 hc3
      refine r_lload c227_212 rfl ?_
      refine r_lload c227_214 rfl ?_
      obtain ⟨s5, h⟩ := h
      refine r_ldiv c227_216 s5 ?_
      refine r_goto c227_217 ?_
      exact r_lret c227_225 h
  · replace h := h.2 hc1
    refine r_lload c227_189 rfl ?_
    refine r_lload c227_191 rfl ?_
    obtain ⟨s6, h⟩ := h
    refine r_lrem c227_193 s6 ?_
    refine r_lstore c227_194 (Nat.le_of_ble_eq_true rfl) ?_
    refine r_lload c227_196 rfl ?_
    refine r_lstore c227_198 (Nat.le_of_ble_eq_true rfl) ?_
    refine r_lload c227_200 rfl ?_
    refine r_lstore c227_202 (Nat.le_of_ble_eq_true rfl) ?_
    refine r_goto c227_204 ?_
    exact h
