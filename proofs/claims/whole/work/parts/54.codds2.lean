theorem u49_0 {d : Nat} {l1 : Nat} {l2 : Nat} {l3 : Int} {l4 : Int} {l5 : Int} {l6 : Int} {M : Mem} {K : KK} {Q : RR → Mem → KK → Prop} (hK : K.1 = 922) (hX : FX M) (k1 : isO 922 l1 0 = true) (k2 : isO 922 l2 3 = true) (h : Wp (d + 3) 49 3 [vR 143, vR l1, vR l2, vI l3, vI l4, vI l5, vI l6, vI (0 : Int), vU, vU] [] M K Q) : Wp (d + 3) 49 0 [vR 143, vR l1, vR l2, vI l3, vI l4, vI l5, vI l6, vU, vU, vU] [] M K Q := by
  refine r_iconst c49_0 ?_
  refine r_istore c49_1 (Nat.le_of_ble_eq_true rfl) ?_
  exact h
theorem u49_3 {d : Nat} {l1 : Nat} {l2 : Nat} {l3 : Int} {l4 : Int} {l5 : Int} {l6 : Int} {l7 : Int} {M : Mem} {K : KK} {Q : RR → Mem → KK → Prop} (hK : K.1 = 922) (hX : FX M) (k1 : isO 922 l1 0 = true) (k2 : isO 922 l2 3 = true) (h : ((99 : Int) < l7 → (0 ≤ l3 ∧ l3 < (6 : Int)) ∧ ((M (l2 + 2) (Int.toNat l3)) = (-1 : Int) → Wp (d + 3) 49 39 [vR 143, vR l1, vR l2, vI l3, vI l4, vI l5, vI l6, vI l7, vU, vU] [vI (0 : Int)] M K Q) ∧ (¬ ((M (l2 + 2) (Int.toNat l3)) = (-1 : Int)) → Wp (d + 3) 49 39 [vR 143, vR l1, vR l2, vI l3, vI l4, vI l5, vI l6, vI l7, vU, vU] [vI (1 : Int)] M K Q)) ∧ (¬ ((99 : Int) < l7) → ∃ b4 : Nat, (M 143 1) = (b4 : Int) ∧ isO 922 b4 22 = true ∧ ln b4 = 100 ∧ (0 ≤ l7 ∧ l7 < (100 : Int)) ∧ Wp (d + 3) 49 3 [vR 143, vR l1, vR l2, vI l3, vI l4, vI l5, vI l6, vI (w32 (l7 + 1)), vU, vU] [] (mset M b4 (Int.toNat l7) (0 : Int)) K Q)) : Wp (d + 3) 49 3 [vR 143, vR l1, vR l2, vI l3, vI l4, vI l5, vI l6, vI l7, vU, vU] [] M K Q := by
  refine r_iload c49_3 rfl ?_
  refine r_bipush c49_5 ?_
  refine r_icmpP (P := (99 : Int) < l7) c49_7 rfl (fun hc1 => ?_) (fun hc1 => ?_)
  · replace h := h.1 hc1
    refine r_aload_n c49_24 rfl ?_
    refine r_getR c49_25 (oK hK k2) (fx3_1 hX k2) (by omega) ?_
    refine r_iload_n c49_28 rfl ?_
    obtain ⟨s2, h⟩ := h
    refine r_iae c49_29 (oK hK (q3_1 k2)) (bd (z3_1 k2) s2) rfl ?_
    refine r_iconst c49_30 ?_
    refine r_icmpP (P := (M (l2 + 2) (Int.toNat l3)) = (-1 : Int)) c49_31 rfl (fun hc3 => ?_) (fun hc3 => ?_)
    · replace h := h.1 hc3
      refine r_iconst c49_38 ?_
      exact h
    · replace h := h.2 hc3
      refine r_iconst c49_34 ?_
      refine r_goto c49_35 ?_
      exact h
  · replace h := h.2 hc1
    refine r_aload_n c49_10 rfl ?_
    obtain ⟨b4, h⟩ := h
    obtain ⟨e5, h⟩ := h
    obtain ⟨k6, h⟩ := h
    obtain ⟨z7, h⟩ := h
    refine r_getR c49_11 (oK hK o143) e5 (by have := (isO_d k6).1; omega) ?_
    refine r_iload c49_14 rfl ?_
    refine r_lconst c49_16 ?_
    obtain ⟨s8, h⟩ := h
    refine r_las c49_17 (oK hK k6) (bd z7 s8) ?_
    have x9 := FX.set (v := (0 : Int)) (a := b4) (k := (Int.toNat l7)) hX (nfl k6 _)
    refine r_iinc c49_18 rfl ?_
    refine r_goto c49_21 ?_
    exact h
theorem u49_39 {d : Nat} {l1 : Nat} {l2 : Nat} {l3 : Int} {l4 : Int} {l5 : Int} {l6 : Int} {l7 : Int} {t0 : Int} {M : Mem} {K : KK} {Q : RR → Mem → KK → Prop} (hK : K.1 = 922) (hX : FX M) (k1 : isO 922 l1 0 = true) (k2 : isO 922 l2 3 = true) (h : (0 ≤ l3 ∧ l3 < (6 : Int)) ∧ ∃ c2 : Mem, ∃ s3 : Mem, ∃ L4 : LC, ∃ la5 : Nat, ∃ p6 : Nat, (l3 = (p6 : Int) ∧ SKc M l1 l2 c2 s3 ∧ LWC M l1 L4 la5 ∧ p6 < nSt c2 ∧ ((M (l2 + 2) (Int.toNat l3)) = -1 ∨ (0 ≤ (M (l2 + 2) (Int.toNat l3)) ∧ (M (l2 + 2) (Int.toNat l3)) + c2 2 p6 ≤ c2 0 0))) ∧ (∀ (M10 : Mem), FX M10 → (Fr1 (la5 + 1) M M10 ∧ ∀ j, j < 8 → M10 (la5 + 1) j = fcts (sunS c2 (M (l2 + 2) (Int.toNat l3)) (c2 2 p6)) (c2 2 p6) (s3 1 p6) (rainS c2 (s3 4 0)) 0 0 (s3 4 0) (M (l2 + 2) (Int.toNat l3)) j) → isO 922 la5 2 = true ∧ (¬ l4 = (0 : Int) → Wp (d + 3) 49 108 [vR 143, vR l1, vR l2, vI l3, vI l4, vI l5, vI l6, vI t0, vR (la5 + 1), vI (0 : Int)] [] (mset (mset (mset M10 (la5 + 1) 6 (w32 ((M10 l2 4) + l4))) (la5 + 1) 4 (0 : Int)) (la5 + 1) 5 (0 : Int)) K Q) ∧ (l4 = (0 : Int) → (0 ≤ l3 ∧ l3 < (6 : Int)) ∧ (0 ≤ l3 ∧ l3 < (6 : Int)) ∧ Wp (d + 3) 49 108 [vR 143, vR l1, vR l2, vI l3, vI l4, vI l5, vI l6, vI t0, vR (la5 + 1), vI (0 : Int)] [] (mset (mset (mset M10 (la5 + 1) 6 (w32 ((M10 l2 4) + l4))) (la5 + 1) 4 (M10 (l2 + 3) (Int.toNat l3))) (la5 + 1) 5 (M10 (l2 + 4) (Int.toNat l3))) K Q))) : Wp (d + 3) 49 39 [vR 143, vR l1, vR l2, vI l3, vI l4, vI l5, vI l6, vI l7, vU, vU] [vI t0] M K Q := by
  refine r_istore c49_39 (Nat.le_of_ble_eq_true rfl) ?_
  refine r_aload_n c49_41 rfl ?_
  refine r_aload_n c49_42 rfl ?_
  refine r_iload_n c49_43 rfl ?_
  refine r_aload_n c49_44 rfl ?_
  refine r_getR c49_45 (oK hK k2) (fx3_1 hX k2) (by omega) ?_
  refine r_iload_n c49_48 rfl ?_
  obtain ⟨s1, h⟩ := h
  refine r_iae c49_49 (oK hK (q3_1 k2)) (bd (z3_1 k2) s1) rfl ?_
  obtain ⟨c2, h⟩ := h
  obtain ⟨s3, h⟩ := h
  obtain ⟨L4, h⟩ := h
  obtain ⟨la5, h⟩ := h
  obtain ⟨p6, h⟩ := h
  obtain ⟨p7, h⟩ := h
  refine r_call c49_50 rfl rfl (Nat.le_of_ble_eq_true rfl) (okc_r rfl rfl (oK hK k2)) (g46 hK hX k2 k1 p7 (fun M10 x8 p9 => Bk_v ?_))
  replace h := h M10 x8 p9
  obtain ⟨kl11, h⟩ := h
  refine r_astore c49_53 (Nat.le_of_ble_eq_true rfl) ?_
  refine r_aload c49_55 rfl ?_
  refine r_bipush c49_57 ?_
  refine r_aload_n c49_59 rfl ?_
  refine r_getIe c49_60 (oK hK k2) rfl ?_
  refine r_iload c49_63 rfl ?_
  refine r_iadd c49_65 ?_
  refine r_ias c49_66 (oK hK (q2_0 kl11)) (bd (z2_0 kl11) (by decide)) ?_
  have x12 := FX.set (v := (w32 ((M10 l2 4) + l4))) (a := (la5 + 1)) (k := 6) x8 (nfa (q2_0 kl11) _)
  refine r_aload c49_67 rfl ?_
  refine r_iconst c49_69 ?_
  refine r_iload c49_70 rfl ?_
  refine r_ifP (P := ¬ l4 = (0 : Int)) c49_72 rfl (fun hc13 => ?_) (fun hc13 => ?_)
  · replace h := h.1 hc13
    refine r_iconst c49_84 ?_
    refine r_ias c49_85 (oK hK (q2_0 kl11)) (bd (z2_0 kl11) (by decide)) ?_
    have x15 := FX.set (v := (0 : Int)) (a := (la5 + 1)) (k := 4) x12 (nfa (q2_0 kl11) _)
    refine r_aload c49_86 rfl ?_
    refine r_iconst c49_88 ?_
    refine r_iload c49_89 rfl ?_
    refine r_ifP (P := ¬ l4 = (0 : Int)) c49_91 rfl (fun hc => ?_) (fun hc => absurd hc13 hc)
    refine r_iconst c49_103 ?_
    refine r_ias c49_104 (oK hK (q2_0 kl11)) (bd (z2_0 kl11) (by decide)) ?_
    have x16 := FX.set (v := (0 : Int)) (a := (la5 + 1)) (k := 5) x15 (nfa (q2_0 kl11) _)
    refine r_iconst c49_105 ?_
    refine r_istore c49_106 (Nat.le_of_ble_eq_true rfl) ?_
    exact h
  · have hc14 := Classical.not_not.mp hc13
    replace h := h.2 hc14
    refine r_aload_n c49_75 rfl ?_
    refine r_getR c49_76 (oK hK k2) (fx3_2 x12 k2) (by omega) ?_
    refine r_iload_n c49_79 rfl ?_
    obtain ⟨s17, h⟩ := h
    refine r_iae c49_80 (oK hK (q3_2 k2)) (bd (z3_2 k2) s17) (ms_na (by have := rg3 k2; have := rg2 kl11; omega)) ?_
    refine r_goto c49_81 ?_
    refine r_ias c49_85 (oK hK (q2_0 kl11)) (bd (z2_0 kl11) (by decide)) ?_
    have x18 := FX.set (v := (M10 (l2 + 3) (Int.toNat l3))) (a := (la5 + 1)) (k := 4) x12 (nfa (q2_0 kl11) _)
    refine r_aload c49_86 rfl ?_
    refine r_iconst c49_88 ?_
    refine r_iload c49_89 rfl ?_
    refine r_ifP (P := ¬ l4 = (0 : Int)) c49_91 rfl (fun hc => absurd hc14 hc) (fun hc => ?_)
    refine r_aload_n c49_94 rfl ?_
    refine r_getR c49_95 (oK hK k2) (fx3_3 x18 k2) (by omega) ?_
    refine r_iload_n c49_98 rfl ?_
    obtain ⟨s19, h⟩ := h
    refine r_iae c49_99 (oK hK (q3_3 k2)) (bd (z3_3 k2) s19) (Eq.trans (ms_na (by have := rg3 k2; have := rg2 kl11; omega)) (ms_na (by have := rg3 k2; have := rg2 kl11; omega))) ?_
    refine r_goto c49_100 ?_
    refine r_ias c49_104 (oK hK (q2_0 kl11)) (bd (z2_0 kl11) (by decide)) ?_
    have x20 := FX.set (v := (M10 (l2 + 4) (Int.toNat l3))) (a := (la5 + 1)) (k := 5) x18 (nfa (q2_0 kl11) _)
    refine r_iconst c49_105 ?_
    refine r_istore c49_106 (Nat.le_of_ble_eq_true rfl) ?_
    exact h
theorem u49_108 {d : Nat} {l1 : Nat} {l2 : Nat} {l3 : Int} {l4 : Int} {l5 : Int} {l6 : Int} {l7 : Int} {l8 : Nat} {l9 : Int} {M : Mem} {K : KK} {Q : RR → Mem → KK → Prop} (hK : K.1 = 922) (hX : FX M) (k1 : isO 922 l1 0 = true) (k2 : isO 922 l2 3 = true) (h : ((99 : Int) < l9 → ∃ b2 : Nat, (M 143 0) = (b2 : Int) ∧ isO 922 b2 22 = true ∧ ln b2 = 100 ∧ ∃ b6 : Nat, (M 143 1) = (b6 : Int) ∧ isO 922 b6 22 = true ∧ ln b6 = 100 ∧ Q (.inl none) (mset (mset M 143 0 ((b6 : Nat) : Int)) 143 1 ((b2 : Nat) : Int)) K) ∧ (¬ ((99 : Int) < l9) → ∃ b12 : Nat, (M 143 0) = (b12 : Int) ∧ isO 922 b12 22 = true ∧ ln b12 = 100 ∧ (0 ≤ l9 ∧ l9 < (100 : Int)) ∧ ((jcmp (M b12 (Int.toNat l9)) (0 : Int)) ≤ (0 : Int) → Wp (d + 3) 49 108 [vR 143, vR l1, vR l2, vI l3, vI l4, vI l5, vI l6, vI l7, vR l8, vI (w32 (l9 + 1))] [] M K Q) ∧ (¬ ((jcmp (M b12 (Int.toNat l9)) (0 : Int)) ≤ (0 : Int)) → ∃ b18 : Nat, (M 143 1) = (b18 : Int) ∧ isO 922 b18 22 = true ∧ ln b18 = 100 ∧ (l7 = (0 : Int) → Wp (d + 3) 49 152 [vR 143, vR l1, vR l2, vI l3, vI l4, vI l5, vI l6, vI l7, vR l8, vI l9] [vI l9, vR b18] M K Q) ∧ (¬ (l7 = (0 : Int)) → ∃ b23 : Nat, (M l1 11) = (b23 : Int) ∧ isO 922 b23 2 = true ∧ ∃ c26 : Mem, ∃ L27 : LC, ∃ p28 : Nat, ∃ x29 : Int, ∃ wet30 : Int, ∃ milk31 : Int, ∃ dy32 : Int, (CR M b23 (eff L27) ∧ Vd (eff L27) 0 1 ∧ FO M b23 c26 p28 x29 wet30 milk31 dy32 ∧ 0 ≤ l9 ∧ l9 ≤ 99) ∧ (∀ (M36 : Mem), FX M36 → FrL2 b23 M M36 → Wp (d + 3) 49 152 [vR 143, vR l1, vR l2, vI l3, vI l4, vI l5, vI l6, vI l7, vR l8, vI l9] [vI (oddT c26 L27 p28 x29 l6 wet30 milk31 dy32 l9), vR b18] M36 K Q))))) : Wp (d + 3) 49 108 [vR 143, vR l1, vR l2, vI l3, vI l4, vI l5, vI l6, vI l7, vR l8, vI l9] [] M K Q := by
  refine r_iload c49_108 rfl ?_
  refine r_bipush c49_110 ?_
  refine r_icmpP (P := (99 : Int) < l9) c49_112 rfl (fun hc1 => ?_) (fun hc1 => ?_)
  · replace h := h.1 hc1
    refine r_aload_n c49_215 rfl ?_
    obtain ⟨b2, h⟩ := h
    obtain ⟨e3, h⟩ := h
    obtain ⟨k4, h⟩ := h
    obtain ⟨z5, h⟩ := h
    refine r_getR c49_216 (oK hK o143) e3 (by have := (isO_d k4).1; omega) ?_
    refine r_astore c49_219 (Nat.le_of_ble_eq_true rfl) ?_
    refine r_aload_n c49_221 rfl ?_
    refine r_aload_n c49_222 rfl ?_
    obtain ⟨b6, h⟩ := h
    obtain ⟨e7, h⟩ := h
    obtain ⟨k8, h⟩ := h
    obtain ⟨z9, h⟩ := h
    refine r_getR c49_223 (oK hK o143) e7 (by have := (isO_d k8).1; omega) ?_
    refine r_putR c49_226 (oK hK o143) (by have := (isO_d k8).1; omega) ?_
    have x10 := FX.set (v := ((b6 : Nat) : Int)) (a := 143) (k := 0) hX (by decide +kernel)
    refine r_aload_n c49_229 rfl ?_
    refine r_aload c49_230 rfl ?_
    refine r_putR c49_232 (oK hK o143) (by have := (isO_d k4).1; omega) ?_
    have x11 := FX.set (v := ((b2 : Nat) : Int)) (a := 143) (k := 1) x10 (by decide +kernel)
    exact r_ret c49_235 h
  · replace h := h.2 hc1
    refine r_aload_n c49_115 rfl ?_
    obtain ⟨b12, h⟩ := h
    obtain ⟨e13, h⟩ := h
    obtain ⟨k14, h⟩ := h
    obtain ⟨z15, h⟩ := h
    refine r_getR c49_116 (oK hK o143) e13 (by have := (isO_d k14).1; omega) ?_
    refine r_iload c49_119 rfl ?_
    obtain ⟨s16, h⟩ := h
    refine r_lae c49_121 (oK hK k14) (bd z15 s16) rfl ?_
    refine r_lconst c49_122 ?_
    refine r_lcmp c49_123 ?_
    refine r_ifP (P := (jcmp (M b12 (Int.toNat l9)) (0 : Int)) ≤ (0 : Int)) c49_124 rfl (fun hc17 => ?_) (fun hc17 => ?_)
    · replace h := h.1 hc17
      refine r_iinc c49_209 rfl ?_
      refine r_goto c49_212 ?_
      exact h
    · replace h := h.2 hc17
      refine r_aload_n c49_127 rfl ?_
      obtain ⟨b18, h⟩ := h
      obtain ⟨e19, h⟩ := h
      obtain ⟨k20, h⟩ := h
      obtain ⟨z21, h⟩ := h
      refine r_getR c49_128 (oK hK o143) e19 (by have := (isO_d k20).1; omega) ?_
      refine r_iload c49_131 rfl ?_
      refine r_ifP (P := l7 = (0 : Int)) c49_133 rfl (fun hc22 => ?_) (fun hc22 => ?_)
      · replace h := h.1 hc22
        refine r_iload c49_150 rfl ?_
        exact h
      · replace h := h.2 hc22
        refine r_aload_n c49_136 rfl ?_
        obtain ⟨b23, h⟩ := h
        obtain ⟨e24, h⟩ := h
        obtain ⟨k25, h⟩ := h
        refine r_getR c49_137 (oK hK k1) e24 (by have := (isO_d k25).1; omega) ?_
        refine r_iload c49_140 rfl ?_
        refine r_iload c49_142 rfl ?_
        obtain ⟨c26, h⟩ := h
        obtain ⟨L27, h⟩ := h
        obtain ⟨p28, h⟩ := h
        obtain ⟨x29, h⟩ := h
        obtain ⟨wet30, h⟩ := h
        obtain ⟨milk31, h⟩ := h
        obtain ⟨dy32, h⟩ := h
        obtain ⟨p33, h⟩ := h
        refine r_call c49_144 rfl rfl (Nat.le_of_ble_eq_true rfl) (okc_s rfl rfl rfl) (g50z hK hX k25 p33 (fun M36 x34 p35 => Bk_v ?_))
        replace h := h M36 x34 p35
        refine r_goto c49_147 ?_
        exact h
theorem u49_152 {d : Nat} {l1 : Nat} {l2 : Nat} {l3 : Int} {l4 : Int} {l5 : Int} {l6 : Int} {l7 : Int} {l8 : Nat} {l9 : Int} {t0 : Nat} {t1 : Int} {M : Mem} {K : KK} {Q : RR → Mem → KK → Prop} (hK : K.1 = 922) (hX : FX M) (k1 : isO 922 l1 0 = true) (k2 : isO 922 l2 3 = true) (h : isO 922 t0 22 = true ∧ (0 ≤ t1 ∧ t1 < (ln t0 : Int)) ∧ ∃ b3 : Nat, (M 143 0) = (b3 : Int) ∧ isO 922 b3 22 = true ∧ ln b3 = 100 ∧ (0 ≤ l9 ∧ l9 < (100 : Int)) ∧ (0 ≤ t1 ∧ t1 < (ln t0 : Int)) ∧ ∃ b10 : Nat, ((mset M t0 (Int.toNat t1) (w64 ((M t0 (Int.toNat t1)) + (w64 ((M b3 (Int.toNat l9)) * l5))))) 143 1) = (b10 : Int) ∧ isO 922 b10 22 = true ∧ ln b10 = 100 ∧ (l7 = (0 : Int) → (0 ≤ l9 ∧ l9 < (100 : Int)) ∧ ∃ b16 : Nat, ((mset M t0 (Int.toNat t1) (w64 ((M t0 (Int.toNat t1)) + (w64 ((M b3 (Int.toNat l9)) * l5))))) 143 0) = (b16 : Int) ∧ isO 922 b16 22 = true ∧ ln b16 = 100 ∧ (0 ≤ l9 ∧ l9 < (100 : Int)) ∧ (0 ≤ l9 ∧ l9 < (100 : Int)) ∧ Wp (d + 3) 49 108 [vR 143, vR l1, vR l2, vI l3, vI l4, vI l5, vI l6, vI l7, vR l8, vI (w32 (l9 + 1))] [] (mset (mset M t0 (Int.toNat t1) (w64 ((M t0 (Int.toNat t1)) + (w64 ((M b3 (Int.toNat l9)) * l5))))) b10 (Int.toNat l9) (w64 (((mset M t0 (Int.toNat t1) (w64 ((M t0 (Int.toNat t1)) + (w64 ((M b3 (Int.toNat l9)) * l5))))) b10 (Int.toNat l9)) + (w64 (((mset M t0 (Int.toNat t1) (w64 ((M t0 (Int.toNat t1)) + (w64 ((M b3 (Int.toNat l9)) * l5))))) b16 (Int.toNat l9)) * (w32 ((16 : Int) - l5))))))) K Q) ∧ (¬ (l7 = (0 : Int)) → ∃ b23 : Nat, ((mset M t0 (Int.toNat t1) (w64 ((M t0 (Int.toNat t1)) + (w64 ((M b3 (Int.toNat l9)) * l5))))) l1 11) = (b23 : Int) ∧ isO 922 b23 2 = true ∧ ∃ c26 : Mem, ∃ L27 : LC, ∃ p28 : Nat, ∃ x29 : Int, ∃ wet30 : Int, ∃ milk31 : Int, ∃ dy32 : Int, (CR (mset M t0 (Int.toNat t1) (w64 ((M t0 (Int.toNat t1)) + (w64 ((M b3 (Int.toNat l9)) * l5))))) b23 (eff L27) ∧ Vd (eff L27) 0 1 ∧ FO (mset M t0 (Int.toNat t1) (w64 ((M t0 (Int.toNat t1)) + (w64 ((M b3 (Int.toNat l9)) * l5))))) b23 c26 p28 x29 wet30 milk31 dy32 ∧ 0 ≤ l9 ∧ l9 ≤ 99) ∧ (∀ (M36 : Mem), FX M36 → FrL2 b23 (mset M t0 (Int.toNat t1) (w64 ((M t0 (Int.toNat t1)) + (w64 ((M b3 (Int.toNat l9)) * l5))))) M36 → (0 ≤ (oddT c26 L27 p28 x29 (0 : Int) wet30 milk31 dy32 l9) ∧ (oddT c26 L27 p28 x29 (0 : Int) wet30 milk31 dy32 l9) < (100 : Int)) ∧ ∃ b38 : Nat, (M36 143 0) = (b38 : Int) ∧ isO 922 b38 22 = true ∧ ln b38 = 100 ∧ (0 ≤ l9 ∧ l9 < (100 : Int)) ∧ (0 ≤ (oddT c26 L27 p28 x29 (0 : Int) wet30 milk31 dy32 l9) ∧ (oddT c26 L27 p28 x29 (0 : Int) wet30 milk31 dy32 l9) < (100 : Int)) ∧ Wp (d + 3) 49 108 [vR 143, vR l1, vR l2, vI l3, vI l4, vI l5, vI l6, vI l7, vR l8, vI (w32 (l9 + 1))] [] (mset M36 b10 (Int.toNat (oddT c26 L27 p28 x29 (0 : Int) wet30 milk31 dy32 l9)) (w64 ((M36 b10 (Int.toNat (oddT c26 L27 p28 x29 (0 : Int) wet30 milk31 dy32 l9))) + (w64 ((M36 b38 (Int.toNat l9)) * (w32 ((16 : Int) - l5))))))) K Q))) : Wp (d + 3) 49 152 [vR 143, vR l1, vR l2, vI l3, vI l4, vI l5, vI l6, vI l7, vR l8, vI l9] [vI t1, vR t0] M K Q := by
  refine r_dup2 c49_152 ?_
  obtain ⟨o1, h⟩ := h
  obtain ⟨s2, h⟩ := h
  refine r_lae c49_153 (oK hK o1) s2 rfl ?_
  refine r_aload_n c49_154 rfl ?_
  obtain ⟨b3, h⟩ := h
  obtain ⟨e4, h⟩ := h
  obtain ⟨k5, h⟩ := h
  obtain ⟨z6, h⟩ := h
  refine r_getR c49_155 (oK hK o143) e4 (by have := (isO_d k5).1; omega) ?_
  refine r_iload c49_158 rfl ?_
  obtain ⟨s7, h⟩ := h
  refine r_lae c49_160 (oK hK k5) (bd z6 s7) rfl ?_
  refine r_iload c49_161 rfl ?_
  refine r_i2l c49_163 ?_
  refine r_lmul c49_164 ?_
  refine r_ladd c49_165 ?_
  obtain ⟨s8, h⟩ := h
  refine r_las c49_166 (oK hK o1) s8 ?_
  have x9 := FX.set (v := (w64 ((M t0 (Int.toNat t1)) + (w64 ((M b3 (Int.toNat l9)) * l5))))) (a := t0) (k := (Int.toNat t1)) hX (nfl o1 _)
  refine r_aload_n c49_167 rfl ?_
  obtain ⟨b10, h⟩ := h
  obtain ⟨e11, h⟩ := h
  obtain ⟨k12, h⟩ := h
  obtain ⟨z13, h⟩ := h
  refine r_getR c49_168 (oK hK o143) e11 (by have := (isO_d k12).1; omega) ?_
  refine r_iload c49_171 rfl ?_
  refine r_ifP (P := l7 = (0 : Int)) c49_173 rfl (fun hc14 => ?_) (fun hc14 => ?_)
  · replace h := h.1 hc14
    refine r_iload c49_189 rfl ?_
    refine r_dup2 c49_191 ?_
    obtain ⟨s15, h⟩ := h
    refine r_lae c49_192 (oK hK k12) (bd z13 s15) rfl ?_
    refine r_aload_n c49_193 rfl ?_
    obtain ⟨b16, h⟩ := h
    obtain ⟨e17, h⟩ := h
    obtain ⟨k18, h⟩ := h
    obtain ⟨z19, h⟩ := h
    refine r_getR c49_194 (oK hK o143) e17 (by have := (isO_d k18).1; omega) ?_
    refine r_iload c49_197 rfl ?_
    obtain ⟨s20, h⟩ := h
    refine r_lae c49_199 (oK hK k18) (bd z19 s20) rfl ?_
    refine r_bipush c49_200 ?_
    refine r_iload c49_202 rfl ?_
    refine r_isub c49_204 ?_
    refine r_i2l c49_205 ?_
    refine r_lmul c49_206 ?_
    refine r_ladd c49_207 ?_
    obtain ⟨s21, h⟩ := h
    refine r_las c49_208 (oK hK k12) (bd z13 s21) ?_
    have x22 := FX.set (v := (w64 (((mset M t0 (Int.toNat t1) (w64 ((M t0 (Int.toNat t1)) + (w64 ((M b3 (Int.toNat l9)) * l5))))) b10 (Int.toNat l9)) + (w64 (((mset M t0 (Int.toNat t1) (w64 ((M t0 (Int.toNat t1)) + (w64 ((M b3 (Int.toNat l9)) * l5))))) b16 (Int.toNat l9)) * (w32 ((16 : Int) - l5))))))) (a := b10) (k := (Int.toNat l9)) x9 (nfl k12 _)
    refine r_iinc c49_209 rfl ?_
    refine r_goto c49_212 ?_
    exact h
  · replace h := h.2 hc14
    refine r_aload_n c49_176 rfl ?_
    obtain ⟨b23, h⟩ := h
    obtain ⟨e24, h⟩ := h
    obtain ⟨k25, h⟩ := h
    refine r_getR c49_177 (oK hK k1) e24 (by have := (isO_d k25).1; omega) ?_
    refine r_iload c49_180 rfl ?_
    refine r_iconst c49_182 ?_
    obtain ⟨c26, h⟩ := h
    obtain ⟨L27, h⟩ := h
    obtain ⟨p28, h⟩ := h
    obtain ⟨x29, h⟩ := h
    obtain ⟨wet30, h⟩ := h
    obtain ⟨milk31, h⟩ := h
    obtain ⟨dy32, h⟩ := h
    obtain ⟨p33, h⟩ := h
    refine r_call c49_183 rfl rfl (Nat.le_of_ble_eq_true rfl) (okc_s rfl rfl rfl) (g50z hK x9 k25 p33 (fun M36 x34 p35 => Bk_v ?_))
    replace h := h M36 x34 p35
    refine r_goto c49_186 ?_
    refine r_dup2 c49_191 ?_
    obtain ⟨s37, h⟩ := h
    refine r_lae c49_192 (oK hK k12) (bd z13 s37) rfl ?_
    refine r_aload_n c49_193 rfl ?_
    obtain ⟨b38, h⟩ := h
    obtain ⟨e39, h⟩ := h
    obtain ⟨k40, h⟩ := h
    obtain ⟨z41, h⟩ := h
    refine r_getR c49_194 (oK hK o143) e39 (by have := (isO_d k40).1; omega) ?_
    refine r_iload c49_197 rfl ?_
    obtain ⟨s42, h⟩ := h
    refine r_lae c49_199 (oK hK k40) (bd z41 s42) rfl ?_
    refine r_bipush c49_200 ?_
    refine r_iload c49_202 rfl ?_
    refine r_isub c49_204 ?_
    refine r_i2l c49_205 ?_
    refine r_lmul c49_206 ?_
    refine r_ladd c49_207 ?_
    obtain ⟨s43, h⟩ := h
    refine r_las c49_208 (oK hK k12) (bd z13 s43) ?_
    have x44 := FX.set (v := (w64 ((M36 b10 (Int.toNat (oddT c26 L27 p28 x29 (0 : Int) wet30 milk31 dy32 l9))) + (w64 ((M36 b38 (Int.toNat l9)) * (w32 ((16 : Int) - l5))))))) (a := b10) (k := (Int.toNat (oddT c26 L27 p28 x29 (0 : Int) wet30 milk31 dy32 l9))) x34 (nfl k12 _)
    refine r_iinc c49_209 rfl ?_
    refine r_goto c49_212 ?_
    exact h
