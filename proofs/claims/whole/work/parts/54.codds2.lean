theorem u49_0 {d : Nat} {l1 : Nat} {l2 : Nat} {l3 : Int} {l4 : Int} {l5 : Int} {l6 : Int} {M : Mem} {K : KK} {Q : RR → Mem → KK → Prop} (hK : K.1 = 923) (hX : FX M) (k1 : isO 923 l1 0 = true) (k2 : isO 923 l2 3 = true) (h : Wp (d + 3) 49 3 [vR 144, vR l1, vR l2, vI l3, vI l4, vI l5, vI l6, vI (0 : Int), vU, vU] [] M K Q) : Wp (d + 3) 49 0 [vR 144, vR l1, vR l2, vI l3, vI l4, vI l5, vI l6, vU, vU, vU] [] M K Q := by
  refine r_iconst c49_0 ?_
  refine r_istore c49_1 (Nat.le_of_ble_eq_true rfl) ?_
  exact h
theorem u49_3 {d : Nat} {l1 : Nat} {l2 : Nat} {l3 : Int} {l4 : Int} {l5 : Int} {l6 : Int} {l7 : Int} {M : Mem} {K : KK} {Q : RR → Mem → KK → Prop} (hK : K.1 = 923) (hX : FX M) (k1 : isO 923 l1 0 = true) (k2 : isO 923 l2 3 = true) (h : ((99 : Int) < l7 → (0 ≤ l3 ∧ l3 < (6 : Int)) ∧ ((M (l2 + 2) (Int.toNat l3)) = (-1 : Int) → Wp (d + 3) 49 39 [vR 144, vR l1, vR l2, vI l3, vI l4, vI l5, vI l6, vI l7, vU, vU] [vI (0 : Int)] M K Q) ∧ (¬ ((M (l2 + 2) (Int.toNat l3)) = (-1 : Int)) → Wp (d + 3) 49 39 [vR 144, vR l1, vR l2, vI l3, vI l4, vI l5, vI l6, vI l7, vU, vU] [vI (1 : Int)] M K Q)) ∧ (¬ ((99 : Int) < l7) → ∃ b4 : Nat, (M 144 1) = (b4 : Int) ∧ isO 923 b4 22 = true ∧ ln b4 = 100 ∧ (0 ≤ l7 ∧ l7 < (100 : Int)) ∧ Wp (d + 3) 49 3 [vR 144, vR l1, vR l2, vI l3, vI l4, vI l5, vI l6, vI (w32 (l7 + 1)), vU, vU] [] (mset M b4 (Int.toNat l7) (0 : Int)) K Q)) : Wp (d + 3) 49 3 [vR 144, vR l1, vR l2, vI l3, vI l4, vI l5, vI l6, vI l7, vU, vU] [] M K Q := by
  refine r_iload c49_3 rfl ?_
  refine r_bipush c49_5 ?_
  refine r_icmpP (P := (99 : Int) < l7) c49_7 rfl (fun hc1 => ?_) (fun hc1 => ?_)
  · replace h := h.1 hc1
    refine r_aload_n c49_24 rfl ?_
    refine r_getR c49_25 (oK hK k2) (fx3_1 hX k2) (by omega) ?_
    refine r_iload_n c49_28 rfl ?_
    obtain ⟨s2, h⟩ := h
    refine r_iae c49_29 (oK hK (q3_1 k2)) (bd (z3_1 k2) s2) rfl ?_
    refine r_iconst c49_30 ?_
    refine r_icmpP (P := (M (l2 + 2) (Int.toNat l3)) = (-1 : Int)) c49_31 rfl (fun hc3 => ?_) (fun hc3 => ?_)
    · replace h := h.1 hc3
      refine r_iconst c49_38 ?_
      exact h
    · replace h := h.2 hc3
      refine r_iconst c49_34 ?_
      refine r_goto c49_35 ?_
      exact h
  · replace h := h.2 hc1
    refine r_aload_n c49_10 rfl ?_
    obtain ⟨b4, h⟩ := h
    obtain ⟨e5, h⟩ := h
    obtain ⟨k6, h⟩ := h
    obtain ⟨z7, h⟩ := h
    refine r_getR c49_11 (oK hK o144) e5 (by have := (isO_d k6).1; omega) ?_
    refine r_iload c49_14 rfl ?_
    refine r_lconst c49_16 ?_
    obtain ⟨s8, h⟩ := h
    refine r_las c49_17 (oK hK k6) (bd z7 s8) ?_
    have x9 := FX.set (v := (0 : Int)) (a := b4) (k := (Int.toNat l7)) hX (nfl k6 _)
    refine r_iinc c49_18 rfl ?_
    refine r_goto c49_21 ?_
    exact h
theorem u49_39 {d : Nat} {l1 : Nat} {l2 : Nat} {l3 : Int} {l4 : Int} {l5 : Int} {l6 : Int} {l7 : Int} {t0 : Int} {M : Mem} {K : KK} {Q : RR → Mem → KK → Prop} (hK : K.1 = 923) (hX : FX M) (k1 : isO 923 l1 0 = true) (k2 : isO 923 l2 3 = true) (h : (0 ≤ l3 ∧ l3 < (6 : Int)) ∧ ∃ c2 : Mem, ∃ s3 : Mem, ∃ L4 : LC, ∃ la5 : Nat, ∃ p6 : Nat, (l3 = (p6 : Int) ∧ SKc M l1 l2 c2 s3 ∧ LWC M l1 L4 la5 ∧ p6 < nSt c2 ∧ ((M (l2 + 2) (Int.toNat l3)) = -1 ∨ (0 ≤ (M (l2 + 2) (Int.toNat l3)) ∧ (M (l2 + 2) (Int.toNat l3)) + c2 2 p6 ≤ c2 0 0))) ∧ (∀ (M10 : Mem), FX M10 → (Fr1 (la5 + 1) M M10 ∧ ∀ j, j < 8 → M10 (la5 + 1) j = fcts (sunS c2 (M (l2 + 2) (Int.toNat l3)) (c2 2 p6)) (c2 2 p6) (s3 1 p6) (rainS c2 (s3 4 0)) 0 0 (s3 4 0) (M (l2 + 2) (Int.toNat l3)) j) → isO 923 la5 2 = true ∧ (¬ l4 = (0 : Int) → Wp (d + 3) 49 108 [vR 144, vR l1, vR l2, vI l3, vI l4, vI l5, vI l6, vI t0, vR (la5 + 1), vI (0 : Int)] [] (mset (mset (mset M10 (la5 + 1) 6 (w32 ((M10 l2 4) + l4))) (la5 + 1) 4 (0 : Int)) (la5 + 1) 5 (0 : Int)) K Q) ∧ (l4 = (0 : Int) → (0 ≤ l3 ∧ l3 < (6 : Int)) ∧ (0 ≤ l3 ∧ l3 < (6 : Int)) ∧ Wp (d + 3) 49 108 [vR 144, vR l1, vR l2, vI l3, vI l4, vI l5, vI l6, vI t0, vR (la5 + 1), vI (0 : Int)] [] (mset (mset (mset M10 (la5 + 1) 6 (w32 ((M10 l2 4) + l4))) (la5 + 1) 4 (M10 (l2 + 3) (Int.toNat l3))) (la5 + 1) 5 (M10 (l2 + 4) (Int.toNat l3))) K Q))) : Wp (d + 3) 49 39 [vR 144, vR l1, vR l2, vI l3, vI l4, vI l5, vI l6, vI l7, vU, vU] [vI t0] M K Q := by
  refine r_istore c49_39 (Nat.le_of_ble_eq_true rfl) ?_
  refine r_aload_n c49_41 rfl ?_
  refine r_aload_n c49_42 rfl ?_
  refine r_iload_n c49_43 rfl ?_
  refine r_aload_n c49_44 rfl ?_
  refine r_getR c49_45 (oK hK k2) (fx3_1 hX k2) (by omega) ?_
  refine r_iload_n c49_48 rfl ?_
  obtain ⟨s1, h⟩ := h
  refine r_iae c49_49 (oK hK (q3_1 k2)) (bd (z3_1 k2) s1) rfl ?_
  obtain ⟨c2, h⟩ := h
  obtain ⟨s3, h⟩ := h
  obtain ⟨L4, h⟩ := h
  obtain ⟨la5, h⟩ := h
  obtain ⟨p6, h⟩ := h
  obtain ⟨p7, h⟩ := h
  refine r_call c49_50 rfl rfl (Nat.le_of_ble_eq_true rfl) (okc_r rfl rfl (oK hK k2)) (g46 hK hX k2 k1 p7 (fun M10 x8 p9 => Bk_v ?_))
  replace h := h M10 x8 p9
  obtain ⟨kl11, h⟩ := h
  refine r_astore c49_53 (Nat.le_of_ble_eq_true rfl) ?_
  refine r_aload c49_55 rfl ?_
  refine r_bipush c49_57 ?_
  refine r_aload_n c49_59 rfl ?_
  refine r_getIe c49_60 (oK hK k2) rfl ?_
  refine r_iload c49_63 rfl ?_
  refine r_iadd c49_65 ?_
  refine r_ias c49_66 (oK hK (q2_0 kl11)) (bd (z2_0 kl11) (by decide)) ?_
  have x12 := FX.set (v := (w32 ((M10 l2 4) + l4))) (a := (la5 + 1)) (k := 6) x8 (nfa (q2_0 kl11) _)
  refine r_aload c49_67 rfl ?_
  refine r_iconst c49_69 ?_
  refine r_iload c49_70 rfl ?_
  refine r_ifP (P := ¬ l4 = (0 : Int)) c49_72 rfl (fun hc13 => ?_) (fun hc13 => ?_)
  · replace h := h.1 hc13
    refine r_iconst c49_84 ?_
    refine r_ias c49_85 (oK hK (q2_0 kl11)) (bd (z2_0 kl11) (by decide)) ?_
    have x15 := FX.set (v := (0 : Int)) (a := (la5 + 1)) (k := 4) x12 (nfa (q2_0 kl11) _)
    refine r_aload c49_86 rfl ?_
    refine r_iconst c49_88 ?_
    refine r_iload c49_89 rfl ?_
    refine r_ifP (P := ¬ l4 = (0 : Int)) c49_91 rfl (fun hc => ?_) (fun hc => absurd hc13 hc)
    refine r_iconst c49_103 ?_
    refine r_ias c49_104 (oK hK (q2_0 kl11)) (bd (z2_0 kl11) (by decide)) ?_
    have x16 := FX.set (v := (0 : Int)) (a := (la5 + 1)) (k := 5) x15 (nfa (q2_0 kl11) _)
    refine r_iconst c49_105 ?_
    refine r_istore c49_106 (Nat.le_of_ble_eq_true rfl) ?_
    exact h
  · have hc14 := Classical.not_not.mp hc13
    replace h := h.2 hc14
    refine r_aload_n c49_75 rfl ?_
    refine r_getR c49_76 (oK hK k2) (fx3_2 x12 k2) (by omega) ?_
    refine r_iload_n c49_79 rfl ?_
    obtain ⟨s17, h⟩ := h
    refine r_iae c49_80 (oK hK (q3_2 k2)) (bd (z3_2 k2) s17) (ms_na (by have := rg3 k2; have := rg2 kl11; omega)) ?_
    refine r_goto c49_81 ?_
    refine r_ias c49_85 (oK hK (q2_0 kl11)) (bd (z2_0 kl11) (by decide)) ?_
    have x18 := FX.set (v := (M10 (l2 + 3) (Int.toNat l3))) (a := (la5 + 1)) (k := 4) x12 (nfa (q2_0 kl11) _)
    refine r_aload c49_86 rfl ?_
    refine r_iconst c49_88 ?_
    refine r_iload c49_89 rfl ?_
    refine r_ifP (P := ¬ l4 = (0 : Int)) c49_91 rfl (fun hc => absurd hc14 hc) (fun hc => ?_)
    refine r_aload_n c49_94 rfl ?_
    refine r_getR c49_95 (oK hK k2) (fx3_3 x18 k2) (by omega) ?_
    refine r_iload_n c49_98 rfl ?_
    obtain ⟨s19, h⟩ := h
    refine r_iae c49_99 (oK hK (q3_3 k2)) (bd (z3_3 k2) s19) (Eq.trans (ms_na (by have := rg3 k2; have := rg2 kl11; omega)) (ms_na (by have := rg3 k2; have := rg2 kl11; omega))) ?_
    refine r_goto c49_100 ?_
    refine r_ias c49_104 (oK hK (q2_0 kl11)) (bd (z2_0 kl11) (by decide)) ?_
    have x20 := FX.set (v := (M10 (l2 + 4) (Int.toNat l3))) (a := (la5 + 1)) (k := 5) x18 (nfa (q2_0 kl11) _)
    refine r_iconst c49_105 ?_
    refine r_istore c49_106 (Nat.le_of_ble_eq_true rfl) ?_
    exact h
theorem u49_108 {d : Nat} {l1 : Nat} {l2 : Nat} {l3 : Int} {l4 : Int} {l5 : Int} {l6 : Int} {l7 : Int} {l8 : Nat} {l9 : Int} {M : Mem} {K : KK} {Q : RR → Mem → KK → Prop} (hK : K.1 = 923) (hX : FX M) (k1 : isO 923 l1 0 = true) (k2 : isO 923 l2 3 = true) (h : ((99 : Int) < l9 → ∃ b2 : Nat, (M 144 0) = (b2 : Int) ∧ isO 923 b2 22 = true ∧ ln b2 = 100 ∧ ∃ b6 : Nat, (M 144 1) = (b6 : Int) ∧ isO 923 b6 22 = true ∧ ln b6 = 100 ∧ Q (.inl none) (mset (mset M 144 0 ((b6 : Nat) : Int)) 144 1 ((b2 : Nat) : Int)) K) ∧ (¬ ((99 : Int) < l9) → ∃ b12 : Nat, (M 144 0) = (b12 : Int) ∧ isO 923 b12 22 = true ∧ ln b12 = 100 ∧ (0 ≤ l9 ∧ l9 < (100 : Int)) ∧ ((jcmp (M b12 (Int.toNat l9)) (0 : Int)) ≤ (0 : Int) → Wp (d + 3) 49 108 [vR 144, vR l1, vR l2, vI l3, vI l4, vI l5, vI l6, vI l7, vR l8, vI (w32 (l9 + 1))] [] M K Q) ∧ (¬ ((jcmp (M b12 (Int.toNat l9)) (0 : Int)) ≤ (0 : Int)) → ∃ b18 : Nat, (M 144 1) = (b18 : Int) ∧ isO 923 b18 22 = true ∧ ln b18 = 100 ∧ (l7 = (0 : Int) → Wp (d + 3) 49 152 [vR 144, vR l1, vR l2, vI l3, vI l4, vI l5, vI l6, vI l7, vR l8, vI l9] [vI l9, vR b18] M K Q) ∧ (¬ (l7 = (0 : Int)) → ∃ b23 : Nat, (M l1 11) = (b23 : Int) ∧ isO 923 b23 2 = true ∧ ∃ c26 : Mem, ∃ L27 : LC, ∃ p28 : Nat, ∃ x29 : Int, ∃ wet30 : Int, ∃ milk31 : Int, ∃ dy32 : Int, (CR M b23 (eff L27) ∧ Vd (eff L27) 0 1 ∧ FO M b23 c26 p28 x29 wet30 milk31 dy32 ∧ 0 ≤ l9 ∧ l9 ≤ 99) ∧ (∀ (M36 : Mem), FX M36 → FrL2 b23 M M36 → Wp (d + 3) 49 152 [vR 144, vR l1, vR l2, vI l3, vI l4, vI l5, vI l6, vI l7, vR l8, vI l9] [vI (oddT c26 L27 p28 x29 l6 wet30 milk31 dy32 l9), vR b18] M36 K Q))))) : Wp (d + 3) 49 108 [vR 144, vR l1, vR l2, vI l3, vI l4, vI l5, vI l6, vI l7, vR l8, vI l9] [] M K Q := by
  refine r_iload c49_108 rfl ?_
  refine r_bipush c49_110 ?_
  refine r_icmpP (P := (99 : Int) < l9) c49_112 rfl (fun hc1 => ?_) (fun hc1 => ?_)
  · replace h := h.1 hc1
    refine r_aload_n c49_215 rfl ?_
    obtain ⟨b2, h⟩ := h
    obtain ⟨e3, h⟩ := h
    obtain ⟨k4, h⟩ := h
    obtain ⟨z5, h⟩ := h
    refine r_getR c49_216 (oK hK o144) e3 (by have := (isO_d k4).1; omega) ?_
    refine r_astore c49_219 (Nat.le_of_ble_eq_true rfl) ?_
    refine r_aload_n c49_221 rfl ?_
    refine r_aload_n c49_222 rfl ?_
    obtain ⟨b6, h⟩ := h
    obtain ⟨e7, h⟩ := h
    obtain ⟨k8, h⟩ := h
    obtain ⟨z9, h⟩ := h
    refine r_getR c49_223 (oK hK o144) e7 (by have := (isO_d k8).1; omega) ?_
    refine r_putR c49_226 (oK hK o144) (by have := (isO_d k8).1; omega) ?_
    have x10 := FX.set (v := ((b6 : Nat) : Int)) (a := 144) (k := 0) hX (by decide +kernel)
    refine r_aload_n c49_229 rfl ?_
    refine r_aload c49_230 rfl ?_
    refine r_putR c49_232 (oK hK o144) (by have := (isO_d k4).1; omega) ?_
    have x11 := FX.set (v := ((b2 : Nat) : Int)) (a := 144) (k := 1) x10 (by decide +kernel)
    exact r_ret c49_235 h
  · replace h := h.2 hc1
    refine r_aload_n c49_115 rfl ?_
    obtain ⟨b12, h⟩ := h
    obtain ⟨e13, h⟩ := h
    obtain ⟨k14, h⟩ := h
    obtain ⟨z15, h⟩ := h
    refine r_getR c49_116 (oK hK o144) e13 (by have := (isO_d k14).1; omega) ?_
    refine r_iload c49_119 rfl ?_
    obtain ⟨s16, h⟩ := h
    refine r_lae c49_121 (oK hK k14) (bd z15 s16) rfl ?_
    refine r_lconst c49_122 ?_
    refine r_lcmp c49_123 ?_
    refine r_ifP (P := (jcmp (M b12 (Int.toNat l9)) (0 : Int)) ≤ (0 : Int)) c49_124 rfl (fun hc17 => ?_) (fun hc17 => ?_)
    · replace h := h.1 hc17
      refine r_iinc c49_209 rfl ?_
      refine r_goto c49_212 ?_
      exact h
    · replace h := h.2 hc17
      refine r_aload_n c49_127 rfl ?_
      obtain ⟨b18, h⟩ := h
      obtain ⟨e19, h⟩ := h
      obtain ⟨k20, h⟩ := h
      obtain ⟨z21, h⟩ := h
      refine r_getR c49_128 (oK hK o144) e19 (by have := (isO_d k20).1; omega) ?_
      refine r_iload c49_131 rfl ?_
      refine r_ifP (P := l7 = (0 : Int)) c49_133 rfl (fun hc22 => ?_) (fun hc22 => ?_)
      · replace h := h.1 hc22
        refine r_iload c49_150 rfl ?_
        exact h
      · replace h := h.2 hc22
        refine r_aload_n c49_136 rfl ?_
        obtain ⟨b23, h⟩ := h
        obtain ⟨e24, h⟩ := h
        obtain ⟨k25, h⟩ := h
        refine r_getR c49_137 (oK hK k1) e24 (by have := (isO_d k25).1; omega) ?_
        refine r_iload c49_140 rfl ?_
        refine r_iload c49_142 rfl ?_
        obtain ⟨c26, h⟩ := h
        obtain ⟨L27, h⟩ := h
        obtain ⟨p28, h⟩ := h
        obtain ⟨x29, h⟩ := h
        obtain ⟨wet30, h⟩ := h
        obtain ⟨milk31, h⟩ := h
        obtain ⟨dy32, h⟩ := h
        obtain ⟨p33, h⟩ := h
        refine r_call c49_144 rfl rfl (Nat.le_of_ble_eq_true rfl) (okc_s rfl rfl rfl) (g50z hK hX k25 p33 (fun M36 x34 p35 => Bk_v ?_))
        replace h := h M36 x34 p35
        refine r_goto c49_147 ?_
        exact h
theorem u49_152 {d : Nat} {l1 : Nat} {l2 : Nat} {l3 : Int} {l4 : Int} {l5 : Int} {l6 : Int} {l7 : Int} {l8 : Nat} {l9 : Int} {t0 : Nat} {t1 : Int} {M : Mem} {K : KK} {Q : RR → Mem → KK → Prop} (hK : K.1 = 923) (hX : FX M) (k1 : isO 923 l1 0 = true) (k2 : isO 923 l2 3 = true) (h : isO 923 t0 22 = true ∧ (0 ≤ t1 ∧ t1 < (ln t0 : Int)) ∧ ∃ b3 : Nat, (M 144 0) = (b3 : Int) ∧ isO 923 b3 22 = true ∧ ln b3 = 100 ∧ (0 ≤ l9 ∧ l9 < (100 : Int)) ∧ (0 ≤ t1 ∧ t1 < (ln t0 : Int)) ∧ ∃ b10 : Nat, ((mset M t0 (Int.toNat t1) (w64 ((M t0 (Int.toNat t1)) + (w64 ((M b3 (Int.toNat l9)) * l5))))) 144 1) = (b10 : Int) ∧ isO 923 b10 22 = true ∧ ln b10 = 100 ∧ (l7 = (0 : Int) → (0 ≤ l9 ∧ l9 < (100 : Int)) ∧ ∃ b16 : Nat, ((mset M t0 (Int.toNat t1) (w64 ((M t0 (Int.toNat t1)) + (w64 ((M b3 (Int.toNat l9)) * l5))))) 144 0) = (b16 : Int) ∧ isO 923 b16 22 = true ∧ ln b16 = 100 ∧ (0 ≤ l9 ∧ l9 < (100 : Int)) ∧ (0 ≤ l9 ∧ l9 < (100 : Int)) ∧ Wp (d + 3) 49 108 [vR 144, vR l1, vR l2, vI l3, vI l4, vI l5, vI l6, vI l7, vR l8, vI (w32 (l9 + 1))] [] (mset (mset M t0 (Int.toNat t1) (w64 ((M t0 (Int.toNat t1)) + (w64 ((M b3 (Int.toNat l9)) * l5))))) b10 (Int.toNat l9) (w64 (((mset M t0 (Int.toNat t1) (w64 ((M t0 (Int.toNat t1)) + (w64 ((M b3 (Int.toNat l9)) * l5))))) b10 (Int.toNat l9)) + (w64 (((mset M t0 (Int.toNat t1) (w64 ((M t0 (Int.toNat t1)) + (w64 ((M b3 (Int.toNat l9)) * l5))))) b16 (Int.toNat l9)) * (w32 ((16 : Int) - l5))))))) K Q) ∧ (¬ (l7 = (0 : Int)) → ∃ b23 : Nat, ((mset M t0 (Int.toNat t1) (w64 ((M t0 (Int.toNat t1)) + (w64 ((M b3 (Int.toNat l9)) * l5))))) l1 11) = (b23 : Int) ∧ isO 923 b23 2 = true ∧ ∃ c26 : Mem, ∃ L27 : LC, ∃ p28 : Nat, ∃ x29 : Int, ∃ wet30 : Int, ∃ milk31 : Int, ∃ dy32 : Int, (CR (mset M t0 (Int.toNat t1) (w64 ((M t0 (Int.toNat t1)) + (w64 ((M b3 (Int.toNat l9)) * l5))))) b23 (eff L27) ∧ Vd (eff L27) 0 1 ∧ FO (mset M t0 (Int.toNat t1) (w64 ((M t0 (Int.toNat t1)) + (w64 ((M b3 (Int.toNat l9)) * l5))))) b23 c26 p28 x29 wet30 milk31 dy32 ∧ 0 ≤ l9 ∧ l9 ≤ 99) ∧ (∀ (M36 : Mem), FX M36 → FrL2 b23 (mset M t0 (Int.toNat t1) (w64 ((M t0 (Int.toNat t1)) + (w64 ((M b3 (Int.toNat l9)) * l5))))) M36 → (0 ≤ (oddT c26 L27 p28 x29 (0 : Int) wet30 milk31 dy32 l9) ∧ (oddT c26 L27 p28 x29 (0 : Int) wet30 milk31 dy32 l9) < (100 : Int)) ∧ ∃ b38 : Nat, (M36 144 0) = (b38 : Int) ∧ isO 923 b38 22 = true ∧ ln b38 = 100 ∧ (0 ≤ l9 ∧ l9 < (100 : Int)) ∧ (0 ≤ (oddT c26 L27 p28 x29 (0 : Int) wet30 milk31 dy32 l9) ∧ (oddT c26 L27 p28 x29 (0 : Int) wet30 milk31 dy32 l9) < (100 : Int)) ∧ Wp (d + 3) 49 108 [vR 144, vR l1, vR l2, vI l3, vI l4, vI l5, vI l6, vI l7, vR l8, vI (w32 (l9 + 1))] [] (mset M36 b10 (Int.toNat (oddT c26 L27 p28 x29 (0 : Int) wet30 milk31 dy32 l9)) (w64 ((M36 b10 (Int.toNat (oddT c26 L27 p28 x29 (0 : Int) wet30 milk31 dy32 l9))) + (w64 ((M36 b38 (Int.toNat l9)) * (w32 ((16 : Int) - l5))))))) K Q))) : Wp (d + 3) 49 152 [vR 144, vR l1, vR l2, vI l3, vI l4, vI l5, vI l6, vI l7, vR l8, vI l9] [vI t1, vR t0] M K Q := by
  refine r_dup2 c49_152 ?_
  obtain ⟨o1, h⟩ := h
  obtain ⟨s2, h⟩ := h
  refine r_lae c49_153 (oK hK o1) s2 rfl ?_
  refine r_aload_n c49_154 rfl ?_
  obtain ⟨b3, h⟩ := h
  obtain ⟨e4, h⟩ := h
  obtain ⟨k5, h⟩ := h
  obtain ⟨z6, h⟩ := h
  refine r_getR c49_155 (oK hK o144) e4 (by have := (isO_d k5).1; omega) ?_
  refine r_iload c49_158 rfl ?_
  obtain ⟨s7, h⟩ := h
  refine r_lae c49_160 (oK hK k5) (bd z6 s7) rfl ?_
  refine r_iload c49_161 rfl ?_
  refine r_i2l c49_163 ?_
  refine r_lmul c49_164 ?_
  refine r_ladd c49_165 ?_
  obtain ⟨s8, h⟩ := h
  refine r_las c49_166 (oK hK o1) s8 ?_
  have x9 := FX.set (v := (w64 ((M t0 (Int.toNat t1)) + (w64 ((M b3 (Int.toNat l9)) * l5))))) (a := t0) (k := (Int.toNat t1)) hX (nfl o1 _)
  refine r_aload_n c49_167 rfl ?_
  obtain ⟨b10, h⟩ := h
  obtain ⟨e11, h⟩ := h
  obtain ⟨k12, h⟩ := h
  obtain ⟨z13, h⟩ := h
  refine r_getR c49_168 (oK hK o144) e11 (by have := (isO_d k12).1; omega) ?_
  refine r_iload c49_171 rfl ?_
  refine r_ifP (P := l7 = (0 : Int)) c49_173 rfl (fun hc14 => ?_) (fun hc14 => ?_)
  · replace h := h.1 hc14
    refine r_iload c49_189 rfl ?_
    refine r_dup2 c49_191 ?_
    obtain ⟨s15, h⟩ := h
    refine r_lae c49_192 (oK hK k12) (bd z13 s15) rfl ?_
    refine r_aload_n c49_193 rfl ?_
    obtain ⟨b16, h⟩ := h
    obtain ⟨e17, h⟩ := h
    obtain ⟨k18, h⟩ := h
    obtain ⟨z19, h⟩ := h
    refine r_getR c49_194 (oK hK o144) e17 (by have := (isO_d k18).1; omega) ?_
    refine r_iload c49_197 rfl ?_
    obtain ⟨s20, h⟩ := h
    refine r_lae c49_199 (oK hK k18) (bd z19 s20) rfl ?_
    refine r_bipush c49_200 ?_
    refine r_iload c49_202 rfl ?_
    refine r_isub c49_204 ?_
    refine r_i2l c49_205 ?_
    refine r_lmul c49_206 ?_
    refine r_ladd c49_207 ?_
    obtain ⟨s21, h⟩ := h
    refine r_las c49_208 (oK hK k12) (bd z13 s21) ?_
    have x22 := FX.set (v := (w64 (((mset M t0 (Int.toNat t1) (w64 ((M t0 (Int.toNat t1)) + (w64 ((M b3 (Int.toNat l9)) * l5))))) b10 (Int.toNat l9)) + (w64 (((mset M t0 (Int.toNat t1) (w64 ((M t0 (Int.toNat t1)) + (w64 ((M b3 (Int.toNat l9)) * l5))))) b16 (Int.toNat l9)) * (w32 ((16 : Int) - l5))))))) (a := b10) (k := (Int.toNat l9)) x9 (nfl k12 _)
    refine r_iinc c49_209 rfl ?_
    refine r_goto c49_212 ?_
    exact h
  · replace h := h.2 hc14
    refine r_aload_n c49_176 rfl ?_
    obtain ⟨b23, h⟩ := h
    obtain ⟨e24, h⟩ := h
    obtain ⟨k25, h⟩ := h
    refine r_getR c49_177 (oK hK k1) e24 (by have := (isO_d k25).1; omega) ?_
    refine r_iload c49_180 rfl ?_
    refine r_iconst c49_182 ?_
    obtain ⟨c26, h⟩ := h
    obtain ⟨L27, h⟩ := h
    obtain ⟨p28, h⟩ := h
    obtain ⟨x29, h⟩ := h
    obtain ⟨wet30, h⟩ := h
    obtain ⟨milk31, h⟩ := h
    obtain ⟨dy32, h⟩ := h
    obtain ⟨p33, h⟩ := h
    refine r_call c49_183 rfl rfl (Nat.le_of_ble_eq_true rfl) (okc_s rfl rfl rfl) (g50z hK x9 k25 p33 (fun M36 x34 p35 => Bk_v ?_))
    replace h := h M36 x34 p35
    refine r_goto c49_186 ?_
    refine r_dup2 c49_191 ?_
    obtain ⟨s37, h⟩ := h
    refine r_lae c49_192 (oK hK k12) (bd z13 s37) rfl ?_
    refine r_aload_n c49_193 rfl ?_
    obtain ⟨b38, h⟩ := h
    obtain ⟨e39, h⟩ := h
    obtain ⟨k40, h⟩ := h
    obtain ⟨z41, h⟩ := h
    refine r_getR c49_194 (oK hK o144) e39 (by have := (isO_d k40).1; omega) ?_
    refine r_iload c49_197 rfl ?_
    obtain ⟨s42, h⟩ := h
    refine r_lae c49_199 (oK hK k40) (bd z41 s42) rfl ?_
    refine r_bipush c49_200 ?_
    refine r_iload c49_202 rfl ?_
    refine r_isub c49_204 ?_
    refine r_i2l c49_205 ?_
    refine r_lmul c49_206 ?_
    refine r_ladd c49_207 ?_
    obtain ⟨s43, h⟩ := h
    refine r_las c49_208 (oK hK k12) (bd z13 s43) ?_
    have x44 := FX.set (v := (w64 ((M36 b10 (Int.toNat (oddT c26 L27 p28 x29 (0 : Int) wet30 milk31 dy32 l9))) + (w64 ((M36 b38 (Int.toNat l9)) * (w32 ((16 : Int) - l5))))))) (a := b10) (k := (Int.toNat (oddT c26 L27 p28 x29 (0 : Int) wet30 milk31 dy32 l9))) x34 (nfl k12 _)
    refine r_iinc c49_209 rfl ?_
    refine r_goto c49_212 ?_
    exact h
/-- the vectors of ways -/
def OW (M : Mem) (wa wb : Nat) : Prop := ((wa = 145 ∧ wb = 146) ∨ (wa = 146 ∧ wb = 145)) ∧ M 144 0 = (wa : Int) ∧ M 144 1 = (wb : Int)
theorem nfa22 {a : Nat} (h : isO 923 a 22 = true) (k : Nat) : fxT a k = 0 := by
  unfold fxT; rw [if_neg (Nat.not_lt.mpr (isO_d h).1)]; unfold fxU; rw [(isO_d h).2.2]; rfl
theorem way_o : (isO 923 145 22 = true ∧ ln 145 = 100) ∧ (isO 923 146 22 = true ∧ ln 146 = 100) := by decide +kernel
theorem OW.o {M : Mem} {wa wb : Nat} (h : OW M wa wb) : (isO 923 wa 22 = true ∧ ln wa = 100) ∧ (isO 923 wb 22 = true ∧ ln wb = 100) := by
  obtain ⟨⟨rfl, rfl⟩ | ⟨rfl, rfl⟩, -⟩ := h
  · exact way_o
  · exact ⟨way_o.2, way_o.1⟩
/-- only the law's scratch and one vector have changed -/
def FrYw (l wb : Nat) (M M' : Mem) : Prop := ∀ a k, a ≠ l + 3 → ¬ (a = l + 1 ∧ (k = 2 ∨ k = 3)) → a ≠ wb → M' a k = M a k
section CY
variable {d : Nat} {M M' : Mem} {K : KK} {Q : RR → Mem → KK → Prop} {cm a l p wa wb : Nat} {c : Mem} {L : LC} {x q r wet milk dy : Int}
theorem FrYw.rf : FrYw l wb M M := fun _ _ _ _ _ => rfl
theorem FrYw.tr {M1 M2 : Mem} (h1 : FrYw l wb M M1) (h2 : FrYw l wb M1 M2) : FrYw l wb M M2 := fun a k p q t => (h2 a k p q t).trans (h1 a k p q t)
theorem FrYw.up {M1 : Mem} {k : Nat} {v : Int} (h : FrYw l wb M M1) : FrYw l wb M (mset M1 wb k v) := by
  intro a' k' p q t
  rw [ms_na t]; exact h a' k' p q t
theorem FrL2.yw (h : FrL2 l M M') : FrYw l wb M M' := fun a k p q _ => h a k p q
theorem dayW_le {W : Nat → Int} {Tr T0 : Nat → Nat} (hq : 0 ≤ q ∧ q ≤ 16) (hW : ∀ i, 0 ≤ W i) (hr : ∀ i, i < 100 → Tr i < 100) (h0 : ∀ i, i < 100 → T0 i < 100) {e : Int} (he : sumF W 100 ≤ e) (i j : Nat) (hi : i ≤ 100) (hj : j < 100) : dayW W Tr T0 q i j ≤ 16 * e := by
  have h := day_phi (F := fun _ => 1) (q := q) hW hr h0 i hi
  have e1 : ∀ k, sumF (fun g => W g * (q * 1 + (16 - q) * 1)) k = 16 * sumF W k := by
    intro k
    induction k with
    | zero => rfl
    | succ k ih => simp only [sumF]; rw [ih]; rw [show q * 1 + (16 - q) * 1 = 16 by omega]; omega
  rw [e1] at h
  have h2 := sumF_le (f := fun j => dayW W Tr T0 q i j * 1) (fun j => by have := dayW_nn (W := W) (Tr := Tr) (T0 := T0) hq i j; omega) 100 j hj
  have h3 : ∀ m n, m + n = 100 → sumF W m ≤ sumF W 100 := by
    intro m n
    induction n generalizing m with
    | zero => intro hm; rw [show m = 100 by omega]; exact Int.le_refl _
    | succ n ih => intro hm; have h5 := ih (m + 1) (by omega); have e2 : sumF W (m + 1) = sumF W m + W m := rfl; rw [e2] at h5; have := hW m; omega
  have h4 := h3 i (100 - i) (by omega)
  omega
theorem odd_loop {W : Nat → Int} {x1 x3 x4 x7 : Int} (hK : K.1 = 923) (hcm : isO 923 cm 0 = true) (ha : isO 923 a 3 = true) (hl : isO 923 l 2 = true) (hq : 0 ≤ q ∧ q ≤ 16) (hO : OW M wa wb) (hlaw : M cm 11 = (l : Int)) (hc : CR M l (eff L)) (hv : Vd (eff L) 0 1) (hf : FO M l c p x wet milk dy) (h7 : x7 = 0 ↔ x = -1) (hW : ∀ i, 0 ≤ W i) (hs : sumF W 100 ≤ 4294967296) (hWM : ∀ g, g < 100 → M wa g = W g)
    (k : ∀ M', FX M' → FrYw l wb M M' → (∀ g, g < 100 → M' wb g = dayW W (nxG c L p x r wet milk dy) (nxG c L p x 0 wet milk dy) q 100 g) → Q (.inl none) (mset (mset M' 144 0 (wb : Int)) 144 1 (wa : Int)) K) :
    ∀ f i, i + f = 100 → ∀ M1, FX M1 → FrYw l wb M M1 → (∀ g, g < 100 → M1 wb g = dayW W (nxG c L p x r wet milk dy) (nxG c L p x 0 wet milk dy) q i g) → Wp (d + 3) 49 108 [vR 144, vR cm, vR a, vI x3, vI x4, vI q, vI r, vI x7, vR (l + 1), vI (i : Int)] [] M1 K Q := by
  have hg2 := rg2 hl
  have hg0 := rg0 hcm
  obtain ⟨⟨oa, la⟩, ⟨ob, lb⟩⟩ := hO.o
  obtain ⟨hab, e0, e1⟩ := hO
  intro f
  induction f with
  | zero =>
    intro i hi M1 x1 f1 w1'
    have hi100 : i = 100 := by omega
    subst hi100
    have r0 : M1 144 0 = (wa : Int) := (f1 144 0 (by omega) (by omega) (by omega)).trans e0
    have r1 : M1 144 1 = (wb : Int) := (f1 144 1 (by omega) (by omega) (by omega)).trans e1
    exact u49_108 hK x1 hcm ha ⟨fun _ => ⟨wa, r0, oa, la, wb, r1, ob, lb, k M1 x1 f1 w1'⟩, fun h => absurd h (by omega)⟩
  | succ f ih =>
    intro i hi M1 x1 f1 w1'
    have hi9 : i < 100 := by omega
    have hbi : 0 ≤ (i : Int) ∧ (i : Int) < 100 := by omega
    have r0 : M1 144 0 = (wa : Int) := (f1 144 0 (by omega) (by omega) (by omega)).trans e0
    have r1 : M1 144 1 = (wb : Int) := (f1 144 1 (by omega) (by omega) (by omega)).trans e1
    have rw0 : M1 wa i = W i := (f1 wa i (by omega) (by omega) (by omega)).trans (hWM i hi9)
    have hd : ∀ z : Nat, z ≤ 100 → ∀ j, j < 100 → _ := fun z hz j hj => dayW_le (Tr := nxG c L p x r wet milk dy) (T0 := nxG c L p x 0 wet milk dy) hq hW (fun g hg => nxG_lt hg) (fun g hg => nxG_lt hg) hs z j hz hj
    have ih := ih (i + 1) (by omega)
    by_cases hpos : 0 < W i
    · have eD : dayW W (nxG c L p x r wet milk dy) (nxG c L p x 0 wet milk dy) q (i + 1) = updW (updW (dayW W (nxG c L p x r wet milk dy) (nxG c L p x 0 wet milk dy) q i) (nxG c L p x r wet milk dy i) (W i * q)) (nxG c L p x 0 wet milk dy i) (W i * (16 - q)) := by
        simp only [dayW]; rw [if_pos hpos]
      have hd1 := hd (i + 1) (by omega)
      have hn1 := dayW_nn (W := W) (Tr := nxG c L p x r wet milk dy) (T0 := nxG c L p x 0 wet milk dy) hq (i + 1)
      have hn0 := dayW_nn (W := W) (Tr := nxG c L p x r wet milk dy) (T0 := nxG c L p x 0 wet milk dy) hq i
      have htr := nxG_lt (c := c) (L := L) (p := p) (x := x) (rain := r) (wet := wet) (milk := milk) (dy := dy) hi9
      have ht0 := nxG_lt (c := c) (L := L) (p := p) (x := x) (rain := 0) (wet := wet) (milk := milk) (dy := dy) hi9
      have etr : x ≠ -1 → ∀ rn, oddT c L p x rn wet milk dy (i : Int) = ((nxG c L p x rn wet milk dy i : Nat) : Int) := by
        intro hx rn
        have := oddT_rg (c := c) (L := L) (p := p) (x := x) (rain := rn) (wet := wet) (milk := milk) (dy := dy) (g := (i : Int)) (by omega)
        unfold nxG; rw [if_neg hx]; omega
      have etx : x = -1 → ∀ rn, nxG c L p x rn wet milk dy i = i := fun hx rn => by unfold nxG; rw [if_pos hx]
      rw [eD] at ih hd1 hn1
      have er := fun hx => etr hx r
      have e00 := fun hx => etr hx 0
      have xr := fun hx => etx hx r
      have x00 := fun hx => etx hx 0
      clear etr etx eD
      generalize nxG c L p x r wet milk dy i = tr at ih hd1 hn1 htr er xr
      generalize nxG c L p x 0 wet milk dy i = t0 at ih hd1 hn1 ht0 e00 x00
      generalize dayW W (nxG c L p x r wet milk dy) (nxG c L p x 0 wet milk dy) q i = A at ih hd1 hn1 hn0 w1' 
      have p1 : 0 ≤ W i * q := Int.mul_nonneg (by omega) hq.1
      have p2 : 0 ≤ W i * (16 - q) := Int.mul_nonneg (by omega) (by omega)
      have v1 : updW A tr (W i * q) tr = A tr + W i * q := by unfold updW; rw [if_pos rfl]
      have v2 : updW (updW A tr (W i * q)) t0 (W i * (16 - q)) t0 = updW A tr (W i * q) t0 + W i * (16 - q) := by unfold updW; rw [if_pos rfl]
      have b2 := hd1 t0 ht0
      have b1 : A tr + W i * q ≤ 16 * 4294967296 := by
        have := hd1 tr htr
        rw [← v1]
        refine Int.le_trans ?_ this
        unfold updW
        split <;> split <;> omega
      have a0 := hn0 tr
      have u0 := updW_nn hn0 p1 (t := tr) t0
      -- both ways out of the grey i
      have at152 : ∀ M2, FX M2 → FrYw l wb M M2 → (∀ g, g < 100 → M2 wb g = A g) → Wp (d + 3) 49 152 [vR 144, vR cm, vR a, vI x3, vI x4, vI q, vI r, vI x7, vR (l + 1), vI (i : Int)] [vI (tr : Int), vR wb] M2 K Q := by
        intro M2 x2 f2 w2
        have s0 : M2 144 0 = (wa : Int) := (f2 144 0 (by omega) (by omega) (by omega)).trans e0
        have s1 : M2 144 1 = (wb : Int) := (f2 144 1 (by omega) (by omega) (by omega)).trans e1
        have sw : M2 wa i = W i := (f2 wa i (by omega) (by omega) (by omega)).trans (hWM i hi9)
        have lbt : ∀ t : Nat, t < 100 → 0 ≤ (t : Int) ∧ (t : Int) < (ln wb : Int) := by intro t ht; rw [lb]; omega
        have ev : w64 (M2 wb tr + w64 (M2 wa i * q)) = A tr + W i * q := by
          rw [w2 tr htr, sw, w64_id (z := W i * q) (by omega), w64_id (by omega)]
        have f3 : FrYw l wb M (mset M2 wb tr (A tr + W i * q)) := f2.up
        have w3 : ∀ g, g < 100 → mset M2 wb tr (A tr + W i * q) wb g = updW A tr (W i * q) g := by
          intro g hg
          unfold updW
          by_cases hgt : g = tr
          · subst hgt; rw [ms_eq, if_pos rfl]
          · rw [ms_nk hgt, if_neg hgt]; exact w2 g hg
        have x3' : FX (mset M2 wb tr (A tr + W i * q)) := x2.set (nfa22 ob _)
        have last : ∀ M3, FX M3 → FrYw l wb M M3 → (∀ g, g < 100 → M3 wb g = updW A tr (W i * q) g) → Wp (d + 3) 49 108 [vR 144, vR cm, vR a, vI x3, vI x4, vI q, vI r, vI x7, vR (l + 1), vI (w32 ((i : Int) + 1))] [] (mset M3 wb t0 (w64 (M3 wb t0 + w64 (M3 wa i * w32 (16 - q))))) K Q := by
          intro M3 y3 g3 u3
          have sw3 : M3 wa i = W i := (g3 wa i (by omega) (by omega) (by omega)).trans (hWM i hi9)
          rw [w1 (by omega), u3 t0 ht0, sw3, w32_id (z := 16 - q) (by omega), w64_id (z := W i * (16 - q)) (by omega), w64_id (by omega)]
          refine ih _ (y3.set (nfa22 ob _)) g3.up (fun g hg => ?_)
          by_cases hgt : g = t0
          · subst hgt; rw [ms_eq, v2]
          · rw [ms_nk hgt, u3 g hg]
            conv => rhs; unfold updW
            rw [if_neg hgt]
            rfl
        refine u49_152 hK x2 hcm ha ⟨ob, lbt tr htr, wa, s0, oa, la, hbi, lbt tr htr, ?_⟩
        rw [Int.toNat_natCast, Int.toNat_natCast, ev]
        refine ⟨wb, (ms_na (by omega)).trans s1, ob, lb, fun h70 => ?_, fun h70 => ?_⟩
        · have hx := h7.mp h70
          have := last _ x3' f3 w3
          rw [x00 hx] at this
          exact ⟨hbi, wa, (ms_na (by omega)).trans s0, oa, la, hbi, hbi, this⟩
        · have hx : x ≠ -1 := fun h => h70 (h7.mpr h)
          have fl : FrL2 l M (mset M2 wb tr (A tr + W i * q)) → True := fun _ => trivial
          refine ⟨l, (f3 cm 11 (by omega) (by omega) (by omega)).trans hlaw, hl, c, L, p, x, wet, milk, dy, ⟨?_, hv, ?_, by omega, by omega⟩, fun M4 x4' f4 => ?_⟩
          · exact ⟨(f3 l 3 (by omega) (by omega) (by omega)).trans hc.1, hc.2.1, fun j hj => (f3 (l + 2) j (by omega) (by omega) (by omega)).trans (hc.2.2 j hj)⟩
          · exact fun j h1 h2 h3 => (f3 (l + 1) j (by omega) (by omega) (by omega)).trans (hf j h1 h2 h3)
          · rw [e00 hx, Int.toNat_natCast]
            have g4 : FrYw l wb M M4 := f3.tr f4.yw
            exact ⟨by omega, wa, (g4 144 0 (by omega) (by omega) (by omega)).trans e0, oa, la, hbi, by omega, last M4 x4' g4 (fun g hg => (f4 wb g (by omega) (by omega)).trans (w3 g hg))⟩
      have hj : ¬ jcmp (M1 wa (Int.toNat (i : Int))) 0 ≤ 0 := by
        rw [Int.toNat_natCast, rw0]; unfold jcmp
        rw [if_pos hpos]; decide
      refine u49_108 hK x1 hcm ha ⟨fun h => absurd h (by omega), fun _ => ⟨wa, r0, oa, la, hbi, fun h => absurd h hj, fun _ => ⟨wb, r1, ob, lb, fun h70 => ?_, fun h70 => ?_⟩⟩⟩
      · have := at152 M1 x1 f1 w1'
        rw [xr (h7.mp h70)] at this
        exact this
      · have hx : x ≠ -1 := fun h => h70 (h7.mpr h)
        refine ⟨l, (f1 cm 11 (by omega) (by omega) (by omega)).trans hlaw, hl, c, L, p, x, wet, milk, dy, ⟨?_, hv, ?_, by omega, by omega⟩, fun M4 x4' f4 => ?_⟩
        · exact ⟨(f1 l 3 (by omega) (by omega) (by omega)).trans hc.1, hc.2.1, fun j hj => (f1 (l + 2) j (by omega) (by omega) (by omega)).trans (hc.2.2 j hj)⟩
        · exact fun j h1 h2 h3 => (f1 (l + 1) j (by omega) (by omega) (by omega)).trans (hf j h1 h2 h3)
        · rw [er hx]
          exact at152 M4 x4' (f1.tr f4.yw) (fun g hg => (f4 wb g (by omega) (by omega)).trans (w1' g hg))
    · have eD : dayW W (nxG c L p x r wet milk dy) (nxG c L p x 0 wet milk dy) q (i + 1) = dayW W (nxG c L p x r wet milk dy) (nxG c L p x 0 wet milk dy) q i := by
        simp only [dayW]; rw [if_neg hpos]
      rw [eD] at ih
      have hj : jcmp (M1 wa (Int.toNat (i : Int))) 0 ≤ 0 := by
        rw [Int.toNat_natCast, rw0]; unfold jcmp
        rw [if_neg (by omega)]; split <;> decide
      refine u49_108 hK x1 hcm ha ⟨fun h => absurd h (by omega), fun _ => ⟨wa, r0, oa, la, hbi, fun _ => ?_, fun h => absurd hj h⟩⟩
      rw [w1 (by omega)]
      exact ih M1 x1 f1 w1'
end CY
