theorem u191_0 {d : Nat} {l1 : Int} {M : Mem} {K : KK} {Q : RR → Mem → KK → Prop} (hK : K.1 = 923) (hX : FX M)  (h : (¬ ((0 : Int) ≤ l1 ∧ l1 ≤ (M 440 1)) → (∀ (M6 : Mem), FX M6 → BadM 1 1 (mset M 440 0 (0 : Int)) M6 → Q (.inl (some (vI (0 : Int)))) M6 K)) ∧ (((0 : Int) ≤ l1 ∧ l1 ≤ (M 440 1)) → (l1 ≤ (60 : Int) → ∃ n8 : Nat, (l1 = (n8 : Int) ∧ n8 ≤ 600) ∧ (∀ (M12 : Mem), FX M12 → (FrS (mset M 440 0 (0 : Int)) M12 ∧ TM ((mset M 440 0 (0 : Int)) 441) n8 M12 (.inl (sk ((mset M 440 0 (0 : Int)) 441) n8 0)) ∧ AtM M12 (.inl (sk ((mset M 440 0 (0 : Int)) 441) n8 0)) ∧ M12 440 1 = 0 ∧ M12 440 7 = 0 ∧ M12 440 8 = 0) → Wp (d + 3) 191 48 [vR 440, vI l1, vI (0 : Int), vI (0 : Int), vU, vU, vU] [] M12 K Q)) ∧ (¬ (l1 ≤ (60 : Int)) → (∀ (M15 : Mem), FX M15 → BadM 1 1 (mset M 440 0 (0 : Int)) M15 → Q (.inl (some (vI (0 : Int)))) M15 K)))) : Wp (d + 3) 191 0 [vR 440, vI l1, vU, vU, vU, vU, vU] [] M K Q := by
  refine r_aload_n c191_0 rfl ?_
  refine r_iconst c191_1 ?_
  refine r_putI c191_2 (oK hK o440) ?_
  have x1 := FX.set (v := (0 : Int)) (a := 440) (k := 0) hX (by decide +kernel)
  refine r_aload_n c191_5 rfl ?_
  refine r_iload_n c191_6 rfl ?_
  refine r_iconst c191_7 ?_
  refine r_aload_n c191_8 rfl ?_
  refine r_getIe c191_9 (oK hK o440) (ms_nk (by decide)) ?_
  refine r_call c191_12 rfl rfl (Nat.le_of_ble_eq_true rfl) (okc_s rfl rfl rfl) (g153 hK x1  (Bk_v ?_))
  refine r_ifP (P := ¬ ((0 : Int) ≤ l1 ∧ l1 ≤ (M 440 1))) c191_15 bI_eq (fun hc2 => ?_) (fun hc2 => ?_)
  · replace h := h.1 hc2
    refine r_iconst c191_24 ?_
    refine r_goto c191_25 ?_
    refine r_iconst c191_29 ?_
    refine r_iconst c191_30 ?_
    refine r_call c191_31 rfl rfl (Nat.le_of_ble_eq_true rfl) (okc_r rfl rfl (oK hK o440)) (b152_1 (cd := 1) (ix := 1) hK x1 ms_eq (by decide) (by decide) (fun M6 x4 p5 => Bk_v ?_))
    replace h := h M6 x4 p5
    refine r_ifP (P := (1 : Int) = (0 : Int)) c191_34 rfl (fun hc => absurd hc (by decide)) (fun hc => ?_)
    refine r_iconst c191_37 ?_
    exact r_iret c191_38 (Or.inl rfl) h
  · have hc3 := Classical.not_not.mp hc2
    replace h := h.2 hc3
    refine r_iload_n c191_18 rfl ?_
    refine r_bipush c191_19 ?_
    refine r_icmpP (P := l1 ≤ (60 : Int)) c191_21 rfl (fun hc7 => ?_) (fun hc7 => ?_)
    · replace h := h.1 hc7
      refine r_iconst c191_28 ?_
      refine r_iconst c191_29 ?_
      refine r_iconst c191_30 ?_
      refine r_call c191_31 rfl rfl (Nat.le_of_ble_eq_true rfl) (okc_r rfl rfl (oK hK o440)) (b152_0 hK x1 ms_eq (Bk_v ?_))
      refine r_ifP (P := (0 : Int) = (0 : Int)) c191_34 rfl (fun hc => ?_) (fun hc => absurd (by decide) hc)
      refine r_aload_n c191_39 rfl ?_
      refine r_iload_n c191_40 rfl ?_
      obtain ⟨n8, h⟩ := h
      obtain ⟨p9, h⟩ := h
      refine r_call c191_41 rfl rfl (Nat.le_of_ble_eq_true rfl) (okc_r rfl rfl (oK hK o440)) (g171 hK x1 p9 (fun M12 x10 p11 => Bk_n ?_))
      replace h := h M12 x10 p11
      refine r_iconst c191_44 ?_
      refine r_istore_n c191_45 (Nat.le_of_ble_eq_true rfl) ?_
      refine r_iconst c191_46 ?_
      refine r_istore_n c191_47 (Nat.le_of_ble_eq_true rfl) ?_
      exact h
    · replace h := h.2 hc7
      refine r_iconst c191_24 ?_
      refine r_goto c191_25 ?_
      refine r_iconst c191_29 ?_
      refine r_iconst c191_30 ?_
      refine r_call c191_31 rfl rfl (Nat.le_of_ble_eq_true rfl) (okc_r rfl rfl (oK hK o440)) (b152_1 (cd := 1) (ix := 1) hK x1 ms_eq (by decide) (by decide) (fun M15 x13 p14 => Bk_v ?_))
      replace h := h M15 x13 p14
      refine r_ifP (P := (1 : Int) = (0 : Int)) c191_34 rfl (fun hc => absurd hc (by decide)) (fun hc => ?_)
      refine r_iconst c191_37 ?_
      exact r_iret c191_38 (Or.inl rfl) h
theorem u191_48 {d : Nat} {l1 : Int} {l2 : Int} {l3 : Int} {l4 : PV} {l5 : PV} {l6 : PV} {M : Mem} {K : KK} {Q : RR → Mem → KK → Prop} (hK : K.1 = 923) (hX : FX M)  (h : (¬ (M 440 5) = (0 : Int) → Wm (d + 2) 172 [vR 440] M K (Bk (d + 2) 191 176 179 172 [vR 440, vI l1, vI l2, vI l3, l4, l5, l6] [] Q)) ∧ ((M 440 5) = (0 : Int) → ((M 440 2) ≤ (M 440 4) → Wm (d + 2) 177 [vR 796, vR 787, vI l2] (mset (mset M 440 3 (-1 : Int)) 440 35 l2) K (Bk (d + 2) 191 199 202 177 [vR 440, vI l1, vI l2, vI l3, l4, l5, l6] [] Q)) ∧ (¬ ((M 440 2) ≤ (M 440 4)) → ∃ B6 : BY, ∃ n7 : Nat, ∃ st8 : ST, TM B6 n7 M st8 ∧ (∀ (M12 : Mem), FX M12 → (FrM M M12 ∧ TM B6 n7 M12 (tNum B6 n7 (0 : Int) (w32 ((M 444 2) - (1 : Int))) st8).2) → (¬ (M12 440 5) = (0 : Int) → ∃ B15 : BY, ∃ n16 : Nat, ∃ st17 : ST, TM B15 n16 M12 st17 ∧ (∀ (M21 : Mem), FX M21 → (FrM M12 M21 ∧ TM B15 n16 M21 (tNum B15 n16 (0 : Int) (1 : Int) st17).2) → ∃ B22 : BY, ∃ n23 : Nat, ∃ st24 : ST, (TM B22 n23 M21 st24 ∧ (59 : Int) ≠ -1) ∧ (∀ (M28 : Mem), FX M28 → (FrM M21 M28 ∧ TM B22 n23 M28 (tSign B22 n23 (59 : Int) st24)) → (¬ (M28 440 5) = (0 : Int) → ∃ B31 : BY, ∃ n32 : Nat, ∃ st33 : ST, TM B31 n32 M28 st33 ∧ (∀ (M37 : Mem), FX M37 → (FrM M28 M37 ∧ TM B31 n32 M37 st33 ∧ AtM M37 st33) → Wp (d + 3) 191 48 [vR 440, vI l1, vI l2, vI l3, vI (M 440 4), vI (okv (tNum B6 n7 (0 : Int) (w32 ((M 444 2) - (1 : Int))) st8)), vI (okv (tNum B15 n16 (0 : Int) (1 : Int) st17))] [] M37 K Q)) ∧ ((M28 440 5) = (0 : Int) → (0 ≤ l2 ∧ l2 < (8 : Int)) ∧ (0 ≤ l2 ∧ l2 < (8 : Int)) ∧ ∃ B42 : BY, ∃ n43 : Nat, ∃ st44 : ST, TM B42 n43 (mset (mset M28 (797 + Int.toNat l2) 0 (okv (tNum B6 n7 (0 : Int) (w32 ((M 444 2) - (1 : Int))) st8))) (797 + Int.toNat l2) 1 (okv (tNum B15 n16 (0 : Int) (1 : Int) st17))) st44 ∧ (∀ (M48 : Mem), FX M48 → (FrM (mset (mset M28 (797 + Int.toNat l2) 0 (okv (tNum B6 n7 (0 : Int) (w32 ((M 444 2) - (1 : Int))) st8))) (797 + Int.toNat l2) 1 (okv (tNum B15 n16 (0 : Int) (1 : Int) st17))) M48 ∧ TM B42 n43 M48 st44 ∧ AtM M48 st44) → Wp (d + 3) 191 48 [vR 440, vI l1, vI (w32 (l2 + 1)), vI (jor l3 (jshl (1 : Int) (okv (tNum B6 n7 (0 : Int) (w32 ((M 444 2) - (1 : Int))) st8)))), vI (M 440 4), vI (okv (tNum B6 n7 (0 : Int) (w32 ((M 444 2) - (1 : Int))) st8)), vI (okv (tNum B15 n16 (0 : Int) (1 : Int) st17))] [] M48 K Q))))) ∧ ((M12 440 5) = (0 : Int) → (¬ (jand (jshr l3 (okv (tNum B6 n7 (0 : Int) (w32 ((M 444 2) - (1 : Int))) st8))) 1 = 1) → ∃ B51 : BY, ∃ n52 : Nat, ∃ st53 : ST, TM B51 n52 M12 st53 ∧ (∀ (M57 : Mem), FX M57 → (FrM M12 M57 ∧ TM B51 n52 M57 (tNum B51 n52 (0 : Int) (1 : Int) st53).2) → ∃ B58 : BY, ∃ n59 : Nat, ∃ st60 : ST, (TM B58 n59 M57 st60 ∧ (59 : Int) ≠ -1) ∧ (∀ (M64 : Mem), FX M64 → (FrM M57 M64 ∧ TM B58 n59 M64 (tSign B58 n59 (59 : Int) st60)) → (¬ (M64 440 5) = (0 : Int) → ∃ B67 : BY, ∃ n68 : Nat, ∃ st69 : ST, TM B67 n68 M64 st69 ∧ (∀ (M73 : Mem), FX M73 → (FrM M64 M73 ∧ TM B67 n68 M73 st69 ∧ AtM M73 st69) → Wp (d + 3) 191 48 [vR 440, vI l1, vI l2, vI l3, vI (M 440 4), vI (okv (tNum B6 n7 (0 : Int) (w32 ((M 444 2) - (1 : Int))) st8)), vI (okv (tNum B51 n52 (0 : Int) (1 : Int) st53))] [] M73 K Q)) ∧ ((M64 440 5) = (0 : Int) → (0 ≤ l2 ∧ l2 < (8 : Int)) ∧ (0 ≤ l2 ∧ l2 < (8 : Int)) ∧ ∃ B78 : BY, ∃ n79 : Nat, ∃ st80 : ST, TM B78 n79 (mset (mset M64 (797 + Int.toNat l2) 0 (okv (tNum B6 n7 (0 : Int) (w32 ((M 444 2) - (1 : Int))) st8))) (797 + Int.toNat l2) 1 (okv (tNum B51 n52 (0 : Int) (1 : Int) st53))) st80 ∧ (∀ (M84 : Mem), FX M84 → (FrM (mset (mset M64 (797 + Int.toNat l2) 0 (okv (tNum B6 n7 (0 : Int) (w32 ((M 444 2) - (1 : Int))) st8))) (797 + Int.toNat l2) 1 (okv (tNum B51 n52 (0 : Int) (1 : Int) st53))) M84 ∧ TM B78 n79 M84 st80 ∧ AtM M84 st80) → Wp (d + 3) 191 48 [vR 440, vI l1, vI (w32 (l2 + 1)), vI (jor l3 (jshl (1 : Int) (okv (tNum B6 n7 (0 : Int) (w32 ((M 444 2) - (1 : Int))) st8)))), vI (M 440 4), vI (okv (tNum B6 n7 (0 : Int) (w32 ((M 444 2) - (1 : Int))) st8)), vI (okv (tNum B51 n52 (0 : Int) (1 : Int) st53))] [] M84 K Q))))) ∧ ((jand (jshr l3 (okv (tNum B6 n7 (0 : Int) (w32 ((M 444 2) - (1 : Int))) st8))) 1 = 1) → ∃ B85 : BY, ∃ n86 : Nat, ∃ st87 : ST, (TM B85 n86 M12 st87 ∧ (2 : Int) ≠ 0) ∧ (∀ (M91 : Mem), FX M91 → (FrM M12 M91 ∧ TM B85 n86 M91 (tFail (2 : Int) (M 440 4) st87) ∧ M91 440 4 = M12 440 4) → ∃ B92 : BY, ∃ n93 : Nat, ∃ st94 : ST, TM B92 n93 M91 st94 ∧ (∀ (M98 : Mem), FX M98 → (FrM M91 M98 ∧ TM B92 n93 M98 (tNum B92 n93 (0 : Int) (1 : Int) st94).2) → ∃ B99 : BY, ∃ n100 : Nat, ∃ st101 : ST, (TM B99 n100 M98 st101 ∧ (59 : Int) ≠ -1) ∧ (∀ (M105 : Mem), FX M105 → (FrM M98 M105 ∧ TM B99 n100 M105 (tSign B99 n100 (59 : Int) st101)) → (¬ (M105 440 5) = (0 : Int) → ∃ B108 : BY, ∃ n109 : Nat, ∃ st110 : ST, TM B108 n109 M105 st110 ∧ (∀ (M114 : Mem), FX M114 → (FrM M105 M114 ∧ TM B108 n109 M114 st110 ∧ AtM M114 st110) → Wp (d + 3) 191 48 [vR 440, vI l1, vI l2, vI l3, vI (M 440 4), vI (okv (tNum B6 n7 (0 : Int) (w32 ((M 444 2) - (1 : Int))) st8)), vI (okv (tNum B92 n93 (0 : Int) (1 : Int) st94))] [] M114 K Q)) ∧ ((M105 440 5) = (0 : Int) → (0 ≤ l2 ∧ l2 < (8 : Int)) ∧ (0 ≤ l2 ∧ l2 < (8 : Int)) ∧ ∃ B119 : BY, ∃ n120 : Nat, ∃ st121 : ST, TM B119 n120 (mset (mset M105 (797 + Int.toNat l2) 0 (okv (tNum B6 n7 (0 : Int) (w32 ((M 444 2) - (1 : Int))) st8))) (797 + Int.toNat l2) 1 (okv (tNum B92 n93 (0 : Int) (1 : Int) st94))) st121 ∧ (∀ (M125 : Mem), FX M125 → (FrM (mset (mset M105 (797 + Int.toNat l2) 0 (okv (tNum B6 n7 (0 : Int) (w32 ((M 444 2) - (1 : Int))) st8))) (797 + Int.toNat l2) 1 (okv (tNum B92 n93 (0 : Int) (1 : Int) st94))) M125 ∧ TM B119 n120 M125 st121 ∧ AtM M125 st121) → Wp (d + 3) 191 48 [vR 440, vI l1, vI (w32 (l2 + 1)), vI (jor l3 (jshl (1 : Int) (okv (tNum B6 n7 (0 : Int) (w32 ((M 444 2) - (1 : Int))) st8)))), vI (M 440 4), vI (okv (tNum B6 n7 (0 : Int) (w32 ((M 444 2) - (1 : Int))) st8)), vI (okv (tNum B92 n93 (0 : Int) (1 : Int) st94))] [] M125 K Q))))))))))) : Wp (d + 3) 191 48 [vR 440, vI l1, vI l2, vI l3, l4, l5, l6] [] M K Q := by
  refine r_aload_n c191_48 rfl ?_
  refine r_getIe c191_49 (oK hK o440) rfl ?_
  refine r_ifP (P := ¬ (M 440 5) = (0 : Int)) c191_52 rfl (fun hc1 => ?_) (fun hc1 => ?_)
  · replace h := h.1 hc1
    refine r_aload_n c191_168 rfl ?_
    refine r_getIe c191_169 (oK hK o440) rfl ?_
    refine r_ifP (P := (M 440 5) = (0 : Int)) c191_172 rfl (fun hc => absurd hc hc1) (fun hc => ?_)
    refine r_aload_n c191_175 rfl ?_
    exact r_call c191_176 rfl rfl (Nat.le_of_ble_eq_true rfl) (okc_r rfl rfl (oK hK o440)) h
  · have hc2 := Classical.not_not.mp hc1
    replace h := h.2 hc2
    refine r_aload_n c191_55 rfl ?_
    refine r_getIe c191_56 (oK hK o440) rfl ?_
    refine r_aload_n c191_59 rfl ?_
    refine r_getIe c191_60 (oK hK o440) rfl ?_
    refine r_icmpP (P := (M 440 2) ≤ (M 440 4)) c191_63 rfl (fun hc3 => ?_) (fun hc3 => ?_)
    · replace h := h.1 hc3
      refine r_aload_n c191_168 rfl ?_
      refine r_getIe c191_169 (oK hK o440) rfl ?_
      refine r_ifP (P := (M 440 5) = (0 : Int)) c191_172 rfl (fun hc => ?_) (fun hc => absurd hc2 hc)
      refine r_aload_n c191_180 rfl ?_
      refine r_iconst c191_181 ?_
      refine r_putI c191_182 (oK hK o440) ?_
      have x4 := FX.set (v := (-1 : Int)) (a := 440) (k := 3) hX (by decide +kernel)
      refine r_aload_n c191_185 rfl ?_
      refine r_iload_n c191_186 rfl ?_
      refine r_putI c191_187 (oK hK o440) ?_
      have x5 := FX.set (v := l2) (a := 440) (k := 35) x4 (by decide +kernel)
      refine r_aload_n c191_190 rfl ?_
      refine r_getR c191_191 (oK hK o440) (FX.get (b := 796) x5 (by decide) (by decide +kernel) (by decide)) (by decide) ?_
      refine r_aload_n c191_194 rfl ?_
      refine r_getR c191_195 (oK hK o440) (FX.get (b := 787) x5 (by decide) (by decide +kernel) (by decide)) (by decide) ?_
      refine r_iload_n c191_198 rfl ?_
      exact r_call c191_199 rfl rfl (Nat.le_of_ble_eq_true rfl) (okc_s rfl rfl rfl) h
    · replace h := h.2 hc3
      refine r_aload_n c191_66 rfl ?_
      refine r_getIe c191_67 (oK hK o440) rfl ?_
      refine r_istore c191_70 (Nat.le_of_ble_eq_true rfl) ?_
      refine r_aload_n c191_72 rfl ?_
      refine r_iconst c191_73 ?_
      refine r_aload_n c191_74 rfl ?_
      refine r_getR c191_75 (oK hK o440) (FX.get (b := 444) hX (by decide) (by decide +kernel) (by decide)) (by decide) ?_
      refine r_iconst c191_78 ?_
      refine r_iae c191_79 (oK hK o444) (bd l444 (by decide)) rfl ?_
      refine r_iconst c191_80 ?_
      refine r_isub c191_81 ?_
      obtain ⟨B6, h⟩ := h
      obtain ⟨n7, h⟩ := h
      obtain ⟨st8, h⟩ := h
      obtain ⟨p9, h⟩ := h
      refine r_call c191_82 rfl rfl (Nat.le_of_ble_eq_true rfl) (okc_r rfl rfl (oK hK o440)) (g163 hK hX p9 (fun M12 x10 p11 => Bk_v ?_))
      replace h := h M12 x10 p11
      refine r_istore c191_85 (Nat.le_of_ble_eq_true rfl) ?_
      refine r_aload_n c191_87 rfl ?_
      refine r_getIe c191_88 (oK hK o440) rfl ?_
      refine r_ifP (P := ¬ (M12 440 5) = (0 : Int)) c191_91 rfl (fun hc13 => ?_) (fun hc13 => ?_)
      · replace h := h.1 hc13
        refine r_aload_n c191_110 rfl ?_
        refine r_iconst c191_111 ?_
        refine r_iconst c191_112 ?_
        obtain ⟨B15, h⟩ := h
        obtain ⟨n16, h⟩ := h
        obtain ⟨st17, h⟩ := h
        obtain ⟨p18, h⟩ := h
        refine r_call c191_113 rfl rfl (Nat.le_of_ble_eq_true rfl) (okc_r rfl rfl (oK hK o440)) (g163 hK x10 p18 (fun M21 x19 p20 => Bk_v ?_))
        replace h := h M21 x19 p20
        refine r_istore c191_116 (Nat.le_of_ble_eq_true rfl) ?_
        refine r_aload_n c191_118 rfl ?_
        refine r_bipush c191_119 ?_
        obtain ⟨B22, h⟩ := h
        obtain ⟨n23, h⟩ := h
        obtain ⟨st24, h⟩ := h
        obtain ⟨p25, h⟩ := h
        refine r_call c191_121 rfl rfl (Nat.le_of_ble_eq_true rfl) (okc_r rfl rfl (oK hK o440)) (g169 hK x19 p25 (fun M28 x26 p27 => Bk_n ?_))
        replace h := h M28 x26 p27
        refine r_aload_n c191_124 rfl ?_
        refine r_getIe c191_125 (oK hK o440) rfl ?_
        refine r_ifP (P := ¬ (M28 440 5) = (0 : Int)) c191_128 rfl (fun hc29 => ?_) (fun hc29 => ?_)
        · replace h := h.1 hc29
          refine r_aload_n c191_161 rfl ?_
          obtain ⟨B31, h⟩ := h
          obtain ⟨n32, h⟩ := h
          obtain ⟨st33, h⟩ := h
          obtain ⟨p34, h⟩ := h
          refine r_call c191_162 rfl rfl (Nat.le_of_ble_eq_true rfl) (okc_r rfl rfl (oK hK o440)) (g159 hK x26 p34 (fun M37 x35 p36 => Bk_n ?_))
          replace h := h M37 x35 p36
          refine r_goto c191_165 ?_
          exact h
        · have hc30 := Classical.not_not.mp hc29
          replace h := h.2 hc30
          refine r_iload_n c191_131 rfl ?_
          refine r_iconst c191_132 ?_
          refine r_iload c191_133 rfl ?_
          refine r_ishl c191_135 ?_
          refine r_ior c191_136 ?_
          refine r_istore_n c191_137 (Nat.le_of_ble_eq_true rfl) ?_
          refine r_aload_n c191_138 rfl ?_
          refine r_getR c191_139 (oK hK o440) (FX.get (b := 796) x26 (by decide) (by decide +kernel) (by decide)) (by decide) ?_
          refine r_iload_n c191_142 rfl ?_
          obtain ⟨s38, h⟩ := h
          refine r_aa c191_143 (mrw o796 hK) (bd l796 s38) (rf796 x26 s38) (by omega) ?_
          refine r_iconst c191_144 ?_
          refine r_iload c191_145 rfl ?_
          refine r_ias c191_147 (oK hK (ro796 s38)) (bd (rz796 s38) (by decide)) ?_
          have x39 := FX.set (v := (okv (tNum B6 n7 (0 : Int) (w32 ((M 444 2) - (1 : Int))) st8))) (a := (797 + Int.toNat l2)) (k := 0) x26 (nfa (ro796 s38) _)
          refine r_aload_n c191_148 rfl ?_
          refine r_getR c191_149 (oK hK o440) (FX.get (b := 796) x39 (by decide) (by decide +kernel) (by decide)) (by decide) ?_
          refine r_iload_n c191_152 rfl ?_
          obtain ⟨s40, h⟩ := h
          refine r_aa c191_153 (mrw o796 hK) (bd l796 s40) (rf796 x39 s40) (by omega) ?_
          refine r_iconst c191_154 ?_
          refine r_iload c191_155 rfl ?_
          refine r_ias c191_157 (oK hK (ro796 s40)) (bd (rz796 s40) (by decide)) ?_
          have x41 := FX.set (v := (okv (tNum B15 n16 (0 : Int) (1 : Int) st17))) (a := (797 + Int.toNat l2)) (k := 1) x39 (nfa (ro796 s40) _)
          refine r_iinc c191_158 rfl ?_
          refine r_aload_n c191_161 rfl ?_
          obtain ⟨B42, h⟩ := h
          obtain ⟨n43, h⟩ := h
          obtain ⟨st44, h⟩ := h
          obtain ⟨p45, h⟩ := h
          refine r_call c191_162 rfl rfl (Nat.le_of_ble_eq_true rfl) (okc_r rfl rfl (oK hK o440)) (g159 hK x41 p45 (fun M48 x46 p47 => Bk_n ?_))
          replace h := h M48 x46 p47
          refine r_goto c191_165 ?_
          exact h
      · have hc14 := Classical.not_not.mp hc13
        replace h := h.2 hc14
        refine r_iload_n c191_94 rfl ?_
        refine r_iload c191_95 rfl ?_
        refine r_call c191_97 rfl rfl (Nat.le_of_ble_eq_true rfl) (okc_s rfl rfl rfl) (g156 hK x10  (Bk_v ?_))
        refine r_ifP (P := ¬ (jand (jshr l3 (okv (tNum B6 n7 (0 : Int) (w32 ((M 444 2) - (1 : Int))) st8))) 1 = 1)) c191_100 bI_eq (fun hc49 => ?_) (fun hc49 => ?_)
        · replace h := h.1 hc49
          refine r_aload_n c191_110 rfl ?_
          refine r_iconst c191_111 ?_
          refine r_iconst c191_112 ?_
          obtain ⟨B51, h⟩ := h
          obtain ⟨n52, h⟩ := h
          obtain ⟨st53, h⟩ := h
          obtain ⟨p54, h⟩ := h
          refine r_call c191_113 rfl rfl (Nat.le_of_ble_eq_true rfl) (okc_r rfl rfl (oK hK o440)) (g163 hK x10 p54 (fun M57 x55 p56 => Bk_v ?_))
          replace h := h M57 x55 p56
          refine r_istore c191_116 (Nat.le_of_ble_eq_true rfl) ?_
          refine r_aload_n c191_118 rfl ?_
          refine r_bipush c191_119 ?_
          obtain ⟨B58, h⟩ := h
          obtain ⟨n59, h⟩ := h
          obtain ⟨st60, h⟩ := h
          obtain ⟨p61, h⟩ := h
          refine r_call c191_121 rfl rfl (Nat.le_of_ble_eq_true rfl) (okc_r rfl rfl (oK hK o440)) (g169 hK x55 p61 (fun M64 x62 p63 => Bk_n ?_))
          replace h := h M64 x62 p63
          refine r_aload_n c191_124 rfl ?_
          refine r_getIe c191_125 (oK hK o440) rfl ?_
          refine r_ifP (P := ¬ (M64 440 5) = (0 : Int)) c191_128 rfl (fun hc65 => ?_) (fun hc65 => ?_)
          · replace h := h.1 hc65
            refine r_aload_n c191_161 rfl ?_
            obtain ⟨B67, h⟩ := h
            obtain ⟨n68, h⟩ := h
            obtain ⟨st69, h⟩ := h
            obtain ⟨p70, h⟩ := h
            refine r_call c191_162 rfl rfl (Nat.le_of_ble_eq_true rfl) (okc_r rfl rfl (oK hK o440)) (g159 hK x62 p70 (fun M73 x71 p72 => Bk_n ?_))
            replace h := h M73 x71 p72
            refine r_goto c191_165 ?_
            exact h
          · have hc66 := Classical.not_not.mp hc65
            replace h := h.2 hc66
            refine r_iload_n c191_131 rfl ?_
            refine r_iconst c191_132 ?_
            refine r_iload c191_133 rfl ?_
            refine r_ishl c191_135 ?_
            refine r_ior c191_136 ?_
            refine r_istore_n c191_137 (Nat.le_of_ble_eq_true rfl) ?_
            refine r_aload_n c191_138 rfl ?_
            refine r_getR c191_139 (oK hK o440) (FX.get (b := 796) x62 (by decide) (by decide +kernel) (by decide)) (by decide) ?_
            refine r_iload_n c191_142 rfl ?_
            obtain ⟨s74, h⟩ := h
            refine r_aa c191_143 (mrw o796 hK) (bd l796 s74) (rf796 x62 s74) (by omega) ?_
            refine r_iconst c191_144 ?_
            refine r_iload c191_145 rfl ?_
            refine r_ias c191_147 (oK hK (ro796 s74)) (bd (rz796 s74) (by decide)) ?_
            have x75 := FX.set (v := (okv (tNum B6 n7 (0 : Int) (w32 ((M 444 2) - (1 : Int))) st8))) (a := (797 + Int.toNat l2)) (k := 0) x62 (nfa (ro796 s74) _)
            refine r_aload_n c191_148 rfl ?_
            refine r_getR c191_149 (oK hK o440) (FX.get (b := 796) x75 (by decide) (by decide +kernel) (by decide)) (by decide) ?_
            refine r_iload_n c191_152 rfl ?_
            obtain ⟨s76, h⟩ := h
            refine r_aa c191_153 (mrw o796 hK) (bd l796 s76) (rf796 x75 s76) (by omega) ?_
            refine r_iconst c191_154 ?_
            refine r_iload c191_155 rfl ?_
            refine r_ias c191_157 (oK hK (ro796 s76)) (bd (rz796 s76) (by decide)) ?_
            have x77 := FX.set (v := (okv (tNum B51 n52 (0 : Int) (1 : Int) st53))) (a := (797 + Int.toNat l2)) (k := 1) x75 (nfa (ro796 s76) _)
            refine r_iinc c191_158 rfl ?_
            refine r_aload_n c191_161 rfl ?_
            obtain ⟨B78, h⟩ := h
            obtain ⟨n79, h⟩ := h
            obtain ⟨st80, h⟩ := h
            obtain ⟨p81, h⟩ := h
            refine r_call c191_162 rfl rfl (Nat.le_of_ble_eq_true rfl) (okc_r rfl rfl (oK hK o440)) (g159 hK x77 p81 (fun M84 x82 p83 => Bk_n ?_))
            replace h := h M84 x82 p83
            refine r_goto c191_165 ?_
            exact h
        · have hc50 := Classical.not_not.mp hc49
          replace h := h.2 hc50
          refine r_aload_n c191_103 rfl ?_
          refine r_iconst c191_104 ?_
          refine r_iload c191_105 rfl ?_
          obtain ⟨B85, h⟩ := h
          obtain ⟨n86, h⟩ := h
          obtain ⟨st87, h⟩ := h
          obtain ⟨p88, h⟩ := h
          refine r_call c191_107 rfl rfl (Nat.le_of_ble_eq_true rfl) (okc_r rfl rfl (oK hK o440)) (g160 hK x10 p88 (fun M91 x89 p90 => Bk_n ?_))
          replace h := h M91 x89 p90
          refine r_aload_n c191_110 rfl ?_
          refine r_iconst c191_111 ?_
          refine r_iconst c191_112 ?_
          obtain ⟨B92, h⟩ := h
          obtain ⟨n93, h⟩ := h
          obtain ⟨st94, h⟩ := h
          obtain ⟨p95, h⟩ := h
          refine r_call c191_113 rfl rfl (Nat.le_of_ble_eq_true rfl) (okc_r rfl rfl (oK hK o440)) (g163 hK x89 p95 (fun M98 x96 p97 => Bk_v ?_))
          replace h := h M98 x96 p97
          refine r_istore c191_116 (Nat.le_of_ble_eq_true rfl) ?_
          refine r_aload_n c191_118 rfl ?_
          refine r_bipush c191_119 ?_
          obtain ⟨B99, h⟩ := h
          obtain ⟨n100, h⟩ := h
          obtain ⟨st101, h⟩ := h
          obtain ⟨p102, h⟩ := h
          refine r_call c191_121 rfl rfl (Nat.le_of_ble_eq_true rfl) (okc_r rfl rfl (oK hK o440)) (g169 hK x96 p102 (fun M105 x103 p104 => Bk_n ?_))
          replace h := h M105 x103 p104
          refine r_aload_n c191_124 rfl ?_
          refine r_getIe c191_125 (oK hK o440) rfl ?_
          refine r_ifP (P := ¬ (M105 440 5) = (0 : Int)) c191_128 rfl (fun hc106 => ?_) (fun hc106 => ?_)
          · replace h := h.1 hc106
            refine r_aload_n c191_161 rfl ?_
            obtain ⟨B108, h⟩ := h
            obtain ⟨n109, h⟩ := h
            obtain ⟨st110, h⟩ := h
            obtain ⟨p111, h⟩ := h
            refine r_call c191_162 rfl rfl (Nat.le_of_ble_eq_true rfl) (okc_r rfl rfl (oK hK o440)) (g159 hK x103 p111 (fun M114 x112 p113 => Bk_n ?_))
            replace h := h M114 x112 p113
            refine r_goto c191_165 ?_
            exact h
          · have hc107 := Classical.not_not.mp hc106
            replace h := h.2 hc107
            refine r_iload_n c191_131 rfl ?_
            refine r_iconst c191_132 ?_
            refine r_iload c191_133 rfl ?_
            refine r_ishl c191_135 ?_
            refine r_ior c191_136 ?_
            refine r_istore_n c191_137 (Nat.le_of_ble_eq_true rfl) ?_
            refine r_aload_n c191_138 rfl ?_
            refine r_getR c191_139 (oK hK o440) (FX.get (b := 796) x103 (by decide) (by decide +kernel) (by decide)) (by decide) ?_
            refine r_iload_n c191_142 rfl ?_
            obtain ⟨s115, h⟩ := h
            refine r_aa c191_143 (mrw o796 hK) (bd l796 s115) (rf796 x103 s115) (by omega) ?_
            refine r_iconst c191_144 ?_
            refine r_iload c191_145 rfl ?_
            refine r_ias c191_147 (oK hK (ro796 s115)) (bd (rz796 s115) (by decide)) ?_
            have x116 := FX.set (v := (okv (tNum B6 n7 (0 : Int) (w32 ((M 444 2) - (1 : Int))) st8))) (a := (797 + Int.toNat l2)) (k := 0) x103 (nfa (ro796 s115) _)
            refine r_aload_n c191_148 rfl ?_
            refine r_getR c191_149 (oK hK o440) (FX.get (b := 796) x116 (by decide) (by decide +kernel) (by decide)) (by decide) ?_
            refine r_iload_n c191_152 rfl ?_
            obtain ⟨s117, h⟩ := h
            refine r_aa c191_153 (mrw o796 hK) (bd l796 s117) (rf796 x116 s117) (by omega) ?_
            refine r_iconst c191_154 ?_
            refine r_iload c191_155 rfl ?_
            refine r_ias c191_157 (oK hK (ro796 s117)) (bd (rz796 s117) (by decide)) ?_
            have x118 := FX.set (v := (okv (tNum B92 n93 (0 : Int) (1 : Int) st94))) (a := (797 + Int.toNat l2)) (k := 1) x116 (nfa (ro796 s117) _)
            refine r_iinc c191_158 rfl ?_
            refine r_aload_n c191_161 rfl ?_
            obtain ⟨B119, h⟩ := h
            obtain ⟨n120, h⟩ := h
            obtain ⟨st121, h⟩ := h
            obtain ⟨p122, h⟩ := h
            refine r_call c191_162 rfl rfl (Nat.le_of_ble_eq_true rfl) (okc_r rfl rfl (oK hK o440)) (g159 hK x118 p122 (fun M125 x123 p124 => Bk_n ?_))
            replace h := h M125 x123 p124
            refine r_goto c191_165 ?_
            exact h
theorem u191_179 {d : Nat} {l1 : Int} {l2 : Int} {l3 : Int} {l4 : PV} {l5 : PV} {l6 : PV} {t0 : Int} {M : Mem} {K : KK} {Q : RR → Mem → KK → Prop} (hK : K.1 = 923) (hX : FX M)  (h : Q (.inl (some (vI t0))) M K) : Wp (d + 3) 191 179 [vR 440, vI l1, vI l2, vI l3, l4, l5, l6] [vI t0] M K Q := by
  exact r_iret c191_179 (Or.inl rfl) h
theorem u191_202 {d : Nat} {l1 : Int} {l2 : Int} {l3 : Int} {l4 : PV} {l5 : PV} {l6 : PV} {M : Mem} {K : KK} {Q : RR → Mem → KK → Prop} (hK : K.1 = 923) (hX : FX M)  (h : Q (.inl (some (vI l2))) M K) : Wp (d + 3) 191 202 [vR 440, vI l1, vI l2, vI l3, l4, l5, l6] [] M K Q := by
  refine r_iload_n c191_202 rfl ?_
  exact r_iret c191_203 (Or.inl rfl) h
/-! texts read: the model; sayings -/
theorem pcn_bit : ∀ x, x < 256 → ∀ d, d < 8 → x.testBit d = false → pcn 8 (x ||| 2 ^ d) = pcn 8 x + 1 := by decide +kernel
theorem saT : Nat.ble 30 (tg 787) = true ∧ isO 923 787 (tg 787) = true := by decide +kernel
theorem saS : Nat.ble 30 (tg 796) = true ∧ isO 923 796 (tg 796) = true := by decide +kernel
theorem saR : ln 787 = 8 ∧ ln 796 = 8 := by decide +kernel
theorem saRT : ∀ i, i < 8 → isO 923 (787 + 1 + i) 20 = true ∧ ln (787 + 1 + i) = 2 ∧ fxT 787 i = 787 + 1 + i := by decide +kernel
theorem saRS : ∀ i, i < 8 → isO 923 (796 + 1 + i) 20 = true ∧ ln (796 + 1 + i) = 2 ∧ fxT 796 i = 796 + 1 + i := by decide +kernel
section MSY
variable {d : Nat} {M M' : Mem} {K : KK} {Q : RR → Mem → KK → Prop} {nB : Nat} {B : BY} {fp : Int} {c : Mem} {L : LC} {s : Mem} {H : List Mem} {I : List IMG} {Y : LC} {rf ms wr : Int} {n : Nat}
/-- lines Z as the model reads them; b the deeds they speak of -/
def SzM (M : Mem) (Z : LC) (b : Nat) : Prop := (∀ k, k < Z.length → M (797 + k) 0 = (Z.getD k (0, 0)).1 ∧ M (797 + k) 1 = (Z.getD k (0, 0)).2) ∧ b < 256 ∧ pcn 8 b = Z.length ∧ (∀ d : Nat, b.testBit d = true ↔ spk Z (d : Int) = true) ∧ SW Z
theorem SzM.le {Z : LC} {b : Nat} (h : SzM M Z b) : Z.length ≤ 8 := by
  have := pcs_le b 8
  rw [← h.2.2.1, pcn_pcs]; exact this
theorem spk_snoc {Z : LC} {x : Int × Int} {d : Int} : spk (Z ++ [x]) d = true ↔ spk Z d = true ∨ x.1 = d := by
  rw [spk_iff, spk_iff]
  constructor
  · rintro ⟨y, hy, h⟩
    rw [List.mem_append, List.mem_singleton] at hy
    rcases hy with hy | rfl
    · exact Or.inl ⟨y, hy, h⟩
    · exact Or.inr h
  · rintro (⟨y, hy, h⟩ | h)
    · exact ⟨y, List.mem_append_left _ hy, h⟩
    · exact ⟨x, by simp, h⟩
theorem FrM.sz {Z : LC} {b : Nat} (hf : FrM M M') (h : SzM M Z b) : SzM M' Z b :=
  ⟨fun k hk => ⟨(hf _ _ (by omega)).trans (h.1 k hk).1, (hf _ _ (by omega)).trans (h.1 k hk).2⟩, h.2⟩
theorem SzM.snoc {Z : LC} {b x : Nat} {o : Int} (h : SzM M Z b) (hx : x < 8) (ho : o = 0 ∨ o = 1) (hn : ¬ b.testBit x = true) : Z.length < 8 ∧ SzM (mset (mset M (797 + Z.length) 0 (x : Int)) (797 + Z.length) 1 o) (Z ++ [((x : Int), o)]) (b ||| 2 ^ x) := by
  have hle := h.le
  obtain ⟨h1, h2, h3, h4, h5⟩ := h
  have hf : b.testBit x = false := by cases hq : b.testBit x with
    | false => rfl
    | true => exact absurd hq hn
  have hb := pcn_bit b h2 x hx hf
  have hb2 : b ||| 2 ^ x < 256 := Nat.or_lt_two_pow (n := 8) h2 (Nat.pow_lt_pow_right (by decide) hx)
  have hle2 : pcn 8 (b ||| 2 ^ x) ≤ 8 := by rw [pcn_pcs]; exact pcs_le _ 8
  refine ⟨by omega, fun k hk => ?_, hb2, by rw [hb, h3]; simp, fun d => ?_, fun y hy => ?_⟩
  · simp at hk
    by_cases hkl : k < Z.length
    · have e : (Z ++ [((x : Int), o)]).getD k (0, 0) = Z.getD k (0, 0) := by simp [List.getD, List.getElem?_append_left hkl]
      rw [e, ms_na (by omega), ms_na (by omega), ms_na (by omega), ms_na (by omega)]; exact h1 k hkl
    · have hkl : k = Z.length := by omega
      subst hkl
      have e : (Z ++ [((x : Int), o)]).getD Z.length (0, 0) = ((x : Int), o) := by simp
      rw [e]
      exact ⟨by rw [ms_nk (by decide), ms_eq], ms_eq⟩
  · rw [Nat.testBit_or, Bool.or_eq_true, h4 d, tb_pow, decide_eq_true_eq, spk_snoc]
    constructor
    · rintro (h9 | h9)
      · exact Or.inl h9
      · exact Or.inr (by dsimp only; omega)
    · rintro (h9 | h9)
      · exact Or.inl h9
      · exact Or.inr (by dsimp only at h9; omega)
  · rw [List.mem_append, List.mem_singleton] at hy
    rcases hy with hy | rfl
    · exact h5 y hy
    · exact ⟨by dsimp only; omega, ho⟩
/-- other lines -/
theorem MS.say {Y' : LC} {nB' : Nat} (h : MS M nB B fp c L s H I Y rf ms wr) (hY : SYM M' Y') (hI : IV nB' B c s H I Y) (u : ∀ a k, ¬ (788 ≤ a ∧ a ≤ 795) → ¬ (a = 440 ∧ k = 35) → M' a k = M a k) : MS M' nB B fp c L s H I Y' rf ms wr := by
  obtain ⟨⟨a1, a2, a3⟩, b, -, ⟨f1, f2⟩, ⟨g1, g2⟩, r1, r2, r3⟩ := h
  have hH := hI.2.2.2.1.1
  have hI3 := hI.2.2.2.2.1.1
  obtain ⟨⟨x1, x2, x3, x4, x5⟩, x6, x7, x8, x9⟩ := b
  have hn := x2.n
  exact ⟨⟨(u _ _ (by omega) (by omega)).trans a1, fun i hi => (u _ _ (by omega) (by omega)).trans (a2 i hi), (u _ _ (by omega) (by omega)).trans a3⟩, ⟨⟨⟨fun k hk => (u _ _ (by omega) (by omega)).trans (x1.1 k hk), fun i hi => (u _ _ (by omega) (by omega)).trans (x1.2.1 i hi), fun i hi => ⟨(u _ _ (by omega) (by omega)).trans (x1.2.2.1 i hi).1, (u _ _ (by omega) (by omega)).trans (x1.2.2.1 i hi).2⟩, fun i hi => (u _ _ (by omega) (by omega)).trans (x1.2.2.2.1 i hi), fun i hi => (u _ _ (by omega) (by omega)).trans (x1.2.2.2.2 i hi)⟩, x2, x3.er (fun k => u _ _ (by omega) (by omega)), x4, (u _ _ (by omega) (by omega)).trans x5⟩, (u _ _ (by omega) (by omega)).trans x6, x7, fun i hi => ⟨(u _ _ (by omega) (by omega)).trans (x8 i hi).1, (u _ _ (by omega) (by omega)).trans (x8 i hi).2⟩, x9⟩, hY, ⟨(u _ _ (by omega) (by omega)).trans f1, fun i hi => ⟨(f2 i hi).1.er (fun k => u _ _ (by omega) (by omega)), (u _ _ (by omega) (by omega)).trans (f2 i hi).2⟩⟩, ⟨(u _ _ (by omega) (by omega)).trans g1, fun i hi => ⟨(u _ _ (by omega) (by omega)).trans (g2 i hi).1, (g2 i hi).2.1.eq (fun k => u _ _ (by omega) (by omega)), fun j hj => ((g2 i hi).2.2 j hj).eq (fun k => u _ _ (by omega) (by omega))⟩⟩, (u _ _ (by omega) (by omega)).trans r1, (u _ _ (by omega) (by omega)).trans r2, (u _ _ (by omega) (by omega)).trans r3⟩
theorem TM.na {B : BY} {st : ST} {a k : Nat} {v : Int} (h : TM B n M st) (ha : a ≠ 440 ∧ a ≠ 441) : TM B n (mset M a k v) st := by
  obtain ⟨⟨h1, h2, h3⟩, a', h4, h5, h6⟩ := h
  refine ⟨⟨(ms_na (by omega)).trans h1, h2, fun i hi => (ms_na (by omega)).trans (h3 i hi)⟩, a', (ms_na (by omega)).trans h4, h5, ?_⟩
  cases st with
  | inl p => exact ⟨(ms_na (by omega)).trans h6.1, h6.2⟩
  | inr f => exact ⟨(ms_na (by omega)).trans h6.1, (ms_na (by omega)).trans h6.2.1, h6.2.2⟩
theorem syS_r {B : BY} {nD : Int} {p : Nat} {Z : LC} {g : Int × Int} (h : (tNum B n 0 (nD - 1) (.inl p)).2 = .inr g) : (tNum B n 0 (nD - 1) (.inl p)).2 = syS B n nD p Z := by
  unfold syS; rw [h]; split <;> rfl
theorem KmR.sz {k j : Nat} {v : Int} (hk : k < 8) : KmR M (mset M (797 + k) j v) := fun a j p1 p2 p3 p4 p5 p6 p7 p8 => by unfold mset; rw [if_neg (by omega)]
theorem pk_end {B : BY} {p : Nat} (h : n ≤ p) : pk B n (.inl p) = -1 := by
  show (if p < n then B p else -1) = -1
  rw [if_neg (by omega)]
theorem m191 {v : Int} (hK : K.1 = 923) (hX : FX M) (hI : IV nB B c s H I Y) (h : MS M nB B fp c L s H I Y rf ms wr) (kb : ¬ txOK nB v 60 → ∀ M', FX M' → BadM 1 1 M M' → Q (.inl (some (vI 0))) M' K) (k : txOK nB v 60 → (∀ p, (pSay B v.toNat (c 0 2)).1 = .inl p → SW (pSay B v.toNat (c 0 2)).2 ∧ (pSay B v.toNat (c 0 2)).2.length ≤ 8) → ∀ M', FX M' → LoM M M' → M' 440 0 = 0 → MS M' 0 B (fpR (pSay B v.toNat (c 0 2)).1) c L s H I (sayL B v.toNat (c 0 2) Y) rf ms wr → Q (.inl (some (vI (rdR (pSay B v.toNat (c 0 2)).1 ((pSay B v.toNat (c 0 2)).2.length : Int))))) M' K) : Wm (d + 3) 191 [vR 440, vI v] M K Q := by
  have h1 := h.1.1
  have h600 := hI.1
  have hD := h.2.1.1.2.1.n.2.2
  have bad : ¬ txOK nB v 60 → ∀ M', FX M' → BadM 1 1 (mset M 440 0 0) M' → Q (.inl (some (vI 0))) M' K := fun hn M1 x1 b1 => kb hn M1 x1 (BadM.of FrQm.t0 b1 (by decide))
  refine u191_0 hK hX ⟨fun hv => bad (fun h9 => hv ⟨h9.1, by rw [h1]; exact h9.2.2⟩), fun hv => ⟨fun hv2 => ?_, fun hv2 => bad (fun h9 => hv2 h9.2.1)⟩⟩
  rw [h1] at hv
  have kk := k ⟨hv.1, hv2, hv.2⟩
  obtain ⟨n, rfl⟩ : ∃ n : Nat, v = (n : Int) := ⟨v.toNat, by omega⟩
  rw [Int.toNat_natCast] at kk
  have hB0 : ∀ i, i < n → 0 ≤ B i := fun i hi => (hI.2.1 i (by omega)).1
  refine ⟨n, ⟨rfl, by omega⟩, fun M1 x1 ⟨f1, t1, a1, z1, z7, z8⟩ => ?_⟩
  obtain ⟨t1, a1⟩ := TM.cg (fun i hi => (ms_na (by decide)).trans (h.1.2.1 i (by omega))) t1 a1
  have q1 : KmR M M1 := KmR.t0.tr f1.km
  have lo1 : LoM M M1 := (FrQm.t0 (M := M)).lo.tr (fun a k h9 => f1 a k (by omega))
  have z0 : M1 440 0 = 0 ∧ M1 440 1 = 0 := ⟨(f1 440 0 (by decide)).trans ms_eq, z1⟩
  have hCN := h.2.1.1.2.1.n
  have e443 : ∀ {M3 : Mem}, KmR M M3 → M3 444 2 = c 0 2 := fun q => (q 444 2 (by decide) (by decide) (by unfold scM; omega) (by decide) (by decide) (by decide) (by decide) (by decide)).trans (h.2.1.1.1.1 2 (by decide))
  have fault : ∀ (M3 : Mem) (f : Int × Int) (l2 l3 : Int) (l4 l5 l6 : PV), FX M3 → KmR M M3 → LoM M M3 → (M3 440 0 = 0 ∧ M3 440 1 = 0) → TM B n M3 (.inr f) → (pSay B n (c 0 2)).1 = .inr f → Wp (d + 3) 191 48 [vR 440, vI (n : Int), vI l2, vI l3, l4, l5, l6] [] M3 K Q := by
    intro M3 f l2 l3 l4 l5 l6 x3 q3 lo3 z3 t3 hp
    have tf := t3.f
    refine u191_48 hK x3 ⟨fun _ => ?_, fun h9 => absurd h9 (by rw [tf.1]; exact tf.2.2)⟩
    refine g172 hK x3 t3 (fun x5 => Bk_v (u191_179 hK x5 ?_))
    unfold rdR fpR sayL at kk
    rw [hp] at kk
    exact kk (fun p h9 => by cases h9) _ x5 (fun a k h9 => (ms_na (by omega)).trans (lo3 a k h9)) ((ms_nk (by decide)).trans z3.1) (h.rd hI (q3.tr (KmR.set (by omega))) ⟨(ms_nk (by decide)).trans z3.2, fun i hi => absurd hi (by omega), ms_eq⟩)
  have fin : ∀ (p : Nat) (Z : LC) (b : Nat) (l4 l5 l6 : PV) (M3 : Mem), n ≤ p → pSay B n (c 0 2) = (.inl p, Z) → FX M3 → KmR M M3 → LoM M M3 → (M3 440 0 = 0 ∧ M3 440 1 = 0) → TM B n M3 (.inl p) → AtM M3 (.inl p) → SzM M3 Z b → Wp (d + 3) 191 48 [vR 440, vI (n : Int), vI (Z.length : Int), vI (b : Int), l4, l5, l6] [] M3 K Q := by
    intro p Z b l4 l5 l6 M3 hpn hp x3 q3 lo3 z3 t3 a3 s3
    have ta := t3.a a3
    have hle := s3.le
    refine u191_48 hK x3 ⟨fun h9 => absurd t3.p h9, fun _ => ⟨fun _ => ?_, fun h9 => absurd (show M3 440 2 ≤ M3 440 4 by rw [ta.1, ta.2.1]; omega) h9⟩⟩
    have x4 : FX (mset (mset M3 440 3 (-1 : Int)) 440 35 (Z.length : Int)) := (x3.set (nf440_s 3 (by omega))).set (nf440_s 35 (by omega))
    refine g177 (S := 796) (T := 787) (n := Z.length) (z := 2) hK x4 saT saS (by rw [saR.1]; exact hle) (by rw [saR.2]; exact hle) (by decide) (by omega) (fun i hi => saRT i (by omega)) (fun i hi => saRS i (by omega)) (by omega) (fun M5 x5 f5 e5 => Bk_n (u191_202 hK x5 ?_))
    have u5 : ∀ a k, ¬ (788 ≤ a ∧ a ≤ 795) → ¬ (a = 440 ∧ k = 35) → M5 a k = mset M3 440 3 (-1) a k := fun a k p1 p2 => (f5 a k (by omega)).trans (if_neg (by omega))
    have m4 := h.rd hI (q3.tr (KmR.set (k := 3) (v := -1) (by omega))) (nB' := 0) (B' := B) (fp' := -1) ⟨(ms_nk (by decide)).trans z3.2, fun i hi => absurd hi (by omega), ms_eq⟩
    unfold rdR fpR sayL at kk
    rw [hp] at kk
    have row : ∀ k, k < Z.length → ∀ j, j < 2 → M5 (788 + k) j = M3 (797 + k) j := fun k hk j hj => by
      have e := e5 k j hk hj
      rw [show 787 + 1 + k = 788 + k from rfl, show 796 + 1 + k = 797 + k from rfl, ms_na (by omega), ms_na (by omega)] at e
      exact e
    refine kk (fun p _ => ⟨s3.2.2.2.2, hle⟩) M5 x5 (fun a k h9 => (u5 a k (by omega) (by omega)).trans ((ms_na (by omega)).trans (lo3 a k h9))) ((u5 _ _ (by decide) (by decide)).trans ((ms_nk (by decide)).trans z3.1)) (m4.say ⟨?_, hle, fun k hk => ⟨(row k hk 0 (by decide)).trans (s3.1 k hk).1, (row k hk 1 (by decide)).trans (s3.1 k hk).2⟩⟩ hI u5)
    exact (f5 _ _ (by omega)).trans ms_eq
  have loop : ∀ f p (Z : LC) (b : Nat) (l4 l5 l6 : PV) (M3 : Mem), 60 ≤ f + p → pSay B n (c 0 2) = syL B n (c 0 2) f (.inl p, Z) → FX M3 → KmR M M3 → LoM M M3 → (M3 440 0 = 0 ∧ M3 440 1 = 0) → TM B n M3 (.inl p) → AtM M3 (.inl p) → SzM M3 Z b → Wp (d + 3) 191 48 [vR 440, vI (n : Int), vI (Z.length : Int), vI (b : Int), l4, l5, l6] [] M3 K Q := by
    intro f
    induction f with
    | zero =>
      intro p Z b l4 l5 l6 M3 hfp hP x3 q3 lo3 z3 t3 a3 s3
      exact fin p Z b l4 l5 l6 M3 (by omega) hP x3 q3 lo3 z3 t3 a3 s3
    | succ f ih =>
      intro p Z b l4 l5 l6 M3 hfp hP x3 q3 lo3 z3 t3 a3 s3
      have ta := t3.a a3
      simp only [syL] at hP
      by_cases hpn : n ≤ p
      · rw [if_pos (pk_end hpn)] at hP
        exact fin p Z b l4 l5 l6 M3 hpn hP x3 q3 lo3 z3 t3 a3 s3
      have hpk : ¬ pk B n (.inl p) = -1 := by
        show ¬ (if p < n then B p else -1) = -1
        rw [if_pos (by omega)]; have := hB0 p (by omega); omega
      rw [if_neg hpk] at hP
      have tail : ∀ (S : ST) (M6 : Mem), S = syS B n (c 0 2) p Z → FX M6 → KmR M M6 → LoM M M6 → (M6 440 0 = 0 ∧ M6 440 1 = 0) → SzM M6 Z b → TM B n M6 (tNum B n 0 1 S).2 → ∃ B22 : BY, ∃ n23 : Nat, ∃ st24 : ST, (TM B22 n23 M6 st24 ∧ (59 : Int) ≠ -1) ∧ (∀ (M28 : Mem), FX M28 → (FrM M6 M28 ∧ TM B22 n23 M28 (tSign B22 n23 (59 : Int) st24)) → (¬ (M28 440 5) = (0 : Int) → ∃ B31 : BY, ∃ n32 : Nat, ∃ st33 : ST, TM B31 n32 M28 st33 ∧ (∀ (M37 : Mem), FX M37 → (FrM M28 M37 ∧ TM B31 n32 M37 st33 ∧ AtM M37 st33) → Wp (d + 3) 191 48 [vR 440, vI (n : Int), vI (Z.length : Int), vI (b : Int), vI (p : Int), vI (okv (tNum B n (0 : Int) (c 0 2 - 1) (.inl p))), vI (okv (tNum B n (0 : Int) (1 : Int) S))] [] M37 K Q)) ∧ ((M28 440 5) = (0 : Int) → (0 ≤ (Z.length : Int) ∧ (Z.length : Int) < (8 : Int)) ∧ (0 ≤ (Z.length : Int) ∧ (Z.length : Int) < (8 : Int)) ∧ ∃ B42 : BY, ∃ n43 : Nat, ∃ st44 : ST, TM B42 n43 (mset (mset M28 (797 + Int.toNat (Z.length : Int)) 0 (okv (tNum B n (0 : Int) (c 0 2 - 1) (.inl p)))) (797 + Int.toNat (Z.length : Int)) 1 (okv (tNum B n (0 : Int) (1 : Int) S))) st44 ∧ (∀ (M48 : Mem), FX M48 → (FrM (mset (mset M28 (797 + Int.toNat (Z.length : Int)) 0 (okv (tNum B n (0 : Int) (c 0 2 - 1) (.inl p)))) (797 + Int.toNat (Z.length : Int)) 1 (okv (tNum B n (0 : Int) (1 : Int) S))) M48 ∧ TM B42 n43 M48 st44 ∧ AtM M48 st44) → Wp (d + 3) 191 48 [vR 440, vI (n : Int), vI (w32 ((Z.length : Int) + 1)), vI (jor (b : Int) (jshl (1 : Int) (okv (tNum B n (0 : Int) (c 0 2 - 1) (.inl p))))), vI (p : Int), vI (okv (tNum B n (0 : Int) (c 0 2 - 1) (.inl p))), vI (okv (tNum B n (0 : Int) (1 : Int) S))] [] M48 K Q))) := by
        intro S M6 hS x6 q6 lo6 z6 s6 t6
        refine ⟨B, n, _, ⟨t6, by decide⟩, fun M7 x7 ⟨f7, t7⟩ => ?_⟩
        have q7 := q6.tr f7.km
        have lo7 : LoM M M7 := lo6.tr (fun a k h9 => f7 a k (by omega))
        have z7 : M7 440 0 = 0 ∧ M7 440 1 = 0 := ⟨(f7 _ _ (by decide)).trans z6.1, (f7 _ _ (by decide)).trans z6.2⟩
        have s7 := FrM.sz f7 s6
        have eT : (syF B n (c 0 2) (.inl p, Z)).1 = tSign B n 59 (tNum B n 0 1 S).2 := by rw [hS]; rfl
        cases hT : tSign B n 59 (tNum B n 0 1 S).2 with
        | inr g =>
          rw [hT] at t7
          have tf := t7.f
          refine ⟨fun _ => ⟨B, n, _, t7, fun M8 x8 ⟨f8, t8, _⟩ => fault M8 g _ _ _ _ _ x8 (q7.tr f8.km) (lo7.tr (fun a k h9 => f8 a k (by omega))) ⟨(f8 _ _ (by decide)).trans z7.1, (f8 _ _ (by decide)).trans z7.2⟩ t8 ?_⟩, fun h9 => absurd h9 (by rw [tf.1]; exact tf.2.2)⟩
          rw [hP]
          have e : syF B n (c 0 2) (.inl p, Z) = (.inr g, (syF B n (c 0 2) (.inl p, Z)).2) := Prod.ext (eT.trans hT) rfl
          rw [e, syL_FL]
        | inl q =>
          rw [hT] at t7
          refine ⟨fun h9 => absurd t7.p h9, fun _ => ?_⟩
          obtain ⟨w1', w2, w3⟩ := syF_w ⟨by omega, by omega⟩ s7.2.2.2.2 ⟨q, eT.trans hT⟩
          obtain ⟨r1, hr1⟩ := sign_ok hT
          obtain ⟨r2, hr2⟩ := tNum_ok hr1
          have hX2 : (tNum B n 0 (c 0 2 - 1) (.inl p)).2 = .inl r2 := by
            rw [hS] at hr2; unfold syS at hr2; rw [w2] at hr2; exact hr2
          have l1 := num_le (B := B) (n := n) (lo := 0) (hi := c 0 2 - 1) (st := .inl p) _ _ rfl hX2
          have l2 := num_le (B := B) (n := n) (lo := 0) (hi := 1) (st := S) _ _ hr2 hr1
          have l3 := sign_le (B := B) (n := n) (c := 59) _ _ hr1 hT
          have hY := tNum_rg (B := B) (n := n) (lo := 0) (hi := 1) (by decide) S
          rw [okv_ok hX2, okv_ok hr1]
          have eF : syF B n (c 0 2) (.inl p, Z) = (.inl q, Z ++ [((tNum B n 0 (c 0 2 - 1) (.inl p)).1, (tNum B n 0 1 S).1)]) := Prod.ext (eT.trans hT) (by rw [hS]; rfl)
          rw [eF] at hP
          clear eF eT w1' hr2 hX2 hr1 hT
          generalize hdd : (tNum B n 0 (c 0 2 - 1) (.inl p)).1 = dd at *
          generalize hoo : (tNum B n 0 1 S).1 = oo at *
          obtain ⟨x, rfl⟩ : ∃ d' : Nat, dd = (d' : Int) := ⟨dd.toNat, by omega⟩
          have hnb : ¬ b.testBit x = true := fun h9 => by
            have := (s7.2.2.2.1 x).mp h9
            rw [w2] at this; cases this
          obtain ⟨hl8, s8⟩ := s7.snoc (o := oo) (x := x) (by omega) (by omega) hnb
          rw [Int.toNat_natCast]
          refine ⟨⟨by omega, by omega⟩, ⟨by omega, by omega⟩, B, n, _, (t7.na ⟨by omega, by omega⟩).na ⟨by omega, by omega⟩, fun M8 x8 ⟨f8, t8, a8⟩ => ?_⟩
          have hp2 : 2 ^ x < 2 ^ 8 := Nat.pow_lt_pow_right (by decide) (by omega)
          have hb8 := s7.2.1
          have e1 : jshl 1 (x : Int) = ((1 * 2 ^ x : Nat) : Int) := jshl_n (a := 1) (by omega) (by omega)
          rw [w1 (by omega), e1, jor_n (by omega) (by omega), Nat.one_mul, show Z.length + 1 = (Z ++ [((x : Int), oo)]).length by simp]
          refine ih q (Z ++ [((x : Int), oo)]) (b ||| 2 ^ x) _ _ _ M8 (by omega) hP x8 (((q7.tr (KmR.sz hl8)).tr (KmR.sz hl8)).tr f8.km) (fun a k h9 => (f8 a k (by omega)).trans ((ms_na (by omega)).trans ((ms_na (by omega)).trans (lo7 a k h9)))) ⟨(f8 _ _ (by decide)).trans ((ms_na (by omega)).trans ((ms_na (by omega)).trans z7.1)), (f8 _ _ (by decide)).trans ((ms_na (by omega)).trans ((ms_na (by omega)).trans z7.2))⟩ t8 a8 (FrM.sz f8 s8)
      refine u191_48 hK x3 ⟨fun h9 => absurd t3.p h9, fun _ => ⟨fun h9 => absurd h9 (by rw [ta.1, ta.2.1]; omega), fun _ => ⟨B, n, _, t3, fun M4 x4 h4 => ?_⟩⟩⟩
      rw [show w32 (M3 444 2 - 1) = c 0 2 - 1 from by rw [e443 q3]; exact w32_id (by omega)] at h4 ⊢
      rw [ta.1]
      obtain ⟨f4, t4⟩ := h4
      have q4 := q3.tr f4.km
      have lo4 : LoM M M4 := lo3.tr (fun a k h9 => f4 a k (by omega))
      have z4 : M4 440 0 = 0 ∧ M4 440 1 = 0 := ⟨(f4 _ _ (by decide)).trans z3.1, (f4 _ _ (by decide)).trans z3.2⟩
      have s4 := FrM.sz f4 s3
      have tail2 : ∀ (S : ST) (M5 M6 : Mem), S = syS B n (c 0 2) p Z → KmR M M5 → LoM M M5 → (M5 440 0 = 0 ∧ M5 440 1 = 0) → SzM M5 Z b → FX M6 → (FrM M5 M6 ∧ TM B n M6 (tNum B n 0 1 S).2) → _ := fun S M5 M6 hS q5 lo5 z5 s5 x6 h6 => tail S M6 hS x6 (q5.tr h6.1.km) (lo5.tr (fun a k h9 => h6.1 a k (by omega))) ⟨(h6.1 _ _ (by decide)).trans z5.1, (h6.1 _ _ (by decide)).trans z5.2⟩ (FrM.sz h6.1 s5) h6.2
      cases hX2 : (tNum B n 0 (c 0 2 - 1) (.inl p)).2 with
      | inr g =>
        have t4' := t4
        rw [hX2] at t4'
        have tf := t4'.f
        exact ⟨fun _ => ⟨B, n, _, t4, fun M5 x5 h5 => tail2 _ M4 M5 (syS_r hX2) q4 lo4 z4 s4 x5 h5⟩, fun h9 => absurd h9 (by rw [tf.1]; exact tf.2.2)⟩
      | inl r =>
        have t4' := t4
        rw [hX2] at t4'
        refine ⟨fun h9 => absurd t4'.p h9, fun _ => ?_⟩
        have hin := tNum_in hX2
        have hbit : jand (jshr (b : Int) (okv (tNum B n 0 (c 0 2 - 1) (.inl p)))) 1 = 1 ↔ spk Z (tNum B n 0 (c 0 2 - 1) (.inl p)).1 = true := by
          rw [okv_ok hX2]
          generalize (tNum B n 0 (c 0 2 - 1) (.inl p)).1 = dd at hin
          obtain ⟨x, rfl⟩ : ∃ d' : Nat, dd = (d' : Int) := ⟨dd.toNat, by omega⟩
          have hb8 := s4.2.1
          rw [bit_n (by omega) (by omega), ← s4.2.2.2.1 x]
          cases b.testBit x <;> simp
        refine ⟨fun hno => ⟨B, n, _, t4, fun M5 x5 h5 => tail2 _ M4 M5 ?_ q4 lo4 z4 s4 x5 h5⟩, fun hyes => ⟨B, n, _, ⟨t4, by decide⟩, fun M5 x5 ⟨f5, t5, _⟩ => ⟨B, n, _, t5, fun M6 x6 h6 => tail2 _ M5 M6 ?_ (q4.tr f5.km) (lo4.tr (fun a k h9 => f5 a k (by omega))) ⟨(f5 _ _ (by decide)).trans z4.1, (f5 _ _ (by decide)).trans z4.2⟩ (FrM.sz f5 s4) x6 h6⟩⟩⟩
        · unfold syS; rw [if_neg (fun h9 => hno (hbit.mpr h9))]
        · unfold syS; rw [if_pos (hbit.mp hyes)]
  exact loop 60 (sk B n 0) [] 0 _ _ _ M1 (by omega) rfl x1 q1 lo1 z0 t1 a1 ⟨fun k hk => absurd hk (by simp), by decide, rfl, fun d => ⟨fun h9 => by simp at h9, fun h9 => by simp [spk] at h9⟩, fun x hx => absurd hx (by simp)⟩
end MSY
