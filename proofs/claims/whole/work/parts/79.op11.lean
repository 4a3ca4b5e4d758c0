theorem u192_0 {d : Nat}  {M : Mem} {K : KK} {Q : RR → Mem → KK → Prop} (hK : K.1 = 923) (hX : FX M)  (h : Q (.inl (some (vI (M 440 3)))) (mset M 440 0 (0 : Int)) K) : Wp d 192 0 [vR 440] [] M K Q := by
  refine r_aload_n c192_0 rfl ?_
  refine r_iconst c192_1 ?_
  refine r_putI c192_2 (oK hK o440) ?_
  have x1 := FX.set (v := (0 : Int)) (a := 440) (k := 0) hX (by decide +kernel)
  refine r_aload_n c192_5 rfl ?_
  refine r_getIe c192_6 (oK hK o440) (ms_nk (by decide)) ?_
  exact r_iret c192_9 (Or.inl rfl) h
theorem u203_0 {d : Nat}  {M : Mem} {K : KK} {Q : RR → Mem → KK → Prop} (hK : K.1 = 923) (hX : FX M)  (h : (¬ (M 440 36) = (0 : Int) → (0 ≤ (w32 ((M 440 36) - (1 : Int))) ∧ (w32 ((M 440 36) - (1 : Int))) < (16 : Int)) ∧ (isO 923 (891 + Int.toNat (w32 ((M 440 36) - (1 : Int)))) 20 = true ∧ L27 (891 + Int.toNat (w32 ((M 440 36) - (1 : Int)))) ∧ isO 923 888 20 = true ∧ L27 888 ∧ (891 + Int.toNat (w32 ((M 440 36) - (1 : Int)))) ≠ 888) ∧ (∀ (M9 : Mem), FX M9 → (Fr1 888 (mset (mset M 440 0 (0 : Int)) 440 36 (w32 ((M 440 36) - (1 : Int)))) M9 ∧ ∀ j, j < 27 → M9 888 j = (mset (mset M 440 0 (0 : Int)) 440 36 (w32 ((M 440 36) - (1 : Int)))) (891 + Int.toNat (w32 ((M 440 36) - (1 : Int)))) j) → Q (.inl (some (vI (M9 440 36)))) (mset M9 440 37 (0 : Int)) K)) ∧ ((M 440 36) = (0 : Int) → Q (.inl (some (vI (-1 : Int)))) (mset M 440 0 (0 : Int)) K)) : Wp (d + 1) 203 0 [vR 440] [] M K Q := by
  refine r_aload_n c203_0 rfl ?_
  refine r_iconst c203_1 ?_
  refine r_putI c203_2 (oK hK o440) ?_
  have x1 := FX.set (v := (0 : Int)) (a := 440) (k := 0) hX (by decide +kernel)
  refine r_aload_n c203_5 rfl ?_
  refine r_getIe c203_6 (oK hK o440) (ms_nk (by decide)) ?_
  refine r_ifP (P := ¬ (M 440 36) = (0 : Int)) c203_9 rfl (fun hc2 => ?_) (fun hc2 => ?_)
  · replace h := h.1 hc2
    refine r_aload_n c203_14 rfl ?_
    refine r_dupr c203_15 ?_
    refine r_getIe c203_16 (oK hK o440) (ms_nk (by decide)) ?_
    refine r_iconst c203_19 ?_
    refine r_isub c203_20 ?_
    refine r_putI c203_21 (oK hK o440) ?_
    have x4 := FX.set (v := (w32 ((M 440 36) - (1 : Int)))) (a := 440) (k := 36) x1 (by decide +kernel)
    refine r_aload_n c203_24 rfl ?_
    refine r_getR c203_25 (oK hK o440) (FX.get (b := 890) x4 (by decide) (by decide +kernel) (by decide)) (by decide) ?_
    refine r_aload_n c203_28 rfl ?_
    refine r_getIe c203_29 (oK hK o440) ms_eq ?_
    obtain ⟨s5, h⟩ := h
    refine r_aa c203_32 (mrw o890 hK) (bd l890 s5) (rf890 x4 s5) (by omega) ?_
    refine r_aload_n c203_33 rfl ?_
    refine r_getR c203_34 (oK hK o440) (FX.get (b := 888) x4 (by decide) (by decide +kernel) (by decide)) (by decide) ?_
    obtain ⟨p6, h⟩ := h
    refine r_call c203_37 rfl rfl (Nat.le_of_ble_eq_true rfl) (okc_s rfl rfl rfl) (g178 hK x4 p6 (fun M9 x7 p8 => Bk_n ?_))
    replace h := h M9 x7 p8
    refine r_aload_n c203_40 rfl ?_
    refine r_iconst c203_41 ?_
    refine r_putI c203_42 (oK hK o440) ?_
    have x10 := FX.set (v := (0 : Int)) (a := 440) (k := 37) x7 (by decide +kernel)
    refine r_aload_n c203_45 rfl ?_
    refine r_getIe c203_46 (oK hK o440) (ms_nk (by decide)) ?_
    exact r_iret c203_49 (Or.inl rfl) h
  · have hc3 := Classical.not_not.mp hc2
    replace h := h.2 hc3
    refine r_iconst c203_12 ?_
    exact r_iret c203_13 (Or.inl rfl) h
theorem u253_0 {d : Nat} {l1 : Nat} {l2 : Int} {l3 : Int} {M : Mem} {K : KK} {Q : RR → Mem → KK → Prop} (hK : K.1 = 923) (hX : FX M)  (h : (¬ l3 = (0 : Int) → isO 923 l1 20 = true ∧ (0 ≤ (w32 ((w32 ((M 440 39) + (1 : Int))) - (1 : Int))) ∧ (w32 ((w32 ((M 440 39) + (1 : Int))) - (1 : Int))) < (ln l1 : Int)) ∧ Q (.inl (some (vI ((mset M 440 39 (w32 ((M 440 39) + (1 : Int)))) l1 (Int.toNat (w32 ((w32 ((M 440 39) + (1 : Int))) - (1 : Int)))))))) (mset M 440 39 (w32 ((M 440 39) + (1 : Int)))) K) ∧ (l3 = (0 : Int) → isO 923 l1 20 = true ∧ (0 ≤ (M 440 39) ∧ (M 440 39) < (ln l1 : Int)) ∧ (0 ≤ (w32 ((w32 (((mset M l1 (Int.toNat (M 440 39)) l2) 440 39) + (1 : Int))) - (1 : Int))) ∧ (w32 ((w32 (((mset M l1 (Int.toNat (M 440 39)) l2) 440 39) + (1 : Int))) - (1 : Int))) < (ln l1 : Int)) ∧ Q (.inl (some (vI ((mset (mset M l1 (Int.toNat (M 440 39)) l2) 440 39 (w32 (((mset M l1 (Int.toNat (M 440 39)) l2) 440 39) + (1 : Int)))) l1 (Int.toNat (w32 ((w32 (((mset M l1 (Int.toNat (M 440 39)) l2) 440 39) + (1 : Int))) - (1 : Int)))))))) (mset (mset M l1 (Int.toNat (M 440 39)) l2) 440 39 (w32 (((mset M l1 (Int.toNat (M 440 39)) l2) 440 39) + (1 : Int)))) K)) : Wp d 253 0 [vR 440, vR l1, vI l2, vI l3] [] M K Q := by
  refine r_iload_n c253_0 rfl ?_
  refine r_ifP (P := ¬ l3 = (0 : Int)) c253_1 rfl (fun hc1 => ?_) (fun hc1 => ?_)
  · replace h := h.1 hc1
    refine r_aload_n c253_11 rfl ?_
    refine r_dupr c253_12 ?_
    refine r_getIe c253_13 (oK hK o440) rfl ?_
    refine r_iconst c253_16 ?_
    refine r_iadd c253_17 ?_
    refine r_putI c253_18 (oK hK o440) ?_
    have x3 := FX.set (v := (w32 ((M 440 39) + (1 : Int)))) (a := 440) (k := 39) hX (by decide +kernel)
    refine r_aload_n c253_21 rfl ?_
    refine r_aload_n c253_22 rfl ?_
    refine r_getIe c253_23 (oK hK o440) ms_eq ?_
    refine r_iconst c253_26 ?_
    refine r_isub c253_27 ?_
    obtain ⟨o4, h⟩ := h
    obtain ⟨s5, h⟩ := h
    refine r_iae c253_28 (oK hK o4) s5 rfl ?_
    exact r_iret c253_29 (Or.inl rfl) h
  · have hc2 := Classical.not_not.mp hc1
    replace h := h.2 hc2
    refine r_aload_n c253_4 rfl ?_
    refine r_aload_n c253_5 rfl ?_
    refine r_getIe c253_6 (oK hK o440) rfl ?_
    refine r_iload_n c253_9 rfl ?_
    obtain ⟨o6, h⟩ := h
    obtain ⟨s7, h⟩ := h
    refine r_ias c253_10 (oK hK o6) s7 ?_
    have x8 := FX.set (v := l2) (a := l1) (k := (Int.toNat (M 440 39))) hX (nfa o6 _)
    refine r_aload_n c253_11 rfl ?_
    refine r_dupr c253_12 ?_
    refine r_getIe c253_13 (oK hK o440) rfl ?_
    refine r_iconst c253_16 ?_
    refine r_iadd c253_17 ?_
    refine r_putI c253_18 (oK hK o440) ?_
    have x9 := FX.set (v := (w32 (((mset M l1 (Int.toNat (M 440 39)) l2) 440 39) + (1 : Int)))) (a := 440) (k := 39) x8 (by decide +kernel)
    refine r_aload_n c253_21 rfl ?_
    refine r_aload_n c253_22 rfl ?_
    refine r_getIe c253_23 (oK hK o440) ms_eq ?_
    refine r_iconst c253_26 ?_
    refine r_isub c253_27 ?_
    obtain ⟨s10, h⟩ := h
    refine r_iae c253_28 (oK hK o6) s10 rfl ?_
    exact r_iret c253_29 (Or.inl rfl) h
theorem u254_0 {d : Nat} {l1 : Nat} {l2 : Int} {M : Mem} {K : KK} {Q : RR → Mem → KK → Prop} (hK : K.1 = 923) (hX : FX M)  (h : Wm d 253 [vR 440, vR l1, vI (M 440 36), vI l2] (mset M 440 39 (0 : Int)) K (Bk d 254 13 16 253 [vR 440, vR l1, vI l2, vU, vU] [vR 440] Q)) : Wp (d + 1) 254 0 [vR 440, vR l1, vI l2, vU, vU] [] M K Q := by
  refine r_aload_n c254_0 rfl ?_
  refine r_iconst c254_1 ?_
  refine r_putI c254_2 (oK hK o440) ?_
  have x1 := FX.set (v := (0 : Int)) (a := 440) (k := 39) hX (by decide +kernel)
  refine r_aload_n c254_5 rfl ?_
  refine r_aload_n c254_6 rfl ?_
  refine r_aload_n c254_7 rfl ?_
  refine r_aload_n c254_8 rfl ?_
  refine r_getIe c254_9 (oK hK o440) (ms_nk (by decide)) ?_
  refine r_iload_n c254_12 rfl ?_
  exact r_call c254_13 rfl rfl (Nat.le_of_ble_eq_true rfl) (okc_r rfl rfl (oK hK o440)) h
theorem u254_16 {d : Nat} {l1 : Nat} {l2 : Int} {t1 : Int} {M : Mem} {K : KK} {Q : RR → Mem → KK → Prop} (hK : K.1 = 923) (hX : FX M)  (h : Wp (d + 1) 254 21 [vR 440, vR l1, vI l2, vI (0 : Int), vU] [] (mset M 440 36 t1) K Q) : Wp (d + 1) 254 16 [vR 440, vR l1, vI l2, vU, vU] [vI t1, vR 440] M K Q := by
  refine r_putI c254_16 (oK hK o440) ?_
  have x1 := FX.set (v := t1) (a := 440) (k := 36) hX (by decide +kernel)
  refine r_iconst c254_19 ?_
  refine r_istore_n c254_20 (Nat.le_of_ble_eq_true rfl) ?_
  exact h
theorem u254_21 {d : Nat} {l1 : Nat} {l2 : Int} {l3 : Int} {M : Mem} {K : KK} {Q : RR → Mem → KK → Prop} (hK : K.1 = 923) (hX : FX M)  (h : ((27 : Int) ≤ l3 → Wp (d + 1) 254 53 [vR 440, vR l1, vI l2, vI (0 : Int), vU] [] M K Q) ∧ (¬ ((27 : Int) ≤ l3) → (0 ≤ l3 ∧ l3 < (27 : Int)) ∧ Wm d 253 [vR 440, vR l1, vI (M 888 (Int.toNat l3)), vI l2] M K (Bk d 254 41 44 253 [vR 440, vR l1, vI l2, vI l3, vU] [vI l3, vR 888] Q))) : Wp (d + 1) 254 21 [vR 440, vR l1, vI l2, vI l3, vU] [] M K Q := by
  refine r_iload_n c254_21 rfl ?_
  refine r_bipush c254_22 ?_
  refine r_icmpP (P := (27 : Int) ≤ l3) c254_24 rfl (fun hc1 => ?_) (fun hc1 => ?_)
  · replace h := h.1 hc1
    refine r_iconst c254_51 ?_
    refine r_istore_n c254_52 (Nat.le_of_ble_eq_true rfl) ?_
    exact h
  · replace h := h.2 hc1
    refine r_aload_n c254_27 rfl ?_
    refine r_getR c254_28 (oK hK o440) (FX.get (b := 888) hX (by decide) (by decide +kernel) (by decide)) (by decide) ?_
    refine r_iload_n c254_31 rfl ?_
    refine r_aload_n c254_32 rfl ?_
    refine r_aload_n c254_33 rfl ?_
    refine r_aload_n c254_34 rfl ?_
    refine r_getR c254_35 (oK hK o440) (FX.get (b := 888) hX (by decide) (by decide +kernel) (by decide)) (by decide) ?_
    refine r_iload_n c254_38 rfl ?_
    obtain ⟨s2, h⟩ := h
    refine r_iae c254_39 (oK hK o888) (bd l888 s2) rfl ?_
    refine r_iload_n c254_40 rfl ?_
    exact r_call c254_41 rfl rfl (Nat.le_of_ble_eq_true rfl) (okc_r rfl rfl (oK hK o440)) h
theorem u254_44 {d : Nat} {l1 : Nat} {l2 : Int} {l3 : Int} {t1 : Int} {t2 : Int} {M : Mem} {K : KK} {Q : RR → Mem → KK → Prop} (hK : K.1 = 923) (hX : FX M)  (h : (0 ≤ t1 ∧ t1 < (27 : Int)) ∧ Wp (d + 1) 254 21 [vR 440, vR l1, vI l2, vI (w32 (l3 + 1)), vU] [] (mset M 888 (Int.toNat t1) t2) K Q) : Wp (d + 1) 254 44 [vR 440, vR l1, vI l2, vI l3, vU] [vI t2, vI t1, vR 888] M K Q := by
  obtain ⟨s1, h⟩ := h
  refine r_ias c254_44 (oK hK o888) (bd l888 s1) ?_
  have x2 := FX.set (v := t2) (a := 888) (k := (Int.toNat t1)) hX (nfa o888 _)
  refine r_iinc c254_45 rfl ?_
  refine r_goto c254_48 ?_
  exact h
theorem u254_53 {d : Nat} {l1 : Nat} {l2 : Int} {l3 : Int} {l4 : PV} {M : Mem} {K : KK} {Q : RR → Mem → KK → Prop} (hK : K.1 = 923) (hX : FX M)  (h : ((16 : Int) ≤ l3 → Q (.inl none) M K) ∧ (¬ ((16 : Int) ≤ l3) → Wp (d + 1) 254 62 [vR 440, vR l1, vI l2, vI l3, vI (0 : Int)] [] M K Q)) : Wp (d + 1) 254 53 [vR 440, vR l1, vI l2, vI l3, l4] [] M K Q := by
  refine r_iload_n c254_53 rfl ?_
  refine r_bipush c254_54 ?_
  refine r_icmpP (P := (16 : Int) ≤ l3) c254_56 rfl (fun hc1 => ?_) (fun hc1 => ?_)
  · replace h := h.1 hc1
    exact r_ret c254_105 h
  · replace h := h.2 hc1
    refine r_iconst c254_59 ?_
    refine r_istore c254_60 (Nat.le_of_ble_eq_true rfl) ?_
    exact h
theorem u254_62 {d : Nat} {l1 : Nat} {l2 : Int} {l3 : Int} {l4 : Int} {M : Mem} {K : KK} {Q : RR → Mem → KK → Prop} (hK : K.1 = 923) (hX : FX M)  (h : ((27 : Int) ≤ l4 → Wp (d + 1) 254 53 [vR 440, vR l1, vI l2, vI (w32 (l3 + 1)), vI l4] [] M K Q) ∧ (¬ ((27 : Int) ≤ l4) → (0 ≤ l3 ∧ l3 < (16 : Int)) ∧ (0 ≤ l3 ∧ l3 < (16 : Int)) ∧ (0 ≤ l4 ∧ l4 < (27 : Int)) ∧ Wm d 253 [vR 440, vR l1, vI (M (891 + Int.toNat l3) (Int.toNat l4)), vI l2] M K (Bk d 254 89 92 253 [vR 440, vR l1, vI l2, vI l3, vI l4] [vI l4, vR (891 + Int.toNat l3)] Q))) : Wp (d + 1) 254 62 [vR 440, vR l1, vI l2, vI l3, vI l4] [] M K Q := by
  refine r_iload c254_62 rfl ?_
  refine r_bipush c254_64 ?_
  refine r_icmpP (P := (27 : Int) ≤ l4) c254_66 rfl (fun hc1 => ?_) (fun hc1 => ?_)
  · replace h := h.1 hc1
    refine r_iinc c254_99 rfl ?_
    refine r_goto c254_102 ?_
    exact h
  · replace h := h.2 hc1
    refine r_aload_n c254_69 rfl ?_
    refine r_getR c254_70 (oK hK o440) (FX.get (b := 890) hX (by decide) (by decide +kernel) (by decide)) (by decide) ?_
    refine r_iload_n c254_73 rfl ?_
    obtain ⟨s2, h⟩ := h
    refine r_aa c254_74 (mrw o890 hK) (bd l890 s2) (rf890 hX s2) (by omega) ?_
    refine r_iload c254_75 rfl ?_
    refine r_aload_n c254_77 rfl ?_
    refine r_aload_n c254_78 rfl ?_
    refine r_aload_n c254_79 rfl ?_
    refine r_getR c254_80 (oK hK o440) (FX.get (b := 890) hX (by decide) (by decide +kernel) (by decide)) (by decide) ?_
    refine r_iload_n c254_83 rfl ?_
    obtain ⟨s3, h⟩ := h
    refine r_aa c254_84 (mrw o890 hK) (bd l890 s3) (rf890 hX s3) (by omega) ?_
    refine r_iload c254_85 rfl ?_
    obtain ⟨s4, h⟩ := h
    refine r_iae c254_87 (oK hK (ro890 s3)) (bd (rz890 s3) s4) rfl ?_
    refine r_iload_n c254_88 rfl ?_
    exact r_call c254_89 rfl rfl (Nat.le_of_ble_eq_true rfl) (okc_r rfl rfl (oK hK o440)) h
theorem u254_92 {d : Nat} {l1 : Nat} {l2 : Int} {l3 : Int} {l4 : Int} {t0 : Nat} {t1 : Int} {t2 : Int} {M : Mem} {K : KK} {Q : RR → Mem → KK → Prop} (hK : K.1 = 923) (hX : FX M)  (h : isO 923 t0 20 = true ∧ (0 ≤ t1 ∧ t1 < (ln t0 : Int)) ∧ Wp (d + 1) 254 62 [vR 440, vR l1, vI l2, vI l3, vI (w32 (l4 + 1))] [] (mset M t0 (Int.toNat t1) t2) K Q) : Wp (d + 1) 254 92 [vR 440, vR l1, vI l2, vI l3, vI l4] [vI t2, vI t1, vR t0] M K Q := by
  obtain ⟨o1, h⟩ := h
  obtain ⟨s2, h⟩ := h
  refine r_ias c254_92 (oK hK o1) s2 ?_
  have x3 := FX.set (v := t2) (a := t0) (k := (Int.toNat t1)) hX (nfa o1 _)
  refine r_iinc c254_93 rfl ?_
  refine r_goto c254_96 ?_
  exact h
theorem u255_0 {d : Nat}  {M : Mem} {K : KK} {Q : RR → Mem → KK → Prop} (hK : K.1 = 923) (hX : FX M)  (h : (¬ (M 440 38) = (3 : Int) → (0 ≤ (M 440 38) ∧ (M 440 38) < (3 : Int)) ∧ Wm d 254 [vR 440, vR (908 + Int.toNat (M 440 38)), vI (0 : Int)] (mset M 440 0 (0 : Int)) K (Bk d 255 26 29 254 [vR 440] [] Q)) ∧ ((M 440 38) = (3 : Int) → Q (.inl (some (vI (-1 : Int)))) (mset M 440 0 (0 : Int)) K)) : Wp (d + 1) 255 0 [vR 440] [] M K Q := by
  refine r_aload_n c255_0 rfl ?_
  refine r_iconst c255_1 ?_
  refine r_putI c255_2 (oK hK o440) ?_
  have x1 := FX.set (v := (0 : Int)) (a := 440) (k := 0) hX (by decide +kernel)
  refine r_aload_n c255_5 rfl ?_
  refine r_getIe c255_6 (oK hK o440) (ms_nk (by decide)) ?_
  refine r_iconst c255_9 ?_
  refine r_icmpP (P := ¬ (M 440 38) = (3 : Int)) c255_10 rfl (fun hc2 => ?_) (fun hc2 => ?_)
  · replace h := h.1 hc2
    refine r_aload_n c255_15 rfl ?_
    refine r_aload_n c255_16 rfl ?_
    refine r_getR c255_17 (oK hK o440) (FX.get (b := 907) x1 (by decide) (by decide +kernel) (by decide)) (by decide) ?_
    refine r_aload_n c255_20 rfl ?_
    refine r_getIe c255_21 (oK hK o440) (ms_nk (by decide)) ?_
    obtain ⟨s4, h⟩ := h
    refine r_aa c255_24 (mrw o907 hK) (bd l907 s4) (rf907 x1 s4) (by omega) ?_
    refine r_iconst c255_25 ?_
    exact r_call c255_26 rfl rfl (Nat.le_of_ble_eq_true rfl) (okc_r rfl rfl (oK hK o440)) h
  · have hc3 := Classical.not_not.mp hc2
    replace h := h.2 hc3
    refine r_iconst c255_13 ?_
    exact r_iret c255_14 (Or.inl rfl) h
theorem u255_29 {d : Nat}  {M : Mem} {K : KK} {Q : RR → Mem → KK → Prop} (hK : K.1 = 923) (hX : FX M)  (h : Q (.inl (some (vI (w32 ((M 440 38) + (1 : Int)))))) (mset M 440 38 (w32 ((M 440 38) + (1 : Int)))) K) : Wp (d + 1) 255 29 [vR 440] [] M K Q := by
  refine r_aload_n c255_29 rfl ?_
  refine r_dupr c255_30 ?_
  refine r_getIe c255_31 (oK hK o440) rfl ?_
  refine r_iconst c255_34 ?_
  refine r_iadd c255_35 ?_
  refine r_putI c255_36 (oK hK o440) ?_
  have x1 := FX.set (v := (w32 ((M 440 38) + (1 : Int)))) (a := 440) (k := 38) hX (by decide +kernel)
  refine r_aload_n c255_39 rfl ?_
  refine r_getIe c255_40 (oK hK o440) ms_eq ?_
  exact r_iret c255_43 (Or.inl rfl) h
theorem u256_0 {d : Nat}  {M : Mem} {K : KK} {Q : RR → Mem → KK → Prop} (hK : K.1 = 923) (hX : FX M)  (h : (¬ (M 440 38) = (0 : Int) → (0 ≤ (w32 ((M 440 38) - (1 : Int))) ∧ (w32 ((M 440 38) - (1 : Int))) < (3 : Int)) ∧ Wm d 254 [vR 440, vR (908 + Int.toNat (w32 ((M 440 38) - (1 : Int)))), vI (1 : Int)] (mset (mset M 440 0 (0 : Int)) 440 38 (w32 ((M 440 38) - (1 : Int)))) K (Bk d 256 35 38 254 [vR 440] [] Q)) ∧ ((M 440 38) = (0 : Int) → Q (.inl (some (vI (-1 : Int)))) (mset M 440 0 (0 : Int)) K)) : Wp (d + 1) 256 0 [vR 440] [] M K Q := by
  refine r_aload_n c256_0 rfl ?_
  refine r_iconst c256_1 ?_
  refine r_putI c256_2 (oK hK o440) ?_
  have x1 := FX.set (v := (0 : Int)) (a := 440) (k := 0) hX (by decide +kernel)
  refine r_aload_n c256_5 rfl ?_
  refine r_getIe c256_6 (oK hK o440) (ms_nk (by decide)) ?_
  refine r_ifP (P := ¬ (M 440 38) = (0 : Int)) c256_9 rfl (fun hc2 => ?_) (fun hc2 => ?_)
  · replace h := h.1 hc2
    refine r_aload_n c256_14 rfl ?_
    refine r_dupr c256_15 ?_
    refine r_getIe c256_16 (oK hK o440) (ms_nk (by decide)) ?_
    refine r_iconst c256_19 ?_
    refine r_isub c256_20 ?_
    refine r_putI c256_21 (oK hK o440) ?_
    have x4 := FX.set (v := (w32 ((M 440 38) - (1 : Int)))) (a := 440) (k := 38) x1 (by decide +kernel)
    refine r_aload_n c256_24 rfl ?_
    refine r_aload_n c256_25 rfl ?_
    refine r_getR c256_26 (oK hK o440) (FX.get (b := 907) x4 (by decide) (by decide +kernel) (by decide)) (by decide) ?_
    refine r_aload_n c256_29 rfl ?_
    refine r_getIe c256_30 (oK hK o440) ms_eq ?_
    obtain ⟨s5, h⟩ := h
    refine r_aa c256_33 (mrw o907 hK) (bd l907 s5) (rf907 x4 s5) (by omega) ?_
    refine r_iconst c256_34 ?_
    exact r_call c256_35 rfl rfl (Nat.le_of_ble_eq_true rfl) (okc_r rfl rfl (oK hK o440)) h
  · have hc3 := Classical.not_not.mp hc2
    replace h := h.2 hc3
    refine r_iconst c256_12 ?_
    exact r_iret c256_13 (Or.inl rfl) h
theorem u256_38 {d : Nat}  {M : Mem} {K : KK} {Q : RR → Mem → KK → Prop} (hK : K.1 = 923) (hX : FX M)  (h : Q (.inl (some (vI (M 440 38)))) (mset M 440 37 (0 : Int)) K) : Wp (d + 1) 256 38 [vR 440] [] M K Q := by
  refine r_aload_n c256_38 rfl ?_
  refine r_iconst c256_39 ?_
  refine r_putI c256_40 (oK hK o440) ?_
  have x1 := FX.set (v := (0 : Int)) (a := 440) (k := 37) hX (by decide +kernel)
  refine r_aload_n c256_43 rfl ?_
  refine r_getIe c256_44 (oK hK o440) (ms_nk (by decide)) ?_
  exact r_iret c256_47 (Or.inl rfl) h
theorem u257_0 {d : Nat} {l1 : Int} {M : Mem} {K : KK} {Q : RR → Mem → KK → Prop} (hK : K.1 = 923) (hX : FX M)  (h : (¬ ((0 : Int) ≤ l1 ∧ l1 ≤ (1 : Int)) → Q (.inl (some (vI (-1 : Int)))) (mset M 440 0 (0 : Int)) K) ∧ (((0 : Int) ≤ l1 ∧ l1 ≤ (1 : Int)) → (0 ≤ l1 ∧ l1 < (2 : Int)) ∧ Q (.inl (some (vI (M 442 (Int.toNat l1))))) (mset M 440 0 (0 : Int)) K)) : Wp (d + 1) 257 0 [vR 440, vI l1] [] M K Q := by
  refine r_aload_n c257_0 rfl ?_
  refine r_iconst c257_1 ?_
  refine r_putI c257_2 (oK hK o440) ?_
  have x1 := FX.set (v := (0 : Int)) (a := 440) (k := 0) hX (by decide +kernel)
  refine r_iload_n c257_5 rfl ?_
  refine r_iconst c257_6 ?_
  refine r_iconst c257_7 ?_
  refine r_call c257_8 rfl rfl (Nat.le_of_ble_eq_true rfl) (okc_s rfl rfl rfl) (g153 hK x1  (Bk_v ?_))
  refine r_ifP (P := ¬ ((0 : Int) ≤ l1 ∧ l1 ≤ (1 : Int))) c257_11 bI_eq (fun hc2 => ?_) (fun hc2 => ?_)
  · replace h := h.1 hc2
    refine r_iconst c257_23 ?_
    exact r_iret c257_24 (Or.inl rfl) h
  · have hc3 := Classical.not_not.mp hc2
    replace h := h.2 hc3
    refine r_aload_n c257_14 rfl ?_
    refine r_getR c257_15 (oK hK o440) (FX.get (b := 442) x1 (by decide) (by decide +kernel) (by decide)) (by decide) ?_
    refine r_iload_n c257_18 rfl ?_
    obtain ⟨s4, h⟩ := h
    refine r_iae c257_19 (oK hK o442) (bd l442 s4) (ms_na (by decide)) ?_
    refine r_goto c257_20 ?_
    exact r_iret c257_24 (Or.inl rfl) h
theorem u258_0 {d : Nat} {l1 : Int} {M : Mem} {K : KK} {Q : RR → Mem → KK → Prop} (hK : K.1 = 923) (hX : FX M)  (h : (¬ l1 = (0 : Int) → (¬ l1 = (1 : Int) → (¬ l1 = (2 : Int) → Q (.inl (some (vI (-1 : Int)))) (mset M 440 0 (0 : Int)) K) ∧ (l1 = (2 : Int) → Q (.inl (some (vI (M 440 36)))) (mset M 440 0 (0 : Int)) K)) ∧ (l1 = (1 : Int) → Q (.inl (some (vI (M 440 1)))) (mset M 440 0 (0 : Int)) K)) ∧ (l1 = (0 : Int) → Q (.inl (some (vI (M 440 38)))) (mset M 440 0 (0 : Int)) K)) : Wp d 258 0 [vR 440, vI l1] [] M K Q := by
  refine r_aload_n c258_0 rfl ?_
  refine r_iconst c258_1 ?_
  refine r_putI c258_2 (oK hK o440) ?_
  have x1 := FX.set (v := (0 : Int)) (a := 440) (k := 0) hX (by decide +kernel)
  refine r_iload_n c258_5 rfl ?_
  refine r_ifP (P := ¬ l1 = (0 : Int)) c258_6 rfl (fun hc2 => ?_) (fun hc2 => ?_)
  · replace h := h.1 hc2
    refine r_iload_n c258_16 rfl ?_
    refine r_iconst c258_17 ?_
    refine r_icmpP (P := ¬ l1 = (1 : Int)) c258_18 rfl (fun hc4 => ?_) (fun hc4 => ?_)
    · replace h := h.1 hc4
      refine r_iload_n c258_28 rfl ?_
      refine r_iconst c258_29 ?_
      refine r_icmpP (P := ¬ l1 = (2 : Int)) c258_30 rfl (fun hc6 => ?_) (fun hc6 => ?_)
      · replace h := h.1 hc6
        refine r_iconst c258_40 ?_
        exact r_iret c258_41 (Or.inl rfl) h
      · have hc7 := Classical.not_not.mp hc6
        replace h := h.2 hc7
        refine r_aload_n c258_33 rfl ?_
        refine r_getIe c258_34 (oK hK o440) (ms_nk (by decide)) ?_
        refine r_goto c258_37 ?_
        exact r_iret c258_41 (Or.inl rfl) h
    · have hc5 := Classical.not_not.mp hc4
      replace h := h.2 hc5
      refine r_aload_n c258_21 rfl ?_
      refine r_getIe c258_22 (oK hK o440) (ms_nk (by decide)) ?_
      refine r_goto c258_25 ?_
      exact r_iret c258_41 (Or.inl rfl) h
  · have hc3 := Classical.not_not.mp hc2
    replace h := h.2 hc3
    refine r_aload_n c258_9 rfl ?_
    refine r_getIe c258_10 (oK hK o440) (ms_nk (by decide)) ?_
    refine r_goto c258_13 ?_
    exact r_iret c258_41 (Or.inl rfl) h
/-! fault, undo, image, restore, status, count: the model -/
section SOM
variable {d : Nat} {M M' : Mem} {K : KK} {Q : RR → Mem → KK → Prop} {nB : Nat} {B : BY} {fp : Int} {c : Mem} {L : LC} {s : Mem} {H : List Mem} {I : List IMG} {Y : LC} {rf ms wr : Int}
theorem m192 (hK : K.1 = 923) (hX : FX M) (hI : IV nB B c s H I Y) (h : MS M nB B fp c L s H I Y rf ms wr) (k : ∀ M', FX M' → LoM M M' → M' 440 0 = 0 → MS M' nB B fp c L s H I Y rf ms wr → Q (.inl (some (vI fp))) M' K) : Wm d 192 [vR 440] M K Q := by
  refine u192_0 hK hX ?_
  rw [h.1.2.2]
  exact k _ hX.t0 FrQm.t0.lo ms_eq (h.q FrQm.t0 hI)
theorem m257 {v : Int} (hK : K.1 = 923) (hX : FX M) (hI : IV nB B c s H I Y) (h : MS M nB B fp c L s H I Y rf ms wr) (k : ∀ M', FX M' → LoM M M' → M' 440 0 = 0 → MS M' nB B fp c L s H I Y rf ms wr → Q (.inl (some (vI (statS ms wr v)))) M' K) : Wm (d + 1) 257 [vR 440, vI v] M K Q := by
  have k := k _ hX.t0 FrQm.t0.lo ms_eq (h.q FrQm.t0 hI)
  unfold statS at k
  refine u257_0 hK hX ⟨fun h1 => ?_, fun h1 => ⟨by omega, ?_⟩⟩
  · rw [if_neg (by omega), if_neg (by omega)] at k; exact k
  · rcases (show v = 0 ∨ v = 1 by omega) with rfl | rfl
    · rw [if_pos rfl] at k
      rw [show Int.toNat 0 = 0 from rfl, h.2.2.2.2.2.2.1]; exact k
    · rw [if_neg (by decide), if_pos rfl] at k
      rw [show Int.toNat 1 = 1 from rfl, h.2.2.2.2.2.2.2]; exact k
theorem m258 {v : Int} (hK : K.1 = 923) (hX : FX M) (hI : IV nB B c s H I Y) (h : MS M nB B fp c L s H I Y rf ms wr) (k : ∀ M', FX M' → LoM M M' → M' 440 0 = 0 → MS M' nB B fp c L s H I Y rf ms wr → Q (.inl (some (vI (cntS nB H I v)))) M' K) : Wm d 258 [vR 440, vI v] M K Q := by
  have k := k _ hX.t0 FrQm.t0.lo ms_eq (h.q FrQm.t0 hI)
  unfold cntS at k
  refine u258_0 hK hX ⟨fun h1 => ⟨fun h2 => ⟨fun h3 => ?_, fun h3 => ?_⟩, fun h2 => ?_⟩, fun h1 => ?_⟩
  · rw [if_neg h1, if_neg h2, if_neg h3] at k; exact k
  · rw [if_neg h1, if_neg h2, if_pos h3] at k; rw [h.2.2.2.1.1]; exact k
  · rw [if_neg h1, if_pos h2] at k; rw [h.1.1]; exact k
  · rw [if_pos h1] at k; rw [h.2.2.2.2.1.1]; exact k
/-- unchanged is what belongs to no game and no image -/
def KmL (M M' : Mem) : Prop := ∀ a k, 440 ≤ a → a < 922 → ¬ scM a k → ¬ (888 ≤ a ∧ a ≤ 910) → ¬ (a = 440 ∧ (36 ≤ k ∧ k ≤ 38)) → M' a k = M a k
theorem MS.upd {s' : Mem} {H' : List Mem} {I' : List IMG} {rf' : Int} (h : MS M nB B fp c L s H I Y rf ms wr) (hf : KmL M M') (hnb : nB ≤ 600) (hl : LMr M' 888 c s') (h26 : M' 888 26 = -1) (hw : LW c s') (hb : BfM M' c H') (hi : ImM M' c I') (hr : M' 440 37 = rf') : MS M' nB B fp c L s' H' I' Y rf' ms wr := by
  obtain ⟨⟨a1, a2, a3⟩, b, ⟨e1, e2, e3⟩, -, -, r1, r2, r3⟩ := h
  have u : ∀ a k, 440 ≤ a → a < 922 → ¬ scM a k → ¬ (888 ≤ a ∧ a ≤ 910) → ¬ (a = 440 ∧ (36 ≤ k ∧ k ≤ 38)) → M' a k = M a k := hf
  obtain ⟨⟨x1, x2, x3, x4, x5⟩, x6, x7, x8, x9⟩ := b
  have hn := x2.n
  refine ⟨⟨(u _ _ (by omega) (by omega) (by unfold scM; omega) (by omega) (by omega)).trans a1, fun i hi => (u _ _ (by omega) (by omega) (by unfold scM; omega) (by omega) (by omega)).trans (a2 i hi), (u _ _ (by omega) (by omega) (by unfold scM; omega) (by omega) (by omega)).trans a3⟩, ⟨⟨⟨fun k hk => (u _ _ (by omega) (by omega) (by unfold scM; omega) (by omega) (by omega)).trans (x1.1 k hk), fun i hi => (u _ _ (by omega) (by omega) (by unfold scM; omega) (by omega) (by omega)).trans (x1.2.1 i hi), fun i hi => ?_, fun i hi => (u _ _ (by omega) (by omega) (by unfold scM; omega) (by omega) (by omega)).trans (x1.2.2.2.1 i hi), fun i hi => (u _ _ (by omega) (by omega) (by unfold scM; omega) (by omega) (by omega)).trans (x1.2.2.2.2 i hi)⟩, x2, hl, hw, h26⟩, (u _ _ (by omega) (by omega) (by unfold scM; omega) (by omega) (by omega)).trans x6, x7, fun i hi => ?_, x9⟩, ⟨(u _ _ (by omega) (by omega) (by unfold scM; omega) (by omega) (by omega)).trans e1, e2, fun k hk => ⟨(u _ _ (by omega) (by omega) (by unfold scM; omega) (by omega) (by omega)).trans (e3 k hk).1, (u _ _ (by omega) (by omega) (by unfold scM; omega) (by omega) (by omega)).trans (e3 k hk).2⟩⟩, hb, hi, hr, (u _ _ (by omega) (by omega) (by unfold scM; omega) (by omega) (by omega)).trans r2, (u _ _ (by omega) (by omega) (by unfold scM; omega) (by omega) (by omega)).trans r3⟩
  · exact ⟨(u _ _ (by omega) (by omega) (by unfold scM; omega) (by omega) (by omega)).trans (x1.2.2.1 i hi).1, (u _ _ (by omega) (by omega) (by unfold scM; omega) (by omega) (by omega)).trans (x1.2.2.1 i hi).2⟩
  · exact ⟨(u _ _ (by omega) (by omega) (by unfold scM; omega) (by omega) (by omega)).trans (x8 i hi).1, (u _ _ (by omega) (by omega) (by unfold scM; omega) (by omega) (by omega)).trans (x8 i hi).2⟩
theorem bf_o : ∀ i, i < 16 → isO 923 (891 + i) 20 = true ∧ ln (891 + i) = 27 := by decide +kernel
theorem kp_o : ∀ i, i < 3 → isO 923 (908 + i) 20 = true ∧ ln (908 + i) = 460 := by decide +kernel
theorem nf440_36 (k : Nat) (h : k = 36 ∨ k = 37 ∨ k = 38 ∨ k = 39) : fxT 440 k = 0 := by rcases h with rfl | rfl | rfl | rfl <;> decide +kernel
/-- a row of 27 that was copied -/
theorem row_cp {a b : Nat} {t : Mem} (hN : nSt c ≤ 6) (hc : ∀ j, j < 27 → M' b j = M a j) (h : LMr M a c t) : LMr M' b c t := by
  obtain ⟨x, y, z⟩ := h
  refine ⟨fun p hp => ?_, (hc 24 (by decide)).trans y, (hc 25 (by decide)).trans z⟩
  obtain ⟨q0, q1, q2, q3⟩ := x p hp
  exact ⟨(hc _ (by omega)).trans q0, (hc _ (by omega)).trans q1, (hc _ (by omega)).trans q2, (hc _ (by omega)).trans q3⟩
theorem m203 (hK : K.1 = 923) (hX : FX M) (hI : IV nB B c s H I Y) (h : MS M nB B fp c L s H I Y rf ms wr) (k : ∀ M', FX M' → LoM M M' → M' 440 0 = 0 → MS M' nB B fp c L (unS s H) H.dropLast I Y (if H = [] then rf else 0) ms wr → Q (.inl (some (vI (if H = [] then -1 else (H.length : Int) - 1)))) M' K) : Wm (d + 1) 203 [vR 440] M K Q := by
  have hb := h.2.2.2.1
  have hN := h.2.1.1.2.1.n.1.2
  have hH := hI.2.2.2.1
  refine u203_0 hK hX ?_
  rw [hb.1]
  refine ⟨fun hne' => ?_, fun he => ?_⟩
  · have hne : H ≠ [] := by rintro rfl; exact hne' rfl
    obtain ⟨n, hn⟩ : ∃ n, H.length = n + 1 := ⟨H.length - 1, by have := List.length_pos_iff.mpr hne; omega⟩
    have hlast := hH.2 n (by omega)
    unfold unS at k
    rw [if_neg hne, if_neg hne, if_neg hne, hn, show n + 1 - 1 = n from rfl] at k
    have n16 : n < 16 := by have := hH.1; omega
    have e1 : w32 ((H.length : Int) - 1) = (n : Int) := by rw [hn, w32_id (by omega)]; omega
    rw [e1, Int.toNat_natCast]
    have l27 : L27 (891 + n) := by unfold L27; exact (bf_o n n16).2
    refine ⟨by omega, ⟨(bf_o n n16).1, l27, cpy_o.1, cpy_o.2.1, by omega⟩, fun M1 x1 ⟨f1, c1⟩ => ?_⟩
    have fa : ∀ a j, a ≠ 888 → ¬ (a = 440 ∧ (j = 0 ∨ j = 36 ∨ j = 37)) → mset M1 440 37 0 a j = M a j := fun a j h1 h2 => by
      rw [show mset M1 440 37 0 a j = M1 a j by unfold mset; rw [if_neg (fun h9 => h2 (by omega))], f1 a j h1]
      unfold mset; rw [if_neg (fun h9 => h2 (by omega)), if_neg (fun h9 => h2 (by omega))]
    have c1' : ∀ j, j < 27 → mset M1 440 37 0 888 j = M (891 + n) j := fun j hj => by
      rw [ms_na (by decide), c1 j hj, ms_na (by omega), ms_na (by omega)]
    have e36 : M1 440 36 = (n : Int) := (f1 _ _ (by decide)).trans ms_eq
    have ek : ((n + 1 : Nat) : Int) - 1 = (n : Int) := by omega
    rw [ek] at k
    rw [e36]
    refine k _ (x1.set (nf440_36 37 (by omega))) (fun a j h9 => fa a j (by omega) (by omega)) ?_ (h.upd (fun a j h1 h2 h3 h4 h5 => fa a j (by omega) (by unfold scM at h3; omega)) hI.1 (row_cp hN c1' (hb.2 n (by omega)).1) ((c1' 26 (by decide)).trans (hb.2 n (by omega)).2) hlast.1 ⟨?_, fun i hi => ?_⟩ ⟨(fa _ _ (by decide) (by omega)).trans h.2.2.2.2.1.1, fun i hi => ?_⟩ ms_eq)
    · rw [ms_nk (by decide), f1 _ _ (by decide), ms_nk (by decide), ms_eq]
    · rw [ms_nk (by decide), e36]; simp; omega
    · simp at hi
      have : H.dropLast.getD i c00 = H.getD i c00 := by
        have h1 : i < H.dropLast.length := by simp; omega
        simp only [List.getD, List.getElem?_eq_getElem h1, List.getElem?_eq_getElem (show i < H.length by omega), List.getElem_dropLast]
      rw [this]
      have hH1 := hH.1
      exact ⟨(hb.2 i (by omega)).1.er (fun k => fa _ _ (by omega) (by omega)), (fa _ _ (by omega) (by omega)).trans (hb.2 i (by omega)).2⟩
    · have h3 := hI.2.2.2.2.1.1
      obtain ⟨q1, q2, q3⟩ := h.2.2.2.2.1.2 i hi
      exact ⟨(fa _ _ (by omega) (by omega)).trans q1, q2.eq (fun k => fa _ _ (by omega) (by omega)), fun j hj => (q3 j hj).eq (fun k => fa _ _ (by omega) (by omega))⟩
  · have hn : H = [] := List.eq_nil_of_length_eq_zero (by omega)
    subst hn
    unfold unS at k
    rw [if_pos rfl, if_pos rfl, if_pos rfl] at k
    exact k _ hX.t0 FrQm.t0.lo ms_eq (h.q FrQm.t0 hI)
theorem p0' {z : Int} {t : Nat} (h : z = (t : Int)) (ht : t < 1000) : w32 (z + 1) = ((t + 1 : Nat) : Int) := by subst h; exact w1 (by omega)
theorem p1' {z : Int} {t : Nat} (h : z = (t : Int)) (ht : t < 1000) : w32 (w32 (z + 1) - 1) = (t : Int) := by rw [p0' h ht, w32_id (by omega)]; omega
/-- a cell put into a kept row -/
theorem g253s {a t : Nat} {v : Int} (hK : K.1 = 923) (hX : FX M) (ha : isO 923 a 20 = true) (hl : ln a = 460) (hn : a ≠ 440) (h : M 440 39 = (t : Int)) (ht : t < 460) (k : FX (mset (mset M a t v) 440 39 ((t + 1 : Nat) : Int)) → Q (.inl (some (vI v))) (mset (mset M a t v) 440 39 ((t + 1 : Nat) : Int)) K) : Wm d 253 [vR 440, vR a, vI v, vI 0] M K Q := by
  have e0 : mset M a (Int.toNat (M 440 39)) v 440 39 = (t : Int) := by rw [ms_na (fun h => hn h.symm)]; exact h
  refine u253_0 hK hX ⟨fun h9 => absurd rfl h9, fun _ => ⟨ha, by rw [hl]; omega, ?_, ?_⟩⟩
  · rw [p1' e0 (by omega), hl]; omega
  · rw [p1' e0 (by omega), p0' e0 (by omega), h, Int.toNat_natCast, ms_na hn, ms_eq]
    exact k ((hX.set (nfa ha _)).set (nf440_36 39 (by omega)))
/-- a cell taken out of a kept row -/
theorem g253b {a t : Nat} {v : Int} (hK : K.1 = 923) (hX : FX M) (ha : isO 923 a 20 = true) (hl : ln a = 460) (hn : a ≠ 440) (h : M 440 39 = (t : Int)) (ht : t < 460) (k : FX (mset M 440 39 ((t + 1 : Nat) : Int)) → Q (.inl (some (vI (M a t)))) (mset M 440 39 ((t + 1 : Nat) : Int)) K) : Wm d 253 [vR 440, vR a, vI v, vI 1] M K Q := by
  refine u253_0 hK hX ⟨fun _ => ⟨ha, ?_, ?_⟩, fun h9 => absurd h9 (by decide)⟩
  · rw [p1' h (by omega), hl]; omega
  · rw [p1' h (by omega), p0' h (by omega), Int.toNat_natCast, ms_na hn]
    exact k (hX.set (nf440_36 39 (by omega)))
/-- where the cell t of a kept row belongs -/
def adA (t : Nat) : Nat := if t = 0 then 440 else if t < 28 then 888 else 891 + (t - 28) / 27
def adK (t : Nat) : Nat := if t = 0 then 36 else if t < 28 then t - 1 else (t - 28) % 27
theorem ad_1 {k : Nat} (h : k < 27) : adA (1 + k) = 888 ∧ adK (1 + k) = k := by
  unfold adA adK
  rw [if_neg (by omega), if_pos (by omega), if_neg (by omega), if_pos (by omega)]; omega
theorem ad_2 {w k : Nat} (h : k < 27) : adA (28 + 27 * w + k) = 891 + w ∧ adK (28 + 27 * w + k) = k := by
  unfold adA adK
  rw [if_neg (by omega), if_neg (by omega), if_neg (by omega), if_neg (by omega)]; omega
theorem ad_inj {t u : Nat} (ht : t < 460) (hu : u < 460) (h1 : adA t = adA u) (h2 : adK t = adK u) : t = u := by
  unfold adA at h1; unfold adK at h2
  split at h1 <;> split at h1 <;> simp_all <;> (repeat' split at h1) <;> (repeat' split at h2) <;> omega
theorem ad_rg {t : Nat} (ht : t < 460) : (t = 0 ∧ adA t = 440) ∨ (888 ≤ adA t ∧ adA t ≤ 906 ∧ adA t ≠ 889 ∧ adA t ≠ 890) := by
  unfold adA
  split
  · exact Or.inl ⟨by assumption, rfl⟩
  · split <;> exact Or.inr (by omega)
end SOM
