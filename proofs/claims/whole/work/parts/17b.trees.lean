/-! the trees of the code -/
theorem t50_0 {d : Nat} {l0 : Nat} {l1 : Int} {l2 : Int} {M : Mem} {K : KK} {Q : RR → Mem → KK → Prop} (h : isO K.1 l0 2 = true ∧ ∃ b2 : Nat, (M l0 0) = (b2 : Int) ∧ 0 < b2 ∧ isO K.1 b2 20 = true ∧ (0 ≤ (2 : Int) ∧ (2 : Int) < (ln b2 : Int)) ∧ isO K.1 l0 2 = true ∧ ∃ b8 : Nat, ((mset M b2 (Int.toNat (2 : Int)) l1) l0 0) = (b8 : Int) ∧ 0 < b8 ∧ isO K.1 b8 20 = true ∧ (0 ≤ (3 : Int) ∧ (3 : Int) < (ln b8 : Int)) ∧ isO K.1 l0 2 = true ∧ Wm d 26 [vR l0] (mset (mset M b2 (Int.toNat (2 : Int)) l1) b8 (Int.toNat (3 : Int)) l2) K (Bk d 50 17 20 26 [vR l0, vI l1, vI l2] [vI l1, vI (0 : Int)] Q)) : Wp (d + 1) 50 0 [vR l0, vI l1, vI l2] [] M K Q := by
  refine r_aload_n c50_0 rfl ?_
  obtain ⟨s1, h⟩ := h
  obtain ⟨b2, h⟩ := h
  obtain ⟨s3, h⟩ := h
  obtain ⟨s4, h⟩ := h
  refine r_getR c50_1 s1 s3 s4 ?_
  refine r_iconst c50_4 ?_
  refine r_iload_n c50_5 rfl ?_
  obtain ⟨s5, h⟩ := h
  obtain ⟨s6, h⟩ := h
  refine r_ias c50_6 s5 s6 ?_
  refine r_aload_n c50_7 rfl ?_
  obtain ⟨s7, h⟩ := h
  obtain ⟨b8, h⟩ := h
  obtain ⟨s9, h⟩ := h
  obtain ⟨s10, h⟩ := h
  refine r_getR c50_8 s7 s9 s10 ?_
  refine r_iconst c50_11 ?_
  refine r_iload_n c50_12 rfl ?_
  obtain ⟨s11, h⟩ := h
  obtain ⟨s12, h⟩ := h
  refine r_ias c50_13 s11 s12 ?_
  refine r_iconst c50_14 ?_
  refine r_iload_n c50_15 rfl ?_
  refine r_aload_n c50_16 rfl ?_
  obtain ⟨s13, h⟩ := h
  exact r_call c50_17 rfl rfl (Nat.le_of_ble_eq_true rfl) (okc_r rfl rfl s13) h
theorem t50_20 {d : Nat} {l0 : Nat} {l1 : Int} {l2 : Int} {t0 : Int} {t1 : Int} {t2 : Int} {M : Mem} {K : KK} {Q : RR → Mem → KK → Prop} (h : Q (.inl (some (vI (if t0 < (w32 (t1 - t2)) then (w32 (t1 - t2)) else t0)))) M K) : Wp d 50 20 [vR l0, vI l1, vI l2] [vI t2, vI t1, vI t0] M K Q := by
  refine r_isub c50_20 ?_
  refine r_max c50_21 (Nat.le_of_ble_eq_true rfl) ?_
  exact r_iret c50_24 (Or.inl rfl) h
theorem t51_0 {d : Nat} {l0 : Nat} {M : Mem} {K : KK} {Q : RR → Mem → KK → Prop} (h : (tg K.1 = 20 ∧ (28672 : Int) = (ln K.1 : Int)) ∧ isO (K.1 + 1) l0 5 = true ∧ 0 < K.1 ∧ (tg (K.1 + 1) = 20 ∧ (72 : Int) = (ln (K.1 + 1) : Int)) ∧ isO ((K.1 + 1) + 1) l0 5 = true ∧ 0 < (K.1 + 1) ∧ (tg ((K.1 + 1) + 1) = 20 ∧ (6 : Int) = (ln ((K.1 + 1) + 1) : Int)) ∧ isO (((K.1 + 1) + 1) + 1) l0 5 = true ∧ 0 < ((K.1 + 1) + 1) ∧ Q (.inl none) (mset (mset (mset M l0 0 (K.1 : Nat)) l0 1 ((K.1 + 1) : Nat)) l0 2 (((K.1 + 1) + 1) : Nat)) ((((K.1 + 1) + 1) + 1), (((K.2.1 + 1) + 1) + 1), (((K.2.2 + ln K.1) + ln (K.1 + 1)) + ln ((K.1 + 1) + 1)))) : Wp d 51 0 [vR l0] [] M K Q := by
  refine r_aload_n c51_0 rfl ?_
  refine r_obj c51_1 (Nat.le_of_ble_eq_true rfl) ?_
  refine r_aload_n c51_4 rfl ?_
  refine r_sipush c51_5 ?_
  obtain ⟨s1, h⟩ := h
  refine r_newarray c51_8 s1 ?_
  obtain ⟨s2, h⟩ := h
  obtain ⟨s3, h⟩ := h
  refine r_putR c51_10 s2 s3 ?_
  refine r_aload_n c51_13 rfl ?_
  refine r_bipush c51_14 ?_
  obtain ⟨s4, h⟩ := h
  refine r_newarray c51_16 s4 ?_
  obtain ⟨s5, h⟩ := h
  obtain ⟨s6, h⟩ := h
  refine r_putR c51_18 s5 s6 ?_
  refine r_aload_n c51_21 rfl ?_
  refine r_bipush c51_22 ?_
  obtain ⟨s7, h⟩ := h
  refine r_newarray c51_24 s7 ?_
  obtain ⟨s8, h⟩ := h
  obtain ⟨s9, h⟩ := h
  refine r_putR c51_26 s8 s9 ?_
  exact r_ret c51_29 h
theorem t52_0 {d : Nat} {l0 : Nat} {l1 : Nat} {l2 : Nat} {l3 : Int} {M : Mem} {K : KK} {Q : RR → Mem → KK → Prop} (h : Wp d 52 3 [vR l0, vR l1, vR l2, vI l3, vI (0 : Int), vU] [] M K Q) : Wp d 52 0 [vR l0, vR l1, vR l2, vI l3, vU, vU] [] M K Q := by
  refine r_iconst c52_0 ?_
  refine r_istore c52_1 (Nat.le_of_ble_eq_true rfl) ?_
  exact h
theorem t52_3 {d : Nat} {l0 : Nat} {l1 : Nat} {l2 : Nat} {l3 : Int} {l4 : Int} {M : Mem} {K : KK} {Q : RR → Mem → KK → Prop} (h : ((4096 : Int) ≤ l4 → isO K.1 l1 0 = true ∧ Wp d 52 42 [vR l0, vR l1, vR l2, vI l3, vI (w32 ((M l1 6) - (1 : Int))), vU] [] M K Q) ∧ (¬ ((4096 : Int) ≤ l4) → isO K.1 l0 5 = true ∧ ∃ b3 : Nat, (M l0 0) = (b3 : Int) ∧ 0 < b3 ∧ isO K.1 l1 0 = true ∧ isO K.1 b3 20 = true ∧ (0 ≤ (w32 ((w32 ((M l1 6) * (4096 : Int))) + l4)) ∧ (w32 ((w32 ((M l1 6) * (4096 : Int))) + l4)) < (ln b3 : Int)) ∧ Wp d 52 3 [vR l0, vR l1, vR l2, vI l3, vI (w32 (l4 + 1)), vU] [] (mset M b3 (Int.toNat (w32 ((w32 ((M l1 6) * (4096 : Int))) + l4))) (0 : Int)) K Q)) : Wp d 52 3 [vR l0, vR l1, vR l2, vI l3, vI l4, vU] [] M K Q := by
  refine r_iload c52_3 rfl ?_
  refine r_sipush c52_5 ?_
  refine r_icmpP (P := (4096 : Int) ≤ l4) c52_8 rfl (fun hc => ?_) (fun hc => ?_)
  · replace h := h.1 hc
    refine r_aload_n c52_34 rfl ?_
    obtain ⟨s1, h⟩ := h
    refine r_getI c52_35 s1 ?_
    refine r_iconst c52_38 ?_
    refine r_isub c52_39 ?_
    refine r_istore c52_40 (Nat.le_of_ble_eq_true rfl) ?_
    exact h
  · replace h := h.2 hc
    refine r_aload_n c52_11 rfl ?_
    obtain ⟨s2, h⟩ := h
    obtain ⟨b3, h⟩ := h
    obtain ⟨s4, h⟩ := h
    obtain ⟨s5, h⟩ := h
    refine r_getR c52_12 s2 s4 s5 ?_
    refine r_aload_n c52_15 rfl ?_
    obtain ⟨s6, h⟩ := h
    refine r_getI c52_16 s6 ?_
    refine r_sipush c52_19 ?_
    refine r_imul c52_22 ?_
    refine r_iload c52_23 rfl ?_
    refine r_iadd c52_25 ?_
    refine r_iconst c52_26 ?_
    obtain ⟨s7, h⟩ := h
    obtain ⟨s8, h⟩ := h
    refine r_ias c52_27 s7 s8 ?_
    refine r_iinc c52_28 rfl ?_
    refine r_goto c52_31 ?_
    exact h
theorem t52_42 {d : Nat} {l0 : Nat} {l1 : Nat} {l2 : Nat} {l3 : Int} {l4 : Int} {l5 : PV} {M : Mem} {K : KK} {Q : RR → Mem → KK → Prop} (h : (l4 < (0 : Int) → isO K.1 l0 5 = true ∧ Wm d 57 [vR l0, vR l1, vI l3] M K (Bk d 52 107 110 57 [vR l0, vR l1, vR l2, vI l3, vI l4, l5] [] Q)) ∧ (¬ (l4 < (0 : Int)) → (¬ (jand (jshr l3 l4) (1 : Int)) = (1 : Int) → Wp (d + 1) 52 62 [vR l0, vR l1, vR l2, vI l3, vI l4, l5] [vI (0 : Int)] M K Q) ∧ (¬ (¬ (jand (jshr l3 l4) (1 : Int)) = (1 : Int)) → Wp (d + 1) 52 62 [vR l0, vR l1, vR l2, vI l3, vI l4, l5] [vI (1 : Int)] M K Q))) : Wp (d + 1) 52 42 [vR l0, vR l1, vR l2, vI l3, vI l4, l5] [] M K Q := by
  refine r_iload c52_42 rfl ?_
  refine r_ifP (P := l4 < (0 : Int)) c52_44 rfl (fun hc => ?_) (fun hc => ?_)
  · replace h := h.1 hc
    refine r_aload_n c52_104 rfl ?_
    refine r_aload_n c52_105 rfl ?_
    refine r_iload_n c52_106 rfl ?_
    obtain ⟨s1, h⟩ := h
    exact r_call c52_107 rfl rfl (Nat.le_of_ble_eq_true rfl) (okc_r rfl rfl s1) h
  · replace h := h.2 hc
    refine r_iload_n c52_47 rfl ?_
    refine r_iload c52_48 rfl ?_
    refine r_ishr c52_50 ?_
    refine r_iconst c52_51 ?_
    refine r_iand c52_52 ?_
    refine r_iconst c52_53 ?_
    refine r_icmpP (P := ¬ (jand (jshr l3 l4) (1 : Int)) = (1 : Int)) c52_54 rfl (fun hc => ?_) (fun hc => ?_)
    · replace h := h.1 hc
      refine r_iconst c52_61 ?_
      exact h
    · replace h := h.2 hc
      refine r_iconst c52_57 ?_
      refine r_goto c52_58 ?_
      exact h
theorem t52_62 {d : Nat} {l0 : Nat} {l1 : Nat} {l2 : Nat} {l3 : Int} {l4 : Int} {l5 : PV} {t0 : Int} {M : Mem} {K : KK} {Q : RR → Mem → KK → Prop} (h : (t0 = (0 : Int) → Wp (d + 1) 52 77 [vR l0, vR l1, vR l2, vI l3, vI l4, vI t0] [] M K Q) ∧ (¬ (t0 = (0 : Int)) → isO K.1 l0 5 = true ∧ Wm d 53 [vR l0, vR l1, vR l2, vI l4] M K (Bk d 52 74 77 53 [vR l0, vR l1, vR l2, vI l3, vI l4, vI t0] [] Q))) : Wp (d + 1) 52 62 [vR l0, vR l1, vR l2, vI l3, vI l4, l5] [vI t0] M K Q := by
  refine r_istore c52_62 (Nat.le_of_ble_eq_true rfl) ?_
  refine r_iload c52_64 rfl ?_
  refine r_ifP (P := t0 = (0 : Int)) c52_66 rfl (fun hc => ?_) (fun hc => ?_)
  · replace h := h.1 hc
    exact h
  · replace h := h.2 hc
    refine r_aload_n c52_69 rfl ?_
    refine r_aload_n c52_70 rfl ?_
    refine r_aload_n c52_71 rfl ?_
    refine r_iload c52_72 rfl ?_
    obtain ⟨s1, h⟩ := h
    exact r_call c52_74 rfl rfl (Nat.le_of_ble_eq_true rfl) (okc_r rfl rfl s1) h
theorem t52_77 {d : Nat} {l0 : Nat} {l1 : Nat} {l2 : Nat} {l3 : Int} {l4 : Int} {l5 : Int} {M : Mem} {K : KK} {Q : RR → Mem → KK → Prop} (h : isO K.1 l1 0 = true ∧ Wm d 9 [vR l1, vI (jand l3 (w32 ((jshl (1 : Int) l4) - (1 : Int))))] M K (Bk d 52 92 95 9 [vR l0, vR l1, vR l2, vI l3, vI l4, vI l5] [vI l5, vI l4, vR l1, vR l0] Q)) : Wp (d + 1) 52 77 [vR l0, vR l1, vR l2, vI l3, vI l4, vI l5] [] M K Q := by
  refine r_aload_n c52_77 rfl ?_
  refine r_aload_n c52_78 rfl ?_
  refine r_iload c52_79 rfl ?_
  refine r_iload c52_81 rfl ?_
  refine r_aload_n c52_83 rfl ?_
  refine r_iload_n c52_84 rfl ?_
  refine r_iconst c52_85 ?_
  refine r_iload c52_86 rfl ?_
  refine r_ishl c52_88 ?_
  refine r_iconst c52_89 ?_
  refine r_isub c52_90 ?_
  refine r_iand c52_91 ?_
  obtain ⟨s1, h⟩ := h
  exact r_call c52_92 rfl rfl (Nat.le_of_ble_eq_true rfl) (okc_r rfl rfl s1) h
theorem t52_95 {d : Nat} {l0 : Nat} {l1 : Nat} {l2 : Nat} {l3 : Int} {l4 : Int} {l5 : Int} {t0 : Nat} {t1 : Nat} {t2 : Int} {t3 : Int} {t4 : Int} {M : Mem} {K : KK} {Q : RR → Mem → KK → Prop} (h : isO K.1 t0 5 = true ∧ Wm d 54 [vR t0, vR t1, vI t2, vI t3, vI t4] M K (Bk d 52 95 98 54 [vR l0, vR l1, vR l2, vI l3, vI l4, vI l5] [] Q)) : Wp (d + 1) 52 95 [vR l0, vR l1, vR l2, vI l3, vI l4, vI l5] [vI t4, vI t3, vI t2, vR t1, vR t0] M K Q := by
  obtain ⟨s1, h⟩ := h
  exact r_call c52_95 rfl rfl (Nat.le_of_ble_eq_true rfl) (okc_r rfl rfl s1) h
theorem t52_98 {d : Nat} {l0 : Nat} {l1 : Nat} {l2 : Nat} {l3 : Int} {l4 : Int} {l5 : Int} {M : Mem} {K : KK} {Q : RR → Mem → KK → Prop} (h : Wp d 52 42 [vR l0, vR l1, vR l2, vI l3, vI (w32 (l4 + (-1))), vI l5] [] M K Q) : Wp d 52 98 [vR l0, vR l1, vR l2, vI l3, vI l4, vI l5] [] M K Q := by
  refine r_iinc c52_98 rfl ?_
  refine r_goto c52_101 ?_
  exact h
theorem t52_110 {d : Nat} {l0 : Nat} {l1 : Nat} {l2 : Nat} {l3 : Int} {l4 : Int} {l5 : PV} {M : Mem} {K : KK} {Q : RR → Mem → KK → Prop} (h : isO K.1 l0 5 = true ∧ ∃ b2 : Nat, (M l0 0) = (b2 : Int) ∧ 0 < b2 ∧ isO K.1 b2 20 = true ∧ (0 ≤ (0 : Int) ∧ (0 : Int) < (ln b2 : Int)) ∧ Q (.inl (some (vI (M b2 (Int.toNat (0 : Int)))))) M K) : Wp d 52 110 [vR l0, vR l1, vR l2, vI l3, vI l4, l5] [] M K Q := by
  refine r_aload_n c52_110 rfl ?_
  obtain ⟨s1, h⟩ := h
  obtain ⟨b2, h⟩ := h
  obtain ⟨s3, h⟩ := h
  obtain ⟨s4, h⟩ := h
  refine r_getR c52_111 s1 s3 s4 ?_
  refine r_iconst c52_114 ?_
  obtain ⟨s5, h⟩ := h
  obtain ⟨s6, h⟩ := h
  refine r_ia c52_115 s5 s6 ?_
  exact r_iret c52_116 (Or.inl rfl) h
theorem t53_0 {d : Nat} {l0 : Nat} {l1 : Nat} {l2 : Nat} {l3 : Int} {M : Mem} {K : KK} {Q : RR → Mem → KK → Prop} (h : Wp d 53 3 [vR l0, vR l1, vR l2, vI l3, vI (0 : Int), vU] [] M K Q) : Wp d 53 0 [vR l0, vR l1, vR l2, vI l3, vU, vU] [] M K Q := by
  refine r_iconst c53_0 ?_
  refine r_istore c53_1 (Nat.le_of_ble_eq_true rfl) ?_
  exact h
theorem t53_3 {d : Nat} {l0 : Nat} {l1 : Nat} {l2 : Nat} {l3 : Int} {l4 : Int} {l5 : PV} {M : Mem} {K : KK} {Q : RR → Mem → KK → Prop} (h : isO K.1 l1 0 = true ∧ ∃ b2 : Nat, (M l1 1) = (b2 : Int) ∧ 0 < b2 ∧ isO K.1 b2 20 = true ∧ (0 ≤ l3 ∧ l3 < (ln b2 : Int)) ∧ isO K.1 l1 0 = true ∧ ((M l1 5) < (w32 (l4 + (M b2 (Int.toNat l3)))) → Q (.inl none) M K) ∧ (¬ ((M l1 5) < (w32 (l4 + (M b2 (Int.toNat l3))))) → isO K.1 l2 3 = true ∧ Wm d 45 [vR l2, vR l1, vI l3, vI l4] M K (Bk d 53 24 27 45 [vR l0, vR l1, vR l2, vI l3, vI l4, l5] [] Q))) : Wp (d + 1) 53 3 [vR l0, vR l1, vR l2, vI l3, vI l4, l5] [] M K Q := by
  refine r_iload c53_3 rfl ?_
  refine r_aload_n c53_5 rfl ?_
  obtain ⟨s1, h⟩ := h
  obtain ⟨b2, h⟩ := h
  obtain ⟨s3, h⟩ := h
  obtain ⟨s4, h⟩ := h
  refine r_getR c53_6 s1 s3 s4 ?_
  refine r_iload_n c53_9 rfl ?_
  obtain ⟨s5, h⟩ := h
  obtain ⟨s6, h⟩ := h
  refine r_ia c53_10 s5 s6 ?_
  refine r_iadd c53_11 ?_
  refine r_aload_n c53_12 rfl ?_
  obtain ⟨s7, h⟩ := h
  refine r_getI c53_13 s7 ?_
  refine r_icmpP (P := (M l1 5) < (w32 (l4 + (M b2 (Int.toNat l3))))) c53_16 rfl (fun hc => ?_) (fun hc => ?_)
  · replace h := h.1 hc
    exact r_ret c53_58 h
  · replace h := h.2 hc
    refine r_aload_n c53_19 rfl ?_
    refine r_aload_n c53_20 rfl ?_
    refine r_iload_n c53_21 rfl ?_
    refine r_iload c53_22 rfl ?_
    obtain ⟨s8, h⟩ := h
    exact r_call c53_24 rfl rfl (Nat.le_of_ble_eq_true rfl) (okc_r rfl rfl s8) h
theorem t53_27 {d : Nat} {l0 : Nat} {l1 : Nat} {l2 : Nat} {l3 : Int} {l4 : Int} {l5 : PV} {t0 : Int} {M : Mem} {K : KK} {Q : RR → Mem → KK → Prop} (h : isO K.1 l0 5 = true ∧ ∃ b2 : Nat, (M l0 1) = (b2 : Int) ∧ 0 < b2 ∧ isO K.1 l2 3 = true ∧ ∃ b6 : Nat, (M l2 0) = (b6 : Int) ∧ 0 < b6 ∧ isO K.1 b6 20 = true ∧ (0 ≤ l3 ∧ l3 < (ln b6 : Int)) ∧ isO K.1 b2 20 = true ∧ (0 ≤ (w32 ((w32 (l3 * (12 : Int))) + l4)) ∧ (w32 ((w32 (l3 * (12 : Int))) + l4)) < (ln b2 : Int)) ∧ Wp d 53 3 [vR l0, vR l1, vR l2, vI l3, vI (w32 (l4 + 1)), vI t0] [] (mset M b2 (Int.toNat (w32 ((w32 (l3 * (12 : Int))) + l4))) (if (M b6 (Int.toNat l3)) < t0 then (M b6 (Int.toNat l3)) else t0)) K Q) : Wp d 53 27 [vR l0, vR l1, vR l2, vI l3, vI l4, l5] [vI t0] M K Q := by
  refine r_istore c53_27 (Nat.le_of_ble_eq_true rfl) ?_
  refine r_aload_n c53_29 rfl ?_
  obtain ⟨s1, h⟩ := h
  obtain ⟨b2, h⟩ := h
  obtain ⟨s3, h⟩ := h
  obtain ⟨s4, h⟩ := h
  refine r_getR c53_30 s1 s3 s4 ?_
  refine r_iload_n c53_33 rfl ?_
  refine r_bipush c53_34 ?_
  refine r_imul c53_36 ?_
  refine r_iload c53_37 rfl ?_
  refine r_iadd c53_39 ?_
  refine r_iload c53_40 rfl ?_
  refine r_aload_n c53_42 rfl ?_
  obtain ⟨s5, h⟩ := h
  obtain ⟨b6, h⟩ := h
  obtain ⟨s7, h⟩ := h
  obtain ⟨s8, h⟩ := h
  refine r_getR c53_43 s5 s7 s8 ?_
  refine r_iload_n c53_46 rfl ?_
  obtain ⟨s9, h⟩ := h
  obtain ⟨s10, h⟩ := h
  refine r_ia c53_47 s9 s10 ?_
  refine r_min c53_48 (Nat.le_of_ble_eq_true rfl) ?_
  obtain ⟨s11, h⟩ := h
  obtain ⟨s12, h⟩ := h
  refine r_ias c53_51 s11 s12 ?_
  refine r_iinc c53_52 rfl ?_
  refine r_goto c53_55 ?_
  exact h
theorem t54_0 {d : Nat} {l0 : Nat} {l1 : Nat} {l2 : Int} {l3 : Int} {l4 : Int} {M : Mem} {K : KK} {Q : RR → Mem → KK → Prop} (h : Wp d 54 3 [vR l0, vR l1, vI l2, vI l3, vI l4, vI (0 : Int)] [] M K Q) : Wp d 54 0 [vR l0, vR l1, vI l2, vI l3, vI l4, vU] [] M K Q := by
  refine r_iconst c54_0 ?_
  refine r_istore c54_1 (Nat.le_of_ble_eq_true rfl) ?_
  exact h
theorem t54_3 {d : Nat} {l0 : Nat} {l1 : Nat} {l2 : Int} {l3 : Int} {l4 : Int} {l5 : Int} {M : Mem} {K : KK} {Q : RR → Mem → KK → Prop} (h : isO K.1 l1 0 = true ∧ ((jshl (1 : Int) (M l1 5)) ≤ l5 → Q (.inl none) M K) ∧ (¬ ((jshl (1 : Int) (M l1 5)) ≤ l5) → Wm d 289 [vI l5] M K (Bk d 54 16 19 289 [vR l0, vR l1, vI l2, vI l3, vI l4, vI l5] [] Q))) : Wp (d + 1) 54 3 [vR l0, vR l1, vI l2, vI l3, vI l4, vI l5] [] M K Q := by
  refine r_iload c54_3 rfl ?_
  refine r_iconst c54_5 ?_
  refine r_aload_n c54_6 rfl ?_
  obtain ⟨s1, h⟩ := h
  refine r_getI c54_7 s1 ?_
  refine r_ishl c54_10 ?_
  refine r_icmpP (P := (jshl (1 : Int) (M l1 5)) ≤ l5) c54_11 rfl (fun hc => ?_) (fun hc => ?_)
  · replace h := h.1 hc
    exact r_ret c54_73 h
  · replace h := h.2 hc
    refine r_iload c54_14 rfl ?_
    exact r_call c54_16 rfl rfl (Nat.le_of_ble_eq_true rfl) (okc_s rfl rfl rfl) h
theorem t54_19 {d : Nat} {l0 : Nat} {l1 : Nat} {l2 : Int} {l3 : Int} {l4 : Int} {l5 : Int} {t0 : Int} {M : Mem} {K : KK} {Q : RR → Mem → KK → Prop} (h : (l4 < t0 → Wp (d + 1) 54 67 [vR l0, vR l1, vI l2, vI l3, vI l4, vI l5] [] M K Q) ∧ (¬ (l4 < t0) → isO K.1 l0 5 = true ∧ ∃ b2 : Nat, (M l0 0) = (b2 : Int) ∧ 0 < b2 ∧ (l3 = (0 : Int) → isO K.1 l0 5 = true ∧ ∃ b6 : Nat, (M l0 0) = (b6 : Int) ∧ 0 < b6 ∧ isO K.1 b6 20 = true ∧ (0 ≤ (w32 ((w32 ((w32 (l2 + (1 : Int))) * (4096 : Int))) + l5)) ∧ (w32 ((w32 ((w32 (l2 + (1 : Int))) * (4096 : Int))) + l5)) < (ln b6 : Int)) ∧ Wp (d + 1) 54 66 [vR l0, vR l1, vI l2, vI l3, vI l4, vI l5] [vI (M b6 (Int.toNat (w32 ((w32 ((w32 (l2 + (1 : Int))) * (4096 : Int))) + l5)))), vI (w32 ((w32 (l2 * (4096 : Int))) + l5)), vR b2] M K Q) ∧ (¬ (l3 = (0 : Int)) → isO K.1 l0 5 = true ∧ Wm d 55 [vR l0, vR l1, vI l2, vI l5] M K (Bk d 54 45 48 55 [vR l0, vR l1, vI l2, vI l3, vI l4, vI l5] [vI (w32 ((w32 (l2 * (4096 : Int))) + l5)), vR b2] Q)))) : Wp (d + 1) 54 19 [vR l0, vR l1, vI l2, vI l3, vI l4, vI l5] [vI t0] M K Q := by
  refine r_iload c54_19 rfl ?_
  refine r_icmpP (P := l4 < t0) c54_21 rfl (fun hc => ?_) (fun hc => ?_)
  · replace h := h.1 hc
    exact h
  · replace h := h.2 hc
    refine r_aload_n c54_24 rfl ?_
    obtain ⟨s1, h⟩ := h
    obtain ⟨b2, h⟩ := h
    obtain ⟨s3, h⟩ := h
    obtain ⟨s4, h⟩ := h
    refine r_getR c54_25 s1 s3 s4 ?_
    refine r_iload_n c54_28 rfl ?_
    refine r_sipush c54_29 ?_
    refine r_imul c54_32 ?_
    refine r_iload c54_33 rfl ?_
    refine r_iadd c54_35 ?_
    refine r_iload_n c54_36 rfl ?_
    refine r_ifP (P := l3 = (0 : Int)) c54_37 rfl (fun hc => ?_) (fun hc => ?_)
    · replace h := h.1 hc
      refine r_aload_n c54_51 rfl ?_
      obtain ⟨s5, h⟩ := h
      obtain ⟨b6, h⟩ := h
      obtain ⟨s7, h⟩ := h
      obtain ⟨s8, h⟩ := h
      refine r_getR c54_52 s5 s7 s8 ?_
      refine r_iload_n c54_55 rfl ?_
      refine r_iconst c54_56 ?_
      refine r_iadd c54_57 ?_
      refine r_sipush c54_58 ?_
      refine r_imul c54_61 ?_
      refine r_iload c54_62 rfl ?_
      refine r_iadd c54_64 ?_
      obtain ⟨s9, h⟩ := h
      obtain ⟨s10, h⟩ := h
      refine r_ia c54_65 s9 s10 ?_
      exact h
    · replace h := h.2 hc
      refine r_aload_n c54_40 rfl ?_
      refine r_aload_n c54_41 rfl ?_
      refine r_iload_n c54_42 rfl ?_
      refine r_iload c54_43 rfl ?_
      obtain ⟨s11, h⟩ := h
      exact r_call c54_45 rfl rfl (Nat.le_of_ble_eq_true rfl) (okc_r rfl rfl s11) h
theorem t54_48 {d : Nat} {l0 : Nat} {l1 : Nat} {l2 : Int} {l3 : Int} {l4 : Int} {l5 : Int} {t0 : Nat} {t1 : Int} {t2 : Int} {M : Mem} {K : KK} {Q : RR → Mem → KK → Prop} (h : Wp d 54 66 [vR l0, vR l1, vI l2, vI l3, vI l4, vI l5] [vI t2, vI t1, vR t0] M K Q) : Wp d 54 48 [vR l0, vR l1, vI l2, vI l3, vI l4, vI l5] [vI t2, vI t1, vR t0] M K Q := by
  refine r_goto c54_48 ?_
  exact h
theorem t54_66 {d : Nat} {l0 : Nat} {l1 : Nat} {l2 : Int} {l3 : Int} {l4 : Int} {l5 : Int} {t0 : Nat} {t1 : Int} {t2 : Int} {M : Mem} {K : KK} {Q : RR → Mem → KK → Prop} (h : isO K.1 t0 20 = true ∧ (0 ≤ t1 ∧ t1 < (ln t0 : Int)) ∧ Wp d 54 67 [vR l0, vR l1, vI l2, vI l3, vI l4, vI l5] [] (mset M t0 (Int.toNat t1) t2) K Q) : Wp d 54 66 [vR l0, vR l1, vI l2, vI l3, vI l4, vI l5] [vI t2, vI t1, vR t0] M K Q := by
  obtain ⟨s1, h⟩ := h
  obtain ⟨s2, h⟩ := h
  refine r_ias c54_66 s1 s2 ?_
  exact h
theorem t54_67 {d : Nat} {l0 : Nat} {l1 : Nat} {l2 : Int} {l3 : Int} {l4 : Int} {l5 : Int} {M : Mem} {K : KK} {Q : RR → Mem → KK → Prop} (h : Wp d 54 3 [vR l0, vR l1, vI l2, vI l3, vI l4, vI (w32 (l5 + 1))] [] M K Q) : Wp d 54 67 [vR l0, vR l1, vI l2, vI l3, vI l4, vI l5] [] M K Q := by
  refine r_iinc c54_67 rfl ?_
  refine r_goto c54_70 ?_
  exact h
theorem t55_0 {d : Nat} {l0 : Nat} {l1 : Nat} {l2 : Int} {l3 : Int} {M : Mem} {K : KK} {Q : RR → Mem → KK → Prop} (h : isO K.1 l0 5 = true ∧ ∃ b2 : Nat, (M l0 0) = (b2 : Int) ∧ 0 < b2 ∧ isO K.1 b2 20 = true ∧ (0 ≤ (w32 ((w32 ((w32 (l2 + (1 : Int))) * (4096 : Int))) + l3)) ∧ (w32 ((w32 ((w32 (l2 + (1 : Int))) * (4096 : Int))) + l3)) < (ln b2 : Int)) ∧ isO K.1 l1 0 = true ∧ ∃ b8 : Nat, (M l1 1) = (b8 : Int) ∧ 0 < b8 ∧ isO K.1 b8 20 = true ∧ (0 ≤ l2 ∧ l2 < (ln b8 : Int)) ∧ Wm d 144 [vI (0 : Int), vI (M b8 (Int.toNat l2))] M K (Bk d 55 23 26 144 [vR l0, vR l1, vI l2, vI l3, vI (M b2 (Int.toNat (w32 ((w32 ((w32 (l2 + (1 : Int))) * (4096 : Int))) + l3)))), vU, vU] [] Q)) : Wp (d + 1) 55 0 [vR l0, vR l1, vI l2, vI l3, vU, vU, vU] [] M K Q := by
  refine r_aload_n c55_0 rfl ?_
  obtain ⟨s1, h⟩ := h
  obtain ⟨b2, h⟩ := h
  obtain ⟨s3, h⟩ := h
  obtain ⟨s4, h⟩ := h
  refine r_getR c55_1 s1 s3 s4 ?_
  refine r_iload_n c55_4 rfl ?_
  refine r_iconst c55_5 ?_
  refine r_iadd c55_6 ?_
  refine r_sipush c55_7 ?_
  refine r_imul c55_10 ?_
  refine r_iload_n c55_11 rfl ?_
  refine r_iadd c55_12 ?_
  obtain ⟨s5, h⟩ := h
  obtain ⟨s6, h⟩ := h
  refine r_ia c55_13 s5 s6 ?_
  refine r_istore c55_14 (Nat.le_of_ble_eq_true rfl) ?_
  refine r_iconst c55_16 ?_
  refine r_aload_n c55_17 rfl ?_
  obtain ⟨s7, h⟩ := h
  obtain ⟨b8, h⟩ := h
  obtain ⟨s9, h⟩ := h
  obtain ⟨s10, h⟩ := h
  refine r_getR c55_18 s7 s9 s10 ?_
  refine r_iload_n c55_21 rfl ?_
  obtain ⟨s11, h⟩ := h
  obtain ⟨s12, h⟩ := h
  refine r_ia c55_22 s11 s12 ?_
  exact r_call c55_23 rfl rfl (Nat.le_of_ble_eq_true rfl) (okc_s rfl rfl rfl) h
theorem t55_26 {d : Nat} {l0 : Nat} {l1 : Nat} {l2 : Int} {l3 : Int} {l4 : Int} {t0 : Int} {M : Mem} {K : KK} {Q : RR → Mem → KK → Prop} (h : Wp d 55 31 [vR l0, vR l1, vI l2, vI l3, vI l4, vI t0, vI (0 : Int)] [] M K Q) : Wp d 55 26 [vR l0, vR l1, vI l2, vI l3, vI l4, vU, vU] [vI t0] M K Q := by
  refine r_istore c55_26 (Nat.le_of_ble_eq_true rfl) ?_
  refine r_iconst c55_28 ?_
  refine r_istore c55_29 (Nat.le_of_ble_eq_true rfl) ?_
  exact h
theorem t55_31 {d : Nat} {l0 : Nat} {l1 : Nat} {l2 : Int} {l3 : Int} {l4 : Int} {l5 : Int} {l6 : Int} {M : Mem} {K : KK} {Q : RR → Mem → KK → Prop} (h : isO K.1 l1 0 = true ∧ ∃ b2 : Nat, (M l1 1) = (b2 : Int) ∧ 0 < b2 ∧ isO K.1 b2 20 = true ∧ (0 ≤ l2 ∧ l2 < (ln b2 : Int)) ∧ isO K.1 l1 0 = true ∧ ((M l1 5) < (w32 (l6 + (M b2 (Int.toNat l2)))) → Q (.inl (some (vI l4))) M K) ∧ (¬ ((M l1 5) < (w32 (l6 + (M b2 (Int.toNat l2))))) → (¬ (jand l3 (jshl l5 l6)) = (0 : Int) → Wp (d + 1) 55 78 [vR l0, vR l1, vI l2, vI l3, vI l4, vI l5, vI l6] [] M K Q) ∧ (¬ (¬ (jand l3 (jshl l5 l6)) = (0 : Int)) → isO K.1 l0 5 = true ∧ Wm d 56 [vR l0, vI l2, vI l6, vI (jor l3 (jshl l5 l6))] M K (Bk d 55 70 73 56 [vR l0, vR l1, vI l2, vI l3, vI l4, vI l5, vI l6] [vI l4] Q)))) : Wp (d + 1) 55 31 [vR l0, vR l1, vI l2, vI l3, vI l4, vI l5, vI l6] [] M K Q := by
  refine r_iload c55_31 rfl ?_
  refine r_aload_n c55_33 rfl ?_
  obtain ⟨s1, h⟩ := h
  obtain ⟨b2, h⟩ := h
  obtain ⟨s3, h⟩ := h
  obtain ⟨s4, h⟩ := h
  refine r_getR c55_34 s1 s3 s4 ?_
  refine r_iload_n c55_37 rfl ?_
  obtain ⟨s5, h⟩ := h
  obtain ⟨s6, h⟩ := h
  refine r_ia c55_38 s5 s6 ?_
  refine r_iadd c55_39 ?_
  refine r_aload_n c55_40 rfl ?_
  obtain ⟨s7, h⟩ := h
  refine r_getI c55_41 s7 ?_
  refine r_icmpP (P := (M l1 5) < (w32 (l6 + (M b2 (Int.toNat l2))))) c55_44 rfl (fun hc => ?_) (fun hc => ?_)
  · replace h := h.1 hc
    refine r_iload c55_84 rfl ?_
    exact r_iret c55_86 (Or.inl rfl) h
  · replace h := h.2 hc
    refine r_iload_n c55_47 rfl ?_
    refine r_iload c55_48 rfl ?_
    refine r_iload c55_50 rfl ?_
    refine r_ishl c55_52 ?_
    refine r_iand c55_53 ?_
    refine r_ifP (P := ¬ (jand l3 (jshl l5 l6)) = (0 : Int)) c55_54 rfl (fun hc => ?_) (fun hc => ?_)
    · replace h := h.1 hc
      exact h
    · replace h := h.2 hc
      refine r_iload c55_57 rfl ?_
      refine r_aload_n c55_59 rfl ?_
      refine r_iload_n c55_60 rfl ?_
      refine r_iload c55_61 rfl ?_
      refine r_iload_n c55_63 rfl ?_
      refine r_iload c55_64 rfl ?_
      refine r_iload c55_66 rfl ?_
      refine r_ishl c55_68 ?_
      refine r_ior c55_69 ?_
      obtain ⟨s8, h⟩ := h
      exact r_call c55_70 rfl rfl (Nat.le_of_ble_eq_true rfl) (okc_r rfl rfl s8) h
theorem t55_73 {d : Nat} {l0 : Nat} {l1 : Nat} {l2 : Int} {l3 : Int} {l4 : Int} {l5 : Int} {l6 : Int} {t0 : Int} {t1 : Int} {M : Mem} {K : KK} {Q : RR → Mem → KK → Prop} (h : Wp d 55 78 [vR l0, vR l1, vI l2, vI l3, vI (if t0 < t1 then t1 else t0), vI l5, vI l6] [] M K Q) : Wp d 55 73 [vR l0, vR l1, vI l2, vI l3, vI l4, vI l5, vI l6] [vI t1, vI t0] M K Q := by
  refine r_max c55_73 (Nat.le_of_ble_eq_true rfl) ?_
  refine r_istore c55_76 (Nat.le_of_ble_eq_true rfl) ?_
  exact h
theorem t55_78 {d : Nat} {l0 : Nat} {l1 : Nat} {l2 : Int} {l3 : Int} {l4 : Int} {l5 : Int} {l6 : Int} {M : Mem} {K : KK} {Q : RR → Mem → KK → Prop} (h : Wp d 55 31 [vR l0, vR l1, vI l2, vI l3, vI l4, vI l5, vI (w32 (l6 + 1))] [] M K Q) : Wp d 55 78 [vR l0, vR l1, vI l2, vI l3, vI l4, vI l5, vI l6] [] M K Q := by
  refine r_iinc c55_78 rfl ?_
  refine r_goto c55_81 ?_
  exact h
theorem t56_0 {d : Nat} {l0 : Nat} {l1 : Int} {l2 : Int} {l3 : Int} {M : Mem} {K : KK} {Q : RR → Mem → KK → Prop} (h : isO K.1 l0 5 = true ∧ ∃ b2 : Nat, (M l0 1) = (b2 : Int) ∧ 0 < b2 ∧ isO K.1 b2 20 = true ∧ (0 ≤ (w32 ((w32 (l1 * (12 : Int))) + l2)) ∧ (w32 ((w32 (l1 * (12 : Int))) + l2)) < (ln b2 : Int)) ∧ isO K.1 l0 5 = true ∧ ∃ b8 : Nat, (M l0 0) = (b8 : Int) ∧ 0 < b8 ∧ isO K.1 b8 20 = true ∧ (0 ≤ (w32 ((w32 ((w32 (l1 + (1 : Int))) * (4096 : Int))) + l3)) ∧ (w32 ((w32 ((w32 (l1 + (1 : Int))) * (4096 : Int))) + l3)) < (ln b8 : Int)) ∧ Q (.inl (some (vI (w32 ((M b2 (Int.toNat (w32 ((w32 (l1 * (12 : Int))) + l2)))) + (M b8 (Int.toNat (w32 ((w32 ((w32 (l1 + (1 : Int))) * (4096 : Int))) + l3))))))))) M K) : Wp d 56 0 [vR l0, vI l1, vI l2, vI l3] [] M K Q := by
  refine r_aload_n c56_0 rfl ?_
  obtain ⟨s1, h⟩ := h
  obtain ⟨b2, h⟩ := h
  obtain ⟨s3, h⟩ := h
  obtain ⟨s4, h⟩ := h
  refine r_getR c56_1 s1 s3 s4 ?_
  refine r_iload_n c56_4 rfl ?_
  refine r_bipush c56_5 ?_
  refine r_imul c56_7 ?_
  refine r_iload_n c56_8 rfl ?_
  refine r_iadd c56_9 ?_
  obtain ⟨s5, h⟩ := h
  obtain ⟨s6, h⟩ := h
  refine r_ia c56_10 s5 s6 ?_
  refine r_aload_n c56_11 rfl ?_
  obtain ⟨s7, h⟩ := h
  obtain ⟨b8, h⟩ := h
  obtain ⟨s9, h⟩ := h
  obtain ⟨s10, h⟩ := h
  refine r_getR c56_12 s7 s9 s10 ?_
  refine r_iload_n c56_15 rfl ?_
  refine r_iconst c56_16 ?_
  refine r_iadd c56_17 ?_
  refine r_sipush c56_18 ?_
  refine r_imul c56_21 ?_
  refine r_iload_n c56_22 rfl ?_
  refine r_iadd c56_23 ?_
  obtain ⟨s11, h⟩ := h
  obtain ⟨s12, h⟩ := h
  refine r_ia c56_24 s11 s12 ?_
  refine r_iadd c56_25 ?_
  exact r_iret c56_26 (Or.inl rfl) h
theorem t57_0 {d : Nat} {l0 : Nat} {l1 : Nat} {l2 : Int} {M : Mem} {K : KK} {Q : RR → Mem → KK → Prop} (h : Wp d 57 5 [vR l0, vR l1, vI l2, vI (0 : Int), vI (0 : Int)] [] M K Q) : Wp d 57 0 [vR l0, vR l1, vI l2, vU, vU] [] M K Q := by
  refine r_iconst c57_0 ?_
  refine r_istore_n c57_1 (Nat.le_of_ble_eq_true rfl) ?_
  refine r_iconst c57_2 ?_
  refine r_istore c57_3 (Nat.le_of_ble_eq_true rfl) ?_
  exact h
theorem t57_5 {d : Nat} {l0 : Nat} {l1 : Nat} {l2 : Int} {l3 : Int} {l4 : Int} {M : Mem} {K : KK} {Q : RR → Mem → KK → Prop} (h : isO K.1 l1 0 = true ∧ ((M l1 6) ≤ l4 → Q (.inl none) M K) ∧ (¬ ((M l1 6) ≤ l4) → isO K.1 l0 5 = true ∧ ∃ b3 : Nat, (M l0 2) = (b3 : Int) ∧ 0 < b3 ∧ (¬ (jand (jshr l2 l4) (1 : Int)) = (1 : Int) → Wp (d + 1) 57 42 [vR l0, vR l1, vI l2, vI l3, vI l4] [vI (-1 : Int), vI l4, vR b3] M K Q) ∧ (¬ (¬ (jand (jshr l2 l4) (1 : Int)) = (1 : Int)) → isO K.1 l0 5 = true ∧ Wm d 58 [vR l0, vR l1, vI l4, vI l3] M K (Bk d 57 35 38 58 [vR l0, vR l1, vI l2, vI l3, vI l4] [vI l4, vR b3] Q)))) : Wp (d + 1) 57 5 [vR l0, vR l1, vI l2, vI l3, vI l4] [] M K Q := by
  refine r_iload c57_5 rfl ?_
  refine r_aload_n c57_7 rfl ?_
  obtain ⟨s1, h⟩ := h
  refine r_getI c57_8 s1 ?_
  refine r_icmpP (P := (M l1 6) ≤ l4) c57_11 rfl (fun hc => ?_) (fun hc => ?_)
  · replace h := h.1 hc
    exact r_ret c57_84 h
  · replace h := h.2 hc
    refine r_aload_n c57_14 rfl ?_
    obtain ⟨s2, h⟩ := h
    obtain ⟨b3, h⟩ := h
    obtain ⟨s4, h⟩ := h
    obtain ⟨s5, h⟩ := h
    refine r_getR c57_15 s2 s4 s5 ?_
    refine r_iload c57_18 rfl ?_
    refine r_iload_n c57_20 rfl ?_
    refine r_iload c57_21 rfl ?_
    refine r_ishr c57_23 ?_
    refine r_iconst c57_24 ?_
    refine r_iand c57_25 ?_
    refine r_iconst c57_26 ?_
    refine r_icmpP (P := ¬ (jand (jshr l2 l4) (1 : Int)) = (1 : Int)) c57_27 rfl (fun hc => ?_) (fun hc => ?_)
    · replace h := h.1 hc
      refine r_iconst c57_41 ?_
      exact h
    · replace h := h.2 hc
      refine r_aload_n c57_30 rfl ?_
      refine r_aload_n c57_31 rfl ?_
      refine r_iload c57_32 rfl ?_
      refine r_iload_n c57_34 rfl ?_
      obtain ⟨s6, h⟩ := h
      exact r_call c57_35 rfl rfl (Nat.le_of_ble_eq_true rfl) (okc_r rfl rfl s6) h
theorem t57_38 {d : Nat} {l0 : Nat} {l1 : Nat} {l2 : Int} {l3 : Int} {l4 : Int} {t0 : Nat} {t1 : Int} {t2 : Int} {M : Mem} {K : KK} {Q : RR → Mem → KK → Prop} (h : Wp d 57 42 [vR l0, vR l1, vI l2, vI l3, vI l4] [vI t2, vI t1, vR t0] M K Q) : Wp d 57 38 [vR l0, vR l1, vI l2, vI l3, vI l4] [vI t2, vI t1, vR t0] M K Q := by
  refine r_goto c57_38 ?_
  exact h
theorem t57_42 {d : Nat} {l0 : Nat} {l1 : Nat} {l2 : Int} {l3 : Int} {l4 : Int} {t0 : Nat} {t1 : Int} {t2 : Int} {M : Mem} {K : KK} {Q : RR → Mem → KK → Prop} (h : isO K.1 t0 20 = true ∧ (0 ≤ t1 ∧ t1 < (ln t0 : Int)) ∧ isO K.1 l0 5 = true ∧ ∃ b4 : Nat, ((mset M t0 (Int.toNat t1) t2) l0 2) = (b4 : Int) ∧ 0 < b4 ∧ isO K.1 b4 20 = true ∧ (0 ≤ l4 ∧ l4 < (ln b4 : Int)) ∧ (¬ ((mset M t0 (Int.toNat t1) t2) b4 (Int.toNat l4)) = (-1 : Int) → isO K.1 l0 5 = true ∧ ∃ b10 : Nat, ((mset M t0 (Int.toNat t1) t2) l0 2) = (b10 : Int) ∧ 0 < b10 ∧ isO K.1 b10 20 = true ∧ (0 ≤ l4 ∧ l4 < (ln b10 : Int)) ∧ isO K.1 l1 0 = true ∧ ∃ b16 : Nat, ((mset M t0 (Int.toNat t1) t2) l1 1) = (b16 : Int) ∧ 0 < b16 ∧ isO K.1 b16 20 = true ∧ (0 ≤ l4 ∧ l4 < (ln b16 : Int)) ∧ Wm d 144 [vI ((mset M t0 (Int.toNat t1) t2) b10 (Int.toNat l4)), vI ((mset M t0 (Int.toNat t1) t2) b16 (Int.toNat l4))] (mset M t0 (Int.toNat t1) t2) K (Bk d 57 73 76 144 [vR l0, vR l1, vI l2, vI l3, vI l4] [vI l3] Q)) ∧ (¬ (¬ ((mset M t0 (Int.toNat t1) t2) b4 (Int.toNat l4)) = (-1 : Int)) → Wp (d + 1) 57 76 [vR l0, vR l1, vI l2, vI l3, vI l4] [vI (0 : Int), vI l3] (mset M t0 (Int.toNat t1) t2) K Q)) : Wp (d + 1) 57 42 [vR l0, vR l1, vI l2, vI l3, vI l4] [vI t2, vI t1, vR t0] M K Q := by
  obtain ⟨s1, h⟩ := h
  obtain ⟨s2, h⟩ := h
  refine r_ias c57_42 s1 s2 ?_
  refine r_iload_n c57_43 rfl ?_
  refine r_aload_n c57_44 rfl ?_
  obtain ⟨s3, h⟩ := h
  obtain ⟨b4, h⟩ := h
  obtain ⟨s5, h⟩ := h
  obtain ⟨s6, h⟩ := h
  refine r_getR c57_45 s3 s5 s6 ?_
  refine r_iload c57_48 rfl ?_
  obtain ⟨s7, h⟩ := h
  obtain ⟨s8, h⟩ := h
  refine r_ia c57_50 s7 s8 ?_
  refine r_iconst c57_51 ?_
  refine r_icmpP (P := ¬ ((mset M t0 (Int.toNat t1) t2) b4 (Int.toNat l4)) = (-1 : Int)) c57_52 rfl (fun hc => ?_) (fun hc => ?_)
  · replace h := h.1 hc
    refine r_aload_n c57_59 rfl ?_
    obtain ⟨s9, h⟩ := h
    obtain ⟨b10, h⟩ := h
    obtain ⟨s11, h⟩ := h
    obtain ⟨s12, h⟩ := h
    refine r_getR c57_60 s9 s11 s12 ?_
    refine r_iload c57_63 rfl ?_
    obtain ⟨s13, h⟩ := h
    obtain ⟨s14, h⟩ := h
    refine r_ia c57_65 s13 s14 ?_
    refine r_aload_n c57_66 rfl ?_
    obtain ⟨s15, h⟩ := h
    obtain ⟨b16, h⟩ := h
    obtain ⟨s17, h⟩ := h
    obtain ⟨s18, h⟩ := h
    refine r_getR c57_67 s15 s17 s18 ?_
    refine r_iload c57_70 rfl ?_
    obtain ⟨s19, h⟩ := h
    obtain ⟨s20, h⟩ := h
    refine r_ia c57_72 s19 s20 ?_
    exact r_call c57_73 rfl rfl (Nat.le_of_ble_eq_true rfl) (okc_s rfl rfl rfl) h
  · replace h := h.2 hc
    refine r_iconst c57_55 ?_
    refine r_goto c57_56 ?_
    exact h
theorem t57_76 {d : Nat} {l0 : Nat} {l1 : Nat} {l2 : Int} {l3 : Int} {l4 : Int} {t0 : Int} {t1 : Int} {M : Mem} {K : KK} {Q : RR → Mem → KK → Prop} (h : Wp d 57 5 [vR l0, vR l1, vI l2, vI (jor t0 t1), vI (w32 (l4 + 1))] [] M K Q) : Wp d 57 76 [vR l0, vR l1, vI l2, vI l3, vI l4] [vI t1, vI t0] M K Q := by
  refine r_ior c57_76 ?_
  refine r_istore_n c57_77 (Nat.le_of_ble_eq_true rfl) ?_
  refine r_iinc c57_78 rfl ?_
  refine r_goto c57_81 ?_
  exact h
theorem t58_0 {d : Nat} {l0 : Nat} {l1 : Nat} {l2 : Int} {l3 : Int} {M : Mem} {K : KK} {Q : RR → Mem → KK → Prop} (h : isO K.1 l1 0 = true ∧ ∃ b2 : Nat, (M l1 1) = (b2 : Int) ∧ 0 < b2 ∧ isO K.1 b2 20 = true ∧ (0 ≤ l2 ∧ l2 < (ln b2 : Int)) ∧ Wm d 144 [vI (0 : Int), vI (M b2 (Int.toNat l2))] M K (Bk d 58 7 10 144 [vR l0, vR l1, vI l2, vI l3, vU, vU, vU] [] Q)) : Wp (d + 1) 58 0 [vR l0, vR l1, vI l2, vI l3, vU, vU, vU] [] M K Q := by
  refine r_iconst c58_0 ?_
  refine r_aload_n c58_1 rfl ?_
  obtain ⟨s1, h⟩ := h
  obtain ⟨b2, h⟩ := h
  obtain ⟨s3, h⟩ := h
  obtain ⟨s4, h⟩ := h
  refine r_getR c58_2 s1 s3 s4 ?_
  refine r_iload_n c58_5 rfl ?_
  obtain ⟨s5, h⟩ := h
  obtain ⟨s6, h⟩ := h
  refine r_ia c58_6 s5 s6 ?_
  exact r_call c58_7 rfl rfl (Nat.le_of_ble_eq_true rfl) (okc_s rfl rfl rfl) h
theorem t58_10 {d : Nat} {l0 : Nat} {l1 : Nat} {l2 : Int} {l3 : Int} {t0 : Int} {M : Mem} {K : KK} {Q : RR → Mem → KK → Prop} (h : Wp d 58 15 [vR l0, vR l1, vI l2, vI l3, vI t0, vI (0 : Int), vU] [] M K Q) : Wp d 58 10 [vR l0, vR l1, vI l2, vI l3, vU, vU, vU] [vI t0] M K Q := by
  refine r_istore c58_10 (Nat.le_of_ble_eq_true rfl) ?_
  refine r_iconst c58_12 ?_
  refine r_istore c58_13 (Nat.le_of_ble_eq_true rfl) ?_
  exact h
theorem t58_15 {d : Nat} {l0 : Nat} {l1 : Nat} {l2 : Int} {l3 : Int} {l4 : Int} {l5 : Int} {l6 : PV} {M : Mem} {K : KK} {Q : RR → Mem → KK → Prop} (h : isO K.1 l1 0 = true ∧ ∃ b2 : Nat, (M l1 1) = (b2 : Int) ∧ 0 < b2 ∧ isO K.1 b2 20 = true ∧ (0 ≤ l2 ∧ l2 < (ln b2 : Int)) ∧ isO K.1 l1 0 = true ∧ ((M l1 5) < (w32 (l5 + (M b2 (Int.toNat l2)))) → Q (.inl (some (vI (-1 : Int)))) M K) ∧ (¬ ((M l1 5) < (w32 (l5 + (M b2 (Int.toNat l2))))) → (¬ (jand l3 (jshl l4 l5)) = (0 : Int) → Wp d 58 46 [vR l0, vR l1, vI l2, vI l3, vI l4, vI l5, l6] [vI (0 : Int)] M K Q) ∧ (¬ (¬ (jand l3 (jshl l4 l5)) = (0 : Int)) → Wp d 58 46 [vR l0, vR l1, vI l2, vI l3, vI l4, vI l5, l6] [vI (1 : Int)] M K Q))) : Wp d 58 15 [vR l0, vR l1, vI l2, vI l3, vI l4, vI l5, l6] [] M K Q := by
  refine r_iload c58_15 rfl ?_
  refine r_aload_n c58_17 rfl ?_
  obtain ⟨s1, h⟩ := h
  obtain ⟨b2, h⟩ := h
  obtain ⟨s3, h⟩ := h
  obtain ⟨s4, h⟩ := h
  refine r_getR c58_18 s1 s3 s4 ?_
  refine r_iload_n c58_21 rfl ?_
  obtain ⟨s5, h⟩ := h
  obtain ⟨s6, h⟩ := h
  refine r_ia c58_22 s5 s6 ?_
  refine r_iadd c58_23 ?_
  refine r_aload_n c58_24 rfl ?_
  obtain ⟨s7, h⟩ := h
  refine r_getI c58_25 s7 ?_
  refine r_icmpP (P := (M l1 5) < (w32 (l5 + (M b2 (Int.toNat l2))))) c58_28 rfl (fun hc => ?_) (fun hc => ?_)
  · replace h := h.1 hc
    refine r_iconst c58_91 ?_
    exact r_iret c58_92 (Or.inl rfl) h
  · replace h := h.2 hc
    refine r_iload_n c58_31 rfl ?_
    refine r_iload c58_32 rfl ?_
    refine r_iload c58_34 rfl ?_
    refine r_ishl c58_36 ?_
    refine r_iand c58_37 ?_
    refine r_ifP (P := ¬ (jand l3 (jshl l4 l5)) = (0 : Int)) c58_38 rfl (fun hc => ?_) (fun hc => ?_)
    · replace h := h.1 hc
      refine r_iconst c58_45 ?_
      exact h
    · replace h := h.2 hc
      refine r_iconst c58_41 ?_
      refine r_goto c58_42 ?_
      exact h
theorem t58_46 {d : Nat} {l0 : Nat} {l1 : Nat} {l2 : Int} {l3 : Int} {l4 : Int} {l5 : Int} {l6 : PV} {t0 : Int} {M : Mem} {K : KK} {Q : RR → Mem → KK → Prop} (h : (t0 = (0 : Int) → Wp (d + 1) 58 85 [vR l0, vR l1, vI l2, vI l3, vI l4, vI l5, vI t0] [] M K Q) ∧ (¬ (t0 = (0 : Int)) → isO K.1 l0 5 = true ∧ Wm d 56 [vR l0, vI l2, vI l5, vI (jor l3 (jshl l4 l5))] M K (Bk d 58 64 67 56 [vR l0, vR l1, vI l2, vI l3, vI l4, vI l5, vI t0] [] Q))) : Wp (d + 1) 58 46 [vR l0, vR l1, vI l2, vI l3, vI l4, vI l5, l6] [vI t0] M K Q := by
  refine r_istore c58_46 (Nat.le_of_ble_eq_true rfl) ?_
  refine r_iload c58_48 rfl ?_
  refine r_ifP (P := t0 = (0 : Int)) c58_50 rfl (fun hc => ?_) (fun hc => ?_)
  · replace h := h.1 hc
    exact h
  · replace h := h.2 hc
    refine r_aload_n c58_53 rfl ?_
    refine r_iload_n c58_54 rfl ?_
    refine r_iload c58_55 rfl ?_
    refine r_iload_n c58_57 rfl ?_
    refine r_iload c58_58 rfl ?_
    refine r_iload c58_60 rfl ?_
    refine r_ishl c58_62 ?_
    refine r_ior c58_63 ?_
    obtain ⟨s1, h⟩ := h
    exact r_call c58_64 rfl rfl (Nat.le_of_ble_eq_true rfl) (okc_r rfl rfl s1) h
theorem t58_67 {d : Nat} {l0 : Nat} {l1 : Nat} {l2 : Int} {l3 : Int} {l4 : Int} {l5 : Int} {l6 : Int} {t0 : Int} {M : Mem} {K : KK} {Q : RR → Mem → KK → Prop} (h : isO K.1 l0 5 = true ∧ ∃ b2 : Nat, (M l0 0) = (b2 : Int) ∧ 0 < b2 ∧ isO K.1 b2 20 = true ∧ (0 ≤ (w32 ((w32 (l2 * (4096 : Int))) + l3)) ∧ (w32 ((w32 (l2 * (4096 : Int))) + l3)) < (ln b2 : Int)) ∧ (¬ t0 = (M b2 (Int.toNat (w32 ((w32 (l2 * (4096 : Int))) + l3)))) → Wp d 58 85 [vR l0, vR l1, vI l2, vI l3, vI l4, vI l5, vI l6] [] M K Q) ∧ (¬ (¬ t0 = (M b2 (Int.toNat (w32 ((w32 (l2 * (4096 : Int))) + l3))))) → Q (.inl (some (vI l5))) M K)) : Wp d 58 67 [vR l0, vR l1, vI l2, vI l3, vI l4, vI l5, vI l6] [vI t0] M K Q := by
  refine r_aload_n c58_67 rfl ?_
  obtain ⟨s1, h⟩ := h
  obtain ⟨b2, h⟩ := h
  obtain ⟨s3, h⟩ := h
  obtain ⟨s4, h⟩ := h
  refine r_getR c58_68 s1 s3 s4 ?_
  refine r_iload_n c58_71 rfl ?_
  refine r_sipush c58_72 ?_
  refine r_imul c58_75 ?_
  refine r_iload_n c58_76 rfl ?_
  refine r_iadd c58_77 ?_
  obtain ⟨s5, h⟩ := h
  obtain ⟨s6, h⟩ := h
  refine r_ia c58_78 s5 s6 ?_
  refine r_icmpP (P := ¬ t0 = (M b2 (Int.toNat (w32 ((w32 (l2 * (4096 : Int))) + l3))))) c58_79 rfl (fun hc => ?_) (fun hc => ?_)
  · replace h := h.1 hc
    exact h
  · replace h := h.2 hc
    refine r_iload c58_82 rfl ?_
    exact r_iret c58_84 (Or.inl rfl) h
theorem t58_85 {d : Nat} {l0 : Nat} {l1 : Nat} {l2 : Int} {l3 : Int} {l4 : Int} {l5 : Int} {l6 : Int} {M : Mem} {K : KK} {Q : RR → Mem → KK → Prop} (h : Wp d 58 15 [vR l0, vR l1, vI l2, vI l3, vI l4, vI (w32 (l5 + 1)), vI l6] [] M K Q) : Wp d 58 85 [vR l0, vR l1, vI l2, vI l3, vI l4, vI l5, vI l6] [] M K Q := by
  refine r_iinc c58_85 rfl ?_
  refine r_goto c58_88 ?_
  exact h
theorem t59_0 {d : Nat} {l0 : Nat} {M : Mem} {K : KK} {Q : RR → Mem → KK → Prop} (h : (tg K.1 = 33 ∧ (16 : Int) = (ln K.1 : Int)) ∧ isO (K.1 + 1) l0 6 = true ∧ 0 < K.1 ∧ Wp d 59 15 [vR l0, vI (0 : Int)] [] (mset M l0 0 (K.1 : Nat)) ((K.1 + 1), (K.2.1 + 1), (K.2.2 + ln K.1)) Q) : Wp d 59 0 [vR l0, vU] [] M K Q := by
  refine r_aload_n c59_0 rfl ?_
  refine r_obj c59_1 (Nat.le_of_ble_eq_true rfl) ?_
  refine r_aload_n c59_4 rfl ?_
  refine r_bipush c59_5 ?_
  obtain ⟨s1, h⟩ := h
  refine r_anewarray c59_7 s1 ?_
  obtain ⟨s2, h⟩ := h
  obtain ⟨s3, h⟩ := h
  refine r_putR c59_10 s2 s3 ?_
  refine r_iconst c59_13 ?_
  refine r_istore_n c59_14 (Nat.le_of_ble_eq_true rfl) ?_
  exact h
theorem t59_15 {d : Nat} {l0 : Nat} {l1 : Int} {M : Mem} {K : KK} {Q : RR → Mem → KK → Prop} (h : isO K.1 l0 6 = true ∧ ∃ b2 : Nat, (M l0 0) = (b2 : Int) ∧ 0 < b2 ∧ (Nat.ble 20 (tg b2) = true ∧ isO K.1 b2 (tg b2) = true) ∧ ((ln b2 : Int) ≤ l1 → Q (.inl none) M K) ∧ (¬ ((ln b2 : Int) ≤ l1) → isO K.1 l0 6 = true ∧ ∃ b7 : Nat, (M l0 0) = (b7 : Int) ∧ 0 < b7 ∧ (tg K.1 = 3 ∧ 3 < 13) ∧ isO (K.1 + 1) K.1 3 = true ∧ Wm d 28 [vR K.1] M ((K.1 + 1), (K.2.1 + 1), (K.2.2 + fnT.getD 3 0)) (Bk d 59 33 36 28 [vR l0, vI l1] [vR K.1, vI l1, vR b7] Q))) : Wp (d + 1) 59 15 [vR l0, vI l1] [] M K Q := by
  refine r_iload_n c59_15 rfl ?_
  refine r_aload_n c59_16 rfl ?_
  obtain ⟨s1, h⟩ := h
  obtain ⟨b2, h⟩ := h
  obtain ⟨s3, h⟩ := h
  obtain ⟨s4, h⟩ := h
  refine r_getR c59_17 s1 s3 s4 ?_
  obtain ⟨s5, h⟩ := h
  refine r_alen c59_20 s5 ?_
  refine r_icmpP (P := (ln b2 : Int) ≤ l1) c59_21 rfl (fun hc => ?_) (fun hc => ?_)
  · replace h := h.1 hc
    exact r_ret c59_43 h
  · replace h := h.2 hc
    refine r_aload_n c59_24 rfl ?_
    obtain ⟨s6, h⟩ := h
    obtain ⟨b7, h⟩ := h
    obtain ⟨s8, h⟩ := h
    obtain ⟨s9, h⟩ := h
    refine r_getR c59_25 s6 s8 s9 ?_
    refine r_iload_n c59_28 rfl ?_
    obtain ⟨s10, h⟩ := h
    refine r_new c59_29 s10 ?_
    refine r_dupr c59_32 ?_
    obtain ⟨s11, h⟩ := h
    exact r_call c59_33 rfl rfl (Nat.le_of_ble_eq_true rfl) (okc_r rfl rfl s11) h
theorem t59_36 {d : Nat} {l0 : Nat} {l1 : Int} {t0 : Nat} {t1 : Int} {t2 : Nat} {M : Mem} {K : KK} {Q : RR → Mem → KK → Prop} (h : (Nat.ble 30 (tg t0) = true ∧ Nat.blt (tg t0) 40 = true ∧ isO K.1 t0 (tg t0) = true) ∧ (0 ≤ t1 ∧ t1 < (ln t0 : Int)) ∧ 0 < t2 ∧ isO K.1 t2 (tg t0 - 30) = true ∧ Wp d 59 15 [vR l0, vI (w32 (l1 + 1))] [] (mset M t0 (Int.toNat t1) (t2 : Nat)) K Q) : Wp d 59 36 [vR l0, vI l1] [vR t2, vI t1, vR t0] M K Q := by
  obtain ⟨s1, h⟩ := h
  obtain ⟨s2, h⟩ := h
  obtain ⟨s3, h⟩ := h
  obtain ⟨s4, h⟩ := h
  refine r_aas c59_36 s1 s2 s3 s4 ?_
  refine r_iinc c59_37 rfl ?_
  refine r_goto c59_40 ?_
  exact h
theorem t60_0 {d : Nat} {l0 : Nat} {l1 : Nat} {M : Mem} {K : KK} {Q : RR → Mem → KK → Prop} (h : isO K.1 l0 6 = true ∧ isO K.1 l0 6 = true ∧ ∃ b3 : Nat, (M l0 0) = (b3 : Int) ∧ 0 < b3 ∧ (Nat.ble 20 (tg b3) = true ∧ isO K.1 b3 (tg b3) = true) ∧ ((ln b3 : Int) ≤ (M l0 1) → Wp (d + 1) 60 35 [vR l0, vR l1] [] M K Q) ∧ (¬ ((ln b3 : Int) ≤ (M l0 1)) → isO K.1 l0 6 = true ∧ ∃ b8 : Nat, (M l0 0) = (b8 : Int) ∧ 0 < b8 ∧ isO K.1 l0 6 = true ∧ (Nat.ble 30 (tg b8) = true ∧ isO K.1 b8 (tg b8) = true) ∧ (0 ≤ (M l0 1) ∧ (M l0 1) < (ln b8 : Int)) ∧ ∃ b14 : Nat, (M b8 (Int.toNat (M l0 1))) = (b14 : Int) ∧ 0 < b14 ∧ isO K.1 b14 3 = true ∧ Wm d 30 [vR b14, vR l1] M K (Bk d 60 22 25 30 [vR l0, vR l1] [] Q))) : Wp (d + 1) 60 0 [vR l0, vR l1] [] M K Q := by
  refine r_aload_n c60_0 rfl ?_
  obtain ⟨s1, h⟩ := h
  refine r_getI c60_1 s1 ?_
  refine r_aload_n c60_4 rfl ?_
  obtain ⟨s2, h⟩ := h
  obtain ⟨b3, h⟩ := h
  obtain ⟨s4, h⟩ := h
  obtain ⟨s5, h⟩ := h
  refine r_getR c60_5 s2 s4 s5 ?_
  obtain ⟨s6, h⟩ := h
  refine r_alen c60_8 s6 ?_
  refine r_icmpP (P := (ln b3 : Int) ≤ (M l0 1)) c60_9 rfl (fun hc => ?_) (fun hc => ?_)
  · replace h := h.1 hc
    exact h
  · replace h := h.2 hc
    refine r_aload_n c60_12 rfl ?_
    obtain ⟨s7, h⟩ := h
    obtain ⟨b8, h⟩ := h
    obtain ⟨s9, h⟩ := h
    obtain ⟨s10, h⟩ := h
    refine r_getR c60_13 s7 s9 s10 ?_
    refine r_aload_n c60_16 rfl ?_
    obtain ⟨s11, h⟩ := h
    refine r_getI c60_17 s11 ?_
    obtain ⟨s12, h⟩ := h
    obtain ⟨s13, h⟩ := h
    obtain ⟨b14, h⟩ := h
    obtain ⟨s15, h⟩ := h
    obtain ⟨s16, h⟩ := h
    refine r_aa c60_20 s12 s13 s15 s16 ?_
    refine r_aload_n c60_21 rfl ?_
    obtain ⟨s17, h⟩ := h
    exact r_call c60_22 rfl rfl (Nat.le_of_ble_eq_true rfl) (okc_r rfl rfl s17) h
theorem t60_25 {d : Nat} {l0 : Nat} {l1 : Nat} {M : Mem} {K : KK} {Q : RR → Mem → KK → Prop} (h : isO K.1 l0 6 = true ∧ isO K.1 l0 6 = true ∧ Wp d 60 35 [vR l0, vR l1] [] (mset M l0 1 (w32 ((M l0 1) + (1 : Int)))) K Q) : Wp d 60 25 [vR l0, vR l1] [] M K Q := by
  refine r_aload_n c60_25 rfl ?_
  refine r_dupr c60_26 ?_
  obtain ⟨s1, h⟩ := h
  refine r_getI c60_27 s1 ?_
  refine r_iconst c60_30 ?_
  refine r_iadd c60_31 ?_
  obtain ⟨s2, h⟩ := h
  refine r_putI c60_32 s2 ?_
  exact h
theorem t60_35 {d : Nat} {l0 : Nat} {l1 : Nat} {M : Mem} {K : KK} {Q : RR → Mem → KK → Prop} (h : Q (.inl none) M K) : Wp d 60 35 [vR l0, vR l1] [] M K Q := by
  exact r_ret c60_35 h
theorem t61_0 {d : Nat} {l0 : Nat} {l1 : Nat} {M : Mem} {K : KK} {Q : RR → Mem → KK → Prop} (h : isO K.1 l0 6 = true ∧ ((0 : Int) < (M l0 1) → isO K.1 l0 6 = true ∧ isO K.1 l0 6 = true ∧ isO K.1 l0 6 = true ∧ ∃ b5 : Nat, ((mset M l0 1 (w32 ((M l0 1) - (1 : Int)))) l0 0) = (b5 : Int) ∧ 0 < b5 ∧ isO K.1 l0 6 = true ∧ (Nat.ble 30 (tg b5) = true ∧ isO K.1 b5 (tg b5) = true) ∧ (0 ≤ ((mset M l0 1 (w32 ((M l0 1) - (1 : Int)))) l0 1) ∧ ((mset M l0 1 (w32 ((M l0 1) - (1 : Int)))) l0 1) < (ln b5 : Int)) ∧ ∃ b11 : Nat, ((mset M l0 1 (w32 ((M l0 1) - (1 : Int)))) b5 (Int.toNat ((mset M l0 1 (w32 ((M l0 1) - (1 : Int)))) l0 1))) = (b11 : Int) ∧ 0 < b11 ∧ isO K.1 l1 3 = true ∧ Wm d 30 [vR l1, vR b11] (mset M l0 1 (w32 ((M l0 1) - (1 : Int)))) K (Bk d 61 29 32 30 [vR l0, vR l1] [] Q)) ∧ (¬ ((0 : Int) < (M l0 1)) → Q (.inl (some (vI (0 : Int)))) M K)) : Wp (d + 1) 61 0 [vR l0, vR l1] [] M K Q := by
  refine r_aload_n c61_0 rfl ?_
  obtain ⟨s1, h⟩ := h
  refine r_getI c61_1 s1 ?_
  refine r_ifP (P := (0 : Int) < (M l0 1)) c61_4 rfl (fun hc => ?_) (fun hc => ?_)
  · replace h := h.1 hc
    refine r_aload_n c61_9 rfl ?_
    refine r_dupr c61_10 ?_
    obtain ⟨s2, h⟩ := h
    refine r_getI c61_11 s2 ?_
    refine r_iconst c61_14 ?_
    refine r_isub c61_15 ?_
    obtain ⟨s3, h⟩ := h
    refine r_putI c61_16 s3 ?_
    refine r_aload_n c61_19 rfl ?_
    refine r_aload_n c61_20 rfl ?_
    obtain ⟨s4, h⟩ := h
    obtain ⟨b5, h⟩ := h
    obtain ⟨s6, h⟩ := h
    obtain ⟨s7, h⟩ := h
    refine r_getR c61_21 s4 s6 s7 ?_
    refine r_aload_n c61_24 rfl ?_
    obtain ⟨s8, h⟩ := h
    refine r_getI c61_25 s8 ?_
    obtain ⟨s9, h⟩ := h
    obtain ⟨s10, h⟩ := h
    obtain ⟨b11, h⟩ := h
    obtain ⟨s12, h⟩ := h
    obtain ⟨s13, h⟩ := h
    refine r_aa c61_28 s9 s10 s12 s13 ?_
    obtain ⟨s14, h⟩ := h
    exact r_call c61_29 rfl rfl (Nat.le_of_ble_eq_true rfl) (okc_r rfl rfl s14) h
  · replace h := h.2 hc
    refine r_iconst c61_7 ?_
    exact r_iret c61_8 (by decide) h
theorem t61_32 {d : Nat} {l0 : Nat} {l1 : Nat} {M : Mem} {K : KK} {Q : RR → Mem → KK → Prop} (h : Q (.inl (some (vI (1 : Int)))) M K) : Wp d 61 32 [vR l0, vR l1] [] M K Q := by
  refine r_iconst c61_32 ?_
  exact r_iret c61_33 (by decide) h
theorem t62_0 {d : Nat} {l0 : Nat} {l1 : Nat} {M : Mem} {K : KK} {Q : RR → Mem → KK → Prop} (h : Wp d 62 2 [vR l0, vR l1, vI (0 : Int)] [] M K Q) : Wp d 62 0 [vR l0, vR l1, vU] [] M K Q := by
  refine r_iconst c62_0 ?_
  refine r_istore_n c62_1 (Nat.le_of_ble_eq_true rfl) ?_
  exact h
theorem t62_2 {d : Nat} {l0 : Nat} {l1 : Nat} {l2 : Int} {M : Mem} {K : KK} {Q : RR → Mem → KK → Prop} (h : isO K.1 l1 6 = true ∧ ((M l1 1) ≤ l2 → Wp (d + 1) 62 40 [vR l0, vR l1, vI l2] [] M K Q) ∧ (¬ ((M l1 1) ≤ l2) → isO K.1 l0 6 = true ∧ ∃ b3 : Nat, (M l0 0) = (b3 : Int) ∧ 0 < b3 ∧ (Nat.ble 20 (tg b3) = true ∧ isO K.1 b3 (tg b3) = true) ∧ ((ln b3 : Int) ≤ l2 → Wp (d + 1) 62 40 [vR l0, vR l1, vI l2] [] M K Q) ∧ (¬ ((ln b3 : Int) ≤ l2) → isO K.1 l0 6 = true ∧ ∃ b8 : Nat, (M l0 0) = (b8 : Int) ∧ 0 < b8 ∧ (Nat.ble 30 (tg b8) = true ∧ isO K.1 b8 (tg b8) = true) ∧ (0 ≤ l2 ∧ l2 < (ln b8 : Int)) ∧ ∃ b13 : Nat, (M b8 (Int.toNat l2)) = (b13 : Int) ∧ 0 < b13 ∧ isO K.1 l1 6 = true ∧ ∃ b17 : Nat, (M l1 0) = (b17 : Int) ∧ 0 < b17 ∧ (Nat.ble 30 (tg b17) = true ∧ isO K.1 b17 (tg b17) = true) ∧ (0 ≤ l2 ∧ l2 < (ln b17 : Int)) ∧ ∃ b22 : Nat, (M b17 (Int.toNat l2)) = (b22 : Int) ∧ 0 < b22 ∧ isO K.1 b13 3 = true ∧ Wm d 30 [vR b13, vR b22] M K (Bk d 62 31 34 30 [vR l0, vR l1, vI l2] [] Q)))) : Wp (d + 1) 62 2 [vR l0, vR l1, vI l2] [] M K Q := by
  refine r_iload_n c62_2 rfl ?_
  refine r_aload_n c62_3 rfl ?_
  obtain ⟨s1, h⟩ := h
  refine r_getI c62_4 s1 ?_
  refine r_icmpP (P := (M l1 1) ≤ l2) c62_7 rfl (fun hc => ?_) (fun hc => ?_)
  · replace h := h.1 hc
    exact h
  · replace h := h.2 hc
    refine r_iload_n c62_10 rfl ?_
    refine r_aload_n c62_11 rfl ?_
    obtain ⟨s2, h⟩ := h
    obtain ⟨b3, h⟩ := h
    obtain ⟨s4, h⟩ := h
    obtain ⟨s5, h⟩ := h
    refine r_getR c62_12 s2 s4 s5 ?_
    obtain ⟨s6, h⟩ := h
    refine r_alen c62_15 s6 ?_
    refine r_icmpP (P := (ln b3 : Int) ≤ l2) c62_16 rfl (fun hc => ?_) (fun hc => ?_)
    · replace h := h.1 hc
      exact h
    · replace h := h.2 hc
      refine r_aload_n c62_19 rfl ?_
      obtain ⟨s7, h⟩ := h
      obtain ⟨b8, h⟩ := h
      obtain ⟨s9, h⟩ := h
      obtain ⟨s10, h⟩ := h
      refine r_getR c62_20 s7 s9 s10 ?_
      refine r_iload_n c62_23 rfl ?_
      obtain ⟨s11, h⟩ := h
      obtain ⟨s12, h⟩ := h
      obtain ⟨b13, h⟩ := h
      obtain ⟨s14, h⟩ := h
      obtain ⟨s15, h⟩ := h
      refine r_aa c62_24 s11 s12 s14 s15 ?_
      refine r_aload_n c62_25 rfl ?_
      obtain ⟨s16, h⟩ := h
      obtain ⟨b17, h⟩ := h
      obtain ⟨s18, h⟩ := h
      obtain ⟨s19, h⟩ := h
      refine r_getR c62_26 s16 s18 s19 ?_
      refine r_iload_n c62_29 rfl ?_
      obtain ⟨s20, h⟩ := h
      obtain ⟨s21, h⟩ := h
      obtain ⟨b22, h⟩ := h
      obtain ⟨s23, h⟩ := h
      obtain ⟨s24, h⟩ := h
      refine r_aa c62_30 s20 s21 s23 s24 ?_
      obtain ⟨s25, h⟩ := h
      exact r_call c62_31 rfl rfl (Nat.le_of_ble_eq_true rfl) (okc_r rfl rfl s25) h
theorem t62_34 {d : Nat} {l0 : Nat} {l1 : Nat} {l2 : Int} {M : Mem} {K : KK} {Q : RR → Mem → KK → Prop} (h : Wp d 62 2 [vR l0, vR l1, vI (w32 (l2 + 1))] [] M K Q) : Wp d 62 34 [vR l0, vR l1, vI l2] [] M K Q := by
  refine r_iinc c62_34 rfl ?_
  refine r_goto c62_37 ?_
  exact h
theorem t62_40 {d : Nat} {l0 : Nat} {l1 : Nat} {l2 : Int} {M : Mem} {K : KK} {Q : RR → Mem → KK → Prop} (h : isO K.1 l1 6 = true ∧ isO K.1 l0 6 = true ∧ Q (.inl none) (mset M l0 1 (M l1 1)) K) : Wp d 62 40 [vR l0, vR l1, vI l2] [] M K Q := by
  refine r_aload_n c62_40 rfl ?_
  refine r_aload_n c62_41 rfl ?_
  obtain ⟨s1, h⟩ := h
  refine r_getI c62_42 s1 ?_
  obtain ⟨s2, h⟩ := h
  refine r_putI c62_45 s2 ?_
  exact r_ret c62_48 h
theorem t63_0 {d : Nat} {l0 : Nat} {M : Mem} {K : KK} {Q : RR → Mem → KK → Prop} (h : (tg K.1 = 20 ∧ (150 : Int) = (ln K.1 : Int)) ∧ isO (K.1 + 1) l0 7 = true ∧ 0 < K.1 ∧ (tg (K.1 + 1) = 20 ∧ (150 : Int) = (ln (K.1 + 1) : Int)) ∧ isO ((K.1 + 1) + 1) l0 7 = true ∧ 0 < (K.1 + 1) ∧ (tg ((K.1 + 1) + 1) = 20 ∧ (150 : Int) = (ln ((K.1 + 1) + 1) : Int)) ∧ isO (((K.1 + 1) + 1) + 1) l0 7 = true ∧ 0 < ((K.1 + 1) + 1) ∧ (tg (((K.1 + 1) + 1) + 1) = 20 ∧ (150 : Int) = (ln (((K.1 + 1) + 1) + 1) : Int)) ∧ isO ((((K.1 + 1) + 1) + 1) + 1) l0 7 = true ∧ 0 < (((K.1 + 1) + 1) + 1) ∧ Q (.inl none) (mset (mset (mset (mset M l0 0 (K.1 : Nat)) l0 1 ((K.1 + 1) : Nat)) l0 2 (((K.1 + 1) + 1) : Nat)) l0 3 ((((K.1 + 1) + 1) + 1) : Nat)) (((((K.1 + 1) + 1) + 1) + 1), ((((K.2.1 + 1) + 1) + 1) + 1), ((((K.2.2 + ln K.1) + ln (K.1 + 1)) + ln ((K.1 + 1) + 1)) + ln (((K.1 + 1) + 1) + 1)))) : Wp d 63 0 [vR l0] [] M K Q := by
  refine r_aload_n c63_0 rfl ?_
  refine r_obj c63_1 (Nat.le_of_ble_eq_true rfl) ?_
  refine r_aload_n c63_4 rfl ?_
  refine r_sipush c63_5 ?_
  obtain ⟨s1, h⟩ := h
  refine r_newarray c63_8 s1 ?_
  obtain ⟨s2, h⟩ := h
  obtain ⟨s3, h⟩ := h
  refine r_putR c63_10 s2 s3 ?_
  refine r_aload_n c63_13 rfl ?_
  refine r_sipush c63_14 ?_
  obtain ⟨s4, h⟩ := h
  refine r_newarray c63_17 s4 ?_
  obtain ⟨s5, h⟩ := h
  obtain ⟨s6, h⟩ := h
  refine r_putR c63_19 s5 s6 ?_
  refine r_aload_n c63_22 rfl ?_
  refine r_sipush c63_23 ?_
  obtain ⟨s7, h⟩ := h
  refine r_newarray c63_26 s7 ?_
  obtain ⟨s8, h⟩ := h
  obtain ⟨s9, h⟩ := h
  refine r_putR c63_28 s8 s9 ?_
  refine r_aload_n c63_31 rfl ?_
  refine r_sipush c63_32 ?_
  obtain ⟨s10, h⟩ := h
  refine r_newarray c63_35 s10 ?_
  obtain ⟨s11, h⟩ := h
  obtain ⟨s12, h⟩ := h
  refine r_putR c63_37 s11 s12 ?_
  exact r_ret c63_40 h
theorem t64_0 {d : Nat} {l0 : Nat} {l1 : Nat} {l2 : Nat} {M : Mem} {K : KK} {Q : RR → Mem → KK → Prop} (h : isO K.1 l0 7 = true ∧ isO K.1 l0 7 = true ∧ Wm d 65 [vR l0, vR l1, vR l2, vI (0 : Int)] (mset M l0 4 (0 : Int)) K (Bk d 64 9 12 65 [vR l0, vR l1, vR l2] [] Q)) : Wp (d + 1) 64 0 [vR l0, vR l1, vR l2] [] M K Q := by
  refine r_aload_n c64_0 rfl ?_
  refine r_iconst c64_1 ?_
  obtain ⟨s1, h⟩ := h
  refine r_putI c64_2 s1 ?_
  refine r_aload_n c64_5 rfl ?_
  refine r_aload_n c64_6 rfl ?_
  refine r_aload_n c64_7 rfl ?_
  refine r_iconst c64_8 ?_
  obtain ⟨s2, h⟩ := h
  exact r_call c64_9 rfl rfl (Nat.le_of_ble_eq_true rfl) (okc_r rfl rfl s2) h
theorem t64_12 {d : Nat} {l0 : Nat} {l1 : Nat} {l2 : Nat} {M : Mem} {K : KK} {Q : RR → Mem → KK → Prop} (h : Q (.inl none) M K) : Wp d 64 12 [vR l0, vR l1, vR l2] [] M K Q := by
  exact r_ret c64_12 h
theorem t65_0 {d : Nat} {l0 : Nat} {l1 : Nat} {l2 : Nat} {l3 : Int} {M : Mem} {K : KK} {Q : RR → Mem → KK → Prop} (h : Wp d 65 3 [vR l0, vR l1, vR l2, vI l3, vI (0 : Int), vU] [] M K Q) : Wp d 65 0 [vR l0, vR l1, vR l2, vI l3, vU, vU] [] M K Q := by
  refine r_iconst c65_0 ?_
  refine r_istore c65_1 (Nat.le_of_ble_eq_true rfl) ?_
  exact h
theorem t65_3 {d : Nat} {l0 : Nat} {l1 : Nat} {l2 : Nat} {l3 : Int} {l4 : Int} {l5 : PV} {M : Mem} {K : KK} {Q : RR → Mem → KK → Prop} (h : ((150 : Int) ≤ l4 → Q (.inl none) M K) ∧ (¬ ((150 : Int) ≤ l4) → isO K.1 l1 10 = true ∧ Wm d 88 [vR l1] M K (Bk d 65 12 15 88 [vR l0, vR l1, vR l2, vI l3, vI l4, l5] [] Q))) : Wp (d + 1) 65 3 [vR l0, vR l1, vR l2, vI l3, vI l4, l5] [] M K Q := by
  refine r_iload c65_3 rfl ?_
  refine r_sipush c65_5 ?_
  refine r_icmpP (P := (150 : Int) ≤ l4) c65_8 rfl (fun hc => ?_) (fun hc => ?_)
  · replace h := h.1 hc
    exact r_ret c65_54 h
  · replace h := h.2 hc
    refine r_aload_n c65_11 rfl ?_
    obtain ⟨s1, h⟩ := h
    exact r_call c65_12 rfl rfl (Nat.le_of_ble_eq_true rfl) (okc_r rfl rfl s1) h
theorem t65_15 {d : Nat} {l0 : Nat} {l1 : Nat} {l2 : Nat} {l3 : Int} {l4 : Int} {l5 : PV} {t0 : Int} {M : Mem} {K : KK} {Q : RR → Mem → KK → Prop} (h : (t0 = (-1 : Int) → Wp d 65 34 [vR l0, vR l1, vR l2, vI l3, vI l4, vI t0] [] M K Q) ∧ (¬ (t0 = (-1 : Int)) → (l3 ≤ (0 : Int) → Wp d 65 35 [vR l0, vR l1, vR l2, vI l3, vI l4, vI t0] [] M K Q) ∧ (¬ (l3 ≤ (0 : Int)) → (¬ t0 = (93 : Int) → Wp d 65 35 [vR l0, vR l1, vR l2, vI l3, vI l4, vI t0] [] M K Q) ∧ (¬ (¬ t0 = (93 : Int)) → Wp d 65 34 [vR l0, vR l1, vR l2, vI l3, vI l4, vI t0] [] M K Q)))) : Wp d 65 15 [vR l0, vR l1, vR l2, vI l3, vI l4, l5] [vI t0] M K Q := by
  refine r_istore c65_15 (Nat.le_of_ble_eq_true rfl) ?_
  refine r_iload c65_17 rfl ?_
  refine r_iconst c65_19 ?_
  refine r_icmpP (P := t0 = (-1 : Int)) c65_20 rfl (fun hc => ?_) (fun hc => ?_)
  · replace h := h.1 hc
    exact h
  · replace h := h.2 hc
    refine r_iload_n c65_23 rfl ?_
    refine r_ifP (P := l3 ≤ (0 : Int)) c65_24 rfl (fun hc => ?_) (fun hc => ?_)
    · replace h := h.1 hc
      exact h
    · replace h := h.2 hc
      refine r_iload c65_27 rfl ?_
      refine r_bipush c65_29 ?_
      refine r_icmpP (P := ¬ t0 = (93 : Int)) c65_31 rfl (fun hc => ?_) (fun hc => ?_)
      · replace h := h.1 hc
        exact h
      · replace h := h.2 hc
        exact h
theorem t65_34 {d : Nat} {l0 : Nat} {l1 : Nat} {l2 : Nat} {l3 : Int} {l4 : Int} {l5 : Int} {M : Mem} {K : KK} {Q : RR → Mem → KK → Prop} (h : Q (.inl none) M K) : Wp d 65 34 [vR l0, vR l1, vR l2, vI l3, vI l4, vI l5] [] M K Q := by
  exact r_ret c65_34 h
theorem t65_35 {d : Nat} {l0 : Nat} {l1 : Nat} {l2 : Nat} {l3 : Int} {l4 : Int} {l5 : Int} {M : Mem} {K : KK} {Q : RR → Mem → KK → Prop} (h : isO K.1 l0 7 = true ∧ Wm d 66 [vR l0, vR l1, vR l2, vI l3] M K (Bk d 65 39 42 66 [vR l0, vR l1, vR l2, vI l3, vI l4, vI l5] [] Q)) : Wp (d + 1) 65 35 [vR l0, vR l1, vR l2, vI l3, vI l4, vI l5] [] M K Q := by
  refine r_aload_n c65_35 rfl ?_
  refine r_aload_n c65_36 rfl ?_
  refine r_aload_n c65_37 rfl ?_
  refine r_iload_n c65_38 rfl ?_
  obtain ⟨s1, h⟩ := h
  exact r_call c65_39 rfl rfl (Nat.le_of_ble_eq_true rfl) (okc_r rfl rfl s1) h
theorem t65_42 {d : Nat} {l0 : Nat} {l1 : Nat} {l2 : Nat} {l3 : Int} {l4 : Int} {l5 : Int} {M : Mem} {K : KK} {Q : RR → Mem → KK → Prop} (h : isO K.1 l1 10 = true ∧ Wm d 91 [vR l1, vI (59 : Int)] M K (Bk d 65 45 48 91 [vR l0, vR l1, vR l2, vI l3, vI l4, vI l5] [] Q)) : Wp (d + 1) 65 42 [vR l0, vR l1, vR l2, vI l3, vI l4, vI l5] [] M K Q := by
  refine r_aload_n c65_42 rfl ?_
  refine r_bipush c65_43 ?_
  obtain ⟨s1, h⟩ := h
  exact r_call c65_45 rfl rfl (Nat.le_of_ble_eq_true rfl) (okc_r rfl rfl s1) h
theorem t65_48 {d : Nat} {l0 : Nat} {l1 : Nat} {l2 : Nat} {l3 : Int} {l4 : Int} {l5 : Int} {M : Mem} {K : KK} {Q : RR → Mem → KK → Prop} (h : Wp d 65 3 [vR l0, vR l1, vR l2, vI l3, vI (w32 (l4 + 1)), vI l5] [] M K Q) : Wp d 65 48 [vR l0, vR l1, vR l2, vI l3, vI l4, vI l5] [] M K Q := by
  refine r_iinc c65_48 rfl ?_
  refine r_goto c65_51 ?_
  exact h
theorem t66_0 {d : Nat} {l0 : Nat} {l1 : Nat} {l2 : Nat} {l3 : Int} {M : Mem} {K : KK} {Q : RR → Mem → KK → Prop} (h : isO K.1 l1 10 = true ∧ Wm d 93 [vR l1] M K (Bk d 66 1 4 93 [vR l0, vR l1, vR l2, vI l3, vU, vU, vU] [] Q)) : Wp (d + 1) 66 0 [vR l0, vR l1, vR l2, vI l3, vU, vU, vU] [] M K Q := by
  refine r_aload_n c66_0 rfl ?_
  obtain ⟨s1, h⟩ := h
  exact r_call c66_1 rfl rfl (Nat.le_of_ble_eq_true rfl) (okc_r rfl rfl s1) h
theorem t66_4 {d : Nat} {l0 : Nat} {l1 : Nat} {l2 : Nat} {l3 : Int} {M : Mem} {K : KK} {Q : RR → Mem → KK → Prop} (h : Wm d 68 [vR l1] M K (Bk d 66 5 8 68 [vR l0, vR l1, vR l2, vI l3, vU, vU, vU] [] Q)) : Wp (d + 1) 66 4 [vR l0, vR l1, vR l2, vI l3, vU, vU, vU] [] M K Q := by
  refine r_aload_n c66_4 rfl ?_
  exact r_call c66_5 rfl rfl (Nat.le_of_ble_eq_true rfl) (okc_s rfl rfl rfl) h
theorem t66_8 {d : Nat} {l0 : Nat} {l1 : Nat} {l2 : Nat} {l3 : Int} {t0 : Int} {M : Mem} {K : KK} {Q : RR → Mem → KK → Prop} (h : (¬ t0 = (-1 : Int) → (¬ t0 = (7 : Int) → (¬ t0 = (6 : Int) → (¬ t0 = (5 : Int) → isO K.1 l2 0 = true ∧ Wp (d + 1) 66 71 [vR l0, vR l1, vR l2, vI l3, vI t0, vU, vU] [vI (M l2 6), vI (0 : Int), vR l1] M K Q) ∧ (¬ (¬ t0 = (5 : Int)) → isO K.1 l2 0 = true ∧ Wp (d + 1) 66 71 [vR l0, vR l1, vR l2, vI l3, vI t0, vU, vU] [vI (M l2 5), vI (0 : Int), vR l1] M K Q)) ∧ (¬ (¬ t0 = (6 : Int)) → Wp (d + 1) 66 76 [vR l0, vR l1, vR l2, vI l3, vI t0, vU, vU] [vI (0 : Int)] M K Q)) ∧ (¬ (¬ t0 = (7 : Int)) → isO K.1 l0 7 = true ∧ Wm d 67 [vR l0, vR l1, vR l2, vI l3] M K (Bk d 66 35 38 67 [vR l0, vR l1, vR l2, vI l3, vI t0, vU, vU] [] Q))) ∧ (¬ (¬ t0 = (-1 : Int)) → isO K.1 l1 10 = true ∧ Wm d 95 [vR l1, vI (1 : Int)] M K (Bk d 66 18 21 95 [vR l0, vR l1, vR l2, vI l3, vI t0, vU, vU] [] Q))) : Wp (d + 1) 66 8 [vR l0, vR l1, vR l2, vI l3, vU, vU, vU] [vI t0] M K Q := by
  refine r_istore c66_8 (Nat.le_of_ble_eq_true rfl) ?_
  refine r_iload c66_10 rfl ?_
  refine r_iconst c66_12 ?_
  refine r_icmpP (P := ¬ t0 = (-1 : Int)) c66_13 rfl (fun hc => ?_) (fun hc => ?_)
  · replace h := h.1 hc
    refine r_iload c66_24 rfl ?_
    refine r_bipush c66_26 ?_
    refine r_icmpP (P := ¬ t0 = (7 : Int)) c66_28 rfl (fun hc => ?_) (fun hc => ?_)
    · replace h := h.1 hc
      refine r_iload c66_41 rfl ?_
      refine r_bipush c66_43 ?_
      refine r_icmpP (P := ¬ t0 = (6 : Int)) c66_45 rfl (fun hc => ?_) (fun hc => ?_)
      · replace h := h.1 hc
        refine r_aload_n c66_52 rfl ?_
        refine r_iconst c66_53 ?_
        refine r_iload c66_54 rfl ?_
        refine r_iconst c66_56 ?_
        refine r_icmpP (P := ¬ t0 = (5 : Int)) c66_57 rfl (fun hc => ?_) (fun hc => ?_)
        · replace h := h.1 hc
          refine r_aload_n c66_67 rfl ?_
          obtain ⟨s1, h⟩ := h
          refine r_getI c66_68 s1 ?_
          exact h
        · replace h := h.2 hc
          refine r_aload_n c66_60 rfl ?_
          obtain ⟨s2, h⟩ := h
          refine r_getI c66_61 s2 ?_
          refine r_goto c66_64 ?_
          exact h
      · replace h := h.2 hc
        refine r_iconst c66_48 ?_
        refine r_goto c66_49 ?_
        exact h
    · replace h := h.2 hc
      refine r_aload_n c66_31 rfl ?_
      refine r_aload_n c66_32 rfl ?_
      refine r_aload_n c66_33 rfl ?_
      refine r_iload_n c66_34 rfl ?_
      obtain ⟨s3, h⟩ := h
      exact r_call c66_35 rfl rfl (Nat.le_of_ble_eq_true rfl) (okc_r rfl rfl s3) h
  · replace h := h.2 hc
    refine r_aload_n c66_16 rfl ?_
    refine r_iconst c66_17 ?_
    obtain ⟨s4, h⟩ := h
    exact r_call c66_18 rfl rfl (Nat.le_of_ble_eq_true rfl) (okc_r rfl rfl s4) h
theorem t66_21 {d : Nat} {l0 : Nat} {l1 : Nat} {l2 : Nat} {l3 : Int} {l4 : Int} {M : Mem} {K : KK} {Q : RR → Mem → KK → Prop} (h : Wp d 66 112 [vR l0, vR l1, vR l2, vI l3, vI l4, vU, vU] [] M K Q) : Wp d 66 21 [vR l0, vR l1, vR l2, vI l3, vI l4, vU, vU] [] M K Q := by
  refine r_goto c66_21 ?_
  exact h
theorem t66_38 {d : Nat} {l0 : Nat} {l1 : Nat} {l2 : Nat} {l3 : Int} {l4 : Int} {M : Mem} {K : KK} {Q : RR → Mem → KK → Prop} (h : Wp d 66 112 [vR l0, vR l1, vR l2, vI l3, vI l4, vU, vU] [] M K Q) : Wp d 66 38 [vR l0, vR l1, vR l2, vI l3, vI l4, vU, vU] [] M K Q := by
  refine r_goto c66_38 ?_
  exact h
theorem t66_71 {d : Nat} {l0 : Nat} {l1 : Nat} {l2 : Nat} {l3 : Int} {l4 : Int} {t0 : Nat} {t1 : Int} {t2 : Int} {M : Mem} {K : KK} {Q : RR → Mem → KK → Prop} (h : isO K.1 t0 10 = true ∧ Wm d 92 [vR t0, vI t1, vI (w32 (t2 - (1 : Int)))] M K (Bk d 66 73 76 92 [vR l0, vR l1, vR l2, vI l3, vI l4, vU, vU] [] Q)) : Wp (d + 1) 66 71 [vR l0, vR l1, vR l2, vI l3, vI l4, vU, vU] [vI t2, vI t1, vR t0] M K Q := by
  refine r_iconst c66_71 ?_
  refine r_isub c66_72 ?_
  obtain ⟨s1, h⟩ := h
  exact r_call c66_73 rfl rfl (Nat.le_of_ble_eq_true rfl) (okc_r rfl rfl s1) h
theorem t66_76 {d : Nat} {l0 : Nat} {l1 : Nat} {l2 : Nat} {l3 : Int} {l4 : Int} {t0 : Int} {M : Mem} {K : KK} {Q : RR → Mem → KK → Prop} (h : (¬ l4 = (1 : Int) → Wp (d + 1) 66 99 [vR l0, vR l1, vR l2, vI l3, vI l4, vI t0, vU] [vI (0 : Int)] M K Q) ∧ (¬ (¬ l4 = (1 : Int)) → isO K.1 l2 0 = true ∧ isO K.1 l1 10 = true ∧ Wm d 92 [vR l1, vI (0 : Int), vI (w32 ((M l2 5) - (1 : Int)))] M K (Bk d 66 92 95 92 [vR l0, vR l1, vR l2, vI l3, vI l4, vI t0, vU] [] Q))) : Wp (d + 1) 66 76 [vR l0, vR l1, vR l2, vI l3, vI l4, vU, vU] [vI t0] M K Q := by
  refine r_istore c66_76 (Nat.le_of_ble_eq_true rfl) ?_
  refine r_iload c66_78 rfl ?_
  refine r_iconst c66_80 ?_
  refine r_icmpP (P := ¬ l4 = (1 : Int)) c66_81 rfl (fun hc => ?_) (fun hc => ?_)
  · replace h := h.1 hc
    refine r_iconst c66_98 ?_
    exact h
  · replace h := h.2 hc
    refine r_aload_n c66_84 rfl ?_
    refine r_iconst c66_85 ?_
    refine r_aload_n c66_86 rfl ?_
    obtain ⟨s1, h⟩ := h
    refine r_getI c66_87 s1 ?_
    refine r_iconst c66_90 ?_
    refine r_isub c66_91 ?_
    obtain ⟨s2, h⟩ := h
    exact r_call c66_92 rfl rfl (Nat.le_of_ble_eq_true rfl) (okc_r rfl rfl s2) h
theorem t66_95 {d : Nat} {l0 : Nat} {l1 : Nat} {l2 : Nat} {l3 : Int} {l4 : Int} {l5 : Int} {t0 : Int} {M : Mem} {K : KK} {Q : RR → Mem → KK → Prop} (h : Wp d 66 99 [vR l0, vR l1, vR l2, vI l3, vI l4, vI l5, vU] [vI t0] M K Q) : Wp d 66 95 [vR l0, vR l1, vR l2, vI l3, vI l4, vI l5, vU] [vI t0] M K Q := by
  refine r_goto c66_95 ?_
  exact h
theorem t66_99 {d : Nat} {l0 : Nat} {l1 : Nat} {l2 : Nat} {l3 : Int} {l4 : Int} {l5 : Int} {t0 : Int} {M : Mem} {K : KK} {Q : RR → Mem → KK → Prop} (h : isO K.1 l0 7 = true ∧ Wm d 69 [vR l0, vI l4, vI l5, vI t0] M K (Bk d 66 108 111 69 [vR l0, vR l1, vR l2, vI l3, vI l4, vI l5, vI t0] [] Q)) : Wp (d + 1) 66 99 [vR l0, vR l1, vR l2, vI l3, vI l4, vI l5, vU] [vI t0] M K Q := by
  refine r_istore c66_99 (Nat.le_of_ble_eq_true rfl) ?_
  refine r_aload_n c66_101 rfl ?_
  refine r_iload c66_102 rfl ?_
  refine r_iload c66_104 rfl ?_
  refine r_iload c66_106 rfl ?_
  obtain ⟨s1, h⟩ := h
  exact r_call c66_108 rfl rfl (Nat.le_of_ble_eq_true rfl) (okc_r rfl rfl s1) h
theorem t66_111 {d : Nat} {l0 : Nat} {l1 : Nat} {l2 : Nat} {l3 : Int} {l4 : Int} {l5 : Int} {l6 : Int} {t0 : Int} {M : Mem} {K : KK} {Q : RR → Mem → KK → Prop} (h : Wp d 66 112 [vR l0, vR l1, vR l2, vI l3, vI l4, vI l5, vI l6] [] M K Q) : Wp d 66 111 [vR l0, vR l1, vR l2, vI l3, vI l4, vI l5, vI l6] [vI t0] M K Q := by
  refine r_popi c66_111 ?_
  exact h
theorem t66_112 {d : Nat} {l0 : Nat} {l1 : Nat} {l2 : Nat} {l3 : Int} {l4 : Int} {l5 : PV} {l6 : PV} {M : Mem} {K : KK} {Q : RR → Mem → KK → Prop} (h : Q (.inl none) M K) : Wp d 66 112 [vR l0, vR l1, vR l2, vI l3, vI l4, l5, l6] [] M K Q := by
  exact r_ret c66_112 h
theorem t67_0 {d : Nat} {l0 : Nat} {l1 : Nat} {l2 : Nat} {l3 : Int} {M : Mem} {K : KK} {Q : RR → Mem → KK → Prop} (h : (l3 < (6 : Int) → isO K.1 l1 10 = true ∧ Wm d 92 [vR l1, vI (0 : Int), vI (30 : Int)] M K (Bk d 67 16 19 92 [vR l0, vR l1, vR l2, vI l3, vU, vU] [] Q)) ∧ (¬ (l3 < (6 : Int)) → isO K.1 l1 10 = true ∧ Wm d 95 [vR l1, vI (3 : Int)] M K (Bk d 67 8 11 95 [vR l0, vR l1, vR l2, vI l3, vU, vU] [] Q))) : Wp (d + 1) 67 0 [vR l0, vR l1, vR l2, vI l3, vU, vU] [] M K Q := by
  refine r_iload_n c67_0 rfl ?_
  refine r_bipush c67_1 ?_
  refine r_icmpP (P := l3 < (6 : Int)) c67_3 rfl (fun hc => ?_) (fun hc => ?_)
  · replace h := h.1 hc
    refine r_aload_n c67_12 rfl ?_
    refine r_iconst c67_13 ?_
    refine r_bipush c67_14 ?_
    obtain ⟨s1, h⟩ := h
    exact r_call c67_16 rfl rfl (Nat.le_of_ble_eq_true rfl) (okc_r rfl rfl s1) h
  · replace h := h.2 hc
    refine r_aload_n c67_6 rfl ?_
    refine r_iconst c67_7 ?_
    obtain ⟨s2, h⟩ := h
    exact r_call c67_8 rfl rfl (Nat.le_of_ble_eq_true rfl) (okc_r rfl rfl s2) h
theorem t67_11 {d : Nat} {l0 : Nat} {l1 : Nat} {l2 : Nat} {l3 : Int} {M : Mem} {K : KK} {Q : RR → Mem → KK → Prop} (h : Q (.inl none) M K) : Wp d 67 11 [vR l0, vR l1, vR l2, vI l3, vU, vU] [] M K Q := by
  exact r_ret c67_11 h
theorem t67_19 {d : Nat} {l0 : Nat} {l1 : Nat} {l2 : Nat} {l3 : Int} {t0 : Int} {M : Mem} {K : KK} {Q : RR → Mem → KK → Prop} (h : isO K.1 l0 7 = true ∧ Wm d 69 [vR l0, vI (7 : Int), vI t0, vI (0 : Int)] M K (Bk d 67 27 30 69 [vR l0, vR l1, vR l2, vI l3, vI t0, vU] [] Q)) : Wp (d + 1) 67 19 [vR l0, vR l1, vR l2, vI l3, vU, vU] [vI t0] M K Q := by
  refine r_istore c67_19 (Nat.le_of_ble_eq_true rfl) ?_
  refine r_aload_n c67_21 rfl ?_
  refine r_bipush c67_22 ?_
  refine r_iload c67_24 rfl ?_
  refine r_iconst c67_26 ?_
  obtain ⟨s1, h⟩ := h
  exact r_call c67_27 rfl rfl (Nat.le_of_ble_eq_true rfl) (okc_r rfl rfl s1) h
theorem t67_30 {d : Nat} {l0 : Nat} {l1 : Nat} {l2 : Nat} {l3 : Int} {l4 : Int} {t0 : Int} {M : Mem} {K : KK} {Q : RR → Mem → KK → Prop} (h : isO K.1 l1 10 = true ∧ Wm d 91 [vR l1, vI (91 : Int)] M K (Bk d 67 35 38 91 [vR l0, vR l1, vR l2, vI l3, vI l4, vI t0] [] Q)) : Wp (d + 1) 67 30 [vR l0, vR l1, vR l2, vI l3, vI l4, vU] [vI t0] M K Q := by
  refine r_istore c67_30 (Nat.le_of_ble_eq_true rfl) ?_
  refine r_aload_n c67_32 rfl ?_
  refine r_bipush c67_33 ?_
  obtain ⟨s1, h⟩ := h
  exact r_call c67_35 rfl rfl (Nat.le_of_ble_eq_true rfl) (okc_r rfl rfl s1) h
theorem t67_38 {d : Nat} {l0 : Nat} {l1 : Nat} {l2 : Nat} {l3 : Int} {l4 : Int} {l5 : Int} {M : Mem} {K : KK} {Q : RR → Mem → KK → Prop} (h : isO K.1 l0 7 = true ∧ Wm d 65 [vR l0, vR l1, vR l2, vI (w32 (l3 + (1 : Int)))] M K (Bk d 67 44 47 65 [vR l0, vR l1, vR l2, vI l3, vI l4, vI l5] [] Q)) : Wp (d + 1) 67 38 [vR l0, vR l1, vR l2, vI l3, vI l4, vI l5] [] M K Q := by
  refine r_aload_n c67_38 rfl ?_
  refine r_aload_n c67_39 rfl ?_
  refine r_aload_n c67_40 rfl ?_
  refine r_iload_n c67_41 rfl ?_
  refine r_iconst c67_42 ?_
  refine r_iadd c67_43 ?_
  obtain ⟨s1, h⟩ := h
  exact r_call c67_44 rfl rfl (Nat.le_of_ble_eq_true rfl) (okc_r rfl rfl s1) h
theorem t67_47 {d : Nat} {l0 : Nat} {l1 : Nat} {l2 : Nat} {l3 : Int} {l4 : Int} {l5 : Int} {M : Mem} {K : KK} {Q : RR → Mem → KK → Prop} (h : isO K.1 l1 10 = true ∧ Wm d 91 [vR l1, vI (93 : Int)] M K (Bk d 67 50 53 91 [vR l0, vR l1, vR l2, vI l3, vI l4, vI l5] [] Q)) : Wp (d + 1) 67 47 [vR l0, vR l1, vR l2, vI l3, vI l4, vI l5] [] M K Q := by
  refine r_aload_n c67_47 rfl ?_
  refine r_bipush c67_48 ?_
  obtain ⟨s1, h⟩ := h
  exact r_call c67_50 rfl rfl (Nat.le_of_ble_eq_true rfl) (okc_r rfl rfl s1) h
theorem t67_53 {d : Nat} {l0 : Nat} {l1 : Nat} {l2 : Nat} {l3 : Int} {l4 : Int} {l5 : Int} {M : Mem} {K : KK} {Q : RR → Mem → KK → Prop} (h : isO K.1 l0 7 = true ∧ ∃ b2 : Nat, (M l0 3) = (b2 : Int) ∧ 0 < b2 ∧ isO K.1 l0 7 = true ∧ isO K.1 b2 20 = true ∧ (0 ≤ l5 ∧ l5 < (ln b2 : Int)) ∧ Q (.inl none) (mset M b2 (Int.toNat l5) (M l0 4)) K) : Wp d 67 53 [vR l0, vR l1, vR l2, vI l3, vI l4, vI l5] [] M K Q := by
  refine r_aload_n c67_53 rfl ?_
  obtain ⟨s1, h⟩ := h
  obtain ⟨b2, h⟩ := h
  obtain ⟨s3, h⟩ := h
  obtain ⟨s4, h⟩ := h
  refine r_getR c67_54 s1 s3 s4 ?_
  refine r_iload c67_57 rfl ?_
  refine r_aload_n c67_59 rfl ?_
  obtain ⟨s5, h⟩ := h
  refine r_getI c67_60 s5 ?_
  obtain ⟨s6, h⟩ := h
  obtain ⟨s7, h⟩ := h
  refine r_ias c67_63 s6 s7 ?_
  exact r_ret c67_64 h
theorem t68_0 {d : Nat} {l0 : Nat} {M : Mem} {K : KK} {Q : RR → Mem → KK → Prop} (h : isO K.1 l0 10 = true ∧ Wm d 94 [vR l0, vR 18] M K (Bk d 68 3 6 94 [vR l0] [] Q)) : Wp (d + 1) 68 0 [vR l0] [] M K Q := by
  refine r_aload_n c68_0 rfl ?_
  refine r_ldcs c68_1 ?_
  obtain ⟨s1, h⟩ := h
  exact r_call c68_3 rfl rfl (Nat.le_of_ble_eq_true rfl) (okc_r rfl rfl s1) h
theorem t68_6 {d : Nat} {l0 : Nat} {t0 : Int} {M : Mem} {K : KK} {Q : RR → Mem → KK → Prop} (h : (t0 = (0 : Int) → isO K.1 l0 10 = true ∧ Wm d 94 [vR l0, vR 19] M K (Bk d 68 16 19 94 [vR l0] [] Q)) ∧ (¬ (t0 = (0 : Int)) → Wp (d + 1) 68 94 [vR l0] [vI (1 : Int)] M K Q)) : Wp (d + 1) 68 6 [vR l0] [vI t0] M K Q := by
  refine r_ifP (P := t0 = (0 : Int)) c68_6 rfl (fun hc => ?_) (fun hc => ?_)
  · replace h := h.1 hc
    refine r_aload_n c68_13 rfl ?_
    refine r_ldcs c68_14 ?_
    obtain ⟨s1, h⟩ := h
    exact r_call c68_16 rfl rfl (Nat.le_of_ble_eq_true rfl) (okc_r rfl rfl s1) h
  · replace h := h.2 hc
    refine r_iconst c68_9 ?_
    refine r_goto c68_10 ?_
    exact h
theorem t68_19 {d : Nat} {l0 : Nat} {t0 : Int} {M : Mem} {K : KK} {Q : RR → Mem → KK → Prop} (h : (t0 = (0 : Int) → isO K.1 l0 10 = true ∧ Wm d 94 [vR l0, vR 20] M K (Bk d 68 29 32 94 [vR l0] [] Q)) ∧ (¬ (t0 = (0 : Int)) → Wp (d + 1) 68 94 [vR l0] [vI (2 : Int)] M K Q)) : Wp (d + 1) 68 19 [vR l0] [vI t0] M K Q := by
  refine r_ifP (P := t0 = (0 : Int)) c68_19 rfl (fun hc => ?_) (fun hc => ?_)
  · replace h := h.1 hc
    refine r_aload_n c68_26 rfl ?_
    refine r_ldcs c68_27 ?_
    obtain ⟨s1, h⟩ := h
    exact r_call c68_29 rfl rfl (Nat.le_of_ble_eq_true rfl) (okc_r rfl rfl s1) h
  · replace h := h.2 hc
    refine r_iconst c68_22 ?_
    refine r_goto c68_23 ?_
    exact h
theorem t68_32 {d : Nat} {l0 : Nat} {t0 : Int} {M : Mem} {K : KK} {Q : RR → Mem → KK → Prop} (h : (t0 = (0 : Int) → isO K.1 l0 10 = true ∧ Wm d 94 [vR l0, vR 21] M K (Bk d 68 42 45 94 [vR l0] [] Q)) ∧ (¬ (t0 = (0 : Int)) → Wp (d + 1) 68 94 [vR l0] [vI (3 : Int)] M K Q)) : Wp (d + 1) 68 32 [vR l0] [vI t0] M K Q := by
  refine r_ifP (P := t0 = (0 : Int)) c68_32 rfl (fun hc => ?_) (fun hc => ?_)
  · replace h := h.1 hc
    refine r_aload_n c68_39 rfl ?_
    refine r_ldcs c68_40 ?_
    obtain ⟨s1, h⟩ := h
    exact r_call c68_42 rfl rfl (Nat.le_of_ble_eq_true rfl) (okc_r rfl rfl s1) h
  · replace h := h.2 hc
    refine r_iconst c68_35 ?_
    refine r_goto c68_36 ?_
    exact h
theorem t68_45 {d : Nat} {l0 : Nat} {t0 : Int} {M : Mem} {K : KK} {Q : RR → Mem → KK → Prop} (h : (t0 = (0 : Int) → isO K.1 l0 10 = true ∧ Wm d 94 [vR l0, vR 22] M K (Bk d 68 55 58 94 [vR l0] [] Q)) ∧ (¬ (t0 = (0 : Int)) → Wp (d + 1) 68 94 [vR l0] [vI (4 : Int)] M K Q)) : Wp (d + 1) 68 45 [vR l0] [vI t0] M K Q := by
  refine r_ifP (P := t0 = (0 : Int)) c68_45 rfl (fun hc => ?_) (fun hc => ?_)
  · replace h := h.1 hc
    refine r_aload_n c68_52 rfl ?_
    refine r_ldcs c68_53 ?_
    obtain ⟨s1, h⟩ := h
    exact r_call c68_55 rfl rfl (Nat.le_of_ble_eq_true rfl) (okc_r rfl rfl s1) h
  · replace h := h.2 hc
    refine r_iconst c68_48 ?_
    refine r_goto c68_49 ?_
    exact h
theorem t68_58 {d : Nat} {l0 : Nat} {t0 : Int} {M : Mem} {K : KK} {Q : RR → Mem → KK → Prop} (h : (t0 = (0 : Int) → isO K.1 l0 10 = true ∧ Wm d 94 [vR l0, vR 23] M K (Bk d 68 68 71 94 [vR l0] [] Q)) ∧ (¬ (t0 = (0 : Int)) → Wp (d + 1) 68 94 [vR l0] [vI (5 : Int)] M K Q)) : Wp (d + 1) 68 58 [vR l0] [vI t0] M K Q := by
  refine r_ifP (P := t0 = (0 : Int)) c68_58 rfl (fun hc => ?_) (fun hc => ?_)
  · replace h := h.1 hc
    refine r_aload_n c68_65 rfl ?_
    refine r_ldcs c68_66 ?_
    obtain ⟨s1, h⟩ := h
    exact r_call c68_68 rfl rfl (Nat.le_of_ble_eq_true rfl) (okc_r rfl rfl s1) h
  · replace h := h.2 hc
    refine r_iconst c68_61 ?_
    refine r_goto c68_62 ?_
    exact h
theorem t68_71 {d : Nat} {l0 : Nat} {t0 : Int} {M : Mem} {K : KK} {Q : RR → Mem → KK → Prop} (h : (t0 = (0 : Int) → isO K.1 l0 10 = true ∧ Wm d 94 [vR l0, vR 24] M K (Bk d 68 82 85 94 [vR l0] [] Q)) ∧ (¬ (t0 = (0 : Int)) → Wp (d + 1) 68 94 [vR l0] [vI (6 : Int)] M K Q)) : Wp (d + 1) 68 71 [vR l0] [vI t0] M K Q := by
  refine r_ifP (P := t0 = (0 : Int)) c68_71 rfl (fun hc => ?_) (fun hc => ?_)
  · replace h := h.1 hc
    refine r_aload_n c68_79 rfl ?_
    refine r_ldcs c68_80 ?_
    obtain ⟨s1, h⟩ := h
    exact r_call c68_82 rfl rfl (Nat.le_of_ble_eq_true rfl) (okc_r rfl rfl s1) h
  · replace h := h.2 hc
    refine r_bipush c68_74 ?_
    refine r_goto c68_76 ?_
    exact h
theorem t68_85 {d : Nat} {l0 : Nat} {t0 : Int} {M : Mem} {K : KK} {Q : RR → Mem → KK → Prop} (h : (t0 = (0 : Int) → Wp d 68 94 [vR l0] [vI (-1 : Int)] M K Q) ∧ (¬ (t0 = (0 : Int)) → Wp d 68 94 [vR l0] [vI (7 : Int)] M K Q)) : Wp d 68 85 [vR l0] [vI t0] M K Q := by
  refine r_ifP (P := t0 = (0 : Int)) c68_85 rfl (fun hc => ?_) (fun hc => ?_)
  · replace h := h.1 hc
    refine r_iconst c68_93 ?_
    exact h
  · replace h := h.2 hc
    refine r_bipush c68_88 ?_
    refine r_goto c68_90 ?_
    exact h
theorem t68_94 {d : Nat} {l0 : Nat} {t0 : Int} {M : Mem} {K : KK} {Q : RR → Mem → KK → Prop} (h : Q (.inl (some (vI t0))) M K) : Wp d 68 94 [vR l0] [vI t0] M K Q := by
  exact r_iret c68_94 (Or.inl rfl) h
theorem t69_0 {d : Nat} {l0 : Nat} {l1 : Int} {l2 : Int} {l3 : Int} {M : Mem} {K : KK} {Q : RR → Mem → KK → Prop} (h : isO K.1 l0 7 = true ∧ isO K.1 l0 7 = true ∧ ∃ b3 : Nat, (M l0 0) = (b3 : Int) ∧ 0 < b3 ∧ (Nat.ble 20 (tg b3) = true ∧ isO K.1 b3 (tg b3) = true) ∧ isO K.1 l0 7 = true ∧ ∃ b8 : Nat, (M l0 0) = (b8 : Int) ∧ 0 < b8 ∧ isO K.1 b8 20 = true ∧ (0 ≤ (if (w32 ((ln b3 : Int) - (1 : Int))) < (M l0 4) then (w32 ((ln b3 : Int) - (1 : Int))) else (M l0 4)) ∧ (if (w32 ((ln b3 : Int) - (1 : Int))) < (M l0 4) then (w32 ((ln b3 : Int) - (1 : Int))) else (M l0 4)) < (ln b8 : Int)) ∧ isO K.1 l0 7 = true ∧ ∃ b14 : Nat, ((mset M b8 (Int.toNat (if (w32 ((ln b3 : Int) - (1 : Int))) < (M l0 4) then (w32 ((ln b3 : Int) - (1 : Int))) else (M l0 4))) l1) l0 1) = (b14 : Int) ∧ 0 < b14 ∧ isO K.1 b14 20 = true ∧ (0 ≤ (if (w32 ((ln b3 : Int) - (1 : Int))) < (M l0 4) then (w32 ((ln b3 : Int) - (1 : Int))) else (M l0 4)) ∧ (if (w32 ((ln b3 : Int) - (1 : Int))) < (M l0 4) then (w32 ((ln b3 : Int) - (1 : Int))) else (M l0 4)) < (ln b14 : Int)) ∧ isO K.1 l0 7 = true ∧ ∃ b20 : Nat, ((mset (mset M b8 (Int.toNat (if (w32 ((ln b3 : Int) - (1 : Int))) < (M l0 4) then (w32 ((ln b3 : Int) - (1 : Int))) else (M l0 4))) l1) b14 (Int.toNat (if (w32 ((ln b3 : Int) - (1 : Int))) < (M l0 4) then (w32 ((ln b3 : Int) - (1 : Int))) else (M l0 4))) l2) l0 2) = (b20 : Int) ∧ 0 < b20 ∧ isO K.1 b20 20 = true ∧ (0 ≤ (if (w32 ((ln b3 : Int) - (1 : Int))) < (M l0 4) then (w32 ((ln b3 : Int) - (1 : Int))) else (M l0 4)) ∧ (if (w32 ((ln b3 : Int) - (1 : Int))) < (M l0 4) then (w32 ((ln b3 : Int) - (1 : Int))) else (M l0 4)) < (ln b20 : Int)) ∧ isO K.1 l0 7 = true ∧ ∃ b26 : Nat, ((mset (mset (mset M b8 (Int.toNat (if (w32 ((ln b3 : Int) - (1 : Int))) < (M l0 4) then (w32 ((ln b3 : Int) - (1 : Int))) else (M l0 4))) l1) b14 (Int.toNat (if (w32 ((ln b3 : Int) - (1 : Int))) < (M l0 4) then (w32 ((ln b3 : Int) - (1 : Int))) else (M l0 4))) l2) b20 (Int.toNat (if (w32 ((ln b3 : Int) - (1 : Int))) < (M l0 4) then (w32 ((ln b3 : Int) - (1 : Int))) else (M l0 4))) l3) l0 3) = (b26 : Int) ∧ 0 < b26 ∧ isO K.1 b26 20 = true ∧ (0 ≤ (if (w32 ((ln b3 : Int) - (1 : Int))) < (M l0 4) then (w32 ((ln b3 : Int) - (1 : Int))) else (M l0 4)) ∧ (if (w32 ((ln b3 : Int) - (1 : Int))) < (M l0 4) then (w32 ((ln b3 : Int) - (1 : Int))) else (M l0 4)) < (ln b26 : Int)) ∧ isO K.1 l0 7 = true ∧ Q (.inl (some (vI (if (w32 ((ln b3 : Int) - (1 : Int))) < (M l0 4) then (w32 ((ln b3 : Int) - (1 : Int))) else (M l0 4))))) (mset (mset (mset (mset (mset M b8 (Int.toNat (if (w32 ((ln b3 : Int) - (1 : Int))) < (M l0 4) then (w32 ((ln b3 : Int) - (1 : Int))) else (M l0 4))) l1) b14 (Int.toNat (if (w32 ((ln b3 : Int) - (1 : Int))) < (M l0 4) then (w32 ((ln b3 : Int) - (1 : Int))) else (M l0 4))) l2) b20 (Int.toNat (if (w32 ((ln b3 : Int) - (1 : Int))) < (M l0 4) then (w32 ((ln b3 : Int) - (1 : Int))) else (M l0 4))) l3) b26 (Int.toNat (if (w32 ((ln b3 : Int) - (1 : Int))) < (M l0 4) then (w32 ((ln b3 : Int) - (1 : Int))) else (M l0 4))) (w32 ((if (w32 ((ln b3 : Int) - (1 : Int))) < (M l0 4) then (w32 ((ln b3 : Int) - (1 : Int))) else (M l0 4)) + (1 : Int)))) l0 4 (w32 ((if (w32 ((ln b3 : Int) - (1 : Int))) < (M l0 4) then (w32 ((ln b3 : Int) - (1 : Int))) else (M l0 4)) + (1 : Int)))) K) : Wp d 69 0 [vR l0, vI l1, vI l2, vI l3, vU] [] M K Q := by
  refine r_aload_n c69_0 rfl ?_
  obtain ⟨s1, h⟩ := h
  refine r_getI c69_1 s1 ?_
  refine r_aload_n c69_4 rfl ?_
  obtain ⟨s2, h⟩ := h
  obtain ⟨b3, h⟩ := h
  obtain ⟨s4, h⟩ := h
  obtain ⟨s5, h⟩ := h
  refine r_getR c69_5 s2 s4 s5 ?_
  obtain ⟨s6, h⟩ := h
  refine r_alen c69_8 s6 ?_
  refine r_iconst c69_9 ?_
  refine r_isub c69_10 ?_
  refine r_min c69_11 (Nat.le_of_ble_eq_true rfl) ?_
  refine r_istore c69_14 (Nat.le_of_ble_eq_true rfl) ?_
  refine r_aload_n c69_16 rfl ?_
  obtain ⟨s7, h⟩ := h
  obtain ⟨b8, h⟩ := h
  obtain ⟨s9, h⟩ := h
  obtain ⟨s10, h⟩ := h
  refine r_getR c69_17 s7 s9 s10 ?_
  refine r_iload c69_20 rfl ?_
  refine r_iload_n c69_22 rfl ?_
  obtain ⟨s11, h⟩ := h
  obtain ⟨s12, h⟩ := h
  refine r_ias c69_23 s11 s12 ?_
  refine r_aload_n c69_24 rfl ?_
  obtain ⟨s13, h⟩ := h
  obtain ⟨b14, h⟩ := h
  obtain ⟨s15, h⟩ := h
  obtain ⟨s16, h⟩ := h
  refine r_getR c69_25 s13 s15 s16 ?_
  refine r_iload c69_28 rfl ?_
  refine r_iload_n c69_30 rfl ?_
  obtain ⟨s17, h⟩ := h
  obtain ⟨s18, h⟩ := h
  refine r_ias c69_31 s17 s18 ?_
  refine r_aload_n c69_32 rfl ?_
  obtain ⟨s19, h⟩ := h
  obtain ⟨b20, h⟩ := h
  obtain ⟨s21, h⟩ := h
  obtain ⟨s22, h⟩ := h
  refine r_getR c69_33 s19 s21 s22 ?_
  refine r_iload c69_36 rfl ?_
  refine r_iload_n c69_38 rfl ?_
  obtain ⟨s23, h⟩ := h
  obtain ⟨s24, h⟩ := h
  refine r_ias c69_39 s23 s24 ?_
  refine r_aload_n c69_40 rfl ?_
  obtain ⟨s25, h⟩ := h
  obtain ⟨b26, h⟩ := h
  obtain ⟨s27, h⟩ := h
  obtain ⟨s28, h⟩ := h
  refine r_getR c69_41 s25 s27 s28 ?_
  refine r_iload c69_44 rfl ?_
  refine r_iload c69_46 rfl ?_
  refine r_iconst c69_48 ?_
  refine r_iadd c69_49 ?_
  obtain ⟨s29, h⟩ := h
  obtain ⟨s30, h⟩ := h
  refine r_ias c69_50 s29 s30 ?_
  refine r_aload_n c69_51 rfl ?_
  refine r_iload c69_52 rfl ?_
  refine r_iconst c69_54 ?_
  refine r_iadd c69_55 ?_
  obtain ⟨s31, h⟩ := h
  refine r_putI c69_56 s31 ?_
  refine r_iload c69_59 rfl ?_
  exact r_iret c69_61 (Or.inl rfl) h
theorem t70_0 {d : Nat} {l0 : Nat} {l1 : Nat} {l2 : Nat} {M : Mem} {K : KK} {Q : RR → Mem → KK → Prop} (h : isO K.1 l0 7 = true ∧ isO K.1 l0 7 = true ∧ isO K.1 l0 7 = true ∧ isO K.1 l0 7 = true ∧ isO K.1 l0 7 = true ∧ Wm d 71 [vR l0, vR l1, vR l2, vI (0 : Int), vI ((mset (mset (mset M l0 5 (0 : Int)) l0 6 (0 : Int)) l0 7 (0 : Int)) l0 4), vI (0 : Int)] (mset (mset (mset M l0 5 (0 : Int)) l0 6 (0 : Int)) l0 7 (0 : Int)) K (Bk d 70 24 27 71 [vR l0, vR l1, vR l2] [] Q)) : Wp (d + 1) 70 0 [vR l0, vR l1, vR l2] [] M K Q := by
  refine r_aload_n c70_0 rfl ?_
  refine r_iconst c70_1 ?_
  obtain ⟨s1, h⟩ := h
  refine r_putI c70_2 s1 ?_
  refine r_aload_n c70_5 rfl ?_
  refine r_iconst c70_6 ?_
  obtain ⟨s2, h⟩ := h
  refine r_putI c70_7 s2 ?_
  refine r_aload_n c70_10 rfl ?_
  refine r_iconst c70_11 ?_
  obtain ⟨s3, h⟩ := h
  refine r_putI c70_12 s3 ?_
  refine r_aload_n c70_15 rfl ?_
  refine r_aload_n c70_16 rfl ?_
  refine r_aload_n c70_17 rfl ?_
  refine r_iconst c70_18 ?_
  refine r_aload_n c70_19 rfl ?_
  obtain ⟨s4, h⟩ := h
  refine r_getI c70_20 s4 ?_
  refine r_iconst c70_23 ?_
  obtain ⟨s5, h⟩ := h
  exact r_call c70_24 rfl rfl (Nat.le_of_ble_eq_true rfl) (okc_r rfl rfl s5) h
theorem t70_27 {d : Nat} {l0 : Nat} {l1 : Nat} {l2 : Nat} {M : Mem} {K : KK} {Q : RR → Mem → KK → Prop} (h : Q (.inl none) M K) : Wp d 70 27 [vR l0, vR l1, vR l2] [] M K Q := by
  exact r_ret c70_27 h
theorem t71_0 {d : Nat} {l0 : Nat} {l1 : Nat} {l2 : Nat} {l3 : Int} {l4 : Int} {l5 : Int} {M : Mem} {K : KK} {Q : RR → Mem → KK → Prop} (h : Wp d 71 3 [vR l0, vR l1, vR l2, vI l3, vI l4, vI l5, vI l3] [] M K Q) : Wp d 71 0 [vR l0, vR l1, vR l2, vI l3, vI l4, vI l5, vU] [] M K Q := by
  refine r_iload_n c71_0 rfl ?_
  refine r_istore c71_1 (Nat.le_of_ble_eq_true rfl) ?_
  exact h
theorem t71_3 {d : Nat} {l0 : Nat} {l1 : Nat} {l2 : Nat} {l3 : Int} {l4 : Int} {l5 : Int} {l6 : Int} {M : Mem} {K : KK} {Q : RR → Mem → KK → Prop} (h : (l4 ≤ l6 → Wp (d + 1) 71 113 [vR l0, vR l1, vR l2, vI l3, vI l4, vI l5, vI l6] [] M K Q) ∧ (¬ (l4 ≤ l6) → isO K.1 l0 7 = true ∧ ((200 : Int) ≤ (M l0 5) → Wp (d + 1) 71 113 [vR l0, vR l1, vR l2, vI l3, vI l4, vI l5, vI l6] [] M K Q) ∧ (¬ ((200 : Int) ≤ (M l0 5)) → isO K.1 l0 7 = true ∧ isO K.1 l0 7 = true ∧ isO K.1 l0 7 = true ∧ ∃ b5 : Nat, ((mset M l0 5 (w32 ((M l0 5) + (1 : Int)))) l0 0) = (b5 : Int) ∧ 0 < b5 ∧ isO K.1 b5 20 = true ∧ (0 ≤ l6 ∧ l6 < (ln b5 : Int)) ∧ (¬ ((mset M l0 5 (w32 ((M l0 5) + (1 : Int)))) b5 (Int.toNat l6)) = (7 : Int) → isO K.1 l0 7 = true ∧ Wm d 73 [vR l0, vR l1, vR l2, vI l6] (mset M l0 5 (w32 ((M l0 5) + (1 : Int)))) K (Bk d 71 78 81 73 [vR l0, vR l1, vR l2, vI l3, vI l4, vI l5, vI l6] [] Q)) ∧ (¬ (¬ ((mset M l0 5 (w32 ((M l0 5) + (1 : Int)))) b5 (Int.toNat l6)) = (7 : Int)) → isO K.1 l0 7 = true ∧ Wm d 72 [vR l0, vR l1, vR l2, vI l6, vI (w32 (l5 + (1 : Int)))] (mset M l0 5 (w32 ((M l0 5) + (1 : Int)))) K (Bk d 71 51 54 72 [vR l0, vR l1, vR l2, vI l3, vI l4, vI l5, vI l6] [] Q))))) : Wp (d + 1) 71 3 [vR l0, vR l1, vR l2, vI l3, vI l4, vI l5, vI l6] [] M K Q := by
  refine r_iload c71_3 rfl ?_
  refine r_iload c71_5 rfl ?_
  refine r_icmpP (P := l4 ≤ l6) c71_7 rfl (fun hc => ?_) (fun hc => ?_)
  · replace h := h.1 hc
    exact h
  · replace h := h.2 hc
    refine r_aload_n c71_10 rfl ?_
    obtain ⟨s1, h⟩ := h
    refine r_getI c71_11 s1 ?_
    refine r_sipush c71_14 ?_
    refine r_icmpP (P := (200 : Int) ≤ (M l0 5)) c71_17 rfl (fun hc => ?_) (fun hc => ?_)
    · replace h := h.1 hc
      exact h
    · replace h := h.2 hc
      refine r_aload_n c71_20 rfl ?_
      refine r_dupr c71_21 ?_
      obtain ⟨s2, h⟩ := h
      refine r_getI c71_22 s2 ?_
      refine r_iconst c71_25 ?_
      refine r_iadd c71_26 ?_
      obtain ⟨s3, h⟩ := h
      refine r_putI c71_27 s3 ?_
      refine r_aload_n c71_30 rfl ?_
      obtain ⟨s4, h⟩ := h
      obtain ⟨b5, h⟩ := h
      obtain ⟨s6, h⟩ := h
      obtain ⟨s7, h⟩ := h
      refine r_getR c71_31 s4 s6 s7 ?_
      refine r_iload c71_34 rfl ?_
      obtain ⟨s8, h⟩ := h
      obtain ⟨s9, h⟩ := h
      refine r_ia c71_36 s8 s9 ?_
      refine r_bipush c71_37 ?_
      refine r_icmpP (P := ¬ ((mset M l0 5 (w32 ((M l0 5) + (1 : Int)))) b5 (Int.toNat l6)) = (7 : Int)) c71_39 rfl (fun hc => ?_) (fun hc => ?_)
      · replace h := h.1 hc
        refine r_aload_n c71_73 rfl ?_
        refine r_aload_n c71_74 rfl ?_
        refine r_aload_n c71_75 rfl ?_
        refine r_iload c71_76 rfl ?_
        obtain ⟨s10, h⟩ := h
        exact r_call c71_78 rfl rfl (Nat.le_of_ble_eq_true rfl) (okc_r rfl rfl s10) h
      · replace h := h.2 hc
        refine r_aload_n c71_42 rfl ?_
        refine r_aload_n c71_43 rfl ?_
        refine r_aload_n c71_44 rfl ?_
        refine r_iload c71_45 rfl ?_
        refine r_iload c71_47 rfl ?_
        refine r_iconst c71_49 ?_
        refine r_iadd c71_50 ?_
        obtain ⟨s11, h⟩ := h
        exact r_call c71_51 rfl rfl (Nat.le_of_ble_eq_true rfl) (okc_r rfl rfl s11) h
theorem t71_54 {d : Nat} {l0 : Nat} {l1 : Nat} {l2 : Nat} {l3 : Int} {l4 : Int} {l5 : Int} {l6 : Int} {M : Mem} {K : KK} {Q : RR → Mem → KK → Prop} (h : isO K.1 l0 7 = true ∧ ∃ b2 : Nat, (M l0 3) = (b2 : Int) ∧ 0 < b2 ∧ isO K.1 b2 20 = true ∧ (0 ≤ l6 ∧ l6 < (ln b2 : Int)) ∧ Wp d 71 107 [vR l0, vR l1, vR l2, vI l3, vI l4, vI l5, vI (if l6 < (w32 ((M b2 (Int.toNat l6)) - (1 : Int))) then (w32 ((M b2 (Int.toNat l6)) - (1 : Int))) else l6)] [] M K Q) : Wp d 71 54 [vR l0, vR l1, vR l2, vI l3, vI l4, vI l5, vI l6] [] M K Q := by
  refine r_iload c71_54 rfl ?_
  refine r_aload_n c71_56 rfl ?_
  obtain ⟨s1, h⟩ := h
  obtain ⟨b2, h⟩ := h
  obtain ⟨s3, h⟩ := h
  obtain ⟨s4, h⟩ := h
  refine r_getR c71_57 s1 s3 s4 ?_
  refine r_iload c71_60 rfl ?_
  obtain ⟨s5, h⟩ := h
  obtain ⟨s6, h⟩ := h
  refine r_ia c71_62 s5 s6 ?_
  refine r_iconst c71_63 ?_
  refine r_isub c71_64 ?_
  refine r_max c71_65 (Nat.le_of_ble_eq_true rfl) ?_
  refine r_istore c71_68 (Nat.le_of_ble_eq_true rfl) ?_
  refine r_goto c71_70 ?_
  exact h
theorem t71_81 {d : Nat} {l0 : Nat} {l1 : Nat} {l2 : Nat} {l3 : Int} {l4 : Int} {l5 : Int} {l6 : Int} {t0 : Int} {M : Mem} {K : KK} {Q : RR → Mem → KK → Prop} (h : (t0 = (0 : Int) → isO K.1 l0 7 = true ∧ isO K.1 l0 7 = true ∧ Wp d 71 107 [vR l0, vR l1, vR l2, vI l3, vI l4, vI l5, vI l6] [] (mset M l0 7 (w32 ((M l0 7) + (1 : Int)))) K Q) ∧ (¬ (t0 = (0 : Int)) → isO K.1 l0 7 = true ∧ isO K.1 l0 7 = true ∧ Wp d 71 107 [vR l0, vR l1, vR l2, vI l3, vI l4, vI l5, vI l6] [] (mset M l0 6 (w32 ((M l0 6) + (1 : Int)))) K Q)) : Wp d 71 81 [vR l0, vR l1, vR l2, vI l3, vI l4, vI l5, vI l6] [vI t0] M K Q := by
  refine r_ifP (P := t0 = (0 : Int)) c71_81 rfl (fun hc => ?_) (fun hc => ?_)
  · replace h := h.1 hc
    refine r_aload_n c71_97 rfl ?_
    refine r_dupr c71_98 ?_
    obtain ⟨s1, h⟩ := h
    refine r_getI c71_99 s1 ?_
    refine r_iconst c71_102 ?_
    refine r_iadd c71_103 ?_
    obtain ⟨s2, h⟩ := h
    refine r_putI c71_104 s2 ?_
    exact h
  · replace h := h.2 hc
    refine r_aload_n c71_84 rfl ?_
    refine r_dupr c71_85 ?_
    obtain ⟨s3, h⟩ := h
    refine r_getI c71_86 s3 ?_
    refine r_iconst c71_89 ?_
    refine r_iadd c71_90 ?_
    obtain ⟨s4, h⟩ := h
    refine r_putI c71_91 s4 ?_
    refine r_goto c71_94 ?_
    exact h
theorem t71_107 {d : Nat} {l0 : Nat} {l1 : Nat} {l2 : Nat} {l3 : Int} {l4 : Int} {l5 : Int} {l6 : Int} {M : Mem} {K : KK} {Q : RR → Mem → KK → Prop} (h : Wp d 71 3 [vR l0, vR l1, vR l2, vI l3, vI l4, vI l5, vI (w32 (l6 + 1))] [] M K Q) : Wp d 71 107 [vR l0, vR l1, vR l2, vI l3, vI l4, vI l5, vI l6] [] M K Q := by
  refine r_iinc c71_107 rfl ?_
  refine r_goto c71_110 ?_
  exact h
theorem t71_113 {d : Nat} {l0 : Nat} {l1 : Nat} {l2 : Nat} {l3 : Int} {l4 : Int} {l5 : Int} {l6 : Int} {M : Mem} {K : KK} {Q : RR → Mem → KK → Prop} (h : Q (.inl none) M K) : Wp d 71 113 [vR l0, vR l1, vR l2, vI l3, vI l4, vI l5, vI l6] [] M K Q := by
  exact r_ret c71_113 h
theorem t72_0 {d : Nat} {l0 : Nat} {l1 : Nat} {l2 : Nat} {l3 : Int} {l4 : Int} {M : Mem} {K : KK} {Q : RR → Mem → KK → Prop} (h : Wp d 72 3 [vR l0, vR l1, vR l2, vI l3, vI l4, vI (0 : Int)] [] M K Q) : Wp d 72 0 [vR l0, vR l1, vR l2, vI l3, vI l4, vU] [] M K Q := by
  refine r_iconst c72_0 ?_
  refine r_istore c72_1 (Nat.le_of_ble_eq_true rfl) ?_
  exact h
theorem t72_3 {d : Nat} {l0 : Nat} {l1 : Nat} {l2 : Nat} {l3 : Int} {l4 : Int} {l5 : Int} {M : Mem} {K : KK} {Q : RR → Mem → KK → Prop} (h : isO K.1 l0 7 = true ∧ ∃ b2 : Nat, (M l0 1) = (b2 : Int) ∧ 0 < b2 ∧ isO K.1 b2 20 = true ∧ (0 ≤ l3 ∧ l3 < (ln b2 : Int)) ∧ ((M b2 (Int.toNat l3)) ≤ l5 → Wp (d + 1) 72 54 [vR l0, vR l1, vR l2, vI l3, vI l4, vI l5] [] M K Q) ∧ (¬ ((M b2 (Int.toNat l3)) ≤ l5) → isO K.1 l0 7 = true ∧ ((200 : Int) ≤ (M l0 5) → Wp (d + 1) 72 54 [vR l0, vR l1, vR l2, vI l3, vI l4, vI l5] [] M K Q) ∧ (¬ ((200 : Int) ≤ (M l0 5)) → ((6 : Int) < l4 → Wp (d + 1) 72 54 [vR l0, vR l1, vR l2, vI l3, vI l4, vI l5] [] M K Q) ∧ (¬ ((6 : Int) < l4) → isO K.1 l0 7 = true ∧ ∃ b9 : Nat, (M l0 3) = (b9 : Int) ∧ 0 < b9 ∧ isO K.1 b9 20 = true ∧ (0 ≤ l3 ∧ l3 < (ln b9 : Int)) ∧ isO K.1 l0 7 = true ∧ Wm d 71 [vR l0, vR l1, vR l2, vI (w32 (l3 + (1 : Int))), vI (M b9 (Int.toNat l3)), vI l4] M K (Bk d 72 45 48 71 [vR l0, vR l1, vR l2, vI l3, vI l4, vI l5] [] Q))))) : Wp (d + 1) 72 3 [vR l0, vR l1, vR l2, vI l3, vI l4, vI l5] [] M K Q := by
  refine r_iload c72_3 rfl ?_
  refine r_aload_n c72_5 rfl ?_
  obtain ⟨s1, h⟩ := h
  obtain ⟨b2, h⟩ := h
  obtain ⟨s3, h⟩ := h
  obtain ⟨s4, h⟩ := h
  refine r_getR c72_6 s1 s3 s4 ?_
  refine r_iload_n c72_9 rfl ?_
  obtain ⟨s5, h⟩ := h
  obtain ⟨s6, h⟩ := h
  refine r_ia c72_10 s5 s6 ?_
  refine r_icmpP (P := (M b2 (Int.toNat l3)) ≤ l5) c72_11 rfl (fun hc => ?_) (fun hc => ?_)
  · replace h := h.1 hc
    exact h
  · replace h := h.2 hc
    refine r_aload_n c72_14 rfl ?_
    obtain ⟨s7, h⟩ := h
    refine r_getI c72_15 s7 ?_
    refine r_sipush c72_18 ?_
    refine r_icmpP (P := (200 : Int) ≤ (M l0 5)) c72_21 rfl (fun hc => ?_) (fun hc => ?_)
    · replace h := h.1 hc
      exact h
    · replace h := h.2 hc
      refine r_iload c72_24 rfl ?_
      refine r_bipush c72_26 ?_
      refine r_icmpP (P := (6 : Int) < l4) c72_28 rfl (fun hc => ?_) (fun hc => ?_)
      · replace h := h.1 hc
        exact h
      · replace h := h.2 hc
        refine r_aload_n c72_31 rfl ?_
        refine r_aload_n c72_32 rfl ?_
        refine r_aload_n c72_33 rfl ?_
        refine r_iload_n c72_34 rfl ?_
        refine r_iconst c72_35 ?_
        refine r_iadd c72_36 ?_
        refine r_aload_n c72_37 rfl ?_
        obtain ⟨s8, h⟩ := h
        obtain ⟨b9, h⟩ := h
        obtain ⟨s10, h⟩ := h
        obtain ⟨s11, h⟩ := h
        refine r_getR c72_38 s8 s10 s11 ?_
        refine r_iload_n c72_41 rfl ?_
        obtain ⟨s12, h⟩ := h
        obtain ⟨s13, h⟩ := h
        refine r_ia c72_42 s12 s13 ?_
        refine r_iload c72_43 rfl ?_
        obtain ⟨s14, h⟩ := h
        exact r_call c72_45 rfl rfl (Nat.le_of_ble_eq_true rfl) (okc_r rfl rfl s14) h
theorem t72_48 {d : Nat} {l0 : Nat} {l1 : Nat} {l2 : Nat} {l3 : Int} {l4 : Int} {l5 : Int} {M : Mem} {K : KK} {Q : RR → Mem → KK → Prop} (h : Wp d 72 3 [vR l0, vR l1, vR l2, vI l3, vI l4, vI (w32 (l5 + 1))] [] M K Q) : Wp d 72 48 [vR l0, vR l1, vR l2, vI l3, vI l4, vI l5] [] M K Q := by
  refine r_iinc c72_48 rfl ?_
  refine r_goto c72_51 ?_
  exact h
theorem t72_54 {d : Nat} {l0 : Nat} {l1 : Nat} {l2 : Nat} {l3 : Int} {l4 : Int} {l5 : Int} {M : Mem} {K : KK} {Q : RR → Mem → KK → Prop} (h : Q (.inl none) M K) : Wp d 72 54 [vR l0, vR l1, vR l2, vI l3, vI l4, vI l5] [] M K Q := by
  exact r_ret c72_54 h
theorem t73_0 {d : Nat} {l0 : Nat} {l1 : Nat} {l2 : Nat} {l3 : Int} {M : Mem} {K : KK} {Q : RR → Mem → KK → Prop} (h : isO K.1 l0 7 = true ∧ ∃ b2 : Nat, (M l0 0) = (b2 : Int) ∧ 0 < b2 ∧ isO K.1 b2 20 = true ∧ (0 ≤ l3 ∧ l3 < (ln b2 : Int)) ∧ Wp d 73 (tsw 6 97 1 5 #[34, 52, 63, 74, 85] (M b2 (Int.toNat l3))) [vR l0, vR l1, vR l2, vI l3] [] M K Q) : Wp d 73 0 [vR l0, vR l1, vR l2, vI l3] [] M K Q := by
  refine r_aload_n c73_0 rfl ?_
  obtain ⟨s1, h⟩ := h
  obtain ⟨b2, h⟩ := h
  obtain ⟨s3, h⟩ := h
  obtain ⟨s4, h⟩ := h
  refine r_getR c73_1 s1 s3 s4 ?_
  refine r_iload_n c73_4 rfl ?_
  obtain ⟨s5, h⟩ := h
  obtain ⟨s6, h⟩ := h
  refine r_ia c73_5 s5 s6 ?_
  refine r_tsw c73_6 ?_
  exact h
theorem t73_40 {d : Nat} {l0 : Nat} {l1 : Nat} {l2 : Nat} {l3 : Int} {M : Mem} {K : KK} {Q : RR → Mem → KK → Prop} (h : isO K.1 l0 7 = true ∧ ∃ b2 : Nat, (M l0 1) = (b2 : Int) ∧ 0 < b2 ∧ isO K.1 b2 20 = true ∧ (0 ≤ l3 ∧ l3 < (ln b2 : Int)) ∧ isO K.1 l0 7 = true ∧ ∃ b8 : Nat, (M l0 2) = (b8 : Int) ∧ 0 < b8 ∧ isO K.1 b8 20 = true ∧ (0 ≤ l3 ∧ l3 < (ln b8 : Int)) ∧ isO K.1 l1 3 = true ∧ Wm d 31 [vR l1, vR l2, vI (M b2 (Int.toNat l3)), vI (M b8 (Int.toNat l3))] M K (Bk d 73 54 57 31 [vR l0, vR l1, vR l2, vI l3] [] Q)) : Wp (d + 1) 73 40 [vR l0, vR l1, vR l2, vI l3] [] M K Q := by
  refine r_aload_n c73_40 rfl ?_
  refine r_aload_n c73_41 rfl ?_
  refine r_aload_n c73_42 rfl ?_
  obtain ⟨s1, h⟩ := h
  obtain ⟨b2, h⟩ := h
  obtain ⟨s3, h⟩ := h
  obtain ⟨s4, h⟩ := h
  refine r_getR c73_43 s1 s3 s4 ?_
  refine r_iload_n c73_46 rfl ?_
  obtain ⟨s5, h⟩ := h
  obtain ⟨s6, h⟩ := h
  refine r_ia c73_47 s5 s6 ?_
  refine r_aload_n c73_48 rfl ?_
  obtain ⟨s7, h⟩ := h
  obtain ⟨b8, h⟩ := h
  obtain ⟨s9, h⟩ := h
  obtain ⟨s10, h⟩ := h
  refine r_getR c73_49 s7 s9 s10 ?_
  refine r_iload_n c73_52 rfl ?_
  obtain ⟨s11, h⟩ := h
  obtain ⟨s12, h⟩ := h
  refine r_ia c73_53 s11 s12 ?_
  obtain ⟨s13, h⟩ := h
  exact r_call c73_54 rfl rfl (Nat.le_of_ble_eq_true rfl) (okc_r rfl rfl s13) h
theorem t73_57 {d : Nat} {l0 : Nat} {l1 : Nat} {l2 : Nat} {l3 : Int} {t0 : Int} {M : Mem} {K : KK} {Q : RR → Mem → KK → Prop} (h : (t0 = 0 ∨ t0 = 1) ∧ Q (.inl (some (vI t0))) M K) : Wp d 73 57 [vR l0, vR l1, vR l2, vI l3] [vI t0] M K Q := by
  obtain ⟨s1, h⟩ := h
  exact r_iret c73_57 (Or.inr s1) h
theorem t73_58 {d : Nat} {l0 : Nat} {l1 : Nat} {l2 : Nat} {l3 : Int} {M : Mem} {K : KK} {Q : RR → Mem → KK → Prop} (h : isO K.1 l0 7 = true ∧ ∃ b2 : Nat, (M l0 1) = (b2 : Int) ∧ 0 < b2 ∧ isO K.1 b2 20 = true ∧ (0 ≤ l3 ∧ l3 < (ln b2 : Int)) ∧ isO K.1 l1 3 = true ∧ Wm d 32 [vR l1, vI (M b2 (Int.toNat l3))] M K (Bk d 73 65 68 32 [vR l0, vR l1, vR l2, vI l3] [] Q)) : Wp (d + 1) 73 58 [vR l0, vR l1, vR l2, vI l3] [] M K Q := by
  refine r_aload_n c73_58 rfl ?_
  refine r_aload_n c73_59 rfl ?_
  obtain ⟨s1, h⟩ := h
  obtain ⟨b2, h⟩ := h
  obtain ⟨s3, h⟩ := h
  obtain ⟨s4, h⟩ := h
  refine r_getR c73_60 s1 s3 s4 ?_
  refine r_iload_n c73_63 rfl ?_
  obtain ⟨s5, h⟩ := h
  obtain ⟨s6, h⟩ := h
  refine r_ia c73_64 s5 s6 ?_
  obtain ⟨s7, h⟩ := h
  exact r_call c73_65 rfl rfl (Nat.le_of_ble_eq_true rfl) (okc_r rfl rfl s7) h
theorem t73_68 {d : Nat} {l0 : Nat} {l1 : Nat} {l2 : Nat} {l3 : Int} {t0 : Int} {M : Mem} {K : KK} {Q : RR → Mem → KK → Prop} (h : (t0 = 0 ∨ t0 = 1) ∧ Q (.inl (some (vI t0))) M K) : Wp d 73 68 [vR l0, vR l1, vR l2, vI l3] [vI t0] M K Q := by
  obtain ⟨s1, h⟩ := h
  exact r_iret c73_68 (Or.inr s1) h
theorem t73_69 {d : Nat} {l0 : Nat} {l1 : Nat} {l2 : Nat} {l3 : Int} {M : Mem} {K : KK} {Q : RR → Mem → KK → Prop} (h : isO K.1 l0 7 = true ∧ ∃ b2 : Nat, (M l0 1) = (b2 : Int) ∧ 0 < b2 ∧ isO K.1 b2 20 = true ∧ (0 ≤ l3 ∧ l3 < (ln b2 : Int)) ∧ isO K.1 l1 3 = true ∧ Wm d 33 [vR l1, vI (M b2 (Int.toNat l3))] M K (Bk d 73 76 79 33 [vR l0, vR l1, vR l2, vI l3] [] Q)) : Wp (d + 1) 73 69 [vR l0, vR l1, vR l2, vI l3] [] M K Q := by
  refine r_aload_n c73_69 rfl ?_
  refine r_aload_n c73_70 rfl ?_
  obtain ⟨s1, h⟩ := h
  obtain ⟨b2, h⟩ := h
  obtain ⟨s3, h⟩ := h
  obtain ⟨s4, h⟩ := h
  refine r_getR c73_71 s1 s3 s4 ?_
  refine r_iload_n c73_74 rfl ?_
  obtain ⟨s5, h⟩ := h
  obtain ⟨s6, h⟩ := h
  refine r_ia c73_75 s5 s6 ?_
  obtain ⟨s7, h⟩ := h
  exact r_call c73_76 rfl rfl (Nat.le_of_ble_eq_true rfl) (okc_r rfl rfl s7) h
theorem t73_79 {d : Nat} {l0 : Nat} {l1 : Nat} {l2 : Nat} {l3 : Int} {t0 : Int} {M : Mem} {K : KK} {Q : RR → Mem → KK → Prop} (h : (t0 = 0 ∨ t0 = 1) ∧ Q (.inl (some (vI t0))) M K) : Wp d 73 79 [vR l0, vR l1, vR l2, vI l3] [vI t0] M K Q := by
  obtain ⟨s1, h⟩ := h
  exact r_iret c73_79 (Or.inr s1) h
theorem t73_80 {d : Nat} {l0 : Nat} {l1 : Nat} {l2 : Nat} {l3 : Int} {M : Mem} {K : KK} {Q : RR → Mem → KK → Prop} (h : isO K.1 l0 7 = true ∧ ∃ b2 : Nat, (M l0 1) = (b2 : Int) ∧ 0 < b2 ∧ isO K.1 b2 20 = true ∧ (0 ≤ l3 ∧ l3 < (ln b2 : Int)) ∧ isO K.1 l1 3 = true ∧ Wm d 34 [vR l1, vI (M b2 (Int.toNat l3))] M K (Bk d 73 87 90 34 [vR l0, vR l1, vR l2, vI l3] [] Q)) : Wp (d + 1) 73 80 [vR l0, vR l1, vR l2, vI l3] [] M K Q := by
  refine r_aload_n c73_80 rfl ?_
  refine r_aload_n c73_81 rfl ?_
  obtain ⟨s1, h⟩ := h
  obtain ⟨b2, h⟩ := h
  obtain ⟨s3, h⟩ := h
  obtain ⟨s4, h⟩ := h
  refine r_getR c73_82 s1 s3 s4 ?_
  refine r_iload_n c73_85 rfl ?_
  obtain ⟨s5, h⟩ := h
  obtain ⟨s6, h⟩ := h
  refine r_ia c73_86 s5 s6 ?_
  obtain ⟨s7, h⟩ := h
  exact r_call c73_87 rfl rfl (Nat.le_of_ble_eq_true rfl) (okc_r rfl rfl s7) h
theorem t73_90 {d : Nat} {l0 : Nat} {l1 : Nat} {l2 : Nat} {l3 : Int} {t0 : Int} {M : Mem} {K : KK} {Q : RR → Mem → KK → Prop} (h : (t0 = 0 ∨ t0 = 1) ∧ Q (.inl (some (vI t0))) M K) : Wp d 73 90 [vR l0, vR l1, vR l2, vI l3] [vI t0] M K Q := by
  obtain ⟨s1, h⟩ := h
  exact r_iret c73_90 (Or.inr s1) h
theorem t73_91 {d : Nat} {l0 : Nat} {l1 : Nat} {l2 : Nat} {l3 : Int} {M : Mem} {K : KK} {Q : RR → Mem → KK → Prop} (h : isO K.1 l0 7 = true ∧ ∃ b2 : Nat, (M l0 1) = (b2 : Int) ∧ 0 < b2 ∧ isO K.1 b2 20 = true ∧ (0 ≤ l3 ∧ l3 < (ln b2 : Int)) ∧ isO K.1 l1 3 = true ∧ Wm d 35 [vR l1, vR l2, vI (M b2 (Int.toNat l3))] M K (Bk d 73 99 102 35 [vR l0, vR l1, vR l2, vI l3] [] Q)) : Wp (d + 1) 73 91 [vR l0, vR l1, vR l2, vI l3] [] M K Q := by
  refine r_aload_n c73_91 rfl ?_
  refine r_aload_n c73_92 rfl ?_
  refine r_aload_n c73_93 rfl ?_
  obtain ⟨s1, h⟩ := h
  obtain ⟨b2, h⟩ := h
  obtain ⟨s3, h⟩ := h
  obtain ⟨s4, h⟩ := h
  refine r_getR c73_94 s1 s3 s4 ?_
  refine r_iload_n c73_97 rfl ?_
  obtain ⟨s5, h⟩ := h
  obtain ⟨s6, h⟩ := h
  refine r_ia c73_98 s5 s6 ?_
  obtain ⟨s7, h⟩ := h
  exact r_call c73_99 rfl rfl (Nat.le_of_ble_eq_true rfl) (okc_r rfl rfl s7) h
theorem t73_102 {d : Nat} {l0 : Nat} {l1 : Nat} {l2 : Nat} {l3 : Int} {t0 : Int} {M : Mem} {K : KK} {Q : RR → Mem → KK → Prop} (h : (t0 = 0 ∨ t0 = 1) ∧ Q (.inl (some (vI t0))) M K) : Wp d 73 102 [vR l0, vR l1, vR l2, vI l3] [vI t0] M K Q := by
  obtain ⟨s1, h⟩ := h
  exact r_iret c73_102 (Or.inr s1) h
theorem t73_103 {d : Nat} {l0 : Nat} {l1 : Nat} {l2 : Nat} {l3 : Int} {M : Mem} {K : KK} {Q : RR → Mem → KK → Prop} (h : isO K.1 l1 3 = true ∧ ((M l1 4) < (500 : Int) → isO K.1 l1 3 = true ∧ isO K.1 l2 0 = true ∧ Wm d 7 [vR l2, vI (M l1 4)] M K (Bk d 73 122 125 7 [vR l0, vR l1, vR l2, vI l3] [vR l2, vR l1] Q)) ∧ (¬ ((M l1 4) < (500 : Int)) → Q (.inl (some (vI (0 : Int)))) M K)) : Wp (d + 1) 73 103 [vR l0, vR l1, vR l2, vI l3] [] M K Q := by
  refine r_aload_n c73_103 rfl ?_
  obtain ⟨s1, h⟩ := h
  refine r_getI c73_104 s1 ?_
  refine r_sipush c73_107 ?_
  refine r_icmpP (P := (M l1 4) < (500 : Int)) c73_110 rfl (fun hc => ?_) (fun hc => ?_)
  · replace h := h.1 hc
    refine r_aload_n c73_115 rfl ?_
    refine r_aload_n c73_116 rfl ?_
    refine r_aload_n c73_117 rfl ?_
    refine r_aload_n c73_118 rfl ?_
    obtain ⟨s2, h⟩ := h
    refine r_getI c73_119 s2 ?_
    obtain ⟨s3, h⟩ := h
    exact r_call c73_122 rfl rfl (Nat.le_of_ble_eq_true rfl) (okc_r rfl rfl s3) h
  · replace h := h.2 hc
    refine r_iconst c73_113 ?_
    exact r_iret c73_114 (by decide) h
theorem t73_125 {d : Nat} {l0 : Nat} {l1 : Nat} {l2 : Nat} {l3 : Int} {t0 : Nat} {t1 : Nat} {t2 : Int} {M : Mem} {K : KK} {Q : RR → Mem → KK → Prop} (h : isO K.1 t0 3 = true ∧ Wm d 36 [vR t0, vR t1, vI t2] M K (Bk d 73 125 128 36 [vR l0, vR l1, vR l2, vI l3] [] Q)) : Wp (d + 1) 73 125 [vR l0, vR l1, vR l2, vI l3] [vI t2, vR t1, vR t0] M K Q := by
  obtain ⟨s1, h⟩ := h
  exact r_call c73_125 rfl rfl (Nat.le_of_ble_eq_true rfl) (okc_r rfl rfl s1) h
theorem t73_128 {d : Nat} {l0 : Nat} {l1 : Nat} {l2 : Nat} {l3 : Int} {M : Mem} {K : KK} {Q : RR → Mem → KK → Prop} (h : Q (.inl (some (vI (1 : Int)))) M K) : Wp d 73 128 [vR l0, vR l1, vR l2, vI l3] [] M K Q := by
  refine r_iconst c73_128 ?_
  exact r_iret c73_129 (by decide) h
theorem t74_0 {d : Nat} {l0 : Nat} {M : Mem} {K : KK} {Q : RR → Mem → KK → Prop} (h : Q (.inl none) M K) : Wp d 74 0 [vR l0] [] M K Q := by
  refine r_aload_n c74_0 rfl ?_
  refine r_obj c74_1 (Nat.le_of_ble_eq_true rfl) ?_
  exact r_ret c74_4 h
theorem t75_0 {d : Nat} {l0 : Nat} {M : Mem} {K : KK} {Q : RR → Mem → KK → Prop} (h : isO K.1 l0 8 = true ∧ isO K.1 l0 8 = true ∧ isO K.1 l0 8 = true ∧ Q (.inl none) (mset (mset (mset M l0 0 (0 : Int)) l0 1 (0 : Int)) l0 2 (0 : Int)) K) : Wp d 75 0 [vR l0] [] M K Q := by
  refine r_aload_n c75_0 rfl ?_
  refine r_iconst c75_1 ?_
  obtain ⟨s1, h⟩ := h
  refine r_putI c75_2 s1 ?_
  refine r_aload_n c75_5 rfl ?_
  refine r_iconst c75_6 ?_
  obtain ⟨s2, h⟩ := h
  refine r_putI c75_7 s2 ?_
  refine r_aload_n c75_10 rfl ?_
  refine r_iconst c75_11 ?_
  obtain ⟨s3, h⟩ := h
  refine r_putI c75_12 s3 ?_
  exact r_ret c75_15 h
theorem t76_0 {d : Nat} {l0 : Nat} {l1 : Nat} {l2 : Nat} {M : Mem} {K : KK} {Q : RR → Mem → KK → Prop} (h : isO K.1 l0 8 = true ∧ Wm d 75 [vR l0] M K (Bk d 76 1 4 75 [vR l0, vR l1, vR l2, vU, vU, vU, vU] [] Q)) : Wp (d + 1) 76 0 [vR l0, vR l1, vR l2, vU, vU, vU, vU] [] M K Q := by
  refine r_aload_n c76_0 rfl ?_
  obtain ⟨s1, h⟩ := h
  exact r_call c76_1 rfl rfl (Nat.le_of_ble_eq_true rfl) (okc_r rfl rfl s1) h
theorem t76_4 {d : Nat} {l0 : Nat} {l1 : Nat} {l2 : Nat} {M : Mem} {K : KK} {Q : RR → Mem → KK → Prop} (h : Wp d 76 6 [vR l0, vR l1, vR l2, vI (0 : Int), vU, vU, vU] [] M K Q) : Wp d 76 4 [vR l0, vR l1, vR l2, vU, vU, vU, vU] [] M K Q := by
  refine r_iconst c76_4 ?_
  refine r_istore_n c76_5 (Nat.le_of_ble_eq_true rfl) ?_
  exact h
theorem t76_6 {d : Nat} {l0 : Nat} {l1 : Nat} {l2 : Nat} {l3 : Int} {l4 : PV} {l5 : PV} {l6 : PV} {M : Mem} {K : KK} {Q : RR → Mem → KK → Prop} (h : ((60 : Int) ≤ l3 → Wp (d + 1) 76 115 [vR l0, vR l1, vR l2, vI l3, l4, l5, l6] [] M K Q) ∧ (¬ ((60 : Int) ≤ l3) → isO K.1 l1 10 = true ∧ Wm d 88 [vR l1] M K (Bk d 76 13 16 88 [vR l0, vR l1, vR l2, vI l3, l4, l5, l6] [] Q))) : Wp (d + 1) 76 6 [vR l0, vR l1, vR l2, vI l3, l4, l5, l6] [] M K Q := by
  refine r_iload_n c76_6 rfl ?_
  refine r_bipush c76_7 ?_
  refine r_icmpP (P := (60 : Int) ≤ l3) c76_9 rfl (fun hc => ?_) (fun hc => ?_)
  · replace h := h.1 hc
    exact h
  · replace h := h.2 hc
    refine r_aload_n c76_12 rfl ?_
    obtain ⟨s1, h⟩ := h
    exact r_call c76_13 rfl rfl (Nat.le_of_ble_eq_true rfl) (okc_r rfl rfl s1) h
theorem t76_16 {d : Nat} {l0 : Nat} {l1 : Nat} {l2 : Nat} {l3 : Int} {l4 : PV} {l5 : PV} {l6 : PV} {t0 : Int} {M : Mem} {K : KK} {Q : RR → Mem → KK → Prop} (h : (t0 = (-1 : Int) → Wp (d + 1) 76 115 [vR l0, vR l1, vR l2, vI l3, l4, l5, l6] [] M K Q) ∧ (¬ (t0 = (-1 : Int)) → isO K.1 l1 10 = true ∧ isO K.1 l2 0 = true ∧ isO K.1 l1 10 = true ∧ Wm d 92 [vR l1, vI (0 : Int), vI (w32 ((M l2 7) - (1 : Int)))] M K (Bk d 76 34 37 92 [vR l0, vR l1, vR l2, vI l3, vI (M l1 3), l5, l6] [] Q))) : Wp (d + 1) 76 16 [vR l0, vR l1, vR l2, vI l3, l4, l5, l6] [vI t0] M K Q := by
  refine r_iconst c76_16 ?_
  refine r_icmpP (P := t0 = (-1 : Int)) c76_17 rfl (fun hc => ?_) (fun hc => ?_)
  · replace h := h.1 hc
    exact h
  · replace h := h.2 hc
    refine r_aload_n c76_20 rfl ?_
    obtain ⟨s1, h⟩ := h
    refine r_getI c76_21 s1 ?_
    refine r_istore c76_24 (Nat.le_of_ble_eq_true rfl) ?_
    refine r_aload_n c76_26 rfl ?_
    refine r_iconst c76_27 ?_
    refine r_aload_n c76_28 rfl ?_
    obtain ⟨s2, h⟩ := h
    refine r_getI c76_29 s2 ?_
    refine r_iconst c76_32 ?_
    refine r_isub c76_33 ?_
    obtain ⟨s3, h⟩ := h
    exact r_call c76_34 rfl rfl (Nat.le_of_ble_eq_true rfl) (okc_r rfl rfl s3) h
theorem t76_37 {d : Nat} {l0 : Nat} {l1 : Nat} {l2 : Nat} {l3 : Int} {l4 : Int} {l5 : PV} {l6 : PV} {t0 : Int} {M : Mem} {K : KK} {Q : RR → Mem → KK → Prop} (h : isO K.1 l0 8 = true ∧ Wm d 77 [vR l0, vI t0] M K (Bk d 76 42 45 77 [vR l0, vR l1, vR l2, vI l3, vI l4, vI t0, l6] [] Q)) : Wp (d + 1) 76 37 [vR l0, vR l1, vR l2, vI l3, vI l4, l5, l6] [vI t0] M K Q := by
  refine r_istore c76_37 (Nat.le_of_ble_eq_true rfl) ?_
  refine r_aload_n c76_39 rfl ?_
  refine r_iload c76_40 rfl ?_
  obtain ⟨s1, h⟩ := h
  exact r_call c76_42 rfl rfl (Nat.le_of_ble_eq_true rfl) (okc_r rfl rfl s1) h
theorem t76_45 {d : Nat} {l0 : Nat} {l1 : Nat} {l2 : Nat} {l3 : Int} {l4 : Int} {l5 : Int} {l6 : PV} {t0 : Int} {M : Mem} {K : KK} {Q : RR → Mem → KK → Prop} (h : (t0 = (0 : Int) → Wp (d + 1) 76 55 [vR l0, vR l1, vR l2, vI l3, vI l4, vI l5, l6] [] M K Q) ∧ (¬ (t0 = (0 : Int)) → isO K.1 l1 10 = true ∧ Wm d 87 [vR l1, vI (2 : Int), vI l4] M K (Bk d 76 52 55 87 [vR l0, vR l1, vR l2, vI l3, vI l4, vI l5, l6] [] Q))) : Wp (d + 1) 76 45 [vR l0, vR l1, vR l2, vI l3, vI l4, vI l5, l6] [vI t0] M K Q := by
  refine r_ifP (P := t0 = (0 : Int)) c76_45 rfl (fun hc => ?_) (fun hc => ?_)
  · replace h := h.1 hc
    exact h
  · replace h := h.2 hc
    refine r_aload_n c76_48 rfl ?_
    refine r_iconst c76_49 ?_
    refine r_iload c76_50 rfl ?_
    obtain ⟨s1, h⟩ := h
    exact r_call c76_52 rfl rfl (Nat.le_of_ble_eq_true rfl) (okc_r rfl rfl s1) h
theorem t76_55 {d : Nat} {l0 : Nat} {l1 : Nat} {l2 : Nat} {l3 : Int} {l4 : Int} {l5 : Int} {l6 : PV} {M : Mem} {K : KK} {Q : RR → Mem → KK → Prop} (h : isO K.1 l1 10 = true ∧ Wm d 92 [vR l1, vI (0 : Int), vI (1 : Int)] M K (Bk d 76 58 61 92 [vR l0, vR l1, vR l2, vI l3, vI l4, vI l5, l6] [] Q)) : Wp (d + 1) 76 55 [vR l0, vR l1, vR l2, vI l3, vI l4, vI l5, l6] [] M K Q := by
  refine r_aload_n c76_55 rfl ?_
  refine r_iconst c76_56 ?_
  refine r_iconst c76_57 ?_
  obtain ⟨s1, h⟩ := h
  exact r_call c76_58 rfl rfl (Nat.le_of_ble_eq_true rfl) (okc_r rfl rfl s1) h
theorem t76_61 {d : Nat} {l0 : Nat} {l1 : Nat} {l2 : Nat} {l3 : Int} {l4 : Int} {l5 : Int} {l6 : PV} {t0 : Int} {M : Mem} {K : KK} {Q : RR → Mem → KK → Prop} (h : isO K.1 l1 10 = true ∧ Wm d 91 [vR l1, vI (59 : Int)] M K (Bk d 76 66 69 91 [vR l0, vR l1, vR l2, vI l3, vI l4, vI l5, vI t0] [] Q)) : Wp (d + 1) 76 61 [vR l0, vR l1, vR l2, vI l3, vI l4, vI l5, l6] [vI t0] M K Q := by
  refine r_istore c76_61 (Nat.le_of_ble_eq_true rfl) ?_
  refine r_aload_n c76_63 rfl ?_
  refine r_bipush c76_64 ?_
  obtain ⟨s1, h⟩ := h
  exact r_call c76_66 rfl rfl (Nat.le_of_ble_eq_true rfl) (okc_r rfl rfl s1) h
theorem t76_69 {d : Nat} {l0 : Nat} {l1 : Nat} {l2 : Nat} {l3 : Int} {l4 : Int} {l5 : Int} {l6 : Int} {M : Mem} {K : KK} {Q : RR → Mem → KK → Prop} (h : isO K.1 l0 8 = true ∧ isO K.1 l0 8 = true ∧ isO K.1 l0 8 = true ∧ isO K.1 l0 8 = true ∧ isO K.1 l0 8 = true ∧ isO K.1 l0 8 = true ∧ Wp d 76 6 [vR l0, vR l1, vR l2, vI (w32 (l3 + 1)), vI l4, vI l5, vI l6] [] (mset (mset (mset M l0 1 (jor (M l0 1) (jshl l6 l5))) l0 2 (jor ((mset M l0 1 (jor (M l0 1) (jshl l6 l5))) l0 2) (jshl (w32 ((1 : Int) - l6)) l5))) l0 0 (w32 (((mset (mset M l0 1 (jor (M l0 1) (jshl l6 l5))) l0 2 (jor ((mset M l0 1 (jor (M l0 1) (jshl l6 l5))) l0 2) (jshl (w32 ((1 : Int) - l6)) l5))) l0 0) + (1 : Int)))) K Q) : Wp d 76 69 [vR l0, vR l1, vR l2, vI l3, vI l4, vI l5, vI l6] [] M K Q := by
  refine r_aload_n c76_69 rfl ?_
  refine r_dupr c76_70 ?_
  obtain ⟨s1, h⟩ := h
  refine r_getI c76_71 s1 ?_
  refine r_iload c76_74 rfl ?_
  refine r_iload c76_76 rfl ?_
  refine r_ishl c76_78 ?_
  refine r_ior c76_79 ?_
  obtain ⟨s2, h⟩ := h
  refine r_putI c76_80 s2 ?_
  refine r_aload_n c76_83 rfl ?_
  refine r_dupr c76_84 ?_
  obtain ⟨s3, h⟩ := h
  refine r_getI c76_85 s3 ?_
  refine r_iconst c76_88 ?_
  refine r_iload c76_89 rfl ?_
  refine r_isub c76_91 ?_
  refine r_iload c76_92 rfl ?_
  refine r_ishl c76_94 ?_
  refine r_ior c76_95 ?_
  obtain ⟨s4, h⟩ := h
  refine r_putI c76_96 s4 ?_
  refine r_aload_n c76_99 rfl ?_
  refine r_dupr c76_100 ?_
  obtain ⟨s5, h⟩ := h
  refine r_getI c76_101 s5 ?_
  refine r_iconst c76_104 ?_
  refine r_iadd c76_105 ?_
  obtain ⟨s6, h⟩ := h
  refine r_putI c76_106 s6 ?_
  refine r_iinc c76_109 rfl ?_
  refine r_goto c76_112 ?_
  exact h
theorem t76_115 {d : Nat} {l0 : Nat} {l1 : Nat} {l2 : Nat} {l3 : Int} {l4 : PV} {l5 : PV} {l6 : PV} {M : Mem} {K : KK} {Q : RR → Mem → KK → Prop} (h : Q (.inl none) M K) : Wp d 76 115 [vR l0, vR l1, vR l2, vI l3, l4, l5, l6] [] M K Q := by
  exact r_ret c76_115 h
theorem t77_0 {d : Nat} {l0 : Nat} {l1 : Int} {M : Mem} {K : KK} {Q : RR → Mem → KK → Prop} (h : isO K.1 l0 8 = true ∧ isO K.1 l0 8 = true ∧ (¬ (jand (jshr (jor (M l0 1) (M l0 2)) l1) (1 : Int)) = (1 : Int) → Wp d 77 22 [vR l0, vI l1] [vI (0 : Int)] M K Q) ∧ (¬ (¬ (jand (jshr (jor (M l0 1) (M l0 2)) l1) (1 : Int)) = (1 : Int)) → Wp d 77 22 [vR l0, vI l1] [vI (1 : Int)] M K Q)) : Wp d 77 0 [vR l0, vI l1] [] M K Q := by
  refine r_aload_n c77_0 rfl ?_
  obtain ⟨s1, h⟩ := h
  refine r_getI c77_1 s1 ?_
  refine r_aload_n c77_4 rfl ?_
  obtain ⟨s2, h⟩ := h
  refine r_getI c77_5 s2 ?_
  refine r_ior c77_8 ?_
  refine r_iload_n c77_9 rfl ?_
  refine r_ishr c77_10 ?_
  refine r_iconst c77_11 ?_
  refine r_iand c77_12 ?_
  refine r_iconst c77_13 ?_
  refine r_icmpP (P := ¬ (jand (jshr (jor (M l0 1) (M l0 2)) l1) (1 : Int)) = (1 : Int)) c77_14 rfl (fun hc => ?_) (fun hc => ?_)
  · replace h := h.1 hc
    refine r_iconst c77_21 ?_
    exact h
  · replace h := h.2 hc
    refine r_iconst c77_17 ?_
    refine r_goto c77_18 ?_
    exact h
theorem t77_22 {d : Nat} {l0 : Nat} {l1 : Int} {t0 : Int} {M : Mem} {K : KK} {Q : RR → Mem → KK → Prop} (h : (t0 = 0 ∨ t0 = 1) ∧ Q (.inl (some (vI t0))) M K) : Wp d 77 22 [vR l0, vI l1] [vI t0] M K Q := by
  obtain ⟨s1, h⟩ := h
  exact r_iret c77_22 (Or.inr s1) h
theorem t78_0 {d : Nat} {l0 : Nat} {l1 : Int} {M : Mem} {K : KK} {Q : RR → Mem → KK → Prop} (h : isO K.1 l0 8 = true ∧ (¬ (jand (M l0 1) (jxor l1 (-1 : Int))) = (0 : Int) → Wp d 78 24 [vR l0, vI l1] [] M K Q) ∧ (¬ (¬ (jand (M l0 1) (jxor l1 (-1 : Int))) = (0 : Int)) → isO K.1 l0 8 = true ∧ (¬ (jand (M l0 2) l1) = (0 : Int) → Wp d 78 24 [vR l0, vI l1] [] M K Q) ∧ (¬ (¬ (jand (M l0 2) l1) = (0 : Int)) → Wp d 78 25 [vR l0, vI l1] [vI (1 : Int)] M K Q))) : Wp d 78 0 [vR l0, vI l1] [] M K Q := by
  refine r_aload_n c78_0 rfl ?_
  obtain ⟨s1, h⟩ := h
  refine r_getI c78_1 s1 ?_
  refine r_iload_n c78_4 rfl ?_
  refine r_iconst c78_5 ?_
  refine r_ixor c78_6 ?_
  refine r_iand c78_7 ?_
  refine r_ifP (P := ¬ (jand (M l0 1) (jxor l1 (-1 : Int))) = (0 : Int)) c78_8 rfl (fun hc => ?_) (fun hc => ?_)
  · replace h := h.1 hc
    exact h
  · replace h := h.2 hc
    refine r_aload_n c78_11 rfl ?_
    obtain ⟨s2, h⟩ := h
    refine r_getI c78_12 s2 ?_
    refine r_iload_n c78_15 rfl ?_
    refine r_iand c78_16 ?_
    refine r_ifP (P := ¬ (jand (M l0 2) l1) = (0 : Int)) c78_17 rfl (fun hc => ?_) (fun hc => ?_)
    · replace h := h.1 hc
      exact h
    · replace h := h.2 hc
      refine r_iconst c78_20 ?_
      refine r_goto c78_21 ?_
      exact h
theorem t78_24 {d : Nat} {l0 : Nat} {l1 : Int} {M : Mem} {K : KK} {Q : RR → Mem → KK → Prop} (h : Wp d 78 25 [vR l0, vI l1] [vI (0 : Int)] M K Q) : Wp d 78 24 [vR l0, vI l1] [] M K Q := by
  refine r_iconst c78_24 ?_
  exact h
theorem t78_25 {d : Nat} {l0 : Nat} {l1 : Int} {t0 : Int} {M : Mem} {K : KK} {Q : RR → Mem → KK → Prop} (h : (t0 = 0 ∨ t0 = 1) ∧ Q (.inl (some (vI t0))) M K) : Wp d 78 25 [vR l0, vI l1] [vI t0] M K Q := by
  obtain ⟨s1, h⟩ := h
  exact r_iret c78_25 (Or.inr s1) h
theorem t79_0 {d : Nat} {l0 : Nat} {M : Mem} {K : KK} {Q : RR → Mem → KK → Prop} (h : (tg K.1 = 3 ∧ 3 < 13) ∧ isO (K.1 + 1) K.1 3 = true ∧ Wm d 28 [vR K.1] M ((K.1 + 1), (K.2.1 + 1), (K.2.2 + fnT.getD 3 0)) (Bk d 79 9 12 28 [vR l0] [vR K.1, vR l0] Q)) : Wp (d + 1) 79 0 [vR l0] [] M K Q := by
  refine r_aload_n c79_0 rfl ?_
  refine r_obj c79_1 (Nat.le_of_ble_eq_true rfl) ?_
  refine r_aload_n c79_4 rfl ?_
  obtain ⟨s1, h⟩ := h
  refine r_new c79_5 s1 ?_
  refine r_dupr c79_8 ?_
  obtain ⟨s2, h⟩ := h
  exact r_call c79_9 rfl rfl (Nat.le_of_ble_eq_true rfl) (okc_r rfl rfl s2) h
theorem t79_12 {d : Nat} {l0 : Nat} {t0 : Nat} {t1 : Nat} {M : Mem} {K : KK} {Q : RR → Mem → KK → Prop} (h : isO K.1 t0 9 = true ∧ 0 < t1 ∧ Q (.inl none) (mset M t0 0 (t1 : Nat)) K) : Wp d 79 12 [vR l0] [vR t1, vR t0] M K Q := by
  obtain ⟨s1, h⟩ := h
  obtain ⟨s2, h⟩ := h
  refine r_putR c79_12 s1 s2 ?_
  exact r_ret c79_15 h
theorem t80_0 {d : Nat} {l0 : Nat} {l1 : Nat} {l2 : Nat} {l3 : Int} {l4 : Int} {l5 : Int} {l6 : Int} {M : Mem} {K : KK} {Q : RR → Mem → KK → Prop} (h : isO K.1 l0 9 = true ∧ ∃ b2 : Nat, (M l0 0) = (b2 : Int) ∧ 0 < b2 ∧ isO K.1 b2 3 = true ∧ Wm d 30 [vR b2, vR l2] M K (Bk d 80 5 8 30 [vR l0, vR l1, vR l2, vI l3, vI l4, vI l5, vI l6, vU, vU] [] Q)) : Wp (d + 1) 80 0 [vR l0, vR l1, vR l2, vI l3, vI l4, vI l5, vI l6, vU, vU] [] M K Q := by
  refine r_aload_n c80_0 rfl ?_
  obtain ⟨s1, h⟩ := h
  obtain ⟨b2, h⟩ := h
  obtain ⟨s3, h⟩ := h
  obtain ⟨s4, h⟩ := h
  refine r_getR c80_1 s1 s3 s4 ?_
  refine r_aload_n c80_4 rfl ?_
  obtain ⟨s5, h⟩ := h
  exact r_call c80_5 rfl rfl (Nat.le_of_ble_eq_true rfl) (okc_r rfl rfl s5) h
theorem t80_8 {d : Nat} {l0 : Nat} {l1 : Nat} {l2 : Nat} {l3 : Int} {l4 : Int} {l5 : Int} {l6 : Int} {M : Mem} {K : KK} {Q : RR → Mem → KK → Prop} (h : isO K.1 l0 9 = true ∧ isO K.1 l0 9 = true ∧ isO K.1 l0 9 = true ∧ Wp d 80 26 [vR l0, vR l1, vR l2, vI l3, vI l4, vI l5, vI l6, vI (0 : Int), vU] [] (mset (mset (mset M l0 1 l3) l0 2 (0 : Int)) l0 3 (0 : Int)) K Q) : Wp d 80 8 [vR l0, vR l1, vR l2, vI l3, vI l4, vI l5, vI l6, vU, vU] [] M K Q := by
  refine r_aload_n c80_8 rfl ?_
  refine r_iload_n c80_9 rfl ?_
  obtain ⟨s1, h⟩ := h
  refine r_putI c80_10 s1 ?_
  refine r_aload_n c80_13 rfl ?_
  refine r_iconst c80_14 ?_
  obtain ⟨s2, h⟩ := h
  refine r_putI c80_15 s2 ?_
  refine r_aload_n c80_18 rfl ?_
  refine r_iconst c80_19 ?_
  obtain ⟨s3, h⟩ := h
  refine r_putI c80_20 s3 ?_
  refine r_iconst c80_23 ?_
  refine r_istore c80_24 (Nat.le_of_ble_eq_true rfl) ?_
  exact h
theorem t80_26 {d : Nat} {l0 : Nat} {l1 : Nat} {l2 : Nat} {l3 : Int} {l4 : Int} {l5 : Int} {l6 : Int} {l7 : Int} {l8 : PV} {M : Mem} {K : KK} {Q : RR → Mem → KK → Prop} (h : (l4 ≤ l7 → Q (.inl none) M K) ∧ (¬ (l4 ≤ l7) → isO K.1 l0 9 = true ∧ ∃ b2 : Nat, (M l0 0) = (b2 : Int) ∧ 0 < b2 ∧ isO K.1 b2 3 = true ∧ isO K.1 l1 0 = true ∧ Wm d 7 [vR l1, vI (M b2 4)] M K (Bk d 80 41 44 7 [vR l0, vR l1, vR l2, vI l3, vI l4, vI l5, vI l6, vI l7, l8] [] Q))) : Wp (d + 1) 80 26 [vR l0, vR l1, vR l2, vI l3, vI l4, vI l5, vI l6, vI l7, l8] [] M K Q := by
  refine r_iload c80_26 rfl ?_
  refine r_iload c80_28 rfl ?_
  refine r_icmpP (P := l4 ≤ l7) c80_30 rfl (fun hc => ?_) (fun hc => ?_)
  · replace h := h.1 hc
    exact r_ret c80_142 h
  · replace h := h.2 hc
    refine r_aload_n c80_33 rfl ?_
    refine r_aload_n c80_34 rfl ?_
    obtain ⟨s1, h⟩ := h
    obtain ⟨b2, h⟩ := h
    obtain ⟨s3, h⟩ := h
    obtain ⟨s4, h⟩ := h
    refine r_getR c80_35 s1 s3 s4 ?_
    obtain ⟨s5, h⟩ := h
    refine r_getI c80_38 s5 ?_
    obtain ⟨s6, h⟩ := h
    exact r_call c80_41 rfl rfl (Nat.le_of_ble_eq_true rfl) (okc_r rfl rfl s6) h
theorem t80_44 {d : Nat} {l0 : Nat} {l1 : Nat} {l2 : Nat} {l3 : Int} {l4 : Int} {l5 : Int} {l6 : Int} {l7 : Int} {l8 : PV} {t0 : Int} {M : Mem} {K : KK} {Q : RR → Mem → KK → Prop} (h : isO K.1 l0 9 = true ∧ Wm d 81 [vR l0, vI (16 : Int)] M K (Bk d 80 49 52 81 [vR l0, vR l1, vR l2, vI l3, vI l4, vI l5, vI l6, vI l7, vI t0] [] Q)) : Wp (d + 1) 80 44 [vR l0, vR l1, vR l2, vI l3, vI l4, vI l5, vI l6, vI l7, l8] [vI t0] M K Q := by
  refine r_istore c80_44 (Nat.le_of_ble_eq_true rfl) ?_
  refine r_aload_n c80_46 rfl ?_
  refine r_bipush c80_47 ?_
  obtain ⟨s1, h⟩ := h
  exact r_call c80_49 rfl rfl (Nat.le_of_ble_eq_true rfl) (okc_r rfl rfl s1) h
theorem t80_52 {d : Nat} {l0 : Nat} {l1 : Nat} {l2 : Nat} {l3 : Int} {l4 : Int} {l5 : Int} {l6 : Int} {l7 : Int} {l8 : Int} {t0 : Int} {M : Mem} {K : KK} {Q : RR → Mem → KK → Prop} (h : (l5 ≤ t0 → Wp (d + 1) 80 75 [vR l0, vR l1, vR l2, vI l3, vI l4, vI l5, vI l6, vI l7, vI l8] [] M K Q) ∧ (¬ (l5 ≤ t0) → isO K.1 l0 9 = true ∧ Wm d 81 [vR l0, vI (10 : Int)] M K (Bk d 80 60 63 81 [vR l0, vR l1, vR l2, vI l3, vI l4, vI l5, vI l6, vI l7, vI l8] [] Q))) : Wp (d + 1) 80 52 [vR l0, vR l1, vR l2, vI l3, vI l4, vI l5, vI l6, vI l7, vI l8] [vI t0] M K Q := by
  refine r_iload c80_52 rfl ?_
  refine r_icmpP (P := l5 ≤ t0) c80_54 rfl (fun hc => ?_) (fun hc => ?_)
  · replace h := h.1 hc
    exact h
  · replace h := h.2 hc
    refine r_aload_n c80_57 rfl ?_
    refine r_bipush c80_58 ?_
    obtain ⟨s1, h⟩ := h
    exact r_call c80_60 rfl rfl (Nat.le_of_ble_eq_true rfl) (okc_r rfl rfl s1) h
theorem t80_63 {d : Nat} {l0 : Nat} {l1 : Nat} {l2 : Nat} {l3 : Int} {l4 : Int} {l5 : Int} {l6 : Int} {l7 : Int} {l8 : Int} {t0 : Int} {M : Mem} {K : KK} {Q : RR → Mem → KK → Prop} (h : isO K.1 l0 9 = true ∧ isO K.1 l0 9 = true ∧ Wp d 80 75 [vR l0, vR l1, vR l2, vI l3, vI l4, vI l5, vI l6, vI l7, vI t0] [] (mset M l0 3 (w32 ((M l0 3) + (1 : Int)))) K Q) : Wp d 80 63 [vR l0, vR l1, vR l2, vI l3, vI l4, vI l5, vI l6, vI l7, vI l8] [vI t0] M K Q := by
  refine r_istore c80_63 (Nat.le_of_ble_eq_true rfl) ?_
  refine r_aload_n c80_65 rfl ?_
  refine r_dupr c80_66 ?_
  obtain ⟨s1, h⟩ := h
  refine r_getI c80_67 s1 ?_
  refine r_iconst c80_70 ?_
  refine r_iadd c80_71 ?_
  obtain ⟨s2, h⟩ := h
  refine r_putI c80_72 s2 ?_
  exact h
theorem t80_75 {d : Nat} {l0 : Nat} {l1 : Nat} {l2 : Nat} {l3 : Int} {l4 : Int} {l5 : Int} {l6 : Int} {l7 : Int} {l8 : Int} {M : Mem} {K : KK} {Q : RR → Mem → KK → Prop} (h : isO K.1 l0 9 = true ∧ Wm d 81 [vR l0, vI (16 : Int)] M K (Bk d 80 78 81 81 [vR l0, vR l1, vR l2, vI l3, vI l4, vI l5, vI l6, vI l7, vI l8] [] Q)) : Wp (d + 1) 80 75 [vR l0, vR l1, vR l2, vI l3, vI l4, vI l5, vI l6, vI l7, vI l8] [] M K Q := by
  refine r_aload_n c80_75 rfl ?_
  refine r_bipush c80_76 ?_
  obtain ⟨s1, h⟩ := h
  exact r_call c80_78 rfl rfl (Nat.le_of_ble_eq_true rfl) (okc_r rfl rfl s1) h
theorem t80_81 {d : Nat} {l0 : Nat} {l1 : Nat} {l2 : Nat} {l3 : Int} {l4 : Int} {l5 : Int} {l6 : Int} {l7 : Int} {l8 : Int} {t0 : Int} {M : Mem} {K : KK} {Q : RR → Mem → KK → Prop} (h : (l6 ≤ t0 → Wp (d + 1) 80 126 [vR l0, vR l1, vR l2, vI l3, vI l4, vI l5, vI l6, vI l7, vI l8] [] M K Q) ∧ (¬ (l6 ≤ t0) → isO K.1 l1 0 = true ∧ ((M l1 5) ≤ (0 : Int) → Wp (d + 1) 80 126 [vR l0, vR l1, vR l2, vI l3, vI l4, vI l5, vI l6, vI l7, vI l8] [] M K Q) ∧ (¬ ((M l1 5) ≤ (0 : Int)) → isO K.1 l0 9 = true ∧ isO K.1 l0 9 = true ∧ ∃ b4 : Nat, (M l0 0) = (b4 : Int) ∧ 0 < b4 ∧ isO K.1 l1 0 = true ∧ isO K.1 l0 9 = true ∧ Wm d 81 [vR l0, vI (M l1 5)] M K (Bk d 80 108 111 81 [vR l0, vR l1, vR l2, vI l3, vI l4, vI l5, vI l6, vI l7, vI l8] [vR l1, vR b4, vI (M l0 2), vR l0] Q)))) : Wp (d + 1) 80 81 [vR l0, vR l1, vR l2, vI l3, vI l4, vI l5, vI l6, vI l7, vI l8] [vI t0] M K Q := by
  refine r_iload c80_81 rfl ?_
  refine r_icmpP (P := l6 ≤ t0) c80_83 rfl (fun hc => ?_) (fun hc => ?_)
  · replace h := h.1 hc
    exact h
  · replace h := h.2 hc
    refine r_aload_n c80_86 rfl ?_
    obtain ⟨s1, h⟩ := h
    refine r_getI c80_87 s1 ?_
    refine r_ifP (P := (M l1 5) ≤ (0 : Int)) c80_90 rfl (fun hc => ?_) (fun hc => ?_)
    · replace h := h.1 hc
      exact h
    · replace h := h.2 hc
      refine r_aload_n c80_93 rfl ?_
      refine r_dupr c80_94 ?_
      obtain ⟨s2, h⟩ := h
      refine r_getI c80_95 s2 ?_
      refine r_aload_n c80_98 rfl ?_
      obtain ⟨s3, h⟩ := h
      obtain ⟨b4, h⟩ := h
      obtain ⟨s5, h⟩ := h
      obtain ⟨s6, h⟩ := h
      refine r_getR c80_99 s3 s5 s6 ?_
      refine r_aload_n c80_102 rfl ?_
      refine r_aload_n c80_103 rfl ?_
      refine r_aload_n c80_104 rfl ?_
      obtain ⟨s7, h⟩ := h
      refine r_getI c80_105 s7 ?_
      obtain ⟨s8, h⟩ := h
      exact r_call c80_108 rfl rfl (Nat.le_of_ble_eq_true rfl) (okc_r rfl rfl s8) h
theorem t80_111 {d : Nat} {l0 : Nat} {l1 : Nat} {l2 : Nat} {l3 : Int} {l4 : Int} {l5 : Int} {l6 : Int} {l7 : Int} {l8 : Int} {t0 : Nat} {t1 : Int} {t2 : Nat} {t3 : Nat} {t4 : Int} {M : Mem} {K : KK} {Q : RR → Mem → KK → Prop} (h : isO K.1 t2 3 = true ∧ Wm d 35 [vR t2, vR t3, vI t4] M K (Bk d 80 111 114 35 [vR l0, vR l1, vR l2, vI l3, vI l4, vI l5, vI l6, vI l7, vI l8] [vI t1, vR t0] Q)) : Wp (d + 1) 80 111 [vR l0, vR l1, vR l2, vI l3, vI l4, vI l5, vI l6, vI l7, vI l8] [vI t4, vR t3, vR t2, vI t1, vR t0] M K Q := by
  obtain ⟨s1, h⟩ := h
  exact r_call c80_111 rfl rfl (Nat.le_of_ble_eq_true rfl) (okc_r rfl rfl s1) h
theorem t80_114 {d : Nat} {l0 : Nat} {l1 : Nat} {l2 : Nat} {l3 : Int} {l4 : Int} {l5 : Int} {l6 : Int} {l7 : Int} {l8 : Int} {t0 : Nat} {t1 : Int} {t2 : Int} {M : Mem} {K : KK} {Q : RR → Mem → KK → Prop} (h : (t2 = (0 : Int) → Wp d 80 122 [vR l0, vR l1, vR l2, vI l3, vI l4, vI l5, vI l6, vI l7, vI l8] [vI (0 : Int), vI t1, vR t0] M K Q) ∧ (¬ (t2 = (0 : Int)) → Wp d 80 122 [vR l0, vR l1, vR l2, vI l3, vI l4, vI l5, vI l6, vI l7, vI l8] [vI (1 : Int), vI t1, vR t0] M K Q)) : Wp d 80 114 [vR l0, vR l1, vR l2, vI l3, vI l4, vI l5, vI l6, vI l7, vI l8] [vI t2, vI t1, vR t0] M K Q := by
  refine r_ifP (P := t2 = (0 : Int)) c80_114 rfl (fun hc => ?_) (fun hc => ?_)
  · replace h := h.1 hc
    refine r_iconst c80_121 ?_
    exact h
  · replace h := h.2 hc
    refine r_iconst c80_117 ?_
    refine r_goto c80_118 ?_
    exact h
theorem t80_122 {d : Nat} {l0 : Nat} {l1 : Nat} {l2 : Nat} {l3 : Int} {l4 : Int} {l5 : Int} {l6 : Int} {l7 : Int} {l8 : Int} {t0 : Nat} {t1 : Int} {t2 : Int} {M : Mem} {K : KK} {Q : RR → Mem → KK → Prop} (h : isO K.1 t0 9 = true ∧ Wp d 80 126 [vR l0, vR l1, vR l2, vI l3, vI l4, vI l5, vI l6, vI l7, vI l8] [] (mset M t0 2 (w32 (t1 + t2))) K Q) : Wp d 80 122 [vR l0, vR l1, vR l2, vI l3, vI l4, vI l5, vI l6, vI l7, vI l8] [vI t2, vI t1, vR t0] M K Q := by
  refine r_iadd c80_122 ?_
  obtain ⟨s1, h⟩ := h
  refine r_putI c80_123 s1 ?_
  exact h
theorem t80_126 {d : Nat} {l0 : Nat} {l1 : Nat} {l2 : Nat} {l3 : Int} {l4 : Int} {l5 : Int} {l6 : Int} {l7 : Int} {l8 : Int} {M : Mem} {K : KK} {Q : RR → Mem → KK → Prop} (h : isO K.1 l0 9 = true ∧ ∃ b2 : Nat, (M l0 0) = (b2 : Int) ∧ 0 < b2 ∧ isO K.1 b2 3 = true ∧ Wm d 36 [vR b2, vR l1, vI l8] M K (Bk d 80 133 136 36 [vR l0, vR l1, vR l2, vI l3, vI l4, vI l5, vI l6, vI l7, vI l8] [] Q)) : Wp (d + 1) 80 126 [vR l0, vR l1, vR l2, vI l3, vI l4, vI l5, vI l6, vI l7, vI l8] [] M K Q := by
  refine r_aload_n c80_126 rfl ?_
  obtain ⟨s1, h⟩ := h
  obtain ⟨b2, h⟩ := h
  obtain ⟨s3, h⟩ := h
  obtain ⟨s4, h⟩ := h
  refine r_getR c80_127 s1 s3 s4 ?_
  refine r_aload_n c80_130 rfl ?_
  refine r_iload c80_131 rfl ?_
  obtain ⟨s5, h⟩ := h
  exact r_call c80_133 rfl rfl (Nat.le_of_ble_eq_true rfl) (okc_r rfl rfl s5) h
theorem t80_136 {d : Nat} {l0 : Nat} {l1 : Nat} {l2 : Nat} {l3 : Int} {l4 : Int} {l5 : Int} {l6 : Int} {l7 : Int} {l8 : Int} {M : Mem} {K : KK} {Q : RR → Mem → KK → Prop} (h : Wp d 80 26 [vR l0, vR l1, vR l2, vI l3, vI l4, vI l5, vI l6, vI (w32 (l7 + 1)), vI l8] [] M K Q) : Wp d 80 136 [vR l0, vR l1, vR l2, vI l3, vI l4, vI l5, vI l6, vI l7, vI l8] [] M K Q := by
  refine r_iinc c80_136 rfl ?_
  refine r_goto c80_139 ?_
  exact h
theorem t81_0 {d : Nat} {l0 : Nat} {l1 : Int} {M : Mem} {K : KK} {Q : RR → Mem → KK → Prop} (h : isO K.1 l0 9 = true ∧ isO K.1 l0 9 = true ∧ ((0 : Int) < l1 → isO K.1 l0 9 = true ∧ l1 ≠ 0 ∧ Wp d 81 36 [vR l0, vI l1] [vI (Int.tmod (jand (jushr ((mset M l0 1 (w32 ((w32 ((M l0 1) * (1103515245 : Int))) + (12345 : Int)))) l0 1) (16 : Int)) (32767 : Int)) l1)] (mset M l0 1 (w32 ((w32 ((M l0 1) * (1103515245 : Int))) + (12345 : Int)))) K Q) ∧ (¬ ((0 : Int) < l1) → Wp d 81 36 [vR l0, vI l1] [vI (0 : Int)] (mset M l0 1 (w32 ((w32 ((M l0 1) * (1103515245 : Int))) + (12345 : Int)))) K Q)) : Wp d 81 0 [vR l0, vI l1] [] M K Q := by
  refine r_aload_n c81_0 rfl ?_
  refine r_aload_n c81_1 rfl ?_
  obtain ⟨s1, h⟩ := h
  refine r_getI c81_2 s1 ?_
  refine r_ldci c81_5 ?_
  refine r_imul c81_7 ?_
  refine r_sipush c81_8 ?_
  refine r_iadd c81_11 ?_
  obtain ⟨s2, h⟩ := h
  refine r_putI c81_12 s2 ?_
  refine r_iload_n c81_15 rfl ?_
  refine r_ifP (P := (0 : Int) < l1) c81_16 rfl (fun hc => ?_) (fun hc => ?_)
  · replace h := h.1 hc
    refine r_aload_n c81_23 rfl ?_
    obtain ⟨s3, h⟩ := h
    refine r_getI c81_24 s3 ?_
    refine r_bipush c81_27 ?_
    refine r_iushr c81_29 ?_
    refine r_sipush c81_30 ?_
    refine r_iand c81_33 ?_
    refine r_iload_n c81_34 rfl ?_
    obtain ⟨s4, h⟩ := h
    refine r_irem c81_35 s4 ?_
    exact h
  · replace h := h.2 hc
    refine r_iconst c81_19 ?_
    refine r_goto c81_20 ?_
    exact h
theorem t81_36 {d : Nat} {l0 : Nat} {l1 : Int} {t0 : Int} {M : Mem} {K : KK} {Q : RR → Mem → KK → Prop} (h : Q (.inl (some (vI t0))) M K) : Wp d 81 36 [vR l0, vI l1] [vI t0] M K Q := by
  exact r_iret c81_36 (Or.inl rfl) h
theorem t82_0 {d : Nat} {l0 : Nat} {M : Mem} {K : KK} {Q : RR → Mem → KK → Prop} (h : (tg K.1 = 21 ∧ (600 : Int) = (ln K.1 : Int)) ∧ isO (K.1 + 1) l0 10 = true ∧ 0 < K.1 ∧ isO (K.1 + 1) l0 10 = true ∧ Q (.inl none) (mset (mset M l0 0 (K.1 : Nat)) l0 7 (-1 : Int)) ((K.1 + 1), (K.2.1 + 1), (K.2.2 + ln K.1))) : Wp d 82 0 [vR l0] [] M K Q := by
  refine r_aload_n c82_0 rfl ?_
  refine r_obj c82_1 (Nat.le_of_ble_eq_true rfl) ?_
  refine r_aload_n c82_4 rfl ?_
  refine r_sipush c82_5 ?_
  obtain ⟨s1, h⟩ := h
  refine r_newarray c82_8 s1 ?_
  obtain ⟨s2, h⟩ := h
  obtain ⟨s3, h⟩ := h
  refine r_putR c82_10 s2 s3 ?_
  refine r_aload_n c82_13 rfl ?_
  refine r_iconst c82_14 ?_
  obtain ⟨s4, h⟩ := h
  refine r_putI c82_15 s4 ?_
  exact r_ret c82_18 h
theorem t83_0 {d : Nat} {l0 : Nat} {l1 : Int} {M : Mem} {K : KK} {Q : RR → Mem → KK → Prop} (h : Wp d 83 3 [vR l0, vI l1, vI (24 : Int)] [] M K Q) : Wp d 83 0 [vR l0, vI l1, vU] [] M K Q := by
  refine r_bipush c83_0 ?_
  refine r_istore_n c83_2 (Nat.le_of_ble_eq_true rfl) ?_
  exact h
theorem t83_3 {d : Nat} {l0 : Nat} {l1 : Int} {l2 : Int} {M : Mem} {K : KK} {Q : RR → Mem → KK → Prop} (h : (l2 < (0 : Int) → Wp d 83 52 [vR l0, vI l1, vI l2] [] M K Q) ∧ (¬ (l2 < (0 : Int)) → isO K.1 l0 10 = true ∧ isO K.1 l0 10 = true ∧ ∃ b3 : Nat, (M l0 0) = (b3 : Int) ∧ 0 < b3 ∧ (Nat.ble 20 (tg b3) = true ∧ isO K.1 b3 (tg b3) = true) ∧ ((ln b3 : Int) ≤ (M l0 1) → Wp d 83 52 [vR l0, vI l1, vI l2] [] M K Q) ∧ (¬ ((ln b3 : Int) ≤ (M l0 1)) → isO K.1 l0 10 = true ∧ ∃ b8 : Nat, (M l0 0) = (b8 : Int) ∧ 0 < b8 ∧ isO K.1 l0 10 = true ∧ isO K.1 b8 21 = true ∧ (0 ≤ (M l0 1) ∧ (M l0 1) < (ln b8 : Int)) ∧ isO K.1 l0 10 = true ∧ isO K.1 l0 10 = true ∧ Wp d 83 3 [vR l0, vI l1, vI (w32 (l2 + (-8)))] [] (mset (mset M b8 (Int.toNat (M l0 1)) (ji2c (ji2c (jand (jushr l1 l2) (255 : Int))))) l0 1 (w32 (((mset M b8 (Int.toNat (M l0 1)) (ji2c (ji2c (jand (jushr l1 l2) (255 : Int))))) l0 1) + (1 : Int)))) K Q))) : Wp d 83 3 [vR l0, vI l1, vI l2] [] M K Q := by
  refine r_iload_n c83_3 rfl ?_
  refine r_ifP (P := l2 < (0 : Int)) c83_4 rfl (fun hc => ?_) (fun hc => ?_)
  · replace h := h.1 hc
    exact h
  · replace h := h.2 hc
    refine r_aload_n c83_7 rfl ?_
    obtain ⟨s1, h⟩ := h
    refine r_getI c83_8 s1 ?_
    refine r_aload_n c83_11 rfl ?_
    obtain ⟨s2, h⟩ := h
    obtain ⟨b3, h⟩ := h
    obtain ⟨s4, h⟩ := h
    obtain ⟨s5, h⟩ := h
    refine r_getR c83_12 s2 s4 s5 ?_
    obtain ⟨s6, h⟩ := h
    refine r_alen c83_15 s6 ?_
    refine r_icmpP (P := (ln b3 : Int) ≤ (M l0 1)) c83_16 rfl (fun hc => ?_) (fun hc => ?_)
    · replace h := h.1 hc
      exact h
    · replace h := h.2 hc
      refine r_aload_n c83_19 rfl ?_
      obtain ⟨s7, h⟩ := h
      obtain ⟨b8, h⟩ := h
      obtain ⟨s9, h⟩ := h
      obtain ⟨s10, h⟩ := h
      refine r_getR c83_20 s7 s9 s10 ?_
      refine r_aload_n c83_23 rfl ?_
      obtain ⟨s11, h⟩ := h
      refine r_getI c83_24 s11 ?_
      refine r_iload_n c83_27 rfl ?_
      refine r_iload_n c83_28 rfl ?_
      refine r_iushr c83_29 ?_
      refine r_sipush c83_30 ?_
      refine r_iand c83_33 ?_
      refine r_i2c c83_34 ?_
      obtain ⟨s12, h⟩ := h
      obtain ⟨s13, h⟩ := h
      refine r_cas c83_35 s12 s13 ?_
      refine r_aload_n c83_36 rfl ?_
      refine r_dupr c83_37 ?_
      obtain ⟨s14, h⟩ := h
      refine r_getI c83_38 s14 ?_
      refine r_iconst c83_41 ?_
      refine r_iadd c83_42 ?_
      obtain ⟨s15, h⟩ := h
      refine r_putI c83_43 s15 ?_
      refine r_iinc c83_46 rfl ?_
      refine r_goto c83_49 ?_
      exact h
theorem t83_52 {d : Nat} {l0 : Nat} {l1 : Int} {l2 : Int} {M : Mem} {K : KK} {Q : RR → Mem → KK → Prop} (h : Q (.inl none) M K) : Wp d 83 52 [vR l0, vI l1, vI l2] [] M K Q := by
  exact r_ret c83_52 h
theorem t84_0 {d : Nat} {l0 : Nat} {l1 : Int} {M : Mem} {K : KK} {Q : RR → Mem → KK → Prop} (h : isO K.1 l0 10 = true ∧ ∃ b2 : Nat, (M l0 0) = (b2 : Int) ∧ 0 < b2 ∧ (Nat.ble 20 (tg b2) = true ∧ isO K.1 b2 (tg b2) = true) ∧ isO K.1 l0 10 = true ∧ isO K.1 l0 10 = true ∧ isO K.1 l0 10 = true ∧ isO K.1 l0 10 = true ∧ isO K.1 l0 10 = true ∧ isO K.1 l0 10 = true ∧ isO K.1 l0 10 = true ∧ Q (.inl none) (mset (mset (mset (mset (mset (mset (mset M l0 2 (if (0 : Int) < (if (ln b2 : Int) < l1 then (ln b2 : Int) else l1) then (if (ln b2 : Int) < l1 then (ln b2 : Int) else l1) else (0 : Int))) l0 1 (0 : Int)) l0 3 (0 : Int)) l0 4 (0 : Int)) l0 5 (0 : Int)) l0 6 (0 : Int)) l0 7 (-1 : Int)) K) : Wp d 84 0 [vR l0, vI l1] [] M K Q := by
  refine r_aload_n c84_0 rfl ?_
  refine r_iconst c84_1 ?_
  refine r_iload_n c84_2 rfl ?_
  refine r_aload_n c84_3 rfl ?_
  obtain ⟨s1, h⟩ := h
  obtain ⟨b2, h⟩ := h
  obtain ⟨s3, h⟩ := h
  obtain ⟨s4, h⟩ := h
  refine r_getR c84_4 s1 s3 s4 ?_
  obtain ⟨s5, h⟩ := h
  refine r_alen c84_7 s5 ?_
  refine r_min c84_8 (Nat.le_of_ble_eq_true rfl) ?_
  refine r_max c84_11 (Nat.le_of_ble_eq_true rfl) ?_
  obtain ⟨s6, h⟩ := h
  refine r_putI c84_14 s6 ?_
  refine r_aload_n c84_17 rfl ?_
  refine r_iconst c84_18 ?_
  obtain ⟨s7, h⟩ := h
  refine r_putI c84_19 s7 ?_
  refine r_aload_n c84_22 rfl ?_
  refine r_iconst c84_23 ?_
  obtain ⟨s8, h⟩ := h
  refine r_putI c84_24 s8 ?_
  refine r_aload_n c84_27 rfl ?_
  refine r_iconst c84_28 ?_
  obtain ⟨s9, h⟩ := h
  refine r_putI c84_29 s9 ?_
  refine r_aload_n c84_32 rfl ?_
  refine r_iconst c84_33 ?_
  obtain ⟨s10, h⟩ := h
  refine r_putI c84_34 s10 ?_
  refine r_aload_n c84_37 rfl ?_
  refine r_iconst c84_38 ?_
  obtain ⟨s11, h⟩ := h
  refine r_putI c84_39 s11 ?_
  refine r_aload_n c84_42 rfl ?_
  refine r_iconst c84_43 ?_
  obtain ⟨s12, h⟩ := h
  refine r_putI c84_44 s12 ?_
  exact r_ret c84_47 h
theorem t85_0 {d : Nat} {l0 : Nat} {M : Mem} {K : KK} {Q : RR → Mem → KK → Prop} (h : isO K.1 l0 10 = true ∧ ((M l0 6) = (0 : Int) → Wp d 85 12 [vR l0] [vI (0 : Int)] M K Q) ∧ (¬ ((M l0 6) = (0 : Int)) → Wp d 85 12 [vR l0] [vI (1 : Int)] M K Q)) : Wp d 85 0 [vR l0] [] M K Q := by
  refine r_aload_n c85_0 rfl ?_
  obtain ⟨s1, h⟩ := h
  refine r_getI c85_1 s1 ?_
  refine r_ifP (P := (M l0 6) = (0 : Int)) c85_4 rfl (fun hc => ?_) (fun hc => ?_)
  · replace h := h.1 hc
    refine r_iconst c85_11 ?_
    exact h
  · replace h := h.2 hc
    refine r_iconst c85_7 ?_
    refine r_goto c85_8 ?_
    exact h
theorem t85_12 {d : Nat} {l0 : Nat} {t0 : Int} {M : Mem} {K : KK} {Q : RR → Mem → KK → Prop} (h : (t0 = 0 ∨ t0 = 1) ∧ Q (.inl (some (vI t0))) M K) : Wp d 85 12 [vR l0] [vI t0] M K Q := by
  obtain ⟨s1, h⟩ := h
  exact r_iret c85_12 (Or.inr s1) h
theorem t86_0 {d : Nat} {l0 : Nat} {M : Mem} {K : KK} {Q : RR → Mem → KK → Prop} (h : isO K.1 l0 10 = true ∧ Q (.inl (some (vI (w32 ((M l0 6) - (10 : Int)))))) M K) : Wp d 86 0 [vR l0] [] M K Q := by
  refine r_aload_n c86_0 rfl ?_
  obtain ⟨s1, h⟩ := h
  refine r_getI c86_1 s1 ?_
  refine r_bipush c86_4 ?_
  refine r_isub c86_6 ?_
  exact r_iret c86_7 (Or.inl rfl) h
theorem t87_0 {d : Nat} {l0 : Nat} {l1 : Int} {l2 : Int} {M : Mem} {K : KK} {Q : RR → Mem → KK → Prop} (h : isO K.1 l0 10 = true ∧ (¬ (M l0 6) = (0 : Int) → Wp d 87 17 [vR l0, vI l1, vI l2] [] M K Q) ∧ (¬ (¬ (M l0 6) = (0 : Int)) → isO K.1 l0 10 = true ∧ isO K.1 l0 10 = true ∧ Wp d 87 17 [vR l0, vI l1, vI l2] [] (mset (mset M l0 6 l1) l0 7 l2) K Q)) : Wp d 87 0 [vR l0, vI l1, vI l2] [] M K Q := by
  refine r_aload_n c87_0 rfl ?_
  obtain ⟨s1, h⟩ := h
  refine r_getI c87_1 s1 ?_
  refine r_ifP (P := ¬ (M l0 6) = (0 : Int)) c87_4 rfl (fun hc => ?_) (fun hc => ?_)
  · replace h := h.1 hc
    exact h
  · replace h := h.2 hc
    refine r_aload_n c87_7 rfl ?_
    refine r_iload_n c87_8 rfl ?_
    obtain ⟨s2, h⟩ := h
    refine r_putI c87_9 s2 ?_
    refine r_aload_n c87_12 rfl ?_
    refine r_iload_n c87_13 rfl ?_
    obtain ⟨s3, h⟩ := h
    refine r_putI c87_14 s3 ?_
    exact h
theorem t87_17 {d : Nat} {l0 : Nat} {l1 : Int} {l2 : Int} {M : Mem} {K : KK} {Q : RR → Mem → KK → Prop} (h : Q (.inl none) M K) : Wp d 87 17 [vR l0, vI l1, vI l2] [] M K Q := by
  exact r_ret c87_17 h
theorem t88_0 {d : Nat} {l0 : Nat} {M : Mem} {K : KK} {Q : RR → Mem → KK → Prop} (h : isO K.1 l0 10 = true ∧ Wp d 88 5 [vR l0, vI (M l0 3)] [] M K Q) : Wp d 88 0 [vR l0, vU] [] M K Q := by
  refine r_aload_n c88_0 rfl ?_
  obtain ⟨s1, h⟩ := h
  refine r_getI c88_1 s1 ?_
  refine r_istore_n c88_4 (Nat.le_of_ble_eq_true rfl) ?_
  exact h
theorem t88_5 {d : Nat} {l0 : Nat} {l1 : Int} {M : Mem} {K : KK} {Q : RR → Mem → KK → Prop} (h : isO K.1 l0 10 = true ∧ ((M l0 2) ≤ l1 → Wp d 88 37 [vR l0, vI l1] [] M K Q) ∧ (¬ ((M l0 2) ≤ l1) → isO K.1 l0 10 = true ∧ ∃ b3 : Nat, (M l0 0) = (b3 : Int) ∧ 0 < b3 ∧ isO K.1 b3 21 = true ∧ (0 ≤ l1 ∧ l1 < (ln b3 : Int)) ∧ (¬ (M b3 (Int.toNat l1)) = (32 : Int) → Wp d 88 37 [vR l0, vI l1] [] M K Q) ∧ (¬ (¬ (M b3 (Int.toNat l1)) = (32 : Int)) → isO K.1 l0 10 = true ∧ Wp d 88 5 [vR l0, vI (w32 (l1 + 1))] [] (mset M l0 3 (w32 (l1 + (1 : Int)))) K Q))) : Wp d 88 5 [vR l0, vI l1] [] M K Q := by
  refine r_iload_n c88_5 rfl ?_
  refine r_aload_n c88_6 rfl ?_
  obtain ⟨s1, h⟩ := h
  refine r_getI c88_7 s1 ?_
  refine r_icmpP (P := (M l0 2) ≤ l1) c88_10 rfl (fun hc => ?_) (fun hc => ?_)
  · replace h := h.1 hc
    exact h
  · replace h := h.2 hc
    refine r_aload_n c88_13 rfl ?_
    obtain ⟨s2, h⟩ := h
    obtain ⟨b3, h⟩ := h
    obtain ⟨s4, h⟩ := h
    obtain ⟨s5, h⟩ := h
    refine r_getR c88_14 s2 s4 s5 ?_
    refine r_iload_n c88_17 rfl ?_
    obtain ⟨s6, h⟩ := h
    obtain ⟨s7, h⟩ := h
    refine r_ca c88_18 s6 s7 ?_
    refine r_bipush c88_19 ?_
    refine r_icmpP (P := ¬ (M b3 (Int.toNat l1)) = (32 : Int)) c88_21 rfl (fun hc => ?_) (fun hc => ?_)
    · replace h := h.1 hc
      exact h
    · replace h := h.2 hc
      refine r_aload_n c88_24 rfl ?_
      refine r_iload_n c88_25 rfl ?_
      refine r_iconst c88_26 ?_
      refine r_iadd c88_27 ?_
      obtain ⟨s8, h⟩ := h
      refine r_putI c88_28 s8 ?_
      refine r_iinc c88_31 rfl ?_
      refine r_goto c88_34 ?_
      exact h
theorem t88_37 {d : Nat} {l0 : Nat} {l1 : Int} {M : Mem} {K : KK} {Q : RR → Mem → KK → Prop} (h : isO K.1 l0 10 = true ∧ (¬ (M l0 6) = (0 : Int) → Wp d 88 55 [vR l0, vI l1] [] M K Q) ∧ (¬ (¬ (M l0 6) = (0 : Int)) → isO K.1 l0 10 = true ∧ isO K.1 l0 10 = true ∧ ((M l0 3) < (M l0 2) → isO K.1 l0 10 = true ∧ ∃ b5 : Nat, (M l0 0) = (b5 : Int) ∧ 0 < b5 ∧ isO K.1 l0 10 = true ∧ isO K.1 b5 21 = true ∧ (0 ≤ (M l0 3) ∧ (M l0 3) < (ln b5 : Int)) ∧ Wp d 88 68 [vR l0, vI l1] [vI (M b5 (Int.toNat (M l0 3)))] M K Q) ∧ (¬ ((M l0 3) < (M l0 2)) → Wp d 88 55 [vR l0, vI l1] [] M K Q))) : Wp d 88 37 [vR l0, vI l1] [] M K Q := by
  refine r_aload_n c88_37 rfl ?_
  obtain ⟨s1, h⟩ := h
  refine r_getI c88_38 s1 ?_
  refine r_ifP (P := ¬ (M l0 6) = (0 : Int)) c88_41 rfl (fun hc => ?_) (fun hc => ?_)
  · replace h := h.1 hc
    exact h
  · replace h := h.2 hc
    refine r_aload_n c88_44 rfl ?_
    obtain ⟨s2, h⟩ := h
    refine r_getI c88_45 s2 ?_
    refine r_aload_n c88_48 rfl ?_
    obtain ⟨s3, h⟩ := h
    refine r_getI c88_49 s3 ?_
    refine r_icmpP (P := (M l0 3) < (M l0 2)) c88_52 rfl (fun hc => ?_) (fun hc => ?_)
    · replace h := h.1 hc
      refine r_aload_n c88_59 rfl ?_
      obtain ⟨s4, h⟩ := h
      obtain ⟨b5, h⟩ := h
      obtain ⟨s6, h⟩ := h
      obtain ⟨s7, h⟩ := h
      refine r_getR c88_60 s4 s6 s7 ?_
      refine r_aload_n c88_63 rfl ?_
      obtain ⟨s8, h⟩ := h
      refine r_getI c88_64 s8 ?_
      obtain ⟨s9, h⟩ := h
      obtain ⟨s10, h⟩ := h
      refine r_ca c88_67 s9 s10 ?_
      exact h
    · replace h := h.2 hc
      exact h
theorem t88_55 {d : Nat} {l0 : Nat} {l1 : Int} {M : Mem} {K : KK} {Q : RR → Mem → KK → Prop} (h : Wp d 88 68 [vR l0, vI l1] [vI (-1 : Int)] M K Q) : Wp d 88 55 [vR l0, vI l1] [] M K Q := by
  refine r_iconst c88_55 ?_
  refine r_goto c88_56 ?_
  exact h
theorem t88_68 {d : Nat} {l0 : Nat} {l1 : Int} {t0 : Int} {M : Mem} {K : KK} {Q : RR → Mem → KK → Prop} (h : Q (.inl (some (vI t0))) M K) : Wp d 88 68 [vR l0, vI l1] [vI t0] M K Q := by
  exact r_iret c88_68 (Or.inl rfl) h
theorem t89_0 {d : Nat} {l0 : Nat} {M : Mem} {K : KK} {Q : RR → Mem → KK → Prop} (h : isO K.1 l0 10 = true ∧ Wm d 88 [vR l0] M K (Bk d 89 1 4 88 [vR l0, vU] [] Q)) : Wp (d + 1) 89 0 [vR l0, vU] [] M K Q := by
  refine r_aload_n c89_0 rfl ?_
  obtain ⟨s1, h⟩ := h
  exact r_call c89_1 rfl rfl (Nat.le_of_ble_eq_true rfl) (okc_r rfl rfl s1) h
theorem t89_4 {d : Nat} {l0 : Nat} {t0 : Int} {M : Mem} {K : KK} {Q : RR → Mem → KK → Prop} (h : (t0 < (48 : Int) → Wp d 89 21 [vR l0, vI t0] [] M K Q) ∧ (¬ (t0 < (48 : Int)) → ((57 : Int) < t0 → Wp d 89 21 [vR l0, vI t0] [] M K Q) ∧ (¬ ((57 : Int) < t0) → Wp d 89 22 [vR l0, vI t0] [vI (1 : Int)] M K Q))) : Wp d 89 4 [vR l0, vU] [vI t0] M K Q := by
  refine r_istore_n c89_4 (Nat.le_of_ble_eq_true rfl) ?_
  refine r_iload_n c89_5 rfl ?_
  refine r_bipush c89_6 ?_
  refine r_icmpP (P := t0 < (48 : Int)) c89_8 rfl (fun hc => ?_) (fun hc => ?_)
  · replace h := h.1 hc
    exact h
  · replace h := h.2 hc
    refine r_iload_n c89_11 rfl ?_
    refine r_bipush c89_12 ?_
    refine r_icmpP (P := (57 : Int) < t0) c89_14 rfl (fun hc => ?_) (fun hc => ?_)
    · replace h := h.1 hc
      exact h
    · replace h := h.2 hc
      refine r_iconst c89_17 ?_
      refine r_goto c89_18 ?_
      exact h
theorem t89_21 {d : Nat} {l0 : Nat} {l1 : Int} {M : Mem} {K : KK} {Q : RR → Mem → KK → Prop} (h : Wp d 89 22 [vR l0, vI l1] [vI (0 : Int)] M K Q) : Wp d 89 21 [vR l0, vI l1] [] M K Q := by
  refine r_iconst c89_21 ?_
  exact h
theorem t89_22 {d : Nat} {l0 : Nat} {l1 : Int} {t0 : Int} {M : Mem} {K : KK} {Q : RR → Mem → KK → Prop} (h : (t0 = 0 ∨ t0 = 1) ∧ Q (.inl (some (vI t0))) M K) : Wp d 89 22 [vR l0, vI l1] [vI t0] M K Q := by
  obtain ⟨s1, h⟩ := h
  exact r_iret c89_22 (Or.inr s1) h
theorem t90_0 {d : Nat} {l0 : Nat} {M : Mem} {K : KK} {Q : RR → Mem → KK → Prop} (h : isO K.1 l0 10 = true ∧ isO K.1 l0 10 = true ∧ isO K.1 l0 10 = true ∧ Q (.inl none) (mset M l0 3 (if (M l0 2) < (w32 ((M l0 3) + (1 : Int))) then (M l0 2) else (w32 ((M l0 3) + (1 : Int))))) K) : Wp d 90 0 [vR l0] [] M K Q := by
  refine r_aload_n c90_0 rfl ?_
  refine r_aload_n c90_1 rfl ?_
  obtain ⟨s1, h⟩ := h
  refine r_getI c90_2 s1 ?_
  refine r_iconst c90_5 ?_
  refine r_iadd c90_6 ?_
  refine r_aload_n c90_7 rfl ?_
  obtain ⟨s2, h⟩ := h
  refine r_getI c90_8 s2 ?_
  refine r_min c90_11 (Nat.le_of_ble_eq_true rfl) ?_
  obtain ⟨s3, h⟩ := h
  refine r_putI c90_14 s3 ?_
  exact r_ret c90_17 h
theorem t91_0 {d : Nat} {l0 : Nat} {l1 : Int} {M : Mem} {K : KK} {Q : RR → Mem → KK → Prop} (h : isO K.1 l0 10 = true ∧ Wm d 88 [vR l0] M K (Bk d 91 1 4 88 [vR l0, vI l1] [] Q)) : Wp (d + 1) 91 0 [vR l0, vI l1] [] M K Q := by
  refine r_aload_n c91_0 rfl ?_
  obtain ⟨s1, h⟩ := h
  exact r_call c91_1 rfl rfl (Nat.le_of_ble_eq_true rfl) (okc_r rfl rfl s1) h
theorem t91_4 {d : Nat} {l0 : Nat} {l1 : Int} {t0 : Int} {M : Mem} {K : KK} {Q : RR → Mem → KK → Prop} (h : (¬ t0 = l1 → isO K.1 l0 10 = true ∧ isO K.1 l0 10 = true ∧ Wm d 87 [vR l0, vI (1 : Int), vI (M l0 3)] M K (Bk d 91 21 24 87 [vR l0, vI l1] [] Q)) ∧ (¬ (¬ t0 = l1) → isO K.1 l0 10 = true ∧ Wm d 90 [vR l0] M K (Bk d 91 9 12 90 [vR l0, vI l1] [] Q))) : Wp (d + 1) 91 4 [vR l0, vI l1] [vI t0] M K Q := by
  refine r_iload_n c91_4 rfl ?_
  refine r_icmpP (P := ¬ t0 = l1) c91_5 rfl (fun hc => ?_) (fun hc => ?_)
  · replace h := h.1 hc
    refine r_aload_n c91_15 rfl ?_
    refine r_iconst c91_16 ?_
    refine r_aload_n c91_17 rfl ?_
    obtain ⟨s1, h⟩ := h
    refine r_getI c91_18 s1 ?_
    obtain ⟨s2, h⟩ := h
    exact r_call c91_21 rfl rfl (Nat.le_of_ble_eq_true rfl) (okc_r rfl rfl s2) h
  · replace h := h.2 hc
    refine r_aload_n c91_8 rfl ?_
    obtain ⟨s3, h⟩ := h
    exact r_call c91_9 rfl rfl (Nat.le_of_ble_eq_true rfl) (okc_r rfl rfl s3) h
theorem t91_12 {d : Nat} {l0 : Nat} {l1 : Int} {M : Mem} {K : KK} {Q : RR → Mem → KK → Prop} (h : Wp d 91 24 [vR l0, vI l1] [] M K Q) : Wp d 91 12 [vR l0, vI l1] [] M K Q := by
  refine r_goto c91_12 ?_
  exact h
theorem t91_24 {d : Nat} {l0 : Nat} {l1 : Int} {M : Mem} {K : KK} {Q : RR → Mem → KK → Prop} (h : Q (.inl none) M K) : Wp d 91 24 [vR l0, vI l1] [] M K Q := by
  exact r_ret c91_24 h
theorem t92_0 {d : Nat} {l0 : Nat} {l1 : Int} {l2 : Int} {M : Mem} {K : KK} {Q : RR → Mem → KK → Prop} (h : isO K.1 l0 10 = true ∧ Wm d 89 [vR l0] M K (Bk d 92 1 4 89 [vR l0, vI l1, vI l2, vU, vU, vU] [] Q)) : Wp (d + 1) 92 0 [vR l0, vI l1, vI l2, vU, vU, vU] [] M K Q := by
  refine r_aload_n c92_0 rfl ?_
  obtain ⟨s1, h⟩ := h
  exact r_call c92_1 rfl rfl (Nat.le_of_ble_eq_true rfl) (okc_r rfl rfl s1) h
theorem t92_4 {d : Nat} {l0 : Nat} {l1 : Int} {l2 : Int} {t0 : Int} {M : Mem} {K : KK} {Q : RR → Mem → KK → Prop} (h : (¬ t0 = (0 : Int) → isO K.1 l0 10 = true ∧ isO K.1 l0 10 = true ∧ Wp (d + 1) 92 32 [vR l0, vI l1, vI l2, vI (M l0 3), vI (0 : Int), vI (M l0 3)] [] M K Q) ∧ (¬ (¬ t0 = (0 : Int)) → isO K.1 l0 10 = true ∧ isO K.1 l0 10 = true ∧ Wm d 87 [vR l0, vI (1 : Int), vI (M l0 3)] M K (Bk d 92 13 16 87 [vR l0, vI l1, vI l2, vU, vU, vU] [] Q))) : Wp (d + 1) 92 4 [vR l0, vI l1, vI l2, vU, vU, vU] [vI t0] M K Q := by
  refine r_ifP (P := ¬ t0 = (0 : Int)) c92_4 rfl (fun hc => ?_) (fun hc => ?_)
  · replace h := h.1 hc
    refine r_aload_n c92_18 rfl ?_
    obtain ⟨s1, h⟩ := h
    refine r_getI c92_19 s1 ?_
    refine r_istore_n c92_22 (Nat.le_of_ble_eq_true rfl) ?_
    refine r_iconst c92_23 ?_
    refine r_istore c92_24 (Nat.le_of_ble_eq_true rfl) ?_
    refine r_aload_n c92_26 rfl ?_
    obtain ⟨s2, h⟩ := h
    refine r_getI c92_27 s2 ?_
    refine r_istore c92_30 (Nat.le_of_ble_eq_true rfl) ?_
    exact h
  · replace h := h.2 hc
    refine r_aload_n c92_7 rfl ?_
    refine r_iconst c92_8 ?_
    refine r_aload_n c92_9 rfl ?_
    obtain ⟨s3, h⟩ := h
    refine r_getI c92_10 s3 ?_
    obtain ⟨s4, h⟩ := h
    exact r_call c92_13 rfl rfl (Nat.le_of_ble_eq_true rfl) (okc_r rfl rfl s4) h
theorem t92_16 {d : Nat} {l0 : Nat} {l1 : Int} {l2 : Int} {M : Mem} {K : KK} {Q : RR → Mem → KK → Prop} (h : Q (.inl (some (vI l1))) M K) : Wp d 92 16 [vR l0, vI l1, vI l2, vU, vU, vU] [] M K Q := by
  refine r_iload_n c92_16 rfl ?_
  exact r_iret c92_17 (Or.inl rfl) h
theorem t92_32 {d : Nat} {l0 : Nat} {l1 : Int} {l2 : Int} {l3 : Int} {l4 : Int} {l5 : Int} {M : Mem} {K : KK} {Q : RR → Mem → KK → Prop} (h : isO K.1 l0 10 = true ∧ ((M l0 2) ≤ l5 → Wp d 92 102 [vR l0, vI l1, vI l2, vI l3, vI l4, vI l5] [] M K Q) ∧ (¬ ((M l0 2) ≤ l5) → isO K.1 l0 10 = true ∧ ∃ b3 : Nat, (M l0 0) = (b3 : Int) ∧ 0 < b3 ∧ isO K.1 b3 21 = true ∧ (0 ≤ l5 ∧ l5 < (ln b3 : Int)) ∧ ((M b3 (Int.toNat l5)) < (48 : Int) → Wp d 92 102 [vR l0, vI l1, vI l2, vI l3, vI l4, vI l5] [] M K Q) ∧ (¬ ((M b3 (Int.toNat l5)) < (48 : Int)) → isO K.1 l0 10 = true ∧ ∃ b9 : Nat, (M l0 0) = (b9 : Int) ∧ 0 < b9 ∧ isO K.1 b9 21 = true ∧ (0 ≤ l5 ∧ l5 < (ln b9 : Int)) ∧ ((57 : Int) < (M b9 (Int.toNat l5)) → Wp d 92 102 [vR l0, vI l1, vI l2, vI l3, vI l4, vI l5] [] M K Q) ∧ (¬ ((57 : Int) < (M b9 (Int.toNat l5))) → isO K.1 l0 10 = true ∧ ∃ b15 : Nat, (M l0 0) = (b15 : Int) ∧ 0 < b15 ∧ isO K.1 b15 21 = true ∧ (0 ≤ l5 ∧ l5 < (ln b15 : Int)) ∧ isO K.1 l0 10 = true ∧ Wp d 92 32 [vR l0, vI l1, vI l2, vI l3, vI (if (w32 ((w32 ((w32 (l4 * (10 : Int))) + (M b15 (Int.toNat l5)))) - (48 : Int))) < (100000 : Int) then (w32 ((w32 ((w32 (l4 * (10 : Int))) + (M b15 (Int.toNat l5)))) - (48 : Int))) else (100000 : Int)), vI (w32 (l5 + 1))] [] (mset M l0 3 (w32 (l5 + (1 : Int)))) K Q)))) : Wp d 92 32 [vR l0, vI l1, vI l2, vI l3, vI l4, vI l5] [] M K Q := by
  refine r_iload c92_32 rfl ?_
  refine r_aload_n c92_34 rfl ?_
  obtain ⟨s1, h⟩ := h
  refine r_getI c92_35 s1 ?_
  refine r_icmpP (P := (M l0 2) ≤ l5) c92_38 rfl (fun hc => ?_) (fun hc => ?_)
  · replace h := h.1 hc
    exact h
  · replace h := h.2 hc
    refine r_aload_n c92_41 rfl ?_
    obtain ⟨s2, h⟩ := h
    obtain ⟨b3, h⟩ := h
    obtain ⟨s4, h⟩ := h
    obtain ⟨s5, h⟩ := h
    refine r_getR c92_42 s2 s4 s5 ?_
    refine r_iload c92_45 rfl ?_
    obtain ⟨s6, h⟩ := h
    obtain ⟨s7, h⟩ := h
    refine r_ca c92_47 s6 s7 ?_
    refine r_bipush c92_48 ?_
    refine r_icmpP (P := (M b3 (Int.toNat l5)) < (48 : Int)) c92_50 rfl (fun hc => ?_) (fun hc => ?_)
    · replace h := h.1 hc
      exact h
    · replace h := h.2 hc
      refine r_aload_n c92_53 rfl ?_
      obtain ⟨s8, h⟩ := h
      obtain ⟨b9, h⟩ := h
      obtain ⟨s10, h⟩ := h
      obtain ⟨s11, h⟩ := h
      refine r_getR c92_54 s8 s10 s11 ?_
      refine r_iload c92_57 rfl ?_
      obtain ⟨s12, h⟩ := h
      obtain ⟨s13, h⟩ := h
      refine r_ca c92_59 s12 s13 ?_
      refine r_bipush c92_60 ?_
      refine r_icmpP (P := (57 : Int) < (M b9 (Int.toNat l5))) c92_62 rfl (fun hc => ?_) (fun hc => ?_)
      · replace h := h.1 hc
        exact h
      · replace h := h.2 hc
        refine r_ldci c92_65 ?_
        refine r_iload c92_67 rfl ?_
        refine r_bipush c92_69 ?_
        refine r_imul c92_71 ?_
        refine r_aload_n c92_72 rfl ?_
        obtain ⟨s14, h⟩ := h
        obtain ⟨b15, h⟩ := h
        obtain ⟨s16, h⟩ := h
        obtain ⟨s17, h⟩ := h
        refine r_getR c92_73 s14 s16 s17 ?_
        refine r_iload c92_76 rfl ?_
        obtain ⟨s18, h⟩ := h
        obtain ⟨s19, h⟩ := h
        refine r_ca c92_78 s18 s19 ?_
        refine r_iadd c92_79 ?_
        refine r_bipush c92_80 ?_
        refine r_isub c92_82 ?_
        refine r_min c92_83 (Nat.le_of_ble_eq_true rfl) ?_
        refine r_istore c92_86 (Nat.le_of_ble_eq_true rfl) ?_
        refine r_aload_n c92_88 rfl ?_
        refine r_iload c92_89 rfl ?_
        refine r_iconst c92_91 ?_
        refine r_iadd c92_92 ?_
        obtain ⟨s20, h⟩ := h
        refine r_putI c92_93 s20 ?_
        refine r_iinc c92_96 rfl ?_
        refine r_goto c92_99 ?_
        exact h
theorem t92_102 {d : Nat} {l0 : Nat} {l1 : Int} {l2 : Int} {l3 : Int} {l4 : Int} {l5 : Int} {M : Mem} {K : KK} {Q : RR → Mem → KK → Prop} (h : (l4 < l1 → Wp d 92 114 [vR l0, vI l1, vI l2, vI l3, vI l4, vI l5] [] M K Q) ∧ (¬ (l4 < l1) → (l4 ≤ l2 → Q (.inl (some (vI l4))) M K) ∧ (¬ (l4 ≤ l2) → Wp d 92 114 [vR l0, vI l1, vI l2, vI l3, vI l4, vI l5] [] M K Q))) : Wp d 92 102 [vR l0, vI l1, vI l2, vI l3, vI l4, vI l5] [] M K Q := by
  refine r_iload c92_102 rfl ?_
  refine r_iload_n c92_104 rfl ?_
  refine r_icmpP (P := l4 < l1) c92_105 rfl (fun hc => ?_) (fun hc => ?_)
  · replace h := h.1 hc
    exact h
  · replace h := h.2 hc
    refine r_iload c92_108 rfl ?_
    refine r_iload_n c92_110 rfl ?_
    refine r_icmpP (P := l4 ≤ l2) c92_111 rfl (fun hc => ?_) (fun hc => ?_)
    · replace h := h.1 hc
      refine r_iload c92_122 rfl ?_
      exact r_iret c92_124 (Or.inl rfl) h
    · replace h := h.2 hc
      exact h
theorem t92_114 {d : Nat} {l0 : Nat} {l1 : Int} {l2 : Int} {l3 : Int} {l4 : Int} {l5 : Int} {M : Mem} {K : KK} {Q : RR → Mem → KK → Prop} (h : isO K.1 l0 10 = true ∧ Wm d 87 [vR l0, vI (2 : Int), vI l3] M K (Bk d 92 117 120 87 [vR l0, vI l1, vI l2, vI l3, vI l4, vI l5] [] Q)) : Wp (d + 1) 92 114 [vR l0, vI l1, vI l2, vI l3, vI l4, vI l5] [] M K Q := by
  refine r_aload_n c92_114 rfl ?_
  refine r_iconst c92_115 ?_
  refine r_iload_n c92_116 rfl ?_
  obtain ⟨s1, h⟩ := h
  exact r_call c92_117 rfl rfl (Nat.le_of_ble_eq_true rfl) (okc_r rfl rfl s1) h
theorem t92_120 {d : Nat} {l0 : Nat} {l1 : Int} {l2 : Int} {l3 : Int} {l4 : Int} {l5 : Int} {M : Mem} {K : KK} {Q : RR → Mem → KK → Prop} (h : Q (.inl (some (vI l1))) M K) : Wp d 92 120 [vR l0, vI l1, vI l2, vI l3, vI l4, vI l5] [] M K Q := by
  refine r_iload_n c92_120 rfl ?_
  exact r_iret c92_121 (Or.inl rfl) h
theorem t93_0 {d : Nat} {l0 : Nat} {M : Mem} {K : KK} {Q : RR → Mem → KK → Prop} (h : isO K.1 l0 10 = true ∧ Wm d 88 [vR l0] M K (Bk d 93 1 4 88 [vR l0, vU] [] Q)) : Wp (d + 1) 93 0 [vR l0, vU] [] M K Q := by
  refine r_aload_n c93_0 rfl ?_
  obtain ⟨s1, h⟩ := h
  exact r_call c93_1 rfl rfl (Nat.le_of_ble_eq_true rfl) (okc_r rfl rfl s1) h
theorem t93_4 {d : Nat} {l0 : Nat} {t0 : Int} {M : Mem} {K : KK} {Q : RR → Mem → KK → Prop} (h : isO K.1 l0 10 = true ∧ isO K.1 l0 10 = true ∧ isO K.1 l0 10 = true ∧ Wp d 93 18 [vR l0, vI ((mset M l0 4 (M l0 3)) l0 3)] [] (mset M l0 4 (M l0 3)) K Q) : Wp d 93 4 [vR l0, vU] [vI t0] M K Q := by
  refine r_popi c93_4 ?_
  refine r_aload_n c93_5 rfl ?_
  refine r_aload_n c93_6 rfl ?_
  obtain ⟨s1, h⟩ := h
  refine r_getI c93_7 s1 ?_
  obtain ⟨s2, h⟩ := h
  refine r_putI c93_10 s2 ?_
  refine r_aload_n c93_13 rfl ?_
  obtain ⟨s3, h⟩ := h
  refine r_getI c93_14 s3 ?_
  refine r_istore_n c93_17 (Nat.le_of_ble_eq_true rfl) ?_
  exact h
theorem t93_18 {d : Nat} {l0 : Nat} {l1 : Int} {M : Mem} {K : KK} {Q : RR → Mem → KK → Prop} (h : isO K.1 l0 10 = true ∧ ((M l0 2) ≤ l1 → Wp d 93 61 [vR l0, vI l1] [] M K Q) ∧ (¬ ((M l0 2) ≤ l1) → isO K.1 l0 10 = true ∧ ∃ b3 : Nat, (M l0 0) = (b3 : Int) ∧ 0 < b3 ∧ isO K.1 b3 21 = true ∧ (0 ≤ l1 ∧ l1 < (ln b3 : Int)) ∧ ((M b3 (Int.toNat l1)) < (97 : Int) → Wp d 93 61 [vR l0, vI l1] [] M K Q) ∧ (¬ ((M b3 (Int.toNat l1)) < (97 : Int)) → isO K.1 l0 10 = true ∧ ∃ b9 : Nat, (M l0 0) = (b9 : Int) ∧ 0 < b9 ∧ isO K.1 b9 21 = true ∧ (0 ≤ l1 ∧ l1 < (ln b9 : Int)) ∧ ((122 : Int) < (M b9 (Int.toNat l1)) → Wp d 93 61 [vR l0, vI l1] [] M K Q) ∧ (¬ ((122 : Int) < (M b9 (Int.toNat l1))) → isO K.1 l0 10 = true ∧ Wp d 93 18 [vR l0, vI (w32 (l1 + 1))] [] (mset M l0 3 (w32 (l1 + (1 : Int)))) K Q)))) : Wp d 93 18 [vR l0, vI l1] [] M K Q := by
  refine r_iload_n c93_18 rfl ?_
  refine r_aload_n c93_19 rfl ?_
  obtain ⟨s1, h⟩ := h
  refine r_getI c93_20 s1 ?_
  refine r_icmpP (P := (M l0 2) ≤ l1) c93_23 rfl (fun hc => ?_) (fun hc => ?_)
  · replace h := h.1 hc
    exact h
  · replace h := h.2 hc
    refine r_aload_n c93_26 rfl ?_
    obtain ⟨s2, h⟩ := h
    obtain ⟨b3, h⟩ := h
    obtain ⟨s4, h⟩ := h
    obtain ⟨s5, h⟩ := h
    refine r_getR c93_27 s2 s4 s5 ?_
    refine r_iload_n c93_30 rfl ?_
    obtain ⟨s6, h⟩ := h
    obtain ⟨s7, h⟩ := h
    refine r_ca c93_31 s6 s7 ?_
    refine r_bipush c93_32 ?_
    refine r_icmpP (P := (M b3 (Int.toNat l1)) < (97 : Int)) c93_34 rfl (fun hc => ?_) (fun hc => ?_)
    · replace h := h.1 hc
      exact h
    · replace h := h.2 hc
      refine r_aload_n c93_37 rfl ?_
      obtain ⟨s8, h⟩ := h
      obtain ⟨b9, h⟩ := h
      obtain ⟨s10, h⟩ := h
      obtain ⟨s11, h⟩ := h
      refine r_getR c93_38 s8 s10 s11 ?_
      refine r_iload_n c93_41 rfl ?_
      obtain ⟨s12, h⟩ := h
      obtain ⟨s13, h⟩ := h
      refine r_ca c93_42 s12 s13 ?_
      refine r_bipush c93_43 ?_
      refine r_icmpP (P := (122 : Int) < (M b9 (Int.toNat l1))) c93_45 rfl (fun hc => ?_) (fun hc => ?_)
      · replace h := h.1 hc
        exact h
      · replace h := h.2 hc
        refine r_aload_n c93_48 rfl ?_
        refine r_iload_n c93_49 rfl ?_
        refine r_iconst c93_50 ?_
        refine r_iadd c93_51 ?_
        obtain ⟨s14, h⟩ := h
        refine r_putI c93_52 s14 ?_
        refine r_iinc c93_55 rfl ?_
        refine r_goto c93_58 ?_
        exact h
theorem t93_61 {d : Nat} {l0 : Nat} {l1 : Int} {M : Mem} {K : KK} {Q : RR → Mem → KK → Prop} (h : isO K.1 l0 10 = true ∧ isO K.1 l0 10 = true ∧ Q (.inl none) (mset M l0 5 (M l0 3)) K) : Wp d 93 61 [vR l0, vI l1] [] M K Q := by
  refine r_aload_n c93_61 rfl ?_
  refine r_aload_n c93_62 rfl ?_
  obtain ⟨s1, h⟩ := h
  refine r_getI c93_63 s1 ?_
  obtain ⟨s2, h⟩ := h
  refine r_putI c93_66 s2 ?_
  exact r_ret c93_69 h
theorem t94_0 {d : Nat} {l0 : Nat} {l1 : Nat} {M : Mem} {K : KK} {Q : RR → Mem → KK → Prop} (h : isO K.1 l0 10 = true ∧ isO K.1 l0 10 = true ∧ (2 ≤ l1 ∧ l1 < 27) ∧ ((w32 ((M l0 5) - (M l0 4))) = ((stT.getD (l1 - 2) []).length : Int) → Wp d 94 20 [vR l0, vR l1, vI (0 : Int)] [] M K Q) ∧ (¬ ((w32 ((M l0 5) - (M l0 4))) = ((stT.getD (l1 - 2) []).length : Int)) → Q (.inl (some (vI (0 : Int)))) M K)) : Wp d 94 0 [vR l0, vR l1, vU] [] M K Q := by
  refine r_aload_n c94_0 rfl ?_
  obtain ⟨s1, h⟩ := h
  refine r_getI c94_1 s1 ?_
  refine r_aload_n c94_4 rfl ?_
  obtain ⟨s2, h⟩ := h
  refine r_getI c94_5 s2 ?_
  refine r_isub c94_8 ?_
  refine r_aload_n c94_9 rfl ?_
  obtain ⟨s3, h⟩ := h
  refine r_slen c94_10 ⟨s3, Nat.le_of_ble_eq_true rfl⟩ ?_
  refine r_icmpP (P := (w32 ((M l0 5) - (M l0 4))) = ((stT.getD (l1 - 2) []).length : Int)) c94_13 rfl (fun hc => ?_) (fun hc => ?_)
  · replace h := h.1 hc
    refine r_iconst c94_18 ?_
    refine r_istore_n c94_19 (Nat.le_of_ble_eq_true rfl) ?_
    exact h
  · replace h := h.2 hc
    refine r_iconst c94_16 ?_
    exact r_iret c94_17 (by decide) h
theorem t94_20 {d : Nat} {l0 : Nat} {l1 : Nat} {l2 : Int} {M : Mem} {K : KK} {Q : RR → Mem → KK → Prop} (h : (2 ≤ l1 ∧ l1 < 27) ∧ (((stT.getD (l1 - 2) []).length : Int) ≤ l2 → Wp d 94 69 [vR l0, vR l1, vI l2] [] M K Q) ∧ (¬ (((stT.getD (l1 - 2) []).length : Int) ≤ l2) → isO K.1 l0 10 = true ∧ isO K.1 l0 10 = true ∧ ∃ b4 : Nat, (M l0 0) = (b4 : Int) ∧ 0 < b4 ∧ (Nat.ble 20 (tg b4) = true ∧ isO K.1 b4 (tg b4) = true) ∧ ((ln b4 : Int) ≤ (w32 ((M l0 4) + l2)) → Wp d 94 69 [vR l0, vR l1, vI l2] [] M K Q) ∧ (¬ ((ln b4 : Int) ≤ (w32 ((M l0 4) + l2))) → isO K.1 l0 10 = true ∧ ∃ b9 : Nat, (M l0 0) = (b9 : Int) ∧ 0 < b9 ∧ isO K.1 l0 10 = true ∧ isO K.1 b9 21 = true ∧ (0 ≤ (w32 ((M l0 4) + l2)) ∧ (w32 ((M l0 4) + l2)) < (ln b9 : Int)) ∧ (2 ≤ l1 ∧ l1 < 27) ∧ (0 ≤ l2 ∧ l2 < ((stT.getD (l1 - 2) []).length : Int)) ∧ ((M b9 (Int.toNat (w32 ((M l0 4) + l2)))) = ((stT.getD (l1 - 2) []).getD (Int.toNat l2) 0 : Int) → Wp d 94 20 [vR l0, vR l1, vI (w32 (l2 + 1))] [] M K Q) ∧ (¬ ((M b9 (Int.toNat (w32 ((M l0 4) + l2)))) = ((stT.getD (l1 - 2) []).getD (Int.toNat l2) 0 : Int)) → Q (.inl (some (vI (0 : Int)))) M K)))) : Wp d 94 20 [vR l0, vR l1, vI l2] [] M K Q := by
  refine r_iload_n c94_20 rfl ?_
  refine r_aload_n c94_21 rfl ?_
  obtain ⟨s1, h⟩ := h
  refine r_slen c94_22 ⟨s1, Nat.le_of_ble_eq_true rfl⟩ ?_
  refine r_icmpP (P := ((stT.getD (l1 - 2) []).length : Int) ≤ l2) c94_25 rfl (fun hc => ?_) (fun hc => ?_)
  · replace h := h.1 hc
    exact h
  · replace h := h.2 hc
    refine r_aload_n c94_28 rfl ?_
    obtain ⟨s2, h⟩ := h
    refine r_getI c94_29 s2 ?_
    refine r_iload_n c94_32 rfl ?_
    refine r_iadd c94_33 ?_
    refine r_aload_n c94_34 rfl ?_
    obtain ⟨s3, h⟩ := h
    obtain ⟨b4, h⟩ := h
    obtain ⟨s5, h⟩ := h
    obtain ⟨s6, h⟩ := h
    refine r_getR c94_35 s3 s5 s6 ?_
    obtain ⟨s7, h⟩ := h
    refine r_alen c94_38 s7 ?_
    refine r_icmpP (P := (ln b4 : Int) ≤ (w32 ((M l0 4) + l2))) c94_39 rfl (fun hc => ?_) (fun hc => ?_)
    · replace h := h.1 hc
      exact h
    · replace h := h.2 hc
      refine r_aload_n c94_42 rfl ?_
      obtain ⟨s8, h⟩ := h
      obtain ⟨b9, h⟩ := h
      obtain ⟨s10, h⟩ := h
      obtain ⟨s11, h⟩ := h
      refine r_getR c94_43 s8 s10 s11 ?_
      refine r_aload_n c94_46 rfl ?_
      obtain ⟨s12, h⟩ := h
      refine r_getI c94_47 s12 ?_
      refine r_iload_n c94_50 rfl ?_
      refine r_iadd c94_51 ?_
      obtain ⟨s13, h⟩ := h
      obtain ⟨s14, h⟩ := h
      refine r_ca c94_52 s13 s14 ?_
      refine r_aload_n c94_53 rfl ?_
      refine r_iload_n c94_54 rfl ?_
      obtain ⟨s15, h⟩ := h
      obtain ⟨s16, h⟩ := h
      refine r_schr c94_55 ⟨s15, s16, Nat.le_of_ble_eq_true rfl⟩ ?_
      refine r_icmpP (P := (M b9 (Int.toNat (w32 ((M l0 4) + l2)))) = ((stT.getD (l1 - 2) []).getD (Int.toNat l2) 0 : Int)) c94_58 rfl (fun hc => ?_) (fun hc => ?_)
      · replace h := h.1 hc
        refine r_iinc c94_63 rfl ?_
        refine r_goto c94_66 ?_
        exact h
      · replace h := h.2 hc
        refine r_iconst c94_61 ?_
        exact r_iret c94_62 (by decide) h
theorem t94_69 {d : Nat} {l0 : Nat} {l1 : Nat} {l2 : Int} {M : Mem} {K : KK} {Q : RR → Mem → KK → Prop} (h : Q (.inl (some (vI (1 : Int)))) M K) : Wp d 94 69 [vR l0, vR l1, vI l2] [] M K Q := by
  refine r_iconst c94_69 ?_
  exact r_iret c94_70 (by decide) h
theorem t95_0 {d : Nat} {l0 : Nat} {l1 : Int} {M : Mem} {K : KK} {Q : RR → Mem → KK → Prop} (h : isO K.1 l0 10 = true ∧ isO K.1 l0 10 = true ∧ Wm d 87 [vR l0, vI l1, vI (M l0 4)] M K (Bk d 95 6 9 87 [vR l0, vI l1] [] Q)) : Wp (d + 1) 95 0 [vR l0, vI l1] [] M K Q := by
  refine r_aload_n c95_0 rfl ?_
  refine r_iload_n c95_1 rfl ?_
  refine r_aload_n c95_2 rfl ?_
  obtain ⟨s1, h⟩ := h
  refine r_getI c95_3 s1 ?_
  obtain ⟨s2, h⟩ := h
  exact r_call c95_6 rfl rfl (Nat.le_of_ble_eq_true rfl) (okc_r rfl rfl s2) h
theorem t95_9 {d : Nat} {l0 : Nat} {l1 : Int} {M : Mem} {K : KK} {Q : RR → Mem → KK → Prop} (h : Q (.inl none) M K) : Wp d 95 9 [vR l0, vI l1] [] M K Q := by
  exact r_ret c95_9 h
theorem t96_0 {d : Nat} {l0 : Nat} {M : Mem} {K : KK} {Q : RR → Mem → KK → Prop} (h : isO K.1 l0 10 = true ∧ Wm d 88 [vR l0] M K (Bk d 96 1 4 88 [vR l0] [] Q)) : Wp (d + 1) 96 0 [vR l0] [] M K Q := by
  refine r_aload_n c96_0 rfl ?_
  obtain ⟨s1, h⟩ := h
  exact r_call c96_1 rfl rfl (Nat.le_of_ble_eq_true rfl) (okc_r rfl rfl s1) h
theorem t96_4 {d : Nat} {l0 : Nat} {t0 : Int} {M : Mem} {K : KK} {Q : RR → Mem → KK → Prop} (h : (t0 = (-1 : Int) → Wp (d + 1) 96 17 [vR l0] [] M K Q) ∧ (¬ (t0 = (-1 : Int)) → isO K.1 l0 10 = true ∧ isO K.1 l0 10 = true ∧ Wm d 87 [vR l0, vI (1 : Int), vI (M l0 3)] M K (Bk d 96 14 17 87 [vR l0] [] Q))) : Wp (d + 1) 96 4 [vR l0] [vI t0] M K Q := by
  refine r_iconst c96_4 ?_
  refine r_icmpP (P := t0 = (-1 : Int)) c96_5 rfl (fun hc => ?_) (fun hc => ?_)
  · replace h := h.1 hc
    exact h
  · replace h := h.2 hc
    refine r_aload_n c96_8 rfl ?_
    refine r_iconst c96_9 ?_
    refine r_aload_n c96_10 rfl ?_
    obtain ⟨s1, h⟩ := h
    refine r_getI c96_11 s1 ?_
    obtain ⟨s2, h⟩ := h
    exact r_call c96_14 rfl rfl (Nat.le_of_ble_eq_true rfl) (okc_r rfl rfl s2) h
theorem t96_17 {d : Nat} {l0 : Nat} {M : Mem} {K : KK} {Q : RR → Mem → KK → Prop} (h : Q (.inl none) M K) : Wp d 96 17 [vR l0] [] M K Q := by
  exact r_ret c96_17 h
