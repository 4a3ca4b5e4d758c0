/-! the trees of the code -/
theorem t97_0 {d : Nat} {l0 : Nat} {M : Mem} {K : KK} {Q : RR → Mem → KK → Prop} (h : (tg K.1 = 10 ∧ 10 < 13) ∧ isO (K.1 + 1) K.1 10 = true ∧ Wm d 82 [vR K.1] M ((K.1 + 1), (K.2.1 + 1), (K.2.2 + fnT.getD 10 0)) (Bk d 97 9 12 82 [vR l0, vU] [vR K.1, vR l0] Q)) : Wp (d + 1) 97 0 [vR l0, vU] [] M K Q := by
  refine r_aload_n c97_0 rfl ?_
  refine r_obj c97_1 (Nat.le_of_ble_eq_true rfl) ?_
  refine r_aload_n c97_4 rfl ?_
  obtain ⟨s1, h⟩ := h
  refine r_new c97_5 s1 ?_
  refine r_dupr c97_8 ?_
  obtain ⟨s2, h⟩ := h
  exact r_call c97_9 rfl rfl (Nat.le_of_ble_eq_true rfl) (okc_r rfl rfl s2) h
theorem t97_12 {d : Nat} {l0 : Nat} {t0 : Nat} {t1 : Nat} {M : Mem} {K : KK} {Q : RR → Mem → KK → Prop} (h : isO K.1 t0 11 = true ∧ 0 < t1 ∧ (tg K.1 = 7 ∧ 7 < 13) ∧ isO (K.1 + 1) K.1 7 = true ∧ Wm d 63 [vR K.1] (mset M t0 0 (t1 : Nat)) ((K.1 + 1), (K.2.1 + 1), (K.2.2 + fnT.getD 7 0)) (Bk d 97 20 23 63 [vR l0, vU] [vR K.1, vR l0] Q)) : Wp (d + 1) 97 12 [vR l0, vU] [vR t1, vR t0] M K Q := by
  obtain ⟨s1, h⟩ := h
  obtain ⟨s2, h⟩ := h
  refine r_putR c97_12 s1 s2 ?_
  refine r_aload_n c97_15 rfl ?_
  obtain ⟨s3, h⟩ := h
  refine r_new c97_16 s3 ?_
  refine r_dupr c97_19 ?_
  obtain ⟨s4, h⟩ := h
  exact r_call c97_20 rfl rfl (Nat.le_of_ble_eq_true rfl) (okc_r rfl rfl s4) h
theorem t97_23 {d : Nat} {l0 : Nat} {t0 : Nat} {t1 : Nat} {M : Mem} {K : KK} {Q : RR → Mem → KK → Prop} (h : isO K.1 t0 11 = true ∧ 0 < t1 ∧ (tg K.1 = 3 ∧ 3 < 13) ∧ isO (K.1 + 1) K.1 3 = true ∧ Wm d 28 [vR K.1] (mset M t0 1 (t1 : Nat)) ((K.1 + 1), (K.2.1 + 1), (K.2.2 + fnT.getD 3 0)) (Bk d 97 31 34 28 [vR l0, vU] [vR K.1, vR l0] Q)) : Wp (d + 1) 97 23 [vR l0, vU] [vR t1, vR t0] M K Q := by
  obtain ⟨s1, h⟩ := h
  obtain ⟨s2, h⟩ := h
  refine r_putR c97_23 s1 s2 ?_
  refine r_aload_n c97_26 rfl ?_
  obtain ⟨s3, h⟩ := h
  refine r_new c97_27 s3 ?_
  refine r_dupr c97_30 ?_
  obtain ⟨s4, h⟩ := h
  exact r_call c97_31 rfl rfl (Nat.le_of_ble_eq_true rfl) (okc_r rfl rfl s4) h
theorem t97_34 {d : Nat} {l0 : Nat} {t0 : Nat} {t1 : Nat} {M : Mem} {K : KK} {Q : RR → Mem → KK → Prop} (h : isO K.1 t0 11 = true ∧ 0 < t1 ∧ (tg K.1 = 3 ∧ 3 < 13) ∧ isO (K.1 + 1) K.1 3 = true ∧ Wm d 28 [vR K.1] (mset M t0 2 (t1 : Nat)) ((K.1 + 1), (K.2.1 + 1), (K.2.2 + fnT.getD 3 0)) (Bk d 97 42 45 28 [vR l0, vU] [vR K.1, vR l0] Q)) : Wp (d + 1) 97 34 [vR l0, vU] [vR t1, vR t0] M K Q := by
  obtain ⟨s1, h⟩ := h
  obtain ⟨s2, h⟩ := h
  refine r_putR c97_34 s1 s2 ?_
  refine r_aload_n c97_37 rfl ?_
  obtain ⟨s3, h⟩ := h
  refine r_new c97_38 s3 ?_
  refine r_dupr c97_41 ?_
  obtain ⟨s4, h⟩ := h
  exact r_call c97_42 rfl rfl (Nat.le_of_ble_eq_true rfl) (okc_r rfl rfl s4) h
theorem t97_45 {d : Nat} {l0 : Nat} {t0 : Nat} {t1 : Nat} {M : Mem} {K : KK} {Q : RR → Mem → KK → Prop} (h : isO K.1 t0 11 = true ∧ 0 < t1 ∧ (tg K.1 = 6 ∧ 6 < 13) ∧ isO (K.1 + 1) K.1 6 = true ∧ Wm d 59 [vR K.1] (mset M t0 3 (t1 : Nat)) ((K.1 + 1), (K.2.1 + 1), (K.2.2 + fnT.getD 6 0)) (Bk d 97 53 56 59 [vR l0, vU] [vR K.1, vR l0] Q)) : Wp (d + 1) 97 45 [vR l0, vU] [vR t1, vR t0] M K Q := by
  obtain ⟨s1, h⟩ := h
  obtain ⟨s2, h⟩ := h
  refine r_putR c97_45 s1 s2 ?_
  refine r_aload_n c97_48 rfl ?_
  obtain ⟨s3, h⟩ := h
  refine r_new c97_49 s3 ?_
  refine r_dupr c97_52 ?_
  obtain ⟨s4, h⟩ := h
  exact r_call c97_53 rfl rfl (Nat.le_of_ble_eq_true rfl) (okc_r rfl rfl s4) h
theorem t97_56 {d : Nat} {l0 : Nat} {t0 : Nat} {t1 : Nat} {M : Mem} {K : KK} {Q : RR → Mem → KK → Prop} (h : isO K.1 t0 11 = true ∧ 0 < t1 ∧ (tg K.1 = 33 ∧ (3 : Int) = (ln K.1 : Int)) ∧ isO (K.1 + 1) l0 11 = true ∧ 0 < K.1 ∧ (tg (K.1 + 1) = 36 ∧ (3 : Int) = (ln (K.1 + 1) : Int)) ∧ isO ((K.1 + 1) + 1) l0 11 = true ∧ 0 < (K.1 + 1) ∧ (tg ((K.1 + 1) + 1) = 5 ∧ 5 < 13) ∧ isO (((K.1 + 1) + 1) + 1) ((K.1 + 1) + 1) 5 = true ∧ Wm d 51 [vR ((K.1 + 1) + 1)] (mset (mset (mset M t0 4 (t1 : Nat)) l0 5 (K.1 : Nat)) l0 6 ((K.1 + 1) : Nat)) ((((K.1 + 1) + 1) + 1), (((K.2.1 + 1) + 1) + 1), (((K.2.2 + ln K.1) + ln (K.1 + 1)) + fnT.getD 5 0)) (Bk d 97 80 83 51 [vR l0, vU] [vR ((K.1 + 1) + 1), vR l0] Q)) : Wp (d + 1) 97 56 [vR l0, vU] [vR t1, vR t0] M K Q := by
  obtain ⟨s1, h⟩ := h
  obtain ⟨s2, h⟩ := h
  refine r_putR c97_56 s1 s2 ?_
  refine r_aload_n c97_59 rfl ?_
  refine r_iconst c97_60 ?_
  obtain ⟨s3, h⟩ := h
  refine r_anewarray c97_61 s3 ?_
  obtain ⟨s4, h⟩ := h
  obtain ⟨s5, h⟩ := h
  refine r_putR c97_64 s4 s5 ?_
  refine r_aload_n c97_67 rfl ?_
  refine r_iconst c97_68 ?_
  obtain ⟨s6, h⟩ := h
  refine r_anewarray c97_69 s6 ?_
  obtain ⟨s7, h⟩ := h
  obtain ⟨s8, h⟩ := h
  refine r_putR c97_72 s7 s8 ?_
  refine r_aload_n c97_75 rfl ?_
  obtain ⟨s9, h⟩ := h
  refine r_new c97_76 s9 ?_
  refine r_dupr c97_79 ?_
  obtain ⟨s10, h⟩ := h
  exact r_call c97_80 rfl rfl (Nat.le_of_ble_eq_true rfl) (okc_r rfl rfl s10) h
theorem t97_83 {d : Nat} {l0 : Nat} {t0 : Nat} {t1 : Nat} {M : Mem} {K : KK} {Q : RR → Mem → KK → Prop} (h : isO K.1 t0 11 = true ∧ 0 < t1 ∧ (tg K.1 = 1 ∧ 1 < 13) ∧ isO (K.1 + 1) K.1 1 = true ∧ Wm d 13 [vR K.1] (mset M t0 7 (t1 : Nat)) ((K.1 + 1), (K.2.1 + 1), (K.2.2 + fnT.getD 1 0)) (Bk d 97 91 94 13 [vR l0, vU] [vR K.1, vR l0] Q)) : Wp (d + 1) 97 83 [vR l0, vU] [vR t1, vR t0] M K Q := by
  obtain ⟨s1, h⟩ := h
  obtain ⟨s2, h⟩ := h
  refine r_putR c97_83 s1 s2 ?_
  refine r_aload_n c97_86 rfl ?_
  obtain ⟨s3, h⟩ := h
  refine r_new c97_87 s3 ?_
  refine r_dupr c97_90 ?_
  obtain ⟨s4, h⟩ := h
  exact r_call c97_91 rfl rfl (Nat.le_of_ble_eq_true rfl) (okc_r rfl rfl s4) h
theorem t97_94 {d : Nat} {l0 : Nat} {t0 : Nat} {t1 : Nat} {M : Mem} {K : KK} {Q : RR → Mem → KK → Prop} (h : isO K.1 t0 11 = true ∧ 0 < t1 ∧ (tg K.1 = 4 ∧ 4 < 13) ∧ isO (K.1 + 1) K.1 4 = true ∧ Wm d 47 [vR K.1] (mset M t0 8 (t1 : Nat)) ((K.1 + 1), (K.2.1 + 1), (K.2.2 + fnT.getD 4 0)) (Bk d 97 102 105 47 [vR l0, vU] [vR K.1, vR l0] Q)) : Wp (d + 1) 97 94 [vR l0, vU] [vR t1, vR t0] M K Q := by
  obtain ⟨s1, h⟩ := h
  obtain ⟨s2, h⟩ := h
  refine r_putR c97_94 s1 s2 ?_
  refine r_aload_n c97_97 rfl ?_
  obtain ⟨s3, h⟩ := h
  refine r_new c97_98 s3 ?_
  refine r_dupr c97_101 ?_
  obtain ⟨s4, h⟩ := h
  exact r_call c97_102 rfl rfl (Nat.le_of_ble_eq_true rfl) (okc_r rfl rfl s4) h
theorem t97_105 {d : Nat} {l0 : Nat} {t0 : Nat} {t1 : Nat} {M : Mem} {K : KK} {Q : RR → Mem → KK → Prop} (h : isO K.1 t0 11 = true ∧ 0 < t1 ∧ (tg K.1 = 9 ∧ 9 < 13) ∧ isO (K.1 + 1) K.1 9 = true ∧ Wm d 79 [vR K.1] (mset M t0 9 (t1 : Nat)) ((K.1 + 1), (K.2.1 + 1), (K.2.2 + fnT.getD 9 0)) (Bk d 97 113 116 79 [vR l0, vU] [vR K.1, vR l0] Q)) : Wp (d + 1) 97 105 [vR l0, vU] [vR t1, vR t0] M K Q := by
  obtain ⟨s1, h⟩ := h
  obtain ⟨s2, h⟩ := h
  refine r_putR c97_105 s1 s2 ?_
  refine r_aload_n c97_108 rfl ?_
  obtain ⟨s3, h⟩ := h
  refine r_new c97_109 s3 ?_
  refine r_dupr c97_112 ?_
  obtain ⟨s4, h⟩ := h
  exact r_call c97_113 rfl rfl (Nat.le_of_ble_eq_true rfl) (okc_r rfl rfl s4) h
theorem t97_116 {d : Nat} {l0 : Nat} {t0 : Nat} {t1 : Nat} {M : Mem} {K : KK} {Q : RR → Mem → KK → Prop} (h : isO K.1 t0 11 = true ∧ 0 < t1 ∧ (tg K.1 = 0 ∧ 0 < 13) ∧ isO (K.1 + 1) K.1 0 = true ∧ Wm d 0 [vR K.1] (mset M t0 10 (t1 : Nat)) ((K.1 + 1), (K.2.1 + 1), (K.2.2 + fnT.getD 0 0)) (Bk d 97 124 127 0 [vR l0, vU] [vR K.1, vR l0] Q)) : Wp (d + 1) 97 116 [vR l0, vU] [vR t1, vR t0] M K Q := by
  obtain ⟨s1, h⟩ := h
  obtain ⟨s2, h⟩ := h
  refine r_putR c97_116 s1 s2 ?_
  refine r_aload_n c97_119 rfl ?_
  obtain ⟨s3, h⟩ := h
  refine r_new c97_120 s3 ?_
  refine r_dupr c97_123 ?_
  obtain ⟨s4, h⟩ := h
  exact r_call c97_124 rfl rfl (Nat.le_of_ble_eq_true rfl) (okc_r rfl rfl s4) h
theorem t97_127 {d : Nat} {l0 : Nat} {t0 : Nat} {t1 : Nat} {M : Mem} {K : KK} {Q : RR → Mem → KK → Prop} (h : isO K.1 t0 11 = true ∧ 0 < t1 ∧ (tg K.1 = 0 ∧ 0 < 13) ∧ isO (K.1 + 1) K.1 0 = true ∧ Wm d 0 [vR K.1] (mset M t0 11 (t1 : Nat)) ((K.1 + 1), (K.2.1 + 1), (K.2.2 + fnT.getD 0 0)) (Bk d 97 135 138 0 [vR l0, vU] [vR K.1, vR l0] Q)) : Wp (d + 1) 97 127 [vR l0, vU] [vR t1, vR t0] M K Q := by
  obtain ⟨s1, h⟩ := h
  obtain ⟨s2, h⟩ := h
  refine r_putR c97_127 s1 s2 ?_
  refine r_aload_n c97_130 rfl ?_
  obtain ⟨s3, h⟩ := h
  refine r_new c97_131 s3 ?_
  refine r_dupr c97_134 ?_
  obtain ⟨s4, h⟩ := h
  exact r_call c97_135 rfl rfl (Nat.le_of_ble_eq_true rfl) (okc_r rfl rfl s4) h
theorem t97_138 {d : Nat} {l0 : Nat} {t0 : Nat} {t1 : Nat} {M : Mem} {K : KK} {Q : RR → Mem → KK → Prop} (h : isO K.1 t0 11 = true ∧ 0 < t1 ∧ (tg K.1 = 2 ∧ 2 < 13) ∧ isO (K.1 + 1) K.1 2 = true ∧ Wm d 17 [vR K.1] (mset M t0 12 (t1 : Nat)) ((K.1 + 1), (K.2.1 + 1), (K.2.2 + fnT.getD 2 0)) (Bk d 97 146 149 17 [vR l0, vU] [vR K.1, vR l0] Q)) : Wp (d + 1) 97 138 [vR l0, vU] [vR t1, vR t0] M K Q := by
  obtain ⟨s1, h⟩ := h
  obtain ⟨s2, h⟩ := h
  refine r_putR c97_138 s1 s2 ?_
  refine r_aload_n c97_141 rfl ?_
  obtain ⟨s3, h⟩ := h
  refine r_new c97_142 s3 ?_
  refine r_dupr c97_145 ?_
  obtain ⟨s4, h⟩ := h
  exact r_call c97_146 rfl rfl (Nat.le_of_ble_eq_true rfl) (okc_r rfl rfl s4) h
theorem t97_149 {d : Nat} {l0 : Nat} {t0 : Nat} {t1 : Nat} {M : Mem} {K : KK} {Q : RR → Mem → KK → Prop} (h : isO K.1 t0 11 = true ∧ 0 < t1 ∧ (tg K.1 = 8 ∧ 8 < 13) ∧ isO (K.1 + 1) K.1 8 = true ∧ Wm d 74 [vR K.1] (mset M t0 13 (t1 : Nat)) ((K.1 + 1), (K.2.1 + 1), (K.2.2 + fnT.getD 8 0)) (Bk d 97 157 160 74 [vR l0, vU] [vR K.1, vR l0] Q)) : Wp (d + 1) 97 149 [vR l0, vU] [vR t1, vR t0] M K Q := by
  obtain ⟨s1, h⟩ := h
  obtain ⟨s2, h⟩ := h
  refine r_putR c97_149 s1 s2 ?_
  refine r_aload_n c97_152 rfl ?_
  obtain ⟨s3, h⟩ := h
  refine r_new c97_153 s3 ?_
  refine r_dupr c97_156 ?_
  obtain ⟨s4, h⟩ := h
  exact r_call c97_157 rfl rfl (Nat.le_of_ble_eq_true rfl) (okc_r rfl rfl s4) h
theorem t97_160 {d : Nat} {l0 : Nat} {t0 : Nat} {t1 : Nat} {M : Mem} {K : KK} {Q : RR → Mem → KK → Prop} (h : isO K.1 t0 11 = true ∧ 0 < t1 ∧ (tg K.1 = 8 ∧ 8 < 13) ∧ isO (K.1 + 1) K.1 8 = true ∧ Wm d 74 [vR K.1] (mset M t0 14 (t1 : Nat)) ((K.1 + 1), (K.2.1 + 1), (K.2.2 + fnT.getD 8 0)) (Bk d 97 168 171 74 [vR l0, vU] [vR K.1, vR l0] Q)) : Wp (d + 1) 97 160 [vR l0, vU] [vR t1, vR t0] M K Q := by
  obtain ⟨s1, h⟩ := h
  obtain ⟨s2, h⟩ := h
  refine r_putR c97_160 s1 s2 ?_
  refine r_aload_n c97_163 rfl ?_
  obtain ⟨s3, h⟩ := h
  refine r_new c97_164 s3 ?_
  refine r_dupr c97_167 ?_
  obtain ⟨s4, h⟩ := h
  exact r_call c97_168 rfl rfl (Nat.le_of_ble_eq_true rfl) (okc_r rfl rfl s4) h
theorem t97_171 {d : Nat} {l0 : Nat} {t0 : Nat} {t1 : Nat} {M : Mem} {K : KK} {Q : RR → Mem → KK → Prop} (h : isO K.1 t0 11 = true ∧ 0 < t1 ∧ Wp d 97 176 [vR l0, vI (0 : Int)] [] (mset M t0 15 (t1 : Nat)) K Q) : Wp d 97 171 [vR l0, vU] [vR t1, vR t0] M K Q := by
  obtain ⟨s1, h⟩ := h
  obtain ⟨s2, h⟩ := h
  refine r_putR c97_171 s1 s2 ?_
  refine r_iconst c97_174 ?_
  refine r_istore_n c97_175 (Nat.le_of_ble_eq_true rfl) ?_
  exact h
theorem t97_176 {d : Nat} {l0 : Nat} {l1 : Int} {M : Mem} {K : KK} {Q : RR → Mem → KK → Prop} (h : ((3 : Int) ≤ l1 → isO K.1 l0 11 = true ∧ ∃ b2 : Nat, (M l0 2) = (b2 : Int) ∧ 0 < b2 ∧ isO K.1 l0 11 = true ∧ ∃ b6 : Nat, (M l0 11) = (b6 : Int) ∧ 0 < b6 ∧ isO K.1 b2 3 = true ∧ Wm d 29 [vR b2, vR b6] M K (Bk d 97 221 224 29 [vR l0, vI l1] [] Q)) ∧ (¬ ((3 : Int) ≤ l1) → isO K.1 l0 11 = true ∧ ∃ b11 : Nat, (M l0 5) = (b11 : Int) ∧ 0 < b11 ∧ (tg K.1 = 3 ∧ 3 < 13) ∧ isO (K.1 + 1) K.1 3 = true ∧ Wm d 28 [vR K.1] M ((K.1 + 1), (K.2.1 + 1), (K.2.2 + fnT.getD 3 0)) (Bk d 97 190 193 28 [vR l0, vI l1] [vR K.1, vI l1, vR b11] Q))) : Wp (d + 1) 97 176 [vR l0, vI l1] [] M K Q := by
  refine r_iload_n c97_176 rfl ?_
  refine r_iconst c97_177 ?_
  refine r_icmpP (P := (3 : Int) ≤ l1) c97_178 rfl (fun hc => ?_) (fun hc => ?_)
  · replace h := h.1 hc
    refine r_aload_n c97_213 rfl ?_
    obtain ⟨s1, h⟩ := h
    obtain ⟨b2, h⟩ := h
    obtain ⟨s3, h⟩ := h
    obtain ⟨s4, h⟩ := h
    refine r_getR c97_214 s1 s3 s4 ?_
    refine r_aload_n c97_217 rfl ?_
    obtain ⟨s5, h⟩ := h
    obtain ⟨b6, h⟩ := h
    obtain ⟨s7, h⟩ := h
    obtain ⟨s8, h⟩ := h
    refine r_getR c97_218 s5 s7 s8 ?_
    obtain ⟨s9, h⟩ := h
    exact r_call c97_221 rfl rfl (Nat.le_of_ble_eq_true rfl) (okc_r rfl rfl s9) h
  · replace h := h.2 hc
    refine r_aload_n c97_181 rfl ?_
    obtain ⟨s10, h⟩ := h
    obtain ⟨b11, h⟩ := h
    obtain ⟨s12, h⟩ := h
    obtain ⟨s13, h⟩ := h
    refine r_getR c97_182 s10 s12 s13 ?_
    refine r_iload_n c97_185 rfl ?_
    obtain ⟨s14, h⟩ := h
    refine r_new c97_186 s14 ?_
    refine r_dupr c97_189 ?_
    obtain ⟨s15, h⟩ := h
    exact r_call c97_190 rfl rfl (Nat.le_of_ble_eq_true rfl) (okc_r rfl rfl s15) h
theorem t97_193 {d : Nat} {l0 : Nat} {l1 : Int} {t0 : Nat} {t1 : Int} {t2 : Nat} {M : Mem} {K : KK} {Q : RR → Mem → KK → Prop} (h : (Nat.ble 30 (tg t0) = true ∧ Nat.blt (tg t0) 40 = true ∧ isO K.1 t0 (tg t0) = true) ∧ (0 ≤ t1 ∧ t1 < (ln t0 : Int)) ∧ 0 < t2 ∧ isO K.1 t2 (tg t0 - 30) = true ∧ isO K.1 l0 11 = true ∧ ∃ b6 : Nat, ((mset M t0 (Int.toNat t1) (t2 : Nat)) l0 6) = (b6 : Int) ∧ 0 < b6 ∧ (tg K.1 = 6 ∧ 6 < 13) ∧ isO (K.1 + 1) K.1 6 = true ∧ Wm d 59 [vR K.1] (mset M t0 (Int.toNat t1) (t2 : Nat)) ((K.1 + 1), (K.2.1 + 1), (K.2.2 + fnT.getD 6 0)) (Bk d 97 203 206 59 [vR l0, vI l1] [vR K.1, vI l1, vR b6] Q)) : Wp (d + 1) 97 193 [vR l0, vI l1] [vR t2, vI t1, vR t0] M K Q := by
  obtain ⟨s1, h⟩ := h
  obtain ⟨s2, h⟩ := h
  obtain ⟨s3, h⟩ := h
  obtain ⟨s4, h⟩ := h
  refine r_aas c97_193 s1 s2 s3 s4 ?_
  refine r_aload_n c97_194 rfl ?_
  obtain ⟨s5, h⟩ := h
  obtain ⟨b6, h⟩ := h
  obtain ⟨s7, h⟩ := h
  obtain ⟨s8, h⟩ := h
  refine r_getR c97_195 s5 s7 s8 ?_
  refine r_iload_n c97_198 rfl ?_
  obtain ⟨s9, h⟩ := h
  refine r_new c97_199 s9 ?_
  refine r_dupr c97_202 ?_
  obtain ⟨s10, h⟩ := h
  exact r_call c97_203 rfl rfl (Nat.le_of_ble_eq_true rfl) (okc_r rfl rfl s10) h
theorem t97_206 {d : Nat} {l0 : Nat} {l1 : Int} {t0 : Nat} {t1 : Int} {t2 : Nat} {M : Mem} {K : KK} {Q : RR → Mem → KK → Prop} (h : (Nat.ble 30 (tg t0) = true ∧ Nat.blt (tg t0) 40 = true ∧ isO K.1 t0 (tg t0) = true) ∧ (0 ≤ t1 ∧ t1 < (ln t0 : Int)) ∧ 0 < t2 ∧ isO K.1 t2 (tg t0 - 30) = true ∧ Wp d 97 176 [vR l0, vI (w32 (l1 + 1))] [] (mset M t0 (Int.toNat t1) (t2 : Nat)) K Q) : Wp d 97 206 [vR l0, vI l1] [vR t2, vI t1, vR t0] M K Q := by
  obtain ⟨s1, h⟩ := h
  obtain ⟨s2, h⟩ := h
  obtain ⟨s3, h⟩ := h
  obtain ⟨s4, h⟩ := h
  refine r_aas c97_206 s1 s2 s3 s4 ?_
  refine r_iinc c97_207 rfl ?_
  refine r_goto c97_210 ?_
  exact h
theorem t97_224 {d : Nat} {l0 : Nat} {l1 : Int} {M : Mem} {K : KK} {Q : RR → Mem → KK → Prop} (h : Q (.inl none) M K) : Wp d 97 224 [vR l0, vI l1] [] M K Q := by
  exact r_ret c97_224 h
theorem t98_0 {d : Nat} {l0 : Nat} {l1 : Int} {l2 : Int} {l3 : Int} {l4 : Int} {l5 : Int} {M : Mem} {K : KK} {Q : RR → Mem → KK → Prop} (h : isO K.1 l0 11 = true ∧ ∃ b2 : Nat, (M l0 0) = (b2 : Int) ∧ 0 < b2 ∧ isO K.1 b2 10 = true ∧ ((w32 ((M b2 1) + (20 : Int))) ≤ (600 : Int) → isO K.1 l0 11 = true ∧ ∃ b7 : Nat, (M l0 0) = (b7 : Int) ∧ 0 < b7 ∧ isO K.1 b7 10 = true ∧ Wm d 83 [vR b7, vI l1] M K (Bk d 98 23 26 83 [vR l0, vI l1, vI l2, vI l3, vI l4, vI l5] [] Q)) ∧ (¬ ((w32 ((M b2 1) + (20 : Int))) ≤ (600 : Int)) → Q (.inl (some (vI (-1 : Int)))) M K)) : Wp (d + 1) 98 0 [vR l0, vI l1, vI l2, vI l3, vI l4, vI l5] [] M K Q := by
  refine r_aload_n c98_0 rfl ?_
  obtain ⟨s1, h⟩ := h
  obtain ⟨b2, h⟩ := h
  obtain ⟨s3, h⟩ := h
  obtain ⟨s4, h⟩ := h
  refine r_getR c98_1 s1 s3 s4 ?_
  obtain ⟨s5, h⟩ := h
  refine r_getI c98_4 s5 ?_
  refine r_bipush c98_7 ?_
  refine r_iadd c98_9 ?_
  refine r_sipush c98_10 ?_
  refine r_icmpP (P := (w32 ((M b2 1) + (20 : Int))) ≤ (600 : Int)) c98_13 rfl (fun hc => ?_) (fun hc => ?_)
  · replace h := h.1 hc
    refine r_aload_n c98_18 rfl ?_
    obtain ⟨s6, h⟩ := h
    obtain ⟨b7, h⟩ := h
    obtain ⟨s8, h⟩ := h
    obtain ⟨s9, h⟩ := h
    refine r_getR c98_19 s6 s8 s9 ?_
    refine r_iload_n c98_22 rfl ?_
    obtain ⟨s10, h⟩ := h
    exact r_call c98_23 rfl rfl (Nat.le_of_ble_eq_true rfl) (okc_r rfl rfl s10) h
  · replace h := h.2 hc
    refine r_iconst c98_16 ?_
    exact r_iret c98_17 (Or.inl rfl) h
theorem t98_26 {d : Nat} {l0 : Nat} {l1 : Int} {l2 : Int} {l3 : Int} {l4 : Int} {l5 : Int} {M : Mem} {K : KK} {Q : RR → Mem → KK → Prop} (h : isO K.1 l0 11 = true ∧ ∃ b2 : Nat, (M l0 0) = (b2 : Int) ∧ 0 < b2 ∧ isO K.1 b2 10 = true ∧ Wm d 83 [vR b2, vI l2] M K (Bk d 98 31 34 83 [vR l0, vI l1, vI l2, vI l3, vI l4, vI l5] [] Q)) : Wp (d + 1) 98 26 [vR l0, vI l1, vI l2, vI l3, vI l4, vI l5] [] M K Q := by
  refine r_aload_n c98_26 rfl ?_
  obtain ⟨s1, h⟩ := h
  obtain ⟨b2, h⟩ := h
  obtain ⟨s3, h⟩ := h
  obtain ⟨s4, h⟩ := h
  refine r_getR c98_27 s1 s3 s4 ?_
  refine r_iload_n c98_30 rfl ?_
  obtain ⟨s5, h⟩ := h
  exact r_call c98_31 rfl rfl (Nat.le_of_ble_eq_true rfl) (okc_r rfl rfl s5) h
theorem t98_34 {d : Nat} {l0 : Nat} {l1 : Int} {l2 : Int} {l3 : Int} {l4 : Int} {l5 : Int} {M : Mem} {K : KK} {Q : RR → Mem → KK → Prop} (h : isO K.1 l0 11 = true ∧ ∃ b2 : Nat, (M l0 0) = (b2 : Int) ∧ 0 < b2 ∧ isO K.1 b2 10 = true ∧ Wm d 83 [vR b2, vI l3] M K (Bk d 98 39 42 83 [vR l0, vI l1, vI l2, vI l3, vI l4, vI l5] [] Q)) : Wp (d + 1) 98 34 [vR l0, vI l1, vI l2, vI l3, vI l4, vI l5] [] M K Q := by
  refine r_aload_n c98_34 rfl ?_
  obtain ⟨s1, h⟩ := h
  obtain ⟨b2, h⟩ := h
  obtain ⟨s3, h⟩ := h
  obtain ⟨s4, h⟩ := h
  refine r_getR c98_35 s1 s3 s4 ?_
  refine r_iload_n c98_38 rfl ?_
  obtain ⟨s5, h⟩ := h
  exact r_call c98_39 rfl rfl (Nat.le_of_ble_eq_true rfl) (okc_r rfl rfl s5) h
theorem t98_42 {d : Nat} {l0 : Nat} {l1 : Int} {l2 : Int} {l3 : Int} {l4 : Int} {l5 : Int} {M : Mem} {K : KK} {Q : RR → Mem → KK → Prop} (h : isO K.1 l0 11 = true ∧ ∃ b2 : Nat, (M l0 0) = (b2 : Int) ∧ 0 < b2 ∧ isO K.1 b2 10 = true ∧ Wm d 83 [vR b2, vI l4] M K (Bk d 98 48 51 83 [vR l0, vI l1, vI l2, vI l3, vI l4, vI l5] [] Q)) : Wp (d + 1) 98 42 [vR l0, vI l1, vI l2, vI l3, vI l4, vI l5] [] M K Q := by
  refine r_aload_n c98_42 rfl ?_
  obtain ⟨s1, h⟩ := h
  obtain ⟨b2, h⟩ := h
  obtain ⟨s3, h⟩ := h
  obtain ⟨s4, h⟩ := h
  refine r_getR c98_43 s1 s3 s4 ?_
  refine r_iload c98_46 rfl ?_
  obtain ⟨s5, h⟩ := h
  exact r_call c98_48 rfl rfl (Nat.le_of_ble_eq_true rfl) (okc_r rfl rfl s5) h
theorem t98_51 {d : Nat} {l0 : Nat} {l1 : Int} {l2 : Int} {l3 : Int} {l4 : Int} {l5 : Int} {M : Mem} {K : KK} {Q : RR → Mem → KK → Prop} (h : isO K.1 l0 11 = true ∧ ∃ b2 : Nat, (M l0 0) = (b2 : Int) ∧ 0 < b2 ∧ isO K.1 b2 10 = true ∧ Wm d 83 [vR b2, vI l5] M K (Bk d 98 57 60 83 [vR l0, vI l1, vI l2, vI l3, vI l4, vI l5] [] Q)) : Wp (d + 1) 98 51 [vR l0, vI l1, vI l2, vI l3, vI l4, vI l5] [] M K Q := by
  refine r_aload_n c98_51 rfl ?_
  obtain ⟨s1, h⟩ := h
  obtain ⟨b2, h⟩ := h
  obtain ⟨s3, h⟩ := h
  obtain ⟨s4, h⟩ := h
  refine r_getR c98_52 s1 s3 s4 ?_
  refine r_iload c98_55 rfl ?_
  obtain ⟨s5, h⟩ := h
  exact r_call c98_57 rfl rfl (Nat.le_of_ble_eq_true rfl) (okc_r rfl rfl s5) h
theorem t98_60 {d : Nat} {l0 : Nat} {l1 : Int} {l2 : Int} {l3 : Int} {l4 : Int} {l5 : Int} {M : Mem} {K : KK} {Q : RR → Mem → KK → Prop} (h : isO K.1 l0 11 = true ∧ ∃ b2 : Nat, (M l0 0) = (b2 : Int) ∧ 0 < b2 ∧ isO K.1 b2 10 = true ∧ Q (.inl (some (vI (M b2 1)))) M K) : Wp d 98 60 [vR l0, vI l1, vI l2, vI l3, vI l4, vI l5] [] M K Q := by
  refine r_aload_n c98_60 rfl ?_
  obtain ⟨s1, h⟩ := h
  obtain ⟨b2, h⟩ := h
  obtain ⟨s3, h⟩ := h
  obtain ⟨s4, h⟩ := h
  refine r_getR c98_61 s1 s3 s4 ?_
  obtain ⟨s5, h⟩ := h
  refine r_getI c98_64 s5 ?_
  exact r_iret c98_67 (Or.inl rfl) h
theorem t99_0 {d : Nat} {l0 : Nat} {l1 : Int} {M : Mem} {K : KK} {Q : RR → Mem → KK → Prop} (h : isO K.1 l0 11 = true ∧ Wm d 140 [vR l0, vI l1, vI (600 : Int)] M K (Bk d 99 6 9 140 [vR l0, vI l1, vU] [vR l0] Q)) : Wp (d + 1) 99 0 [vR l0, vI l1, vU] [] M K Q := by
  refine r_aload_n c99_0 rfl ?_
  refine r_aload_n c99_1 rfl ?_
  refine r_iload_n c99_2 rfl ?_
  refine r_sipush c99_3 ?_
  obtain ⟨s1, h⟩ := h
  exact r_call c99_6 rfl rfl (Nat.le_of_ble_eq_true rfl) (okc_r rfl rfl s1) h
theorem t99_9 {d : Nat} {l0 : Nat} {l1 : Int} {t0 : Nat} {t1 : Int} {M : Mem} {K : KK} {Q : RR → Mem → KK → Prop} (h : isO K.1 t0 11 = true ∧ Wm d 136 [vR t0, vI t1] M K (Bk d 99 9 12 136 [vR l0, vI l1, vU] [] Q)) : Wp (d + 1) 99 9 [vR l0, vI l1, vU] [vI t1, vR t0] M K Q := by
  obtain ⟨s1, h⟩ := h
  exact r_call c99_9 rfl rfl (Nat.le_of_ble_eq_true rfl) (okc_r rfl rfl s1) h
theorem t99_12 {d : Nat} {l0 : Nat} {l1 : Int} {M : Mem} {K : KK} {Q : RR → Mem → KK → Prop} (h : isO K.1 l0 11 = true ∧ ∃ b2 : Nat, (M l0 0) = (b2 : Int) ∧ 0 < b2 ∧ isO K.1 b2 10 = true ∧ Wm d 84 [vR b2, vI l1] M K (Bk d 99 17 20 84 [vR l0, vI l1, vU] [] Q)) : Wp (d + 1) 99 12 [vR l0, vI l1, vU] [] M K Q := by
  refine r_aload_n c99_12 rfl ?_
  obtain ⟨s1, h⟩ := h
  obtain ⟨b2, h⟩ := h
  obtain ⟨s3, h⟩ := h
  obtain ⟨s4, h⟩ := h
  refine r_getR c99_13 s1 s3 s4 ?_
  refine r_iload_n c99_16 rfl ?_
  obtain ⟨s5, h⟩ := h
  exact r_call c99_17 rfl rfl (Nat.le_of_ble_eq_true rfl) (okc_r rfl rfl s5) h
theorem t99_20 {d : Nat} {l0 : Nat} {l1 : Int} {M : Mem} {K : KK} {Q : RR → Mem → KK → Prop} (h : isO K.1 l0 11 = true ∧ ∃ b2 : Nat, (M l0 12) = (b2 : Int) ∧ 0 < b2 ∧ isO K.1 l0 11 = true ∧ ∃ b6 : Nat, (M l0 0) = (b6 : Int) ∧ 0 < b6 ∧ isO K.1 b2 0 = true ∧ Wm d 2 [vR b2, vR b6] M K (Bk d 99 28 31 2 [vR l0, vI l1, vU] [] Q)) : Wp (d + 1) 99 20 [vR l0, vI l1, vU] [] M K Q := by
  refine r_aload_n c99_20 rfl ?_
  obtain ⟨s1, h⟩ := h
  obtain ⟨b2, h⟩ := h
  obtain ⟨s3, h⟩ := h
  obtain ⟨s4, h⟩ := h
  refine r_getR c99_21 s1 s3 s4 ?_
  refine r_aload_n c99_24 rfl ?_
  obtain ⟨s5, h⟩ := h
  obtain ⟨b6, h⟩ := h
  obtain ⟨s7, h⟩ := h
  obtain ⟨s8, h⟩ := h
  refine r_getR c99_25 s5 s7 s8 ?_
  obtain ⟨s9, h⟩ := h
  exact r_call c99_28 rfl rfl (Nat.le_of_ble_eq_true rfl) (okc_r rfl rfl s9) h
theorem t99_31 {d : Nat} {l0 : Nat} {l1 : Int} {M : Mem} {K : KK} {Q : RR → Mem → KK → Prop} (h : isO K.1 l0 11 = true ∧ ∃ b2 : Nat, (M l0 0) = (b2 : Int) ∧ 0 < b2 ∧ isO K.1 b2 10 = true ∧ Wm d 85 [vR b2] M K (Bk d 99 35 38 85 [vR l0, vI l1, vU] [] Q)) : Wp (d + 1) 99 31 [vR l0, vI l1, vU] [] M K Q := by
  refine r_aload_n c99_31 rfl ?_
  obtain ⟨s1, h⟩ := h
  obtain ⟨b2, h⟩ := h
  obtain ⟨s3, h⟩ := h
  obtain ⟨s4, h⟩ := h
  refine r_getR c99_32 s1 s3 s4 ?_
  obtain ⟨s5, h⟩ := h
  exact r_call c99_35 rfl rfl (Nat.le_of_ble_eq_true rfl) (okc_r rfl rfl s5) h
theorem t99_38 {d : Nat} {l0 : Nat} {l1 : Int} {t0 : Int} {M : Mem} {K : KK} {Q : RR → Mem → KK → Prop} (h : (t0 = (0 : Int) → isO K.1 l0 11 = true ∧ ∃ b2 : Nat, (M l0 12) = (b2 : Int) ∧ 0 < b2 ∧ isO K.1 l0 11 = true ∧ ∃ b6 : Nat, (M l0 11) = (b6 : Int) ∧ 0 < b6 ∧ isO K.1 l0 11 = true ∧ 0 < b6 ∧ isO K.1 l0 11 = true ∧ 0 < b2 ∧ isO K.1 l0 11 = true ∧ ∃ b14 : Nat, ((mset (mset M l0 12 (b6 : Nat)) l0 11 (b2 : Nat)) l0 2) = (b14 : Int) ∧ 0 < b14 ∧ isO K.1 l0 11 = true ∧ ∃ b18 : Nat, ((mset (mset M l0 12 (b6 : Nat)) l0 11 (b2 : Nat)) l0 11) = (b18 : Int) ∧ 0 < b18 ∧ isO K.1 b14 3 = true ∧ Wm d 29 [vR b14, vR b18] (mset (mset M l0 12 (b6 : Nat)) l0 11 (b2 : Nat)) K (Bk d 99 75 78 29 [vR l0, vI l1, vR b2] [] Q)) ∧ (¬ (t0 = (0 : Int)) → isO K.1 l0 11 = true ∧ ∃ b23 : Nat, (M l0 0) = (b23 : Int) ∧ 0 < b23 ∧ isO K.1 b23 10 = true ∧ Wm d 86 [vR b23] M K (Bk d 99 45 48 86 [vR l0, vI l1, vU] [] Q))) : Wp (d + 1) 99 38 [vR l0, vI l1, vU] [vI t0] M K Q := by
  refine r_ifP (P := t0 = (0 : Int)) c99_38 rfl (fun hc => ?_) (fun hc => ?_)
  · replace h := h.1 hc
    refine r_aload_n c99_49 rfl ?_
    obtain ⟨s1, h⟩ := h
    obtain ⟨b2, h⟩ := h
    obtain ⟨s3, h⟩ := h
    obtain ⟨s4, h⟩ := h
    refine r_getR c99_50 s1 s3 s4 ?_
    refine r_astore_n c99_53 (Nat.le_of_ble_eq_true rfl) ?_
    refine r_aload_n c99_54 rfl ?_
    refine r_aload_n c99_55 rfl ?_
    obtain ⟨s5, h⟩ := h
    obtain ⟨b6, h⟩ := h
    obtain ⟨s7, h⟩ := h
    obtain ⟨s8, h⟩ := h
    refine r_getR c99_56 s5 s7 s8 ?_
    obtain ⟨s9, h⟩ := h
    obtain ⟨s10, h⟩ := h
    refine r_putR c99_59 s9 s10 ?_
    refine r_aload_n c99_62 rfl ?_
    refine r_aload_n c99_63 rfl ?_
    obtain ⟨s11, h⟩ := h
    obtain ⟨s12, h⟩ := h
    refine r_putR c99_64 s11 s12 ?_
    refine r_aload_n c99_67 rfl ?_
    obtain ⟨s13, h⟩ := h
    obtain ⟨b14, h⟩ := h
    obtain ⟨s15, h⟩ := h
    obtain ⟨s16, h⟩ := h
    refine r_getR c99_68 s13 s15 s16 ?_
    refine r_aload_n c99_71 rfl ?_
    obtain ⟨s17, h⟩ := h
    obtain ⟨b18, h⟩ := h
    obtain ⟨s19, h⟩ := h
    obtain ⟨s20, h⟩ := h
    refine r_getR c99_72 s17 s19 s20 ?_
    obtain ⟨s21, h⟩ := h
    exact r_call c99_75 rfl rfl (Nat.le_of_ble_eq_true rfl) (okc_r rfl rfl s21) h
  · replace h := h.2 hc
    refine r_aload_n c99_41 rfl ?_
    obtain ⟨s22, h⟩ := h
    obtain ⟨b23, h⟩ := h
    obtain ⟨s24, h⟩ := h
    obtain ⟨s25, h⟩ := h
    refine r_getR c99_42 s22 s24 s25 ?_
    obtain ⟨s26, h⟩ := h
    exact r_call c99_45 rfl rfl (Nat.le_of_ble_eq_true rfl) (okc_r rfl rfl s26) h
theorem t99_48 {d : Nat} {l0 : Nat} {l1 : Int} {t0 : Int} {M : Mem} {K : KK} {Q : RR → Mem → KK → Prop} (h : Q (.inl (some (vI t0))) M K) : Wp d 99 48 [vR l0, vI l1, vU] [vI t0] M K Q := by
  exact r_iret c99_48 (Or.inl rfl) h
theorem t99_78 {d : Nat} {l0 : Nat} {l1 : Int} {l2 : Nat} {M : Mem} {K : KK} {Q : RR → Mem → KK → Prop} (h : isO K.1 l0 11 = true ∧ ∃ b2 : Nat, (M l0 14) = (b2 : Int) ∧ 0 < b2 ∧ isO K.1 b2 8 = true ∧ Wm d 75 [vR b2] M K (Bk d 99 82 85 75 [vR l0, vI l1, vR l2] [] Q)) : Wp (d + 1) 99 78 [vR l0, vI l1, vR l2] [] M K Q := by
  refine r_aload_n c99_78 rfl ?_
  obtain ⟨s1, h⟩ := h
  obtain ⟨b2, h⟩ := h
  obtain ⟨s3, h⟩ := h
  obtain ⟨s4, h⟩ := h
  refine r_getR c99_79 s1 s3 s4 ?_
  obtain ⟨s5, h⟩ := h
  exact r_call c99_82 rfl rfl (Nat.le_of_ble_eq_true rfl) (okc_r rfl rfl s5) h
theorem t99_85 {d : Nat} {l0 : Nat} {l1 : Int} {l2 : Nat} {M : Mem} {K : KK} {Q : RR → Mem → KK → Prop} (h : isO K.1 l0 11 = true ∧ ∃ b2 : Nat, (M l0 4) = (b2 : Int) ∧ 0 < b2 ∧ isO K.1 b2 6 = true ∧ isO K.1 l0 11 = true ∧ isO K.1 l0 11 = true ∧ isO K.1 l0 11 = true ∧ ∃ b9 : Nat, ((mset (mset (mset M b2 1 (0 : Int)) l0 16 (0 : Int)) l0 17 (0 : Int)) l0 11) = (b9 : Int) ∧ 0 < b9 ∧ isO K.1 b9 0 = true ∧ Q (.inl (some (vI ((mset (mset (mset M b2 1 (0 : Int)) l0 16 (0 : Int)) l0 17 (0 : Int)) b9 6)))) (mset (mset (mset M b2 1 (0 : Int)) l0 16 (0 : Int)) l0 17 (0 : Int)) K) : Wp d 99 85 [vR l0, vI l1, vR l2] [] M K Q := by
  refine r_aload_n c99_85 rfl ?_
  obtain ⟨s1, h⟩ := h
  obtain ⟨b2, h⟩ := h
  obtain ⟨s3, h⟩ := h
  obtain ⟨s4, h⟩ := h
  refine r_getR c99_86 s1 s3 s4 ?_
  refine r_iconst c99_89 ?_
  obtain ⟨s5, h⟩ := h
  refine r_putI c99_90 s5 ?_
  refine r_aload_n c99_93 rfl ?_
  refine r_iconst c99_94 ?_
  obtain ⟨s6, h⟩ := h
  refine r_putI c99_95 s6 ?_
  refine r_aload_n c99_98 rfl ?_
  refine r_iconst c99_99 ?_
  obtain ⟨s7, h⟩ := h
  refine r_putI c99_100 s7 ?_
  refine r_aload_n c99_103 rfl ?_
  obtain ⟨s8, h⟩ := h
  obtain ⟨b9, h⟩ := h
  obtain ⟨s10, h⟩ := h
  obtain ⟨s11, h⟩ := h
  refine r_getR c99_104 s8 s10 s11 ?_
  obtain ⟨s12, h⟩ := h
  refine r_getI c99_107 s12 ?_
  exact r_iret c99_110 (Or.inl rfl) h
theorem t100_0 {d : Nat} {l0 : Nat} {l1 : Int} {M : Mem} {K : KK} {Q : RR → Mem → KK → Prop} (h : isO K.1 l0 11 = true ∧ Wm d 140 [vR l0, vI l1, vI (150 : Int)] M K (Bk d 100 6 9 140 [vR l0, vI l1, vU] [vR l0] Q)) : Wp (d + 1) 100 0 [vR l0, vI l1, vU] [] M K Q := by
  refine r_aload_n c100_0 rfl ?_
  refine r_aload_n c100_1 rfl ?_
  refine r_iload_n c100_2 rfl ?_
  refine r_sipush c100_3 ?_
  obtain ⟨s1, h⟩ := h
  exact r_call c100_6 rfl rfl (Nat.le_of_ble_eq_true rfl) (okc_r rfl rfl s1) h
theorem t100_9 {d : Nat} {l0 : Nat} {l1 : Int} {t0 : Nat} {t1 : Int} {M : Mem} {K : KK} {Q : RR → Mem → KK → Prop} (h : isO K.1 t0 11 = true ∧ Wm d 136 [vR t0, vI t1] M K (Bk d 100 9 12 136 [vR l0, vI l1, vU] [] Q)) : Wp (d + 1) 100 9 [vR l0, vI l1, vU] [vI t1, vR t0] M K Q := by
  obtain ⟨s1, h⟩ := h
  exact r_call c100_9 rfl rfl (Nat.le_of_ble_eq_true rfl) (okc_r rfl rfl s1) h
theorem t100_12 {d : Nat} {l0 : Nat} {l1 : Int} {M : Mem} {K : KK} {Q : RR → Mem → KK → Prop} (h : isO K.1 l0 11 = true ∧ ∃ b2 : Nat, (M l0 0) = (b2 : Int) ∧ 0 < b2 ∧ isO K.1 b2 10 = true ∧ Wm d 84 [vR b2, vI l1] M K (Bk d 100 17 20 84 [vR l0, vI l1, vU] [] Q)) : Wp (d + 1) 100 12 [vR l0, vI l1, vU] [] M K Q := by
  refine r_aload_n c100_12 rfl ?_
  obtain ⟨s1, h⟩ := h
  obtain ⟨b2, h⟩ := h
  obtain ⟨s3, h⟩ := h
  obtain ⟨s4, h⟩ := h
  refine r_getR c100_13 s1 s3 s4 ?_
  refine r_iload_n c100_16 rfl ?_
  obtain ⟨s5, h⟩ := h
  exact r_call c100_17 rfl rfl (Nat.le_of_ble_eq_true rfl) (okc_r rfl rfl s5) h
theorem t100_20 {d : Nat} {l0 : Nat} {l1 : Int} {M : Mem} {K : KK} {Q : RR → Mem → KK → Prop} (h : isO K.1 l0 11 = true ∧ ∃ b2 : Nat, (M l0 13) = (b2 : Int) ∧ 0 < b2 ∧ isO K.1 l0 11 = true ∧ ∃ b6 : Nat, (M l0 0) = (b6 : Int) ∧ 0 < b6 ∧ isO K.1 b2 2 = true ∧ Wm d 19 [vR b2, vR b6] M K (Bk d 100 28 31 19 [vR l0, vI l1, vU] [] Q)) : Wp (d + 1) 100 20 [vR l0, vI l1, vU] [] M K Q := by
  refine r_aload_n c100_20 rfl ?_
  obtain ⟨s1, h⟩ := h
  obtain ⟨b2, h⟩ := h
  obtain ⟨s3, h⟩ := h
  obtain ⟨s4, h⟩ := h
  refine r_getR c100_21 s1 s3 s4 ?_
  refine r_aload_n c100_24 rfl ?_
  obtain ⟨s5, h⟩ := h
  obtain ⟨b6, h⟩ := h
  obtain ⟨s7, h⟩ := h
  obtain ⟨s8, h⟩ := h
  refine r_getR c100_25 s5 s7 s8 ?_
  obtain ⟨s9, h⟩ := h
  exact r_call c100_28 rfl rfl (Nat.le_of_ble_eq_true rfl) (okc_r rfl rfl s9) h
theorem t100_31 {d : Nat} {l0 : Nat} {l1 : Int} {M : Mem} {K : KK} {Q : RR → Mem → KK → Prop} (h : isO K.1 l0 11 = true ∧ ∃ b2 : Nat, (M l0 0) = (b2 : Int) ∧ 0 < b2 ∧ isO K.1 b2 10 = true ∧ Wm d 85 [vR b2] M K (Bk d 100 35 38 85 [vR l0, vI l1, vU] [] Q)) : Wp (d + 1) 100 31 [vR l0, vI l1, vU] [] M K Q := by
  refine r_aload_n c100_31 rfl ?_
  obtain ⟨s1, h⟩ := h
  obtain ⟨b2, h⟩ := h
  obtain ⟨s3, h⟩ := h
  obtain ⟨s4, h⟩ := h
  refine r_getR c100_32 s1 s3 s4 ?_
  obtain ⟨s5, h⟩ := h
  exact r_call c100_35 rfl rfl (Nat.le_of_ble_eq_true rfl) (okc_r rfl rfl s5) h
theorem t100_38 {d : Nat} {l0 : Nat} {l1 : Int} {t0 : Int} {M : Mem} {K : KK} {Q : RR → Mem → KK → Prop} (h : (t0 = (0 : Int) → isO K.1 l0 11 = true ∧ ∃ b2 : Nat, (M l0 13) = (b2 : Int) ∧ 0 < b2 ∧ isO K.1 l0 11 = true ∧ ∃ b6 : Nat, (M l0 11) = (b6 : Int) ∧ 0 < b6 ∧ isO K.1 b6 0 = true ∧ ∃ b10 : Nat, (M b6 11) = (b10 : Int) ∧ 0 < b10 ∧ isO K.1 l0 11 = true ∧ 0 < b10 ∧ isO K.1 l0 11 = true ∧ ∃ b16 : Nat, ((mset M l0 13 (b10 : Nat)) l0 11) = (b16 : Int) ∧ 0 < b16 ∧ isO K.1 b16 0 = true ∧ 0 < b2 ∧ Q (.inl (some (vI (1 : Int)))) (mset (mset M l0 13 (b10 : Nat)) b16 11 (b2 : Nat)) K) ∧ (¬ (t0 = (0 : Int)) → isO K.1 l0 11 = true ∧ ∃ b22 : Nat, (M l0 0) = (b22 : Int) ∧ 0 < b22 ∧ isO K.1 b22 10 = true ∧ Wm d 86 [vR b22] M K (Bk d 100 45 48 86 [vR l0, vI l1, vU] [] Q))) : Wp (d + 1) 100 38 [vR l0, vI l1, vU] [vI t0] M K Q := by
  refine r_ifP (P := t0 = (0 : Int)) c100_38 rfl (fun hc => ?_) (fun hc => ?_)
  · replace h := h.1 hc
    refine r_aload_n c100_49 rfl ?_
    obtain ⟨s1, h⟩ := h
    obtain ⟨b2, h⟩ := h
    obtain ⟨s3, h⟩ := h
    obtain ⟨s4, h⟩ := h
    refine r_getR c100_50 s1 s3 s4 ?_
    refine r_astore_n c100_53 (Nat.le_of_ble_eq_true rfl) ?_
    refine r_aload_n c100_54 rfl ?_
    refine r_aload_n c100_55 rfl ?_
    obtain ⟨s5, h⟩ := h
    obtain ⟨b6, h⟩ := h
    obtain ⟨s7, h⟩ := h
    obtain ⟨s8, h⟩ := h
    refine r_getR c100_56 s5 s7 s8 ?_
    obtain ⟨s9, h⟩ := h
    obtain ⟨b10, h⟩ := h
    obtain ⟨s11, h⟩ := h
    obtain ⟨s12, h⟩ := h
    refine r_getR c100_59 s9 s11 s12 ?_
    obtain ⟨s13, h⟩ := h
    obtain ⟨s14, h⟩ := h
    refine r_putR c100_62 s13 s14 ?_
    refine r_aload_n c100_65 rfl ?_
    obtain ⟨s15, h⟩ := h
    obtain ⟨b16, h⟩ := h
    obtain ⟨s17, h⟩ := h
    obtain ⟨s18, h⟩ := h
    refine r_getR c100_66 s15 s17 s18 ?_
    refine r_aload_n c100_69 rfl ?_
    obtain ⟨s19, h⟩ := h
    obtain ⟨s20, h⟩ := h
    refine r_putR c100_70 s19 s20 ?_
    refine r_iconst c100_73 ?_
    exact r_iret c100_74 (Or.inl rfl) h
  · replace h := h.2 hc
    refine r_aload_n c100_41 rfl ?_
    obtain ⟨s21, h⟩ := h
    obtain ⟨b22, h⟩ := h
    obtain ⟨s23, h⟩ := h
    obtain ⟨s24, h⟩ := h
    refine r_getR c100_42 s21 s23 s24 ?_
    obtain ⟨s25, h⟩ := h
    exact r_call c100_45 rfl rfl (Nat.le_of_ble_eq_true rfl) (okc_r rfl rfl s25) h
theorem t100_48 {d : Nat} {l0 : Nat} {l1 : Int} {t0 : Int} {M : Mem} {K : KK} {Q : RR → Mem → KK → Prop} (h : Q (.inl (some (vI t0))) M K) : Wp d 100 48 [vR l0, vI l1, vU] [vI t0] M K Q := by
  exact r_iret c100_48 (Or.inl rfl) h
theorem t101_0 {d : Nat} {l0 : Nat} {l1 : Int} {M : Mem} {K : KK} {Q : RR → Mem → KK → Prop} (h : isO K.1 l0 11 = true ∧ Wm d 140 [vR l0, vI l1, vI (150 : Int)] M K (Bk d 101 6 9 140 [vR l0, vI l1] [vR l0] Q)) : Wp (d + 1) 101 0 [vR l0, vI l1] [] M K Q := by
  refine r_aload_n c101_0 rfl ?_
  refine r_aload_n c101_1 rfl ?_
  refine r_iload_n c101_2 rfl ?_
  refine r_sipush c101_3 ?_
  obtain ⟨s1, h⟩ := h
  exact r_call c101_6 rfl rfl (Nat.le_of_ble_eq_true rfl) (okc_r rfl rfl s1) h
theorem t101_9 {d : Nat} {l0 : Nat} {l1 : Int} {t0 : Nat} {t1 : Int} {M : Mem} {K : KK} {Q : RR → Mem → KK → Prop} (h : isO K.1 t0 11 = true ∧ Wm d 136 [vR t0, vI t1] M K (Bk d 101 9 12 136 [vR l0, vI l1] [] Q)) : Wp (d + 1) 101 9 [vR l0, vI l1] [vI t1, vR t0] M K Q := by
  obtain ⟨s1, h⟩ := h
  exact r_call c101_9 rfl rfl (Nat.le_of_ble_eq_true rfl) (okc_r rfl rfl s1) h
theorem t101_12 {d : Nat} {l0 : Nat} {l1 : Int} {M : Mem} {K : KK} {Q : RR → Mem → KK → Prop} (h : isO K.1 l0 11 = true ∧ ∃ b2 : Nat, (M l0 4) = (b2 : Int) ∧ 0 < b2 ∧ isO K.1 b2 6 = true ∧ ((M b2 1) < (16 : Int) → isO K.1 l0 11 = true ∧ ∃ b7 : Nat, (M l0 0) = (b7 : Int) ∧ 0 < b7 ∧ isO K.1 b7 10 = true ∧ Wm d 84 [vR b7, vI l1] M K (Bk d 101 40 43 84 [vR l0, vI l1] [] Q)) ∧ (¬ ((M b2 1) < (16 : Int)) → isO K.1 l0 11 = true ∧ ∃ b12 : Nat, (M l0 0) = (b12 : Int) ∧ 0 < b12 ∧ isO K.1 b12 10 = true ∧ Wm d 84 [vR b12, vI (0 : Int)] M K (Bk d 101 29 32 84 [vR l0, vI l1] [] Q))) : Wp (d + 1) 101 12 [vR l0, vI l1] [] M K Q := by
  refine r_aload_n c101_12 rfl ?_
  obtain ⟨s1, h⟩ := h
  obtain ⟨b2, h⟩ := h
  obtain ⟨s3, h⟩ := h
  obtain ⟨s4, h⟩ := h
  refine r_getR c101_13 s1 s3 s4 ?_
  obtain ⟨s5, h⟩ := h
  refine r_getI c101_16 s5 ?_
  refine r_bipush c101_19 ?_
  refine r_icmpP (P := (M b2 1) < (16 : Int)) c101_21 rfl (fun hc => ?_) (fun hc => ?_)
  · replace h := h.1 hc
    refine r_aload_n c101_35 rfl ?_
    obtain ⟨s6, h⟩ := h
    obtain ⟨b7, h⟩ := h
    obtain ⟨s8, h⟩ := h
    obtain ⟨s9, h⟩ := h
    refine r_getR c101_36 s6 s8 s9 ?_
    refine r_iload_n c101_39 rfl ?_
    obtain ⟨s10, h⟩ := h
    exact r_call c101_40 rfl rfl (Nat.le_of_ble_eq_true rfl) (okc_r rfl rfl s10) h
  · replace h := h.2 hc
    refine r_aload_n c101_24 rfl ?_
    obtain ⟨s11, h⟩ := h
    obtain ⟨b12, h⟩ := h
    obtain ⟨s13, h⟩ := h
    obtain ⟨s14, h⟩ := h
    refine r_getR c101_25 s11 s13 s14 ?_
    refine r_iconst c101_28 ?_
    obtain ⟨s15, h⟩ := h
    exact r_call c101_29 rfl rfl (Nat.le_of_ble_eq_true rfl) (okc_r rfl rfl s15) h
theorem t101_32 {d : Nat} {l0 : Nat} {l1 : Int} {M : Mem} {K : KK} {Q : RR → Mem → KK → Prop} (h : Q (.inl (some (vI (-20 : Int)))) M K) : Wp d 101 32 [vR l0, vI l1] [] M K Q := by
  refine r_bipush c101_32 ?_
  exact r_iret c101_34 (Or.inl rfl) h
theorem t101_43 {d : Nat} {l0 : Nat} {l1 : Int} {M : Mem} {K : KK} {Q : RR → Mem → KK → Prop} (h : isO K.1 l0 11 = true ∧ ∃ b2 : Nat, (M l0 1) = (b2 : Int) ∧ 0 < b2 ∧ isO K.1 l0 11 = true ∧ ∃ b6 : Nat, (M l0 0) = (b6 : Int) ∧ 0 < b6 ∧ isO K.1 l0 11 = true ∧ ∃ b10 : Nat, (M l0 11) = (b10 : Int) ∧ 0 < b10 ∧ isO K.1 b2 7 = true ∧ Wm d 64 [vR b2, vR b6, vR b10] M K (Bk d 101 55 58 64 [vR l0, vI l1] [] Q)) : Wp (d + 1) 101 43 [vR l0, vI l1] [] M K Q := by
  refine r_aload_n c101_43 rfl ?_
  obtain ⟨s1, h⟩ := h
  obtain ⟨b2, h⟩ := h
  obtain ⟨s3, h⟩ := h
  obtain ⟨s4, h⟩ := h
  refine r_getR c101_44 s1 s3 s4 ?_
  refine r_aload_n c101_47 rfl ?_
  obtain ⟨s5, h⟩ := h
  obtain ⟨b6, h⟩ := h
  obtain ⟨s7, h⟩ := h
  obtain ⟨s8, h⟩ := h
  refine r_getR c101_48 s5 s7 s8 ?_
  refine r_aload_n c101_51 rfl ?_
  obtain ⟨s9, h⟩ := h
  obtain ⟨b10, h⟩ := h
  obtain ⟨s11, h⟩ := h
  obtain ⟨s12, h⟩ := h
  refine r_getR c101_52 s9 s11 s12 ?_
  obtain ⟨s13, h⟩ := h
  exact r_call c101_55 rfl rfl (Nat.le_of_ble_eq_true rfl) (okc_r rfl rfl s13) h
theorem t101_58 {d : Nat} {l0 : Nat} {l1 : Int} {M : Mem} {K : KK} {Q : RR → Mem → KK → Prop} (h : isO K.1 l0 11 = true ∧ ∃ b2 : Nat, (M l0 0) = (b2 : Int) ∧ 0 < b2 ∧ isO K.1 b2 10 = true ∧ Wm d 85 [vR b2] M K (Bk d 101 62 65 85 [vR l0, vI l1] [] Q)) : Wp (d + 1) 101 58 [vR l0, vI l1] [] M K Q := by
  refine r_aload_n c101_58 rfl ?_
  obtain ⟨s1, h⟩ := h
  obtain ⟨b2, h⟩ := h
  obtain ⟨s3, h⟩ := h
  obtain ⟨s4, h⟩ := h
  refine r_getR c101_59 s1 s3 s4 ?_
  obtain ⟨s5, h⟩ := h
  exact r_call c101_62 rfl rfl (Nat.le_of_ble_eq_true rfl) (okc_r rfl rfl s5) h
theorem t101_65 {d : Nat} {l0 : Nat} {l1 : Int} {t0 : Int} {M : Mem} {K : KK} {Q : RR → Mem → KK → Prop} (h : (t0 = (0 : Int) → isO K.1 l0 11 = true ∧ ∃ b2 : Nat, (M l0 4) = (b2 : Int) ∧ 0 < b2 ∧ isO K.1 l0 11 = true ∧ ∃ b6 : Nat, (M l0 2) = (b6 : Int) ∧ 0 < b6 ∧ isO K.1 b2 6 = true ∧ Wm d 60 [vR b2, vR b6] M K (Bk d 101 84 87 60 [vR l0, vI l1] [] Q)) ∧ (¬ (t0 = (0 : Int)) → isO K.1 l0 11 = true ∧ ∃ b11 : Nat, (M l0 0) = (b11 : Int) ∧ 0 < b11 ∧ isO K.1 b11 10 = true ∧ Wm d 86 [vR b11] M K (Bk d 101 72 75 86 [vR l0, vI l1] [] Q))) : Wp (d + 1) 101 65 [vR l0, vI l1] [vI t0] M K Q := by
  refine r_ifP (P := t0 = (0 : Int)) c101_65 rfl (fun hc => ?_) (fun hc => ?_)
  · replace h := h.1 hc
    refine r_aload_n c101_76 rfl ?_
    obtain ⟨s1, h⟩ := h
    obtain ⟨b2, h⟩ := h
    obtain ⟨s3, h⟩ := h
    obtain ⟨s4, h⟩ := h
    refine r_getR c101_77 s1 s3 s4 ?_
    refine r_aload_n c101_80 rfl ?_
    obtain ⟨s5, h⟩ := h
    obtain ⟨b6, h⟩ := h
    obtain ⟨s7, h⟩ := h
    obtain ⟨s8, h⟩ := h
    refine r_getR c101_81 s5 s7 s8 ?_
    obtain ⟨s9, h⟩ := h
    exact r_call c101_84 rfl rfl (Nat.le_of_ble_eq_true rfl) (okc_r rfl rfl s9) h
  · replace h := h.2 hc
    refine r_aload_n c101_68 rfl ?_
    obtain ⟨s10, h⟩ := h
    obtain ⟨b11, h⟩ := h
    obtain ⟨s12, h⟩ := h
    obtain ⟨s13, h⟩ := h
    refine r_getR c101_69 s10 s12 s13 ?_
    obtain ⟨s14, h⟩ := h
    exact r_call c101_72 rfl rfl (Nat.le_of_ble_eq_true rfl) (okc_r rfl rfl s14) h
theorem t101_75 {d : Nat} {l0 : Nat} {l1 : Int} {t0 : Int} {M : Mem} {K : KK} {Q : RR → Mem → KK → Prop} (h : Q (.inl (some (vI t0))) M K) : Wp d 101 75 [vR l0, vI l1] [vI t0] M K Q := by
  exact r_iret c101_75 (Or.inl rfl) h
theorem t101_87 {d : Nat} {l0 : Nat} {l1 : Int} {M : Mem} {K : KK} {Q : RR → Mem → KK → Prop} (h : isO K.1 l0 11 = true ∧ ∃ b2 : Nat, (M l0 1) = (b2 : Int) ∧ 0 < b2 ∧ isO K.1 l0 11 = true ∧ ∃ b6 : Nat, (M l0 2) = (b6 : Int) ∧ 0 < b6 ∧ isO K.1 l0 11 = true ∧ ∃ b10 : Nat, (M l0 11) = (b10 : Int) ∧ 0 < b10 ∧ isO K.1 b2 7 = true ∧ Wm d 70 [vR b2, vR b6, vR b10] M K (Bk d 101 99 102 70 [vR l0, vI l1] [] Q)) : Wp (d + 1) 101 87 [vR l0, vI l1] [] M K Q := by
  refine r_aload_n c101_87 rfl ?_
  obtain ⟨s1, h⟩ := h
  obtain ⟨b2, h⟩ := h
  obtain ⟨s3, h⟩ := h
  obtain ⟨s4, h⟩ := h
  refine r_getR c101_88 s1 s3 s4 ?_
  refine r_aload_n c101_91 rfl ?_
  obtain ⟨s5, h⟩ := h
  obtain ⟨b6, h⟩ := h
  obtain ⟨s7, h⟩ := h
  obtain ⟨s8, h⟩ := h
  refine r_getR c101_92 s5 s7 s8 ?_
  refine r_aload_n c101_95 rfl ?_
  obtain ⟨s9, h⟩ := h
  obtain ⟨b10, h⟩ := h
  obtain ⟨s11, h⟩ := h
  obtain ⟨s12, h⟩ := h
  refine r_getR c101_96 s9 s11 s12 ?_
  obtain ⟨s13, h⟩ := h
  exact r_call c101_99 rfl rfl (Nat.le_of_ble_eq_true rfl) (okc_r rfl rfl s13) h
theorem t101_102 {d : Nat} {l0 : Nat} {l1 : Int} {M : Mem} {K : KK} {Q : RR → Mem → KK → Prop} (h : isO K.1 l0 11 = true ∧ ∃ b2 : Nat, (M l0 1) = (b2 : Int) ∧ 0 < b2 ∧ isO K.1 b2 7 = true ∧ isO K.1 l0 11 = true ∧ isO K.1 l0 11 = true ∧ ∃ b8 : Nat, ((mset M l0 17 (M b2 7)) l0 1) = (b8 : Int) ∧ 0 < b8 ∧ isO K.1 b8 7 = true ∧ Q (.inl (some (vI ((mset M l0 17 (M b2 7)) b8 6)))) (mset M l0 17 (M b2 7)) K) : Wp d 101 102 [vR l0, vI l1] [] M K Q := by
  refine r_aload_n c101_102 rfl ?_
  refine r_aload_n c101_103 rfl ?_
  obtain ⟨s1, h⟩ := h
  obtain ⟨b2, h⟩ := h
  obtain ⟨s3, h⟩ := h
  obtain ⟨s4, h⟩ := h
  refine r_getR c101_104 s1 s3 s4 ?_
  obtain ⟨s5, h⟩ := h
  refine r_getI c101_107 s5 ?_
  obtain ⟨s6, h⟩ := h
  refine r_putI c101_110 s6 ?_
  refine r_aload_n c101_113 rfl ?_
  obtain ⟨s7, h⟩ := h
  obtain ⟨b8, h⟩ := h
  obtain ⟨s9, h⟩ := h
  obtain ⟨s10, h⟩ := h
  refine r_getR c101_114 s7 s9 s10 ?_
  obtain ⟨s11, h⟩ := h
  refine r_getI c101_117 s11 ?_
  exact r_iret c101_120 (Or.inl rfl) h
theorem t102_0 {d : Nat} {l0 : Nat} {l1 : Int} {M : Mem} {K : KK} {Q : RR → Mem → KK → Prop} (h : isO K.1 l0 11 = true ∧ Wm d 140 [vR l0, vI l1, vI (60 : Int)] M K (Bk d 102 5 8 140 [vR l0, vI l1, vU] [vR l0] Q)) : Wp (d + 1) 102 0 [vR l0, vI l1, vU] [] M K Q := by
  refine r_aload_n c102_0 rfl ?_
  refine r_aload_n c102_1 rfl ?_
  refine r_iload_n c102_2 rfl ?_
  refine r_bipush c102_3 ?_
  obtain ⟨s1, h⟩ := h
  exact r_call c102_5 rfl rfl (Nat.le_of_ble_eq_true rfl) (okc_r rfl rfl s1) h
theorem t102_8 {d : Nat} {l0 : Nat} {l1 : Int} {t0 : Nat} {t1 : Int} {M : Mem} {K : KK} {Q : RR → Mem → KK → Prop} (h : isO K.1 t0 11 = true ∧ Wm d 136 [vR t0, vI t1] M K (Bk d 102 8 11 136 [vR l0, vI l1, vU] [] Q)) : Wp (d + 1) 102 8 [vR l0, vI l1, vU] [vI t1, vR t0] M K Q := by
  obtain ⟨s1, h⟩ := h
  exact r_call c102_8 rfl rfl (Nat.le_of_ble_eq_true rfl) (okc_r rfl rfl s1) h
theorem t102_11 {d : Nat} {l0 : Nat} {l1 : Int} {M : Mem} {K : KK} {Q : RR → Mem → KK → Prop} (h : isO K.1 l0 11 = true ∧ ∃ b2 : Nat, (M l0 0) = (b2 : Int) ∧ 0 < b2 ∧ isO K.1 b2 10 = true ∧ Wm d 84 [vR b2, vI l1] M K (Bk d 102 16 19 84 [vR l0, vI l1, vU] [] Q)) : Wp (d + 1) 102 11 [vR l0, vI l1, vU] [] M K Q := by
  refine r_aload_n c102_11 rfl ?_
  obtain ⟨s1, h⟩ := h
  obtain ⟨b2, h⟩ := h
  obtain ⟨s3, h⟩ := h
  obtain ⟨s4, h⟩ := h
  refine r_getR c102_12 s1 s3 s4 ?_
  refine r_iload_n c102_15 rfl ?_
  obtain ⟨s5, h⟩ := h
  exact r_call c102_16 rfl rfl (Nat.le_of_ble_eq_true rfl) (okc_r rfl rfl s5) h
theorem t102_19 {d : Nat} {l0 : Nat} {l1 : Int} {M : Mem} {K : KK} {Q : RR → Mem → KK → Prop} (h : isO K.1 l0 11 = true ∧ ∃ b2 : Nat, (M l0 15) = (b2 : Int) ∧ 0 < b2 ∧ isO K.1 l0 11 = true ∧ ∃ b6 : Nat, (M l0 0) = (b6 : Int) ∧ 0 < b6 ∧ isO K.1 l0 11 = true ∧ ∃ b10 : Nat, (M l0 11) = (b10 : Int) ∧ 0 < b10 ∧ isO K.1 b2 8 = true ∧ Wm d 76 [vR b2, vR b6, vR b10] M K (Bk d 102 31 34 76 [vR l0, vI l1, vU] [] Q)) : Wp (d + 1) 102 19 [vR l0, vI l1, vU] [] M K Q := by
  refine r_aload_n c102_19 rfl ?_
  obtain ⟨s1, h⟩ := h
  obtain ⟨b2, h⟩ := h
  obtain ⟨s3, h⟩ := h
  obtain ⟨s4, h⟩ := h
  refine r_getR c102_20 s1 s3 s4 ?_
  refine r_aload_n c102_23 rfl ?_
  obtain ⟨s5, h⟩ := h
  obtain ⟨b6, h⟩ := h
  obtain ⟨s7, h⟩ := h
  obtain ⟨s8, h⟩ := h
  refine r_getR c102_24 s5 s7 s8 ?_
  refine r_aload_n c102_27 rfl ?_
  obtain ⟨s9, h⟩ := h
  obtain ⟨b10, h⟩ := h
  obtain ⟨s11, h⟩ := h
  obtain ⟨s12, h⟩ := h
  refine r_getR c102_28 s9 s11 s12 ?_
  obtain ⟨s13, h⟩ := h
  exact r_call c102_31 rfl rfl (Nat.le_of_ble_eq_true rfl) (okc_r rfl rfl s13) h
theorem t102_34 {d : Nat} {l0 : Nat} {l1 : Int} {M : Mem} {K : KK} {Q : RR → Mem → KK → Prop} (h : isO K.1 l0 11 = true ∧ ∃ b2 : Nat, (M l0 0) = (b2 : Int) ∧ 0 < b2 ∧ isO K.1 b2 10 = true ∧ Wm d 85 [vR b2] M K (Bk d 102 38 41 85 [vR l0, vI l1, vU] [] Q)) : Wp (d + 1) 102 34 [vR l0, vI l1, vU] [] M K Q := by
  refine r_aload_n c102_34 rfl ?_
  obtain ⟨s1, h⟩ := h
  obtain ⟨b2, h⟩ := h
  obtain ⟨s3, h⟩ := h
  obtain ⟨s4, h⟩ := h
  refine r_getR c102_35 s1 s3 s4 ?_
  obtain ⟨s5, h⟩ := h
  exact r_call c102_38 rfl rfl (Nat.le_of_ble_eq_true rfl) (okc_r rfl rfl s5) h
theorem t102_41 {d : Nat} {l0 : Nat} {l1 : Int} {t0 : Int} {M : Mem} {K : KK} {Q : RR → Mem → KK → Prop} (h : (t0 = (0 : Int) → isO K.1 l0 11 = true ∧ ∃ b2 : Nat, (M l0 15) = (b2 : Int) ∧ 0 < b2 ∧ isO K.1 l0 11 = true ∧ ∃ b6 : Nat, (M l0 14) = (b6 : Int) ∧ 0 < b6 ∧ isO K.1 l0 11 = true ∧ 0 < b6 ∧ isO K.1 l0 11 = true ∧ 0 < b2 ∧ isO K.1 l0 11 = true ∧ ∃ b14 : Nat, ((mset (mset M l0 15 (b6 : Nat)) l0 14 (b2 : Nat)) l0 14) = (b14 : Int) ∧ 0 < b14 ∧ isO K.1 b14 8 = true ∧ Q (.inl (some (vI ((mset (mset M l0 15 (b6 : Nat)) l0 14 (b2 : Nat)) b14 0)))) (mset (mset M l0 15 (b6 : Nat)) l0 14 (b2 : Nat)) K) ∧ (¬ (t0 = (0 : Int)) → isO K.1 l0 11 = true ∧ ∃ b19 : Nat, (M l0 0) = (b19 : Int) ∧ 0 < b19 ∧ isO K.1 b19 10 = true ∧ Wm d 86 [vR b19] M K (Bk d 102 48 51 86 [vR l0, vI l1, vU] [] Q))) : Wp (d + 1) 102 41 [vR l0, vI l1, vU] [vI t0] M K Q := by
  refine r_ifP (P := t0 = (0 : Int)) c102_41 rfl (fun hc => ?_) (fun hc => ?_)
  · replace h := h.1 hc
    refine r_aload_n c102_52 rfl ?_
    obtain ⟨s1, h⟩ := h
    obtain ⟨b2, h⟩ := h
    obtain ⟨s3, h⟩ := h
    obtain ⟨s4, h⟩ := h
    refine r_getR c102_53 s1 s3 s4 ?_
    refine r_astore_n c102_56 (Nat.le_of_ble_eq_true rfl) ?_
    refine r_aload_n c102_57 rfl ?_
    refine r_aload_n c102_58 rfl ?_
    obtain ⟨s5, h⟩ := h
    obtain ⟨b6, h⟩ := h
    obtain ⟨s7, h⟩ := h
    obtain ⟨s8, h⟩ := h
    refine r_getR c102_59 s5 s7 s8 ?_
    obtain ⟨s9, h⟩ := h
    obtain ⟨s10, h⟩ := h
    refine r_putR c102_62 s9 s10 ?_
    refine r_aload_n c102_65 rfl ?_
    refine r_aload_n c102_66 rfl ?_
    obtain ⟨s11, h⟩ := h
    obtain ⟨s12, h⟩ := h
    refine r_putR c102_67 s11 s12 ?_
    refine r_aload_n c102_70 rfl ?_
    obtain ⟨s13, h⟩ := h
    obtain ⟨b14, h⟩ := h
    obtain ⟨s15, h⟩ := h
    obtain ⟨s16, h⟩ := h
    refine r_getR c102_71 s13 s15 s16 ?_
    obtain ⟨s17, h⟩ := h
    refine r_getI c102_74 s17 ?_
    exact r_iret c102_77 (Or.inl rfl) h
  · replace h := h.2 hc
    refine r_aload_n c102_44 rfl ?_
    obtain ⟨s18, h⟩ := h
    obtain ⟨b19, h⟩ := h
    obtain ⟨s20, h⟩ := h
    obtain ⟨s21, h⟩ := h
    refine r_getR c102_45 s18 s20 s21 ?_
    obtain ⟨s22, h⟩ := h
    exact r_call c102_48 rfl rfl (Nat.le_of_ble_eq_true rfl) (okc_r rfl rfl s22) h
theorem t102_51 {d : Nat} {l0 : Nat} {l1 : Int} {t0 : Int} {M : Mem} {K : KK} {Q : RR → Mem → KK → Prop} (h : Q (.inl (some (vI t0))) M K) : Wp d 102 51 [vR l0, vI l1, vU] [vI t0] M K Q := by
  exact r_iret c102_51 (Or.inl rfl) h
theorem t103_0 {d : Nat} {l0 : Nat} {M : Mem} {K : KK} {Q : RR → Mem → KK → Prop} (h : isO K.1 l0 11 = true ∧ ∃ b2 : Nat, (M l0 0) = (b2 : Int) ∧ 0 < b2 ∧ isO K.1 b2 10 = true ∧ Q (.inl (some (vI (M b2 7)))) M K) : Wp d 103 0 [vR l0] [] M K Q := by
  refine r_aload_n c103_0 rfl ?_
  obtain ⟨s1, h⟩ := h
  obtain ⟨b2, h⟩ := h
  obtain ⟨s3, h⟩ := h
  obtain ⟨s4, h⟩ := h
  refine r_getR c103_1 s1 s3 s4 ?_
  obtain ⟨s5, h⟩ := h
  refine r_getI c103_4 s5 ?_
  exact r_iret c103_7 (Or.inl rfl) h
theorem t104_0 {d : Nat} {l0 : Nat} {M : Mem} {K : KK} {Q : RR → Mem → KK → Prop} (h : isO K.1 l0 11 = true ∧ ∃ b2 : Nat, (M l0 4) = (b2 : Int) ∧ 0 < b2 ∧ isO K.1 l0 11 = true ∧ ∃ b6 : Nat, (M l0 2) = (b6 : Int) ∧ 0 < b6 ∧ isO K.1 b2 6 = true ∧ Wm d 61 [vR b2, vR b6] M K (Bk d 104 8 11 61 [vR l0] [] Q)) : Wp (d + 1) 104 0 [vR l0] [] M K Q := by
  refine r_aload_n c104_0 rfl ?_
  obtain ⟨s1, h⟩ := h
  obtain ⟨b2, h⟩ := h
  obtain ⟨s3, h⟩ := h
  obtain ⟨s4, h⟩ := h
  refine r_getR c104_1 s1 s3 s4 ?_
  refine r_aload_n c104_4 rfl ?_
  obtain ⟨s5, h⟩ := h
  obtain ⟨b6, h⟩ := h
  obtain ⟨s7, h⟩ := h
  obtain ⟨s8, h⟩ := h
  refine r_getR c104_5 s5 s7 s8 ?_
  obtain ⟨s9, h⟩ := h
  exact r_call c104_8 rfl rfl (Nat.le_of_ble_eq_true rfl) (okc_r rfl rfl s9) h
theorem t104_11 {d : Nat} {l0 : Nat} {t0 : Int} {M : Mem} {K : KK} {Q : RR → Mem → KK → Prop} (h : (¬ t0 = (0 : Int) → isO K.1 l0 11 = true ∧ isO K.1 l0 11 = true ∧ ∃ b3 : Nat, ((mset M l0 17 (0 : Int)) l0 4) = (b3 : Int) ∧ 0 < b3 ∧ isO K.1 b3 6 = true ∧ Q (.inl (some (vI ((mset M l0 17 (0 : Int)) b3 1)))) (mset M l0 17 (0 : Int)) K) ∧ (¬ (¬ t0 = (0 : Int)) → Q (.inl (some (vI (-1 : Int)))) M K)) : Wp d 104 11 [vR l0] [vI t0] M K Q := by
  refine r_ifP (P := ¬ t0 = (0 : Int)) c104_11 rfl (fun hc => ?_) (fun hc => ?_)
  · replace h := h.1 hc
    refine r_aload_n c104_16 rfl ?_
    refine r_iconst c104_17 ?_
    obtain ⟨s1, h⟩ := h
    refine r_putI c104_18 s1 ?_
    refine r_aload_n c104_21 rfl ?_
    obtain ⟨s2, h⟩ := h
    obtain ⟨b3, h⟩ := h
    obtain ⟨s4, h⟩ := h
    obtain ⟨s5, h⟩ := h
    refine r_getR c104_22 s2 s4 s5 ?_
    obtain ⟨s6, h⟩ := h
    refine r_getI c104_25 s6 ?_
    exact r_iret c104_28 (Or.inl rfl) h
  · replace h := h.2 hc
    refine r_iconst c104_14 ?_
    exact r_iret c104_15 (Or.inl rfl) h
theorem t105_0 {d : Nat} {l0 : Nat} {l1 : Int} {M : Mem} {K : KK} {Q : RR → Mem → KK → Prop} (h : Wm d 142 [vI l1, vI (0 : Int), vI (11 : Int)] M K (Bk d 105 5 8 142 [vR l0, vI l1] [vR l0] Q)) : Wp (d + 1) 105 0 [vR l0, vI l1] [] M K Q := by
  refine r_aload_n c105_0 rfl ?_
  refine r_iload_n c105_1 rfl ?_
  refine r_iconst c105_2 ?_
  refine r_bipush c105_3 ?_
  exact r_call c105_5 rfl rfl (Nat.le_of_ble_eq_true rfl) (okc_s rfl rfl rfl) h
theorem t105_8 {d : Nat} {l0 : Nat} {l1 : Int} {t0 : Nat} {t1 : Int} {M : Mem} {K : KK} {Q : RR → Mem → KK → Prop} (h : isO K.1 t0 11 = true ∧ Wm d 136 [vR t0, vI t1] M K (Bk d 105 8 11 136 [vR l0, vI l1] [] Q)) : Wp (d + 1) 105 8 [vR l0, vI l1] [vI t1, vR t0] M K Q := by
  obtain ⟨s1, h⟩ := h
  exact r_call c105_8 rfl rfl (Nat.le_of_ble_eq_true rfl) (okc_r rfl rfl s1) h
theorem t105_11 {d : Nat} {l0 : Nat} {l1 : Int} {M : Mem} {K : KK} {Q : RR → Mem → KK → Prop} (h : Wp d 105 (tsw 12 160 0 10 #[60, 68, 76, 84, 92, 100, 115, 123, 135, 147, 155] l1) [vR l0, vI l1] [] M K Q) : Wp d 105 11 [vR l0, vI l1] [] M K Q := by
  refine r_iload_n c105_11 rfl ?_
  refine r_tsw c105_12 ?_
  exact h
theorem t105_72 {d : Nat} {l0 : Nat} {l1 : Int} {M : Mem} {K : KK} {Q : RR → Mem → KK → Prop} (h : isO K.1 l0 11 = true ∧ ∃ b2 : Nat, (M l0 11) = (b2 : Int) ∧ 0 < b2 ∧ isO K.1 b2 0 = true ∧ Q (.inl (some (vI (M b2 5)))) M K) : Wp d 105 72 [vR l0, vI l1] [] M K Q := by
  refine r_aload_n c105_72 rfl ?_
  obtain ⟨s1, h⟩ := h
  obtain ⟨b2, h⟩ := h
  obtain ⟨s3, h⟩ := h
  obtain ⟨s4, h⟩ := h
  refine r_getR c105_73 s1 s3 s4 ?_
  obtain ⟨s5, h⟩ := h
  refine r_getI c105_76 s5 ?_
  exact r_iret c105_79 (Or.inl rfl) h
theorem t105_80 {d : Nat} {l0 : Nat} {l1 : Int} {M : Mem} {K : KK} {Q : RR → Mem → KK → Prop} (h : isO K.1 l0 11 = true ∧ ∃ b2 : Nat, (M l0 11) = (b2 : Int) ∧ 0 < b2 ∧ isO K.1 b2 0 = true ∧ Q (.inl (some (vI (M b2 6)))) M K) : Wp d 105 80 [vR l0, vI l1] [] M K Q := by
  refine r_aload_n c105_80 rfl ?_
  obtain ⟨s1, h⟩ := h
  obtain ⟨b2, h⟩ := h
  obtain ⟨s3, h⟩ := h
  obtain ⟨s4, h⟩ := h
  refine r_getR c105_81 s1 s3 s4 ?_
  obtain ⟨s5, h⟩ := h
  refine r_getI c105_84 s5 ?_
  exact r_iret c105_87 (Or.inl rfl) h
theorem t105_88 {d : Nat} {l0 : Nat} {l1 : Int} {M : Mem} {K : KK} {Q : RR → Mem → KK → Prop} (h : isO K.1 l0 11 = true ∧ ∃ b2 : Nat, (M l0 11) = (b2 : Int) ∧ 0 < b2 ∧ isO K.1 b2 0 = true ∧ Q (.inl (some (vI (M b2 7)))) M K) : Wp d 105 88 [vR l0, vI l1] [] M K Q := by
  refine r_aload_n c105_88 rfl ?_
  obtain ⟨s1, h⟩ := h
  obtain ⟨b2, h⟩ := h
  obtain ⟨s3, h⟩ := h
  obtain ⟨s4, h⟩ := h
  refine r_getR c105_89 s1 s3 s4 ?_
  obtain ⟨s5, h⟩ := h
  refine r_getI c105_92 s5 ?_
  exact r_iret c105_95 (Or.inl rfl) h
theorem t105_96 {d : Nat} {l0 : Nat} {l1 : Int} {M : Mem} {K : KK} {Q : RR → Mem → KK → Prop} (h : isO K.1 l0 11 = true ∧ ∃ b2 : Nat, (M l0 11) = (b2 : Int) ∧ 0 < b2 ∧ isO K.1 b2 0 = true ∧ Q (.inl (some (vI (M b2 8)))) M K) : Wp d 105 96 [vR l0, vI l1] [] M K Q := by
  refine r_aload_n c105_96 rfl ?_
  obtain ⟨s1, h⟩ := h
  obtain ⟨b2, h⟩ := h
  obtain ⟨s3, h⟩ := h
  obtain ⟨s4, h⟩ := h
  refine r_getR c105_97 s1 s3 s4 ?_
  obtain ⟨s5, h⟩ := h
  refine r_getI c105_100 s5 ?_
  exact r_iret c105_103 (Or.inl rfl) h
theorem t105_104 {d : Nat} {l0 : Nat} {l1 : Int} {M : Mem} {K : KK} {Q : RR → Mem → KK → Prop} (h : isO K.1 l0 11 = true ∧ ∃ b2 : Nat, (M l0 2) = (b2 : Int) ∧ 0 < b2 ∧ isO K.1 b2 3 = true ∧ Q (.inl (some (vI (M b2 4)))) M K) : Wp d 105 104 [vR l0, vI l1] [] M K Q := by
  refine r_aload_n c105_104 rfl ?_
  obtain ⟨s1, h⟩ := h
  obtain ⟨b2, h⟩ := h
  obtain ⟨s3, h⟩ := h
  obtain ⟨s4, h⟩ := h
  refine r_getR c105_105 s1 s3 s4 ?_
  obtain ⟨s5, h⟩ := h
  refine r_getI c105_108 s5 ?_
  exact r_iret c105_111 (Or.inl rfl) h
theorem t105_112 {d : Nat} {l0 : Nat} {l1 : Int} {M : Mem} {K : KK} {Q : RR → Mem → KK → Prop} (h : isO K.1 l0 11 = true ∧ ∃ b2 : Nat, (M l0 11) = (b2 : Int) ∧ 0 < b2 ∧ isO K.1 l0 11 = true ∧ ∃ b6 : Nat, (M l0 2) = (b6 : Int) ∧ 0 < b6 ∧ isO K.1 b6 3 = true ∧ isO K.1 b2 0 = true ∧ Wm d 7 [vR b2, vI (M b6 4)] M K (Bk d 105 123 126 7 [vR l0, vI l1] [] Q)) : Wp (d + 1) 105 112 [vR l0, vI l1] [] M K Q := by
  refine r_aload_n c105_112 rfl ?_
  obtain ⟨s1, h⟩ := h
  obtain ⟨b2, h⟩ := h
  obtain ⟨s3, h⟩ := h
  obtain ⟨s4, h⟩ := h
  refine r_getR c105_113 s1 s3 s4 ?_
  refine r_aload_n c105_116 rfl ?_
  obtain ⟨s5, h⟩ := h
  obtain ⟨b6, h⟩ := h
  obtain ⟨s7, h⟩ := h
  obtain ⟨s8, h⟩ := h
  refine r_getR c105_117 s5 s7 s8 ?_
  obtain ⟨s9, h⟩ := h
  refine r_getI c105_120 s9 ?_
  obtain ⟨s10, h⟩ := h
  exact r_call c105_123 rfl rfl (Nat.le_of_ble_eq_true rfl) (okc_r rfl rfl s10) h
theorem t105_126 {d : Nat} {l0 : Nat} {l1 : Int} {t0 : Int} {M : Mem} {K : KK} {Q : RR → Mem → KK → Prop} (h : Q (.inl (some (vI t0))) M K) : Wp d 105 126 [vR l0, vI l1] [vI t0] M K Q := by
  exact r_iret c105_126 (Or.inl rfl) h
theorem t105_127 {d : Nat} {l0 : Nat} {l1 : Int} {M : Mem} {K : KK} {Q : RR → Mem → KK → Prop} (h : isO K.1 l0 11 = true ∧ ∃ b2 : Nat, (M l0 2) = (b2 : Int) ∧ 0 < b2 ∧ isO K.1 b2 3 = true ∧ Q (.inl (some (vI (M b2 5)))) M K) : Wp d 105 127 [vR l0, vI l1] [] M K Q := by
  refine r_aload_n c105_127 rfl ?_
  obtain ⟨s1, h⟩ := h
  obtain ⟨b2, h⟩ := h
  obtain ⟨s3, h⟩ := h
  obtain ⟨s4, h⟩ := h
  refine r_getR c105_128 s1 s3 s4 ?_
  obtain ⟨s5, h⟩ := h
  refine r_getI c105_131 s5 ?_
  exact r_iret c105_134 (Or.inl rfl) h
theorem t105_135 {d : Nat} {l0 : Nat} {l1 : Int} {M : Mem} {K : KK} {Q : RR → Mem → KK → Prop} (h : isO K.1 l0 11 = true ∧ ∃ b2 : Nat, (M l0 2) = (b2 : Int) ∧ 0 < b2 ∧ isO K.1 l0 11 = true ∧ ∃ b6 : Nat, (M l0 11) = (b6 : Int) ∧ 0 < b6 ∧ isO K.1 b2 3 = true ∧ Wm d 40 [vR b2, vR b6] M K (Bk d 105 143 146 40 [vR l0, vI l1] [] Q)) : Wp (d + 1) 105 135 [vR l0, vI l1] [] M K Q := by
  refine r_aload_n c105_135 rfl ?_
  obtain ⟨s1, h⟩ := h
  obtain ⟨b2, h⟩ := h
  obtain ⟨s3, h⟩ := h
  obtain ⟨s4, h⟩ := h
  refine r_getR c105_136 s1 s3 s4 ?_
  refine r_aload_n c105_139 rfl ?_
  obtain ⟨s5, h⟩ := h
  obtain ⟨b6, h⟩ := h
  obtain ⟨s7, h⟩ := h
  obtain ⟨s8, h⟩ := h
  refine r_getR c105_140 s5 s7 s8 ?_
  obtain ⟨s9, h⟩ := h
  exact r_call c105_143 rfl rfl (Nat.le_of_ble_eq_true rfl) (okc_r rfl rfl s9) h
theorem t105_146 {d : Nat} {l0 : Nat} {l1 : Int} {t0 : Int} {M : Mem} {K : KK} {Q : RR → Mem → KK → Prop} (h : Q (.inl (some (vI t0))) M K) : Wp d 105 146 [vR l0, vI l1] [vI t0] M K Q := by
  exact r_iret c105_146 (Or.inl rfl) h
theorem t105_147 {d : Nat} {l0 : Nat} {l1 : Int} {M : Mem} {K : KK} {Q : RR → Mem → KK → Prop} (h : isO K.1 l0 11 = true ∧ ∃ b2 : Nat, (M l0 2) = (b2 : Int) ∧ 0 < b2 ∧ isO K.1 l0 11 = true ∧ ∃ b6 : Nat, (M l0 11) = (b6 : Int) ∧ 0 < b6 ∧ isO K.1 b2 3 = true ∧ Wm d 41 [vR b2, vR b6] M K (Bk d 105 155 158 41 [vR l0, vI l1] [] Q)) : Wp (d + 1) 105 147 [vR l0, vI l1] [] M K Q := by
  refine r_aload_n c105_147 rfl ?_
  obtain ⟨s1, h⟩ := h
  obtain ⟨b2, h⟩ := h
  obtain ⟨s3, h⟩ := h
  obtain ⟨s4, h⟩ := h
  refine r_getR c105_148 s1 s3 s4 ?_
  refine r_aload_n c105_151 rfl ?_
  obtain ⟨s5, h⟩ := h
  obtain ⟨b6, h⟩ := h
  obtain ⟨s7, h⟩ := h
  obtain ⟨s8, h⟩ := h
  refine r_getR c105_152 s5 s7 s8 ?_
  obtain ⟨s9, h⟩ := h
  exact r_call c105_155 rfl rfl (Nat.le_of_ble_eq_true rfl) (okc_r rfl rfl s9) h
theorem t105_158 {d : Nat} {l0 : Nat} {l1 : Int} {t0 : Int} {M : Mem} {K : KK} {Q : RR → Mem → KK → Prop} (h : Q (.inl (some (vI t0))) M K) : Wp d 105 158 [vR l0, vI l1] [vI t0] M K Q := by
  exact r_iret c105_158 (Or.inl rfl) h
theorem t105_159 {d : Nat} {l0 : Nat} {l1 : Int} {M : Mem} {K : KK} {Q : RR → Mem → KK → Prop} (h : isO K.1 l0 11 = true ∧ ∃ b2 : Nat, (M l0 14) = (b2 : Int) ∧ 0 < b2 ∧ isO K.1 b2 8 = true ∧ Q (.inl (some (vI (M b2 0)))) M K) : Wp d 105 159 [vR l0, vI l1] [] M K Q := by
  refine r_aload_n c105_159 rfl ?_
  obtain ⟨s1, h⟩ := h
  obtain ⟨b2, h⟩ := h
  obtain ⟨s3, h⟩ := h
  obtain ⟨s4, h⟩ := h
  refine r_getR c105_160 s1 s3 s4 ?_
  obtain ⟨s5, h⟩ := h
  refine r_getI c105_163 s5 ?_
  exact r_iret c105_166 (Or.inl rfl) h
theorem t105_167 {d : Nat} {l0 : Nat} {l1 : Int} {M : Mem} {K : KK} {Q : RR → Mem → KK → Prop} (h : isO K.1 l0 11 = true ∧ Q (.inl (some (vI (M l0 17)))) M K) : Wp d 105 167 [vR l0, vI l1] [] M K Q := by
  refine r_aload_n c105_167 rfl ?_
  obtain ⟨s1, h⟩ := h
  refine r_getI c105_168 s1 ?_
  exact r_iret c105_171 (Or.inl rfl) h
theorem t105_172 {d : Nat} {l0 : Nat} {l1 : Int} {M : Mem} {K : KK} {Q : RR → Mem → KK → Prop} (h : isO K.1 l0 11 = true ∧ ∃ b2 : Nat, (M l0 2) = (b2 : Int) ∧ 0 < b2 ∧ isO K.1 l0 11 = true ∧ ∃ b6 : Nat, (M l0 11) = (b6 : Int) ∧ 0 < b6 ∧ isO K.1 b2 3 = true ∧ Wm d 43 [vR b2, vR b6] M K (Bk d 105 180 183 43 [vR l0, vI l1] [] Q)) : Wp (d + 1) 105 172 [vR l0, vI l1] [] M K Q := by
  refine r_aload_n c105_172 rfl ?_
  obtain ⟨s1, h⟩ := h
  obtain ⟨b2, h⟩ := h
  obtain ⟨s3, h⟩ := h
  obtain ⟨s4, h⟩ := h
  refine r_getR c105_173 s1 s3 s4 ?_
  refine r_aload_n c105_176 rfl ?_
  obtain ⟨s5, h⟩ := h
  obtain ⟨b6, h⟩ := h
  obtain ⟨s7, h⟩ := h
  obtain ⟨s8, h⟩ := h
  refine r_getR c105_177 s5 s7 s8 ?_
  obtain ⟨s9, h⟩ := h
  exact r_call c105_180 rfl rfl (Nat.le_of_ble_eq_true rfl) (okc_r rfl rfl s9) h
theorem t105_183 {d : Nat} {l0 : Nat} {l1 : Int} {t0 : Int} {M : Mem} {K : KK} {Q : RR → Mem → KK → Prop} (h : Q (.inl (some (vI t0))) M K) : Wp d 105 183 [vR l0, vI l1] [vI t0] M K Q := by
  exact r_iret c105_183 (Or.inl rfl) h
theorem t106_0 {d : Nat} {l0 : Nat} {l1 : Int} {l2 : Int} {M : Mem} {K : KK} {Q : RR → Mem → KK → Prop} (h : isO K.1 l0 11 = true ∧ Wm d 139 [vR l0, vI l1] M K (Bk d 106 2 5 139 [vR l0, vI l1, vI l2] [] Q)) : Wp (d + 1) 106 0 [vR l0, vI l1, vI l2] [] M K Q := by
  refine r_aload_n c106_0 rfl ?_
  refine r_iload_n c106_1 rfl ?_
  obtain ⟨s1, h⟩ := h
  exact r_call c106_2 rfl rfl (Nat.le_of_ble_eq_true rfl) (okc_r rfl rfl s1) h
theorem t106_5 {d : Nat} {l0 : Nat} {l1 : Int} {l2 : Int} {M : Mem} {K : KK} {Q : RR → Mem → KK → Prop} (h : Wm d 142 [vI l2, vI (0 : Int), vI (1 : Int)] M K (Bk d 106 9 12 142 [vR l0, vI l1, vI l2] [vR l0] Q)) : Wp (d + 1) 106 5 [vR l0, vI l1, vI l2] [] M K Q := by
  refine r_aload_n c106_5 rfl ?_
  refine r_iload_n c106_6 rfl ?_
  refine r_iconst c106_7 ?_
  refine r_iconst c106_8 ?_
  exact r_call c106_9 rfl rfl (Nat.le_of_ble_eq_true rfl) (okc_s rfl rfl rfl) h
theorem t106_12 {d : Nat} {l0 : Nat} {l1 : Int} {l2 : Int} {t0 : Nat} {t1 : Int} {M : Mem} {K : KK} {Q : RR → Mem → KK → Prop} (h : isO K.1 t0 11 = true ∧ Wm d 136 [vR t0, vI t1] M K (Bk d 106 12 15 136 [vR l0, vI l1, vI l2] [] Q)) : Wp (d + 1) 106 12 [vR l0, vI l1, vI l2] [vI t1, vR t0] M K Q := by
  obtain ⟨s1, h⟩ := h
  exact r_call c106_12 rfl rfl (Nat.le_of_ble_eq_true rfl) (okc_r rfl rfl s1) h
theorem t106_15 {d : Nat} {l0 : Nat} {l1 : Int} {l2 : Int} {M : Mem} {K : KK} {Q : RR → Mem → KK → Prop} (h : (¬ l2 = (0 : Int) → isO K.1 l0 11 = true ∧ ∃ b2 : Nat, (M l0 2) = (b2 : Int) ∧ 0 < b2 ∧ isO K.1 l0 11 = true ∧ ∃ b6 : Nat, (M l0 11) = (b6 : Int) ∧ 0 < b6 ∧ isO K.1 b2 3 = true ∧ Wm d 38 [vR b2, vR b6, vI l1] M K (Bk d 106 40 43 38 [vR l0, vI l1, vI l2] [] Q)) ∧ (¬ (¬ l2 = (0 : Int)) → isO K.1 l0 11 = true ∧ ∃ b11 : Nat, (M l0 11) = (b11 : Int) ∧ 0 < b11 ∧ isO K.1 b11 0 = true ∧ ∃ b15 : Nat, (M b11 0) = (b15 : Int) ∧ 0 < b15 ∧ isO K.1 b15 20 = true ∧ (0 ≤ l1 ∧ l1 < (ln b15 : Int)) ∧ Wp (d + 1) 106 43 [vR l0, vI l1, vI l2] [vI (M b15 (Int.toNat l1))] M K Q)) : Wp (d + 1) 106 15 [vR l0, vI l1, vI l2] [] M K Q := by
  refine r_iload_n c106_15 rfl ?_
  refine r_ifP (P := ¬ l2 = (0 : Int)) c106_16 rfl (fun hc => ?_) (fun hc => ?_)
  · replace h := h.1 hc
    refine r_aload_n c106_31 rfl ?_
    obtain ⟨s1, h⟩ := h
    obtain ⟨b2, h⟩ := h
    obtain ⟨s3, h⟩ := h
    obtain ⟨s4, h⟩ := h
    refine r_getR c106_32 s1 s3 s4 ?_
    refine r_aload_n c106_35 rfl ?_
    obtain ⟨s5, h⟩ := h
    obtain ⟨b6, h⟩ := h
    obtain ⟨s7, h⟩ := h
    obtain ⟨s8, h⟩ := h
    refine r_getR c106_36 s5 s7 s8 ?_
    refine r_iload_n c106_39 rfl ?_
    obtain ⟨s9, h⟩ := h
    exact r_call c106_40 rfl rfl (Nat.le_of_ble_eq_true rfl) (okc_r rfl rfl s9) h
  · replace h := h.2 hc
    refine r_aload_n c106_19 rfl ?_
    obtain ⟨s10, h⟩ := h
    obtain ⟨b11, h⟩ := h
    obtain ⟨s12, h⟩ := h
    obtain ⟨s13, h⟩ := h
    refine r_getR c106_20 s10 s12 s13 ?_
    obtain ⟨s14, h⟩ := h
    obtain ⟨b15, h⟩ := h
    obtain ⟨s16, h⟩ := h
    obtain ⟨s17, h⟩ := h
    refine r_getR c106_23 s14 s16 s17 ?_
    refine r_iload_n c106_26 rfl ?_
    obtain ⟨s18, h⟩ := h
    obtain ⟨s19, h⟩ := h
    refine r_ia c106_27 s18 s19 ?_
    refine r_goto c106_28 ?_
    exact h
theorem t106_43 {d : Nat} {l0 : Nat} {l1 : Int} {l2 : Int} {t0 : Int} {M : Mem} {K : KK} {Q : RR → Mem → KK → Prop} (h : Q (.inl (some (vI t0))) M K) : Wp d 106 43 [vR l0, vI l1, vI l2] [vI t0] M K Q := by
  exact r_iret c106_43 (Or.inl rfl) h
theorem t107_0 {d : Nat} {l0 : Nat} {l1 : Int} {l2 : Int} {M : Mem} {K : KK} {Q : RR → Mem → KK → Prop} (h : isO K.1 l0 11 = true ∧ Wm d 138 [vR l0, vI l1] M K (Bk d 107 2 5 138 [vR l0, vI l1, vI l2] [] Q)) : Wp (d + 1) 107 0 [vR l0, vI l1, vI l2] [] M K Q := by
  refine r_aload_n c107_0 rfl ?_
  refine r_iload_n c107_1 rfl ?_
  obtain ⟨s1, h⟩ := h
  exact r_call c107_2 rfl rfl (Nat.le_of_ble_eq_true rfl) (okc_r rfl rfl s1) h
theorem t107_5 {d : Nat} {l0 : Nat} {l1 : Int} {l2 : Int} {M : Mem} {K : KK} {Q : RR → Mem → KK → Prop} (h : Wm d 142 [vI l2, vI (0 : Int), vI (5 : Int)] M K (Bk d 107 9 12 142 [vR l0, vI l1, vI l2] [vR l0] Q)) : Wp (d + 1) 107 5 [vR l0, vI l1, vI l2] [] M K Q := by
  refine r_aload_n c107_5 rfl ?_
  refine r_iload_n c107_6 rfl ?_
  refine r_iconst c107_7 ?_
  refine r_iconst c107_8 ?_
  exact r_call c107_9 rfl rfl (Nat.le_of_ble_eq_true rfl) (okc_s rfl rfl rfl) h
theorem t107_12 {d : Nat} {l0 : Nat} {l1 : Int} {l2 : Int} {t0 : Nat} {t1 : Int} {M : Mem} {K : KK} {Q : RR → Mem → KK → Prop} (h : isO K.1 t0 11 = true ∧ Wm d 136 [vR t0, vI t1] M K (Bk d 107 12 15 136 [vR l0, vI l1, vI l2] [] Q)) : Wp (d + 1) 107 12 [vR l0, vI l1, vI l2] [vI t1, vR t0] M K Q := by
  obtain ⟨s1, h⟩ := h
  exact r_call c107_12 rfl rfl (Nat.le_of_ble_eq_true rfl) (okc_r rfl rfl s1) h
theorem t107_15 {d : Nat} {l0 : Nat} {l1 : Int} {l2 : Int} {M : Mem} {K : KK} {Q : RR → Mem → KK → Prop} (h : Wp d 107 (tsw 16 86 0 4 #[36, 46, 56, 66, 76] l2) [vR l0, vI l1, vI l2] [] M K Q) : Wp d 107 15 [vR l0, vI l1, vI l2] [] M K Q := by
  refine r_iload_n c107_15 rfl ?_
  refine r_tsw c107_16 ?_
  exact h
theorem t107_52 {d : Nat} {l0 : Nat} {l1 : Int} {l2 : Int} {M : Mem} {K : KK} {Q : RR → Mem → KK → Prop} (h : isO K.1 l0 11 = true ∧ ∃ b2 : Nat, (M l0 11) = (b2 : Int) ∧ 0 < b2 ∧ isO K.1 b2 0 = true ∧ ∃ b6 : Nat, (M b2 1) = (b6 : Int) ∧ 0 < b6 ∧ isO K.1 b6 20 = true ∧ (0 ≤ l1 ∧ l1 < (ln b6 : Int)) ∧ Q (.inl (some (vI (M b6 (Int.toNat l1))))) M K) : Wp d 107 52 [vR l0, vI l1, vI l2] [] M K Q := by
  refine r_aload_n c107_52 rfl ?_
  obtain ⟨s1, h⟩ := h
  obtain ⟨b2, h⟩ := h
  obtain ⟨s3, h⟩ := h
  obtain ⟨s4, h⟩ := h
  refine r_getR c107_53 s1 s3 s4 ?_
  obtain ⟨s5, h⟩ := h
  obtain ⟨b6, h⟩ := h
  obtain ⟨s7, h⟩ := h
  obtain ⟨s8, h⟩ := h
  refine r_getR c107_56 s5 s7 s8 ?_
  refine r_iload_n c107_59 rfl ?_
  obtain ⟨s9, h⟩ := h
  obtain ⟨s10, h⟩ := h
  refine r_ia c107_60 s9 s10 ?_
  exact r_iret c107_61 (Or.inl rfl) h
theorem t107_62 {d : Nat} {l0 : Nat} {l1 : Int} {l2 : Int} {M : Mem} {K : KK} {Q : RR → Mem → KK → Prop} (h : isO K.1 l0 11 = true ∧ ∃ b2 : Nat, (M l0 2) = (b2 : Int) ∧ 0 < b2 ∧ isO K.1 b2 3 = true ∧ ∃ b6 : Nat, (M b2 0) = (b6 : Int) ∧ 0 < b6 ∧ isO K.1 b6 20 = true ∧ (0 ≤ l1 ∧ l1 < (ln b6 : Int)) ∧ Q (.inl (some (vI (M b6 (Int.toNat l1))))) M K) : Wp d 107 62 [vR l0, vI l1, vI l2] [] M K Q := by
  refine r_aload_n c107_62 rfl ?_
  obtain ⟨s1, h⟩ := h
  obtain ⟨b2, h⟩ := h
  obtain ⟨s3, h⟩ := h
  obtain ⟨s4, h⟩ := h
  refine r_getR c107_63 s1 s3 s4 ?_
  obtain ⟨s5, h⟩ := h
  obtain ⟨b6, h⟩ := h
  obtain ⟨s7, h⟩ := h
  obtain ⟨s8, h⟩ := h
  refine r_getR c107_66 s5 s7 s8 ?_
  refine r_iload_n c107_69 rfl ?_
  obtain ⟨s9, h⟩ := h
  obtain ⟨s10, h⟩ := h
  refine r_ia c107_70 s9 s10 ?_
  exact r_iret c107_71 (Or.inl rfl) h
theorem t107_72 {d : Nat} {l0 : Nat} {l1 : Int} {l2 : Int} {M : Mem} {K : KK} {Q : RR → Mem → KK → Prop} (h : isO K.1 l0 11 = true ∧ ∃ b2 : Nat, (M l0 2) = (b2 : Int) ∧ 0 < b2 ∧ isO K.1 b2 3 = true ∧ ∃ b6 : Nat, (M b2 1) = (b6 : Int) ∧ 0 < b6 ∧ isO K.1 b6 20 = true ∧ (0 ≤ l1 ∧ l1 < (ln b6 : Int)) ∧ Q (.inl (some (vI (M b6 (Int.toNat l1))))) M K) : Wp d 107 72 [vR l0, vI l1, vI l2] [] M K Q := by
  refine r_aload_n c107_72 rfl ?_
  obtain ⟨s1, h⟩ := h
  obtain ⟨b2, h⟩ := h
  obtain ⟨s3, h⟩ := h
  obtain ⟨s4, h⟩ := h
  refine r_getR c107_73 s1 s3 s4 ?_
  obtain ⟨s5, h⟩ := h
  obtain ⟨b6, h⟩ := h
  obtain ⟨s7, h⟩ := h
  obtain ⟨s8, h⟩ := h
  refine r_getR c107_76 s5 s7 s8 ?_
  refine r_iload_n c107_79 rfl ?_
  obtain ⟨s9, h⟩ := h
  obtain ⟨s10, h⟩ := h
  refine r_ia c107_80 s9 s10 ?_
  exact r_iret c107_81 (Or.inl rfl) h
theorem t107_82 {d : Nat} {l0 : Nat} {l1 : Int} {l2 : Int} {M : Mem} {K : KK} {Q : RR → Mem → KK → Prop} (h : isO K.1 l0 11 = true ∧ ∃ b2 : Nat, (M l0 2) = (b2 : Int) ∧ 0 < b2 ∧ isO K.1 b2 3 = true ∧ ∃ b6 : Nat, (M b2 2) = (b6 : Int) ∧ 0 < b6 ∧ isO K.1 b6 20 = true ∧ (0 ≤ l1 ∧ l1 < (ln b6 : Int)) ∧ Q (.inl (some (vI (M b6 (Int.toNat l1))))) M K) : Wp d 107 82 [vR l0, vI l1, vI l2] [] M K Q := by
  refine r_aload_n c107_82 rfl ?_
  obtain ⟨s1, h⟩ := h
  obtain ⟨b2, h⟩ := h
  obtain ⟨s3, h⟩ := h
  obtain ⟨s4, h⟩ := h
  refine r_getR c107_83 s1 s3 s4 ?_
  obtain ⟨s5, h⟩ := h
  obtain ⟨b6, h⟩ := h
  obtain ⟨s7, h⟩ := h
  obtain ⟨s8, h⟩ := h
  refine r_getR c107_86 s5 s7 s8 ?_
  refine r_iload_n c107_89 rfl ?_
  obtain ⟨s9, h⟩ := h
  obtain ⟨s10, h⟩ := h
  refine r_ia c107_90 s9 s10 ?_
  exact r_iret c107_91 (Or.inl rfl) h
theorem t107_92 {d : Nat} {l0 : Nat} {l1 : Int} {l2 : Int} {M : Mem} {K : KK} {Q : RR → Mem → KK → Prop} (h : isO K.1 l0 11 = true ∧ ∃ b2 : Nat, (M l0 2) = (b2 : Int) ∧ 0 < b2 ∧ isO K.1 b2 3 = true ∧ ∃ b6 : Nat, (M b2 3) = (b6 : Int) ∧ 0 < b6 ∧ isO K.1 b6 20 = true ∧ (0 ≤ l1 ∧ l1 < (ln b6 : Int)) ∧ Q (.inl (some (vI (M b6 (Int.toNat l1))))) M K) : Wp d 107 92 [vR l0, vI l1, vI l2] [] M K Q := by
  refine r_aload_n c107_92 rfl ?_
  obtain ⟨s1, h⟩ := h
  obtain ⟨b2, h⟩ := h
  obtain ⟨s3, h⟩ := h
  obtain ⟨s4, h⟩ := h
  refine r_getR c107_93 s1 s3 s4 ?_
  obtain ⟨s5, h⟩ := h
  obtain ⟨b6, h⟩ := h
  obtain ⟨s7, h⟩ := h
  obtain ⟨s8, h⟩ := h
  refine r_getR c107_96 s5 s7 s8 ?_
  refine r_iload_n c107_99 rfl ?_
  obtain ⟨s9, h⟩ := h
  obtain ⟨s10, h⟩ := h
  refine r_ia c107_100 s9 s10 ?_
  exact r_iret c107_101 (Or.inl rfl) h
theorem t107_102 {d : Nat} {l0 : Nat} {l1 : Int} {l2 : Int} {M : Mem} {K : KK} {Q : RR → Mem → KK → Prop} (h : isO K.1 l0 11 = true ∧ ∃ b2 : Nat, (M l0 2) = (b2 : Int) ∧ 0 < b2 ∧ isO K.1 l0 11 = true ∧ ∃ b6 : Nat, (M l0 11) = (b6 : Int) ∧ 0 < b6 ∧ isO K.1 l0 11 = true ∧ ∃ b10 : Nat, (M l0 11) = (b10 : Int) ∧ 0 < b10 ∧ isO K.1 l0 11 = true ∧ ∃ b14 : Nat, (M l0 2) = (b14 : Int) ∧ 0 < b14 ∧ isO K.1 b14 3 = true ∧ isO K.1 b10 0 = true ∧ Wm d 7 [vR b10, vI (M b14 4)] M K (Bk d 107 122 125 7 [vR l0, vI l1, vI l2] [vI l1, vR b6, vR b2] Q)) : Wp (d + 1) 107 102 [vR l0, vI l1, vI l2] [] M K Q := by
  refine r_aload_n c107_102 rfl ?_
  obtain ⟨s1, h⟩ := h
  obtain ⟨b2, h⟩ := h
  obtain ⟨s3, h⟩ := h
  obtain ⟨s4, h⟩ := h
  refine r_getR c107_103 s1 s3 s4 ?_
  refine r_aload_n c107_106 rfl ?_
  obtain ⟨s5, h⟩ := h
  obtain ⟨b6, h⟩ := h
  obtain ⟨s7, h⟩ := h
  obtain ⟨s8, h⟩ := h
  refine r_getR c107_107 s5 s7 s8 ?_
  refine r_iload_n c107_110 rfl ?_
  refine r_aload_n c107_111 rfl ?_
  obtain ⟨s9, h⟩ := h
  obtain ⟨b10, h⟩ := h
  obtain ⟨s11, h⟩ := h
  obtain ⟨s12, h⟩ := h
  refine r_getR c107_112 s9 s11 s12 ?_
  refine r_aload_n c107_115 rfl ?_
  obtain ⟨s13, h⟩ := h
  obtain ⟨b14, h⟩ := h
  obtain ⟨s15, h⟩ := h
  obtain ⟨s16, h⟩ := h
  refine r_getR c107_116 s13 s15 s16 ?_
  obtain ⟨s17, h⟩ := h
  refine r_getI c107_119 s17 ?_
  obtain ⟨s18, h⟩ := h
  exact r_call c107_122 rfl rfl (Nat.le_of_ble_eq_true rfl) (okc_r rfl rfl s18) h
theorem t107_125 {d : Nat} {l0 : Nat} {l1 : Int} {l2 : Int} {t0 : Nat} {t1 : Nat} {t2 : Int} {t3 : Int} {M : Mem} {K : KK} {Q : RR → Mem → KK → Prop} (h : isO K.1 t0 3 = true ∧ Wm d 44 [vR t0, vR t1, vI t2, vI t3] M K (Bk d 107 125 128 44 [vR l0, vI l1, vI l2] [] Q)) : Wp (d + 1) 107 125 [vR l0, vI l1, vI l2] [vI t3, vI t2, vR t1, vR t0] M K Q := by
  obtain ⟨s1, h⟩ := h
  exact r_call c107_125 rfl rfl (Nat.le_of_ble_eq_true rfl) (okc_r rfl rfl s1) h
theorem t107_128 {d : Nat} {l0 : Nat} {l1 : Int} {l2 : Int} {t0 : Int} {M : Mem} {K : KK} {Q : RR → Mem → KK → Prop} (h : Q (.inl (some (vI t0))) M K) : Wp d 107 128 [vR l0, vI l1, vI l2] [vI t0] M K Q := by
  exact r_iret c107_128 (Or.inl rfl) h
theorem t108_0 {d : Nat} {l0 : Nat} {l1 : Int} {M : Mem} {K : KK} {Q : RR → Mem → KK → Prop} (h : isO K.1 l0 11 = true ∧ ∃ b2 : Nat, (M l0 11) = (b2 : Int) ∧ 0 < b2 ∧ isO K.1 b2 0 = true ∧ Wm d 142 [vI l1, vI (0 : Int), vI (w32 ((M b2 7) - (1 : Int)))] M K (Bk d 108 12 15 142 [vR l0, vI l1] [vR l0] Q)) : Wp (d + 1) 108 0 [vR l0, vI l1] [] M K Q := by
  refine r_aload_n c108_0 rfl ?_
  refine r_iload_n c108_1 rfl ?_
  refine r_iconst c108_2 ?_
  refine r_aload_n c108_3 rfl ?_
  obtain ⟨s1, h⟩ := h
  obtain ⟨b2, h⟩ := h
  obtain ⟨s3, h⟩ := h
  obtain ⟨s4, h⟩ := h
  refine r_getR c108_4 s1 s3 s4 ?_
  obtain ⟨s5, h⟩ := h
  refine r_getI c108_7 s5 ?_
  refine r_iconst c108_10 ?_
  refine r_isub c108_11 ?_
  exact r_call c108_12 rfl rfl (Nat.le_of_ble_eq_true rfl) (okc_s rfl rfl rfl) h
theorem t108_15 {d : Nat} {l0 : Nat} {l1 : Int} {t0 : Nat} {t1 : Int} {M : Mem} {K : KK} {Q : RR → Mem → KK → Prop} (h : isO K.1 t0 11 = true ∧ Wm d 137 [vR t0, vI t1] M K (Bk d 108 15 18 137 [vR l0, vI l1] [] Q)) : Wp (d + 1) 108 15 [vR l0, vI l1] [vI t1, vR t0] M K Q := by
  obtain ⟨s1, h⟩ := h
  exact r_call c108_15 rfl rfl (Nat.le_of_ble_eq_true rfl) (okc_r rfl rfl s1) h
theorem t108_18 {d : Nat} {l0 : Nat} {l1 : Int} {M : Mem} {K : KK} {Q : RR → Mem → KK → Prop} (h : isO K.1 l0 11 = true ∧ ∃ b2 : Nat, (M l0 11) = (b2 : Int) ∧ 0 < b2 ∧ isO K.1 b2 0 = true ∧ ∃ b6 : Nat, (M b2 3) = (b6 : Int) ∧ 0 < b6 ∧ isO K.1 b6 20 = true ∧ (0 ≤ l1 ∧ l1 < (ln b6 : Int)) ∧ Q (.inl (some (vI (M b6 (Int.toNat l1))))) M K) : Wp d 108 18 [vR l0, vI l1] [] M K Q := by
  refine r_aload_n c108_18 rfl ?_
  obtain ⟨s1, h⟩ := h
  obtain ⟨b2, h⟩ := h
  obtain ⟨s3, h⟩ := h
  obtain ⟨s4, h⟩ := h
  refine r_getR c108_19 s1 s3 s4 ?_
  obtain ⟨s5, h⟩ := h
  obtain ⟨b6, h⟩ := h
  obtain ⟨s7, h⟩ := h
  obtain ⟨s8, h⟩ := h
  refine r_getR c108_22 s5 s7 s8 ?_
  refine r_iload_n c108_25 rfl ?_
  obtain ⟨s9, h⟩ := h
  obtain ⟨s10, h⟩ := h
  refine r_ia c108_26 s9 s10 ?_
  exact r_iret c108_27 (Or.inl rfl) h
theorem t109_0 {d : Nat} {l0 : Nat} {l1 : Int} {l2 : Int} {l3 : Int} {l4 : Int} {l5 : Int} {l6 : Int} {l7 : Int} {l8 : Int} {M : Mem} {K : KK} {Q : RR → Mem → KK → Prop} (h : Wm d 142 [vI l1, vI (0 : Int), vI (54 : Int)] M K (Bk d 109 5 8 142 [vR l0, vI l1, vI l2, vI l3, vI l4, vI l5, vI l6, vI l7, vI l8, vU] [vR l0] Q)) : Wp (d + 1) 109 0 [vR l0, vI l1, vI l2, vI l3, vI l4, vI l5, vI l6, vI l7, vI l8, vU] [] M K Q := by
  refine r_aload_n c109_0 rfl ?_
  refine r_iload_n c109_1 rfl ?_
  refine r_iconst c109_2 ?_
  refine r_bipush c109_3 ?_
  exact r_call c109_5 rfl rfl (Nat.le_of_ble_eq_true rfl) (okc_s rfl rfl rfl) h
theorem t109_8 {d : Nat} {l0 : Nat} {l1 : Int} {l2 : Int} {l3 : Int} {l4 : Int} {l5 : Int} {l6 : Int} {l7 : Int} {l8 : Int} {t0 : Nat} {t1 : Int} {M : Mem} {K : KK} {Q : RR → Mem → KK → Prop} (h : (t1 = (0 : Int) → Wp (d + 1) 109 35 [vR l0, vI l1, vI l2, vI l3, vI l4, vI l5, vI l6, vI l7, vI l8, vU] [vR t0] M K Q) ∧ (¬ (t1 = (0 : Int)) → Wm d 142 [vI l2, vI (1 : Int), vI (6 : Int)] M K (Bk d 109 15 18 142 [vR l0, vI l1, vI l2, vI l3, vI l4, vI l5, vI l6, vI l7, vI l8, vU] [vR t0] Q))) : Wp (d + 1) 109 8 [vR l0, vI l1, vI l2, vI l3, vI l4, vI l5, vI l6, vI l7, vI l8, vU] [vI t1, vR t0] M K Q := by
  refine r_ifP (P := t1 = (0 : Int)) c109_8 rfl (fun hc => ?_) (fun hc => ?_)
  · replace h := h.1 hc
    exact h
  · replace h := h.2 hc
    refine r_iload_n c109_11 rfl ?_
    refine r_iconst c109_12 ?_
    refine r_bipush c109_13 ?_
    exact r_call c109_15 rfl rfl (Nat.le_of_ble_eq_true rfl) (okc_s rfl rfl rfl) h
theorem t109_18 {d : Nat} {l0 : Nat} {l1 : Int} {l2 : Int} {l3 : Int} {l4 : Int} {l5 : Int} {l6 : Int} {l7 : Int} {l8 : Int} {t0 : Nat} {t1 : Int} {M : Mem} {K : KK} {Q : RR → Mem → KK → Prop} (h : (t1 = (0 : Int) → Wp (d + 1) 109 35 [vR l0, vI l1, vI l2, vI l3, vI l4, vI l5, vI l6, vI l7, vI l8, vU] [vR t0] M K Q) ∧ (¬ (t1 = (0 : Int)) → Wm d 142 [vI l3, vI (0 : Int), vI (99 : Int)] M K (Bk d 109 25 28 142 [vR l0, vI l1, vI l2, vI l3, vI l4, vI l5, vI l6, vI l7, vI l8, vU] [vR t0] Q))) : Wp (d + 1) 109 18 [vR l0, vI l1, vI l2, vI l3, vI l4, vI l5, vI l6, vI l7, vI l8, vU] [vI t1, vR t0] M K Q := by
  refine r_ifP (P := t1 = (0 : Int)) c109_18 rfl (fun hc => ?_) (fun hc => ?_)
  · replace h := h.1 hc
    exact h
  · replace h := h.2 hc
    refine r_iload_n c109_21 rfl ?_
    refine r_iconst c109_22 ?_
    refine r_bipush c109_23 ?_
    exact r_call c109_25 rfl rfl (Nat.le_of_ble_eq_true rfl) (okc_s rfl rfl rfl) h
theorem t109_28 {d : Nat} {l0 : Nat} {l1 : Int} {l2 : Int} {l3 : Int} {l4 : Int} {l5 : Int} {l6 : Int} {l7 : Int} {l8 : Int} {t0 : Nat} {t1 : Int} {M : Mem} {K : KK} {Q : RR → Mem → KK → Prop} (h : (t1 = (0 : Int) → Wp d 109 35 [vR l0, vI l1, vI l2, vI l3, vI l4, vI l5, vI l6, vI l7, vI l8, vU] [vR t0] M K Q) ∧ (¬ (t1 = (0 : Int)) → Wp d 109 36 [vR l0, vI l1, vI l2, vI l3, vI l4, vI l5, vI l6, vI l7, vI l8, vU] [vI (1 : Int), vR t0] M K Q)) : Wp d 109 28 [vR l0, vI l1, vI l2, vI l3, vI l4, vI l5, vI l6, vI l7, vI l8, vU] [vI t1, vR t0] M K Q := by
  refine r_ifP (P := t1 = (0 : Int)) c109_28 rfl (fun hc => ?_) (fun hc => ?_)
  · replace h := h.1 hc
    exact h
  · replace h := h.2 hc
    refine r_iconst c109_31 ?_
    refine r_goto c109_32 ?_
    exact h
theorem t109_35 {d : Nat} {l0 : Nat} {l1 : Int} {l2 : Int} {l3 : Int} {l4 : Int} {l5 : Int} {l6 : Int} {l7 : Int} {l8 : Int} {t0 : Nat} {M : Mem} {K : KK} {Q : RR → Mem → KK → Prop} (h : Wp d 109 36 [vR l0, vI l1, vI l2, vI l3, vI l4, vI l5, vI l6, vI l7, vI l8, vU] [vI (0 : Int), vR t0] M K Q) : Wp d 109 35 [vR l0, vI l1, vI l2, vI l3, vI l4, vI l5, vI l6, vI l7, vI l8, vU] [vR t0] M K Q := by
  refine r_iconst c109_35 ?_
  exact h
theorem t109_36 {d : Nat} {l0 : Nat} {l1 : Int} {l2 : Int} {l3 : Int} {l4 : Int} {l5 : Int} {l6 : Int} {l7 : Int} {l8 : Int} {t0 : Nat} {t1 : Int} {M : Mem} {K : KK} {Q : RR → Mem → KK → Prop} (h : isO K.1 t0 11 = true ∧ Wm d 136 [vR t0, vI t1] M K (Bk d 109 36 39 136 [vR l0, vI l1, vI l2, vI l3, vI l4, vI l5, vI l6, vI l7, vI l8, vU] [] Q)) : Wp (d + 1) 109 36 [vR l0, vI l1, vI l2, vI l3, vI l4, vI l5, vI l6, vI l7, vI l8, vU] [vI t1, vR t0] M K Q := by
  obtain ⟨s1, h⟩ := h
  exact r_call c109_36 rfl rfl (Nat.le_of_ble_eq_true rfl) (okc_r rfl rfl s1) h
theorem t109_39 {d : Nat} {l0 : Nat} {l1 : Int} {l2 : Int} {l3 : Int} {l4 : Int} {l5 : Int} {l6 : Int} {l7 : Int} {l8 : Int} {M : Mem} {K : KK} {Q : RR → Mem → KK → Prop} (h : Wm d 142 [vI l4, vI (0 : Int), vI (9 : Int)] M K (Bk d 109 45 48 142 [vR l0, vI l1, vI l2, vI l3, vI l4, vI l5, vI l6, vI l7, vI l8, vU] [vR l0] Q)) : Wp (d + 1) 109 39 [vR l0, vI l1, vI l2, vI l3, vI l4, vI l5, vI l6, vI l7, vI l8, vU] [] M K Q := by
  refine r_aload_n c109_39 rfl ?_
  refine r_iload c109_40 rfl ?_
  refine r_iconst c109_42 ?_
  refine r_bipush c109_43 ?_
  exact r_call c109_45 rfl rfl (Nat.le_of_ble_eq_true rfl) (okc_s rfl rfl rfl) h
theorem t109_48 {d : Nat} {l0 : Nat} {l1 : Int} {l2 : Int} {l3 : Int} {l4 : Int} {l5 : Int} {l6 : Int} {l7 : Int} {l8 : Int} {t0 : Nat} {t1 : Int} {M : Mem} {K : KK} {Q : RR → Mem → KK → Prop} (h : (t1 = (0 : Int) → Wp (d + 1) 109 76 [vR l0, vI l1, vI l2, vI l3, vI l4, vI l5, vI l6, vI l7, vI l8, vU] [vR t0] M K Q) ∧ (¬ (t1 = (0 : Int)) → Wm d 142 [vI l5, vI (0 : Int), vI (9 : Int)] M K (Bk d 109 56 59 142 [vR l0, vI l1, vI l2, vI l3, vI l4, vI l5, vI l6, vI l7, vI l8, vU] [vR t0] Q))) : Wp (d + 1) 109 48 [vR l0, vI l1, vI l2, vI l3, vI l4, vI l5, vI l6, vI l7, vI l8, vU] [vI t1, vR t0] M K Q := by
  refine r_ifP (P := t1 = (0 : Int)) c109_48 rfl (fun hc => ?_) (fun hc => ?_)
  · replace h := h.1 hc
    exact h
  · replace h := h.2 hc
    refine r_iload c109_51 rfl ?_
    refine r_iconst c109_53 ?_
    refine r_bipush c109_54 ?_
    exact r_call c109_56 rfl rfl (Nat.le_of_ble_eq_true rfl) (okc_s rfl rfl rfl) h
theorem t109_59 {d : Nat} {l0 : Nat} {l1 : Int} {l2 : Int} {l3 : Int} {l4 : Int} {l5 : Int} {l6 : Int} {l7 : Int} {l8 : Int} {t0 : Nat} {t1 : Int} {M : Mem} {K : KK} {Q : RR → Mem → KK → Prop} (h : (t1 = (0 : Int) → Wp (d + 1) 109 76 [vR l0, vI l1, vI l2, vI l3, vI l4, vI l5, vI l6, vI l7, vI l8, vU] [vR t0] M K Q) ∧ (¬ (t1 = (0 : Int)) → Wm d 142 [vI l6, vI (0 : Int), vI (1 : Int)] M K (Bk d 109 66 69 142 [vR l0, vI l1, vI l2, vI l3, vI l4, vI l5, vI l6, vI l7, vI l8, vU] [vR t0] Q))) : Wp (d + 1) 109 59 [vR l0, vI l1, vI l2, vI l3, vI l4, vI l5, vI l6, vI l7, vI l8, vU] [vI t1, vR t0] M K Q := by
  refine r_ifP (P := t1 = (0 : Int)) c109_59 rfl (fun hc => ?_) (fun hc => ?_)
  · replace h := h.1 hc
    exact h
  · replace h := h.2 hc
    refine r_iload c109_62 rfl ?_
    refine r_iconst c109_64 ?_
    refine r_iconst c109_65 ?_
    exact r_call c109_66 rfl rfl (Nat.le_of_ble_eq_true rfl) (okc_s rfl rfl rfl) h
theorem t109_69 {d : Nat} {l0 : Nat} {l1 : Int} {l2 : Int} {l3 : Int} {l4 : Int} {l5 : Int} {l6 : Int} {l7 : Int} {l8 : Int} {t0 : Nat} {t1 : Int} {M : Mem} {K : KK} {Q : RR → Mem → KK → Prop} (h : (t1 = (0 : Int) → Wp d 109 76 [vR l0, vI l1, vI l2, vI l3, vI l4, vI l5, vI l6, vI l7, vI l8, vU] [vR t0] M K Q) ∧ (¬ (t1 = (0 : Int)) → Wp d 109 77 [vR l0, vI l1, vI l2, vI l3, vI l4, vI l5, vI l6, vI l7, vI l8, vU] [vI (1 : Int), vR t0] M K Q)) : Wp d 109 69 [vR l0, vI l1, vI l2, vI l3, vI l4, vI l5, vI l6, vI l7, vI l8, vU] [vI t1, vR t0] M K Q := by
  refine r_ifP (P := t1 = (0 : Int)) c109_69 rfl (fun hc => ?_) (fun hc => ?_)
  · replace h := h.1 hc
    exact h
  · replace h := h.2 hc
    refine r_iconst c109_72 ?_
    refine r_goto c109_73 ?_
    exact h
theorem t109_76 {d : Nat} {l0 : Nat} {l1 : Int} {l2 : Int} {l3 : Int} {l4 : Int} {l5 : Int} {l6 : Int} {l7 : Int} {l8 : Int} {t0 : Nat} {M : Mem} {K : KK} {Q : RR → Mem → KK → Prop} (h : Wp d 109 77 [vR l0, vI l1, vI l2, vI l3, vI l4, vI l5, vI l6, vI l7, vI l8, vU] [vI (0 : Int), vR t0] M K Q) : Wp d 109 76 [vR l0, vI l1, vI l2, vI l3, vI l4, vI l5, vI l6, vI l7, vI l8, vU] [vR t0] M K Q := by
  refine r_iconst c109_76 ?_
  exact h
theorem t109_77 {d : Nat} {l0 : Nat} {l1 : Int} {l2 : Int} {l3 : Int} {l4 : Int} {l5 : Int} {l6 : Int} {l7 : Int} {l8 : Int} {t0 : Nat} {t1 : Int} {M : Mem} {K : KK} {Q : RR → Mem → KK → Prop} (h : isO K.1 t0 11 = true ∧ Wm d 136 [vR t0, vI t1] M K (Bk d 109 77 80 136 [vR l0, vI l1, vI l2, vI l3, vI l4, vI l5, vI l6, vI l7, vI l8, vU] [] Q)) : Wp (d + 1) 109 77 [vR l0, vI l1, vI l2, vI l3, vI l4, vI l5, vI l6, vI l7, vI l8, vU] [vI t1, vR t0] M K Q := by
  obtain ⟨s1, h⟩ := h
  exact r_call c109_77 rfl rfl (Nat.le_of_ble_eq_true rfl) (okc_r rfl rfl s1) h
theorem t109_80 {d : Nat} {l0 : Nat} {l1 : Int} {l2 : Int} {l3 : Int} {l4 : Int} {l5 : Int} {l6 : Int} {l7 : Int} {l8 : Int} {M : Mem} {K : KK} {Q : RR → Mem → KK → Prop} (h : Wm d 142 [vI l7, vI (0 : Int), vI (500 : Int)] M K (Bk d 109 87 90 142 [vR l0, vI l1, vI l2, vI l3, vI l4, vI l5, vI l6, vI l7, vI l8, vU] [vR l0] Q)) : Wp (d + 1) 109 80 [vR l0, vI l1, vI l2, vI l3, vI l4, vI l5, vI l6, vI l7, vI l8, vU] [] M K Q := by
  refine r_aload_n c109_80 rfl ?_
  refine r_iload c109_81 rfl ?_
  refine r_iconst c109_83 ?_
  refine r_sipush c109_84 ?_
  exact r_call c109_87 rfl rfl (Nat.le_of_ble_eq_true rfl) (okc_s rfl rfl rfl) h
theorem t109_90 {d : Nat} {l0 : Nat} {l1 : Int} {l2 : Int} {l3 : Int} {l4 : Int} {l5 : Int} {l6 : Int} {l7 : Int} {l8 : Int} {t0 : Nat} {t1 : Int} {M : Mem} {K : KK} {Q : RR → Mem → KK → Prop} (h : (t1 = (0 : Int) → Wp (d + 1) 109 108 [vR l0, vI l1, vI l2, vI l3, vI l4, vI l5, vI l6, vI l7, vI l8, vU] [vR t0] M K Q) ∧ (¬ (t1 = (0 : Int)) → Wm d 142 [vI l8, vI (0 : Int), vI (11 : Int)] M K (Bk d 109 98 101 142 [vR l0, vI l1, vI l2, vI l3, vI l4, vI l5, vI l6, vI l7, vI l8, vU] [vR t0] Q))) : Wp (d + 1) 109 90 [vR l0, vI l1, vI l2, vI l3, vI l4, vI l5, vI l6, vI l7, vI l8, vU] [vI t1, vR t0] M K Q := by
  refine r_ifP (P := t1 = (0 : Int)) c109_90 rfl (fun hc => ?_) (fun hc => ?_)
  · replace h := h.1 hc
    exact h
  · replace h := h.2 hc
    refine r_iload c109_93 rfl ?_
    refine r_iconst c109_95 ?_
    refine r_bipush c109_96 ?_
    exact r_call c109_98 rfl rfl (Nat.le_of_ble_eq_true rfl) (okc_s rfl rfl rfl) h
theorem t109_101 {d : Nat} {l0 : Nat} {l1 : Int} {l2 : Int} {l3 : Int} {l4 : Int} {l5 : Int} {l6 : Int} {l7 : Int} {l8 : Int} {t0 : Nat} {t1 : Int} {M : Mem} {K : KK} {Q : RR → Mem → KK → Prop} (h : (t1 = (0 : Int) → Wp d 109 108 [vR l0, vI l1, vI l2, vI l3, vI l4, vI l5, vI l6, vI l7, vI l8, vU] [vR t0] M K Q) ∧ (¬ (t1 = (0 : Int)) → Wp d 109 109 [vR l0, vI l1, vI l2, vI l3, vI l4, vI l5, vI l6, vI l7, vI l8, vU] [vI (1 : Int), vR t0] M K Q)) : Wp d 109 101 [vR l0, vI l1, vI l2, vI l3, vI l4, vI l5, vI l6, vI l7, vI l8, vU] [vI t1, vR t0] M K Q := by
  refine r_ifP (P := t1 = (0 : Int)) c109_101 rfl (fun hc => ?_) (fun hc => ?_)
  · replace h := h.1 hc
    exact h
  · replace h := h.2 hc
    refine r_iconst c109_104 ?_
    refine r_goto c109_105 ?_
    exact h
theorem t109_108 {d : Nat} {l0 : Nat} {l1 : Int} {l2 : Int} {l3 : Int} {l4 : Int} {l5 : Int} {l6 : Int} {l7 : Int} {l8 : Int} {t0 : Nat} {M : Mem} {K : KK} {Q : RR → Mem → KK → Prop} (h : Wp d 109 109 [vR l0, vI l1, vI l2, vI l3, vI l4, vI l5, vI l6, vI l7, vI l8, vU] [vI (0 : Int), vR t0] M K Q) : Wp d 109 108 [vR l0, vI l1, vI l2, vI l3, vI l4, vI l5, vI l6, vI l7, vI l8, vU] [vR t0] M K Q := by
  refine r_iconst c109_108 ?_
  exact h
theorem t109_109 {d : Nat} {l0 : Nat} {l1 : Int} {l2 : Int} {l3 : Int} {l4 : Int} {l5 : Int} {l6 : Int} {l7 : Int} {l8 : Int} {t0 : Nat} {t1 : Int} {M : Mem} {K : KK} {Q : RR → Mem → KK → Prop} (h : isO K.1 t0 11 = true ∧ Wm d 136 [vR t0, vI t1] M K (Bk d 109 109 112 136 [vR l0, vI l1, vI l2, vI l3, vI l4, vI l5, vI l6, vI l7, vI l8, vU] [] Q)) : Wp (d + 1) 109 109 [vR l0, vI l1, vI l2, vI l3, vI l4, vI l5, vI l6, vI l7, vI l8, vU] [vI t1, vR t0] M K Q := by
  obtain ⟨s1, h⟩ := h
  exact r_call c109_109 rfl rfl (Nat.le_of_ble_eq_true rfl) (okc_r rfl rfl s1) h
theorem t109_112 {d : Nat} {l0 : Nat} {l1 : Int} {l2 : Int} {l3 : Int} {l4 : Int} {l5 : Int} {l6 : Int} {l7 : Int} {l8 : Int} {M : Mem} {K : KK} {Q : RR → Mem → KK → Prop} (h : isO K.1 l0 11 = true ∧ ∃ b2 : Nat, (M l0 11) = (b2 : Int) ∧ 0 < b2 ∧ isO K.1 b2 0 = true ∧ ∃ b6 : Nat, (M b2 11) = (b6 : Int) ∧ 0 < b6 ∧ isO K.1 b6 2 = true ∧ ∃ b10 : Nat, (M b6 0) = (b10 : Int) ∧ 0 < b10 ∧ isO K.1 b10 20 = true ∧ (0 ≤ (0 : Int) ∧ (0 : Int) < (ln b10 : Int)) ∧ isO K.1 b10 20 = true ∧ (0 ≤ (1 : Int) ∧ (1 : Int) < (ln b10 : Int)) ∧ isO K.1 b10 20 = true ∧ (0 ≤ (2 : Int) ∧ (2 : Int) < (ln b10 : Int)) ∧ isO K.1 b10 20 = true ∧ (0 ≤ (3 : Int) ∧ (3 : Int) < (ln b10 : Int)) ∧ isO K.1 b10 20 = true ∧ (0 ≤ (4 : Int) ∧ (4 : Int) < (ln b10 : Int)) ∧ isO K.1 b10 20 = true ∧ (0 ≤ (5 : Int) ∧ (5 : Int) < (ln b10 : Int)) ∧ isO K.1 b10 20 = true ∧ (0 ≤ (6 : Int) ∧ (6 : Int) < (ln b10 : Int)) ∧ isO K.1 b10 20 = true ∧ (0 ≤ (7 : Int) ∧ (7 : Int) < (ln b10 : Int)) ∧ isO K.1 l0 11 = true ∧ ∃ b30 : Nat, ((mset (mset (mset (mset (mset (mset (mset (mset M b10 (Int.toNat (0 : Int)) l1) b10 (Int.toNat (1 : Int)) l2) b10 (Int.toNat (2 : Int)) l3) b10 (Int.toNat (3 : Int)) l4) b10 (Int.toNat (4 : Int)) l5) b10 (Int.toNat (5 : Int)) l6) b10 (Int.toNat (6 : Int)) l7) b10 (Int.toNat (7 : Int)) l8) l0 11) = (b30 : Int) ∧ 0 < b30 ∧ isO K.1 b30 0 = true ∧ ∃ b34 : Nat, ((mset (mset (mset (mset (mset (mset (mset (mset M b10 (Int.toNat (0 : Int)) l1) b10 (Int.toNat (1 : Int)) l2) b10 (Int.toNat (2 : Int)) l3) b10 (Int.toNat (3 : Int)) l4) b10 (Int.toNat (4 : Int)) l5) b10 (Int.toNat (5 : Int)) l6) b10 (Int.toNat (6 : Int)) l7) b10 (Int.toNat (7 : Int)) l8) b30 11) = (b34 : Int) ∧ 0 < b34 ∧ isO K.1 b34 2 = true ∧ Wm d 26 [vR b34] (mset (mset (mset (mset (mset (mset (mset (mset M b10 (Int.toNat (0 : Int)) l1) b10 (Int.toNat (1 : Int)) l2) b10 (Int.toNat (2 : Int)) l3) b10 (Int.toNat (3 : Int)) l4) b10 (Int.toNat (4 : Int)) l5) b10 (Int.toNat (5 : Int)) l6) b10 (Int.toNat (6 : Int)) l7) b10 (Int.toNat (7 : Int)) l8) K (Bk d 109 178 181 26 [vR l0, vI l1, vI l2, vI l3, vI l4, vI l5, vI l6, vI l7, vI l8, vR b10] [] Q)) : Wp (d + 1) 109 112 [vR l0, vI l1, vI l2, vI l3, vI l4, vI l5, vI l6, vI l7, vI l8, vU] [] M K Q := by
  refine r_aload_n c109_112 rfl ?_
  obtain ⟨s1, h⟩ := h
  obtain ⟨b2, h⟩ := h
  obtain ⟨s3, h⟩ := h
  obtain ⟨s4, h⟩ := h
  refine r_getR c109_113 s1 s3 s4 ?_
  obtain ⟨s5, h⟩ := h
  obtain ⟨b6, h⟩ := h
  obtain ⟨s7, h⟩ := h
  obtain ⟨s8, h⟩ := h
  refine r_getR c109_116 s5 s7 s8 ?_
  obtain ⟨s9, h⟩ := h
  obtain ⟨b10, h⟩ := h
  obtain ⟨s11, h⟩ := h
  obtain ⟨s12, h⟩ := h
  refine r_getR c109_119 s9 s11 s12 ?_
  refine r_astore c109_122 (Nat.le_of_ble_eq_true rfl) ?_
  refine r_aload c109_124 rfl ?_
  refine r_iconst c109_126 ?_
  refine r_iload_n c109_127 rfl ?_
  obtain ⟨s13, h⟩ := h
  obtain ⟨s14, h⟩ := h
  refine r_ias c109_128 s13 s14 ?_
  refine r_aload c109_129 rfl ?_
  refine r_iconst c109_131 ?_
  refine r_iload_n c109_132 rfl ?_
  obtain ⟨s15, h⟩ := h
  obtain ⟨s16, h⟩ := h
  refine r_ias c109_133 s15 s16 ?_
  refine r_aload c109_134 rfl ?_
  refine r_iconst c109_136 ?_
  refine r_iload_n c109_137 rfl ?_
  obtain ⟨s17, h⟩ := h
  obtain ⟨s18, h⟩ := h
  refine r_ias c109_138 s17 s18 ?_
  refine r_aload c109_139 rfl ?_
  refine r_iconst c109_141 ?_
  refine r_iload c109_142 rfl ?_
  obtain ⟨s19, h⟩ := h
  obtain ⟨s20, h⟩ := h
  refine r_ias c109_144 s19 s20 ?_
  refine r_aload c109_145 rfl ?_
  refine r_iconst c109_147 ?_
  refine r_iload c109_148 rfl ?_
  obtain ⟨s21, h⟩ := h
  obtain ⟨s22, h⟩ := h
  refine r_ias c109_150 s21 s22 ?_
  refine r_aload c109_151 rfl ?_
  refine r_iconst c109_153 ?_
  refine r_iload c109_154 rfl ?_
  obtain ⟨s23, h⟩ := h
  obtain ⟨s24, h⟩ := h
  refine r_ias c109_156 s23 s24 ?_
  refine r_aload c109_157 rfl ?_
  refine r_bipush c109_159 ?_
  refine r_iload c109_161 rfl ?_
  obtain ⟨s25, h⟩ := h
  obtain ⟨s26, h⟩ := h
  refine r_ias c109_163 s25 s26 ?_
  refine r_aload c109_164 rfl ?_
  refine r_bipush c109_166 ?_
  refine r_iload c109_168 rfl ?_
  obtain ⟨s27, h⟩ := h
  obtain ⟨s28, h⟩ := h
  refine r_ias c109_170 s27 s28 ?_
  refine r_aload_n c109_171 rfl ?_
  obtain ⟨s29, h⟩ := h
  obtain ⟨b30, h⟩ := h
  obtain ⟨s31, h⟩ := h
  obtain ⟨s32, h⟩ := h
  refine r_getR c109_172 s29 s31 s32 ?_
  obtain ⟨s33, h⟩ := h
  obtain ⟨b34, h⟩ := h
  obtain ⟨s35, h⟩ := h
  obtain ⟨s36, h⟩ := h
  refine r_getR c109_175 s33 s35 s36 ?_
  obtain ⟨s37, h⟩ := h
  exact r_call c109_178 rfl rfl (Nat.le_of_ble_eq_true rfl) (okc_r rfl rfl s37) h
theorem t109_181 {d : Nat} {l0 : Nat} {l1 : Int} {l2 : Int} {l3 : Int} {l4 : Int} {l5 : Int} {l6 : Int} {l7 : Int} {l8 : Int} {l9 : Nat} {t0 : Int} {M : Mem} {K : KK} {Q : RR → Mem → KK → Prop} (h : Q (.inl (some (vI t0))) M K) : Wp d 109 181 [vR l0, vI l1, vI l2, vI l3, vI l4, vI l5, vI l6, vI l7, vI l8, vR l9] [vI t0] M K Q := by
  exact r_iret c109_181 (Or.inl rfl) h
theorem t110_0 {d : Nat} {l0 : Nat} {l1 : Int} {l2 : Int} {M : Mem} {K : KK} {Q : RR → Mem → KK → Prop} (h : isO K.1 l0 11 = true ∧ Wm d 138 [vR l0, vI l1] M K (Bk d 110 2 5 138 [vR l0, vI l1, vI l2] [] Q)) : Wp (d + 1) 110 0 [vR l0, vI l1, vI l2] [] M K Q := by
  refine r_aload_n c110_0 rfl ?_
  refine r_iload_n c110_1 rfl ?_
  obtain ⟨s1, h⟩ := h
  exact r_call c110_2 rfl rfl (Nat.le_of_ble_eq_true rfl) (okc_r rfl rfl s1) h
theorem t110_5 {d : Nat} {l0 : Nat} {l1 : Int} {l2 : Int} {M : Mem} {K : KK} {Q : RR → Mem → KK → Prop} (h : isO K.1 l0 11 = true ∧ Wm d 139 [vR l0, vI l2] M K (Bk d 110 7 10 139 [vR l0, vI l1, vI l2] [] Q)) : Wp (d + 1) 110 5 [vR l0, vI l1, vI l2] [] M K Q := by
  refine r_aload_n c110_5 rfl ?_
  refine r_iload_n c110_6 rfl ?_
  obtain ⟨s1, h⟩ := h
  exact r_call c110_7 rfl rfl (Nat.le_of_ble_eq_true rfl) (okc_r rfl rfl s1) h
theorem t110_10 {d : Nat} {l0 : Nat} {l1 : Int} {l2 : Int} {M : Mem} {K : KK} {Q : RR → Mem → KK → Prop} (h : isO K.1 l0 11 = true ∧ ∃ b2 : Nat, (M l0 2) = (b2 : Int) ∧ 0 < b2 ∧ isO K.1 l0 11 = true ∧ ∃ b6 : Nat, (M l0 11) = (b6 : Int) ∧ 0 < b6 ∧ isO K.1 b2 3 = true ∧ Wm d 37 [vR b2, vR b6, vI l1, vI l2] M K (Bk d 110 20 23 37 [vR l0, vI l1, vI l2] [] Q)) : Wp (d + 1) 110 10 [vR l0, vI l1, vI l2] [] M K Q := by
  refine r_aload_n c110_10 rfl ?_
  obtain ⟨s1, h⟩ := h
  obtain ⟨b2, h⟩ := h
  obtain ⟨s3, h⟩ := h
  obtain ⟨s4, h⟩ := h
  refine r_getR c110_11 s1 s3 s4 ?_
  refine r_aload_n c110_14 rfl ?_
  obtain ⟨s5, h⟩ := h
  obtain ⟨b6, h⟩ := h
  obtain ⟨s7, h⟩ := h
  obtain ⟨s8, h⟩ := h
  refine r_getR c110_15 s5 s7 s8 ?_
  refine r_iload_n c110_18 rfl ?_
  refine r_iload_n c110_19 rfl ?_
  obtain ⟨s9, h⟩ := h
  exact r_call c110_20 rfl rfl (Nat.le_of_ble_eq_true rfl) (okc_r rfl rfl s9) h
theorem t110_23 {d : Nat} {l0 : Nat} {l1 : Int} {l2 : Int} {t0 : Int} {M : Mem} {K : KK} {Q : RR → Mem → KK → Prop} (h : (t0 = 0 ∨ t0 = 1) ∧ Q (.inl (some (vI t0))) M K) : Wp d 110 23 [vR l0, vI l1, vI l2] [vI t0] M K Q := by
  obtain ⟨s1, h⟩ := h
  exact r_iret c110_23 (Or.inr s1) h
theorem t111_0 {d : Nat} {l0 : Nat} {l1 : Int} {l2 : Int} {M : Mem} {K : KK} {Q : RR → Mem → KK → Prop} (h : Wm d 142 [vI l1, vI (0 : Int), vI (99 : Int)] M K (Bk d 111 5 8 142 [vR l0, vI l1, vI l2, vU] [vR l0] Q)) : Wp (d + 1) 111 0 [vR l0, vI l1, vI l2, vU] [] M K Q := by
  refine r_aload_n c111_0 rfl ?_
  refine r_iload_n c111_1 rfl ?_
  refine r_iconst c111_2 ?_
  refine r_bipush c111_3 ?_
  exact r_call c111_5 rfl rfl (Nat.le_of_ble_eq_true rfl) (okc_s rfl rfl rfl) h
theorem t111_8 {d : Nat} {l0 : Nat} {l1 : Int} {l2 : Int} {t0 : Nat} {t1 : Int} {M : Mem} {K : KK} {Q : RR → Mem → KK → Prop} (h : (t1 = (0 : Int) → Wp (d + 1) 111 24 [vR l0, vI l1, vI l2, vU] [vR t0] M K Q) ∧ (¬ (t1 = (0 : Int)) → Wm d 142 [vI l2, vI (0 : Int), vI (1 : Int)] M K (Bk d 111 14 17 142 [vR l0, vI l1, vI l2, vU] [vR t0] Q))) : Wp (d + 1) 111 8 [vR l0, vI l1, vI l2, vU] [vI t1, vR t0] M K Q := by
  refine r_ifP (P := t1 = (0 : Int)) c111_8 rfl (fun hc => ?_) (fun hc => ?_)
  · replace h := h.1 hc
    exact h
  · replace h := h.2 hc
    refine r_iload_n c111_11 rfl ?_
    refine r_iconst c111_12 ?_
    refine r_iconst c111_13 ?_
    exact r_call c111_14 rfl rfl (Nat.le_of_ble_eq_true rfl) (okc_s rfl rfl rfl) h
theorem t111_17 {d : Nat} {l0 : Nat} {l1 : Int} {l2 : Int} {t0 : Nat} {t1 : Int} {M : Mem} {K : KK} {Q : RR → Mem → KK → Prop} (h : (t1 = (0 : Int) → Wp d 111 24 [vR l0, vI l1, vI l2, vU] [vR t0] M K Q) ∧ (¬ (t1 = (0 : Int)) → Wp d 111 25 [vR l0, vI l1, vI l2, vU] [vI (1 : Int), vR t0] M K Q)) : Wp d 111 17 [vR l0, vI l1, vI l2, vU] [vI t1, vR t0] M K Q := by
  refine r_ifP (P := t1 = (0 : Int)) c111_17 rfl (fun hc => ?_) (fun hc => ?_)
  · replace h := h.1 hc
    exact h
  · replace h := h.2 hc
    refine r_iconst c111_20 ?_
    refine r_goto c111_21 ?_
    exact h
theorem t111_24 {d : Nat} {l0 : Nat} {l1 : Int} {l2 : Int} {t0 : Nat} {M : Mem} {K : KK} {Q : RR → Mem → KK → Prop} (h : Wp d 111 25 [vR l0, vI l1, vI l2, vU] [vI (0 : Int), vR t0] M K Q) : Wp d 111 24 [vR l0, vI l1, vI l2, vU] [vR t0] M K Q := by
  refine r_iconst c111_24 ?_
  exact h
theorem t111_25 {d : Nat} {l0 : Nat} {l1 : Int} {l2 : Int} {t0 : Nat} {t1 : Int} {M : Mem} {K : KK} {Q : RR → Mem → KK → Prop} (h : isO K.1 t0 11 = true ∧ Wm d 136 [vR t0, vI t1] M K (Bk d 111 25 28 136 [vR l0, vI l1, vI l2, vU] [] Q)) : Wp (d + 1) 111 25 [vR l0, vI l1, vI l2, vU] [vI t1, vR t0] M K Q := by
  obtain ⟨s1, h⟩ := h
  exact r_call c111_25 rfl rfl (Nat.le_of_ble_eq_true rfl) (okc_r rfl rfl s1) h
theorem t111_28 {d : Nat} {l0 : Nat} {l1 : Int} {l2 : Int} {M : Mem} {K : KK} {Q : RR → Mem → KK → Prop} (h : isO K.1 l0 11 = true ∧ ∃ b2 : Nat, (M l0 3) = (b2 : Int) ∧ 0 < b2 ∧ isO K.1 l0 11 = true ∧ ∃ b6 : Nat, (M l0 2) = (b6 : Int) ∧ 0 < b6 ∧ isO K.1 b2 3 = true ∧ Wm d 30 [vR b2, vR b6] M K (Bk d 111 36 39 30 [vR l0, vI l1, vI l2, vU] [] Q)) : Wp (d + 1) 111 28 [vR l0, vI l1, vI l2, vU] [] M K Q := by
  refine r_aload_n c111_28 rfl ?_
  obtain ⟨s1, h⟩ := h
  obtain ⟨b2, h⟩ := h
  obtain ⟨s3, h⟩ := h
  obtain ⟨s4, h⟩ := h
  refine r_getR c111_29 s1 s3 s4 ?_
  refine r_aload_n c111_32 rfl ?_
  obtain ⟨s5, h⟩ := h
  obtain ⟨b6, h⟩ := h
  obtain ⟨s7, h⟩ := h
  obtain ⟨s8, h⟩ := h
  refine r_getR c111_33 s5 s7 s8 ?_
  obtain ⟨s9, h⟩ := h
  exact r_call c111_36 rfl rfl (Nat.le_of_ble_eq_true rfl) (okc_r rfl rfl s9) h
theorem t111_39 {d : Nat} {l0 : Nat} {l1 : Int} {l2 : Int} {M : Mem} {K : KK} {Q : RR → Mem → KK → Prop} (h : Wp d 111 41 [vR l0, vI l1, vI l2, vI (0 : Int)] [] M K Q) : Wp d 111 39 [vR l0, vI l1, vI l2, vU] [] M K Q := by
  refine r_iconst c111_39 ?_
  refine r_istore_n c111_40 (Nat.le_of_ble_eq_true rfl) ?_
  exact h
theorem t111_41 {d : Nat} {l0 : Nat} {l1 : Int} {l2 : Int} {l3 : Int} {M : Mem} {K : KK} {Q : RR → Mem → KK → Prop} (h : (l1 ≤ l3 → (¬ l2 = (0 : Int) → isO K.1 l0 11 = true ∧ ∃ b2 : Nat, (M l0 3) = (b2 : Int) ∧ 0 < b2 ∧ isO K.1 l0 11 = true ∧ ∃ b6 : Nat, (M l0 11) = (b6 : Int) ∧ 0 < b6 ∧ isO K.1 b2 3 = true ∧ Wm d 41 [vR b2, vR b6] M K (Bk d 111 103 106 41 [vR l0, vI l1, vI l2, vI l3] [] Q)) ∧ (¬ (¬ l2 = (0 : Int)) → isO K.1 l0 11 = true ∧ ∃ b11 : Nat, (M l0 3) = (b11 : Int) ∧ 0 < b11 ∧ isO K.1 l0 11 = true ∧ ∃ b15 : Nat, (M l0 11) = (b15 : Int) ∧ 0 < b15 ∧ isO K.1 b11 3 = true ∧ Wm d 43 [vR b11, vR b15] M K (Bk d 111 89 92 43 [vR l0, vI l1, vI l2, vI l3] [] Q))) ∧ (¬ (l1 ≤ l3) → isO K.1 l0 11 = true ∧ ∃ b20 : Nat, (M l0 3) = (b20 : Int) ∧ 0 < b20 ∧ isO K.1 l0 11 = true ∧ ∃ b24 : Nat, (M l0 11) = (b24 : Int) ∧ 0 < b24 ∧ isO K.1 l0 11 = true ∧ ∃ b28 : Nat, (M l0 11) = (b28 : Int) ∧ 0 < b28 ∧ isO K.1 l0 11 = true ∧ ∃ b32 : Nat, (M l0 3) = (b32 : Int) ∧ 0 < b32 ∧ isO K.1 b32 3 = true ∧ isO K.1 b28 0 = true ∧ Wm d 7 [vR b28, vI (M b32 4)] M K (Bk d 111 65 68 7 [vR l0, vI l1, vI l2, vI l3] [vR b24, vR b20] Q))) : Wp (d + 1) 111 41 [vR l0, vI l1, vI l2, vI l3] [] M K Q := by
  refine r_iload_n c111_41 rfl ?_
  refine r_iload_n c111_42 rfl ?_
  refine r_icmpP (P := l1 ≤ l3) c111_43 rfl (fun hc => ?_) (fun hc => ?_)
  · replace h := h.1 hc
    refine r_iload_n c111_77 rfl ?_
    refine r_ifP (P := ¬ l2 = (0 : Int)) c111_78 rfl (fun hc => ?_) (fun hc => ?_)
    · replace h := h.1 hc
      refine r_aload_n c111_95 rfl ?_
      obtain ⟨s1, h⟩ := h
      obtain ⟨b2, h⟩ := h
      obtain ⟨s3, h⟩ := h
      obtain ⟨s4, h⟩ := h
      refine r_getR c111_96 s1 s3 s4 ?_
      refine r_aload_n c111_99 rfl ?_
      obtain ⟨s5, h⟩ := h
      obtain ⟨b6, h⟩ := h
      obtain ⟨s7, h⟩ := h
      obtain ⟨s8, h⟩ := h
      refine r_getR c111_100 s5 s7 s8 ?_
      obtain ⟨s9, h⟩ := h
      exact r_call c111_103 rfl rfl (Nat.le_of_ble_eq_true rfl) (okc_r rfl rfl s9) h
    · replace h := h.2 hc
      refine r_aload_n c111_81 rfl ?_
      obtain ⟨s10, h⟩ := h
      obtain ⟨b11, h⟩ := h
      obtain ⟨s12, h⟩ := h
      obtain ⟨s13, h⟩ := h
      refine r_getR c111_82 s10 s12 s13 ?_
      refine r_aload_n c111_85 rfl ?_
      obtain ⟨s14, h⟩ := h
      obtain ⟨b15, h⟩ := h
      obtain ⟨s16, h⟩ := h
      obtain ⟨s17, h⟩ := h
      refine r_getR c111_86 s14 s16 s17 ?_
      obtain ⟨s18, h⟩ := h
      exact r_call c111_89 rfl rfl (Nat.le_of_ble_eq_true rfl) (okc_r rfl rfl s18) h
  · replace h := h.2 hc
    refine r_aload_n c111_46 rfl ?_
    obtain ⟨s19, h⟩ := h
    obtain ⟨b20, h⟩ := h
    obtain ⟨s21, h⟩ := h
    obtain ⟨s22, h⟩ := h
    refine r_getR c111_47 s19 s21 s22 ?_
    refine r_aload_n c111_50 rfl ?_
    obtain ⟨s23, h⟩ := h
    obtain ⟨b24, h⟩ := h
    obtain ⟨s25, h⟩ := h
    obtain ⟨s26, h⟩ := h
    refine r_getR c111_51 s23 s25 s26 ?_
    refine r_aload_n c111_54 rfl ?_
    obtain ⟨s27, h⟩ := h
    obtain ⟨b28, h⟩ := h
    obtain ⟨s29, h⟩ := h
    obtain ⟨s30, h⟩ := h
    refine r_getR c111_55 s27 s29 s30 ?_
    refine r_aload_n c111_58 rfl ?_
    obtain ⟨s31, h⟩ := h
    obtain ⟨b32, h⟩ := h
    obtain ⟨s33, h⟩ := h
    obtain ⟨s34, h⟩ := h
    refine r_getR c111_59 s31 s33 s34 ?_
    obtain ⟨s35, h⟩ := h
    refine r_getI c111_62 s35 ?_
    obtain ⟨s36, h⟩ := h
    exact r_call c111_65 rfl rfl (Nat.le_of_ble_eq_true rfl) (okc_r rfl rfl s36) h
theorem t111_68 {d : Nat} {l0 : Nat} {l1 : Int} {l2 : Int} {l3 : Int} {t0 : Nat} {t1 : Nat} {t2 : Int} {M : Mem} {K : KK} {Q : RR → Mem → KK → Prop} (h : isO K.1 t0 3 = true ∧ Wm d 36 [vR t0, vR t1, vI t2] M K (Bk d 111 68 71 36 [vR l0, vI l1, vI l2, vI l3] [] Q)) : Wp (d + 1) 111 68 [vR l0, vI l1, vI l2, vI l3] [vI t2, vR t1, vR t0] M K Q := by
  obtain ⟨s1, h⟩ := h
  exact r_call c111_68 rfl rfl (Nat.le_of_ble_eq_true rfl) (okc_r rfl rfl s1) h
theorem t111_71 {d : Nat} {l0 : Nat} {l1 : Int} {l2 : Int} {l3 : Int} {M : Mem} {K : KK} {Q : RR → Mem → KK → Prop} (h : Wp d 111 41 [vR l0, vI l1, vI l2, vI (w32 (l3 + 1))] [] M K Q) : Wp d 111 71 [vR l0, vI l1, vI l2, vI l3] [] M K Q := by
  refine r_iinc c111_71 rfl ?_
  refine r_goto c111_74 ?_
  exact h
theorem t111_92 {d : Nat} {l0 : Nat} {l1 : Int} {l2 : Int} {l3 : Int} {t0 : Int} {M : Mem} {K : KK} {Q : RR → Mem → KK → Prop} (h : Wp d 111 106 [vR l0, vI l1, vI l2, vI l3] [vI t0] M K Q) : Wp d 111 92 [vR l0, vI l1, vI l2, vI l3] [vI t0] M K Q := by
  refine r_goto c111_92 ?_
  exact h
theorem t111_106 {d : Nat} {l0 : Nat} {l1 : Int} {l2 : Int} {l3 : Int} {t0 : Int} {M : Mem} {K : KK} {Q : RR → Mem → KK → Prop} (h : Q (.inl (some (vI t0))) M K) : Wp d 111 106 [vR l0, vI l1, vI l2, vI l3] [vI t0] M K Q := by
  exact r_iret c111_106 (Or.inl rfl) h
theorem t112_0 {d : Nat} {l0 : Nat} {l1 : Int} {M : Mem} {K : KK} {Q : RR → Mem → KK → Prop} (h : isO K.1 l0 11 = true ∧ Wm d 138 [vR l0, vI l1] M K (Bk d 112 2 5 138 [vR l0, vI l1, vU] [] Q)) : Wp (d + 1) 112 0 [vR l0, vI l1, vU] [] M K Q := by
  refine r_aload_n c112_0 rfl ?_
  refine r_iload_n c112_1 rfl ?_
  obtain ⟨s1, h⟩ := h
  exact r_call c112_2 rfl rfl (Nat.le_of_ble_eq_true rfl) (okc_r rfl rfl s1) h
theorem t112_5 {d : Nat} {l0 : Nat} {l1 : Int} {M : Mem} {K : KK} {Q : RR → Mem → KK → Prop} (h : isO K.1 l0 11 = true ∧ ∃ b2 : Nat, (M l0 3) = (b2 : Int) ∧ 0 < b2 ∧ isO K.1 l0 11 = true ∧ ∃ b6 : Nat, (M l0 2) = (b6 : Int) ∧ 0 < b6 ∧ isO K.1 b2 3 = true ∧ Wm d 30 [vR b2, vR b6] M K (Bk d 112 13 16 30 [vR l0, vI l1, vU] [] Q)) : Wp (d + 1) 112 5 [vR l0, vI l1, vU] [] M K Q := by
  refine r_aload_n c112_5 rfl ?_
  obtain ⟨s1, h⟩ := h
  obtain ⟨b2, h⟩ := h
  obtain ⟨s3, h⟩ := h
  obtain ⟨s4, h⟩ := h
  refine r_getR c112_6 s1 s3 s4 ?_
  refine r_aload_n c112_9 rfl ?_
  obtain ⟨s5, h⟩ := h
  obtain ⟨b6, h⟩ := h
  obtain ⟨s7, h⟩ := h
  obtain ⟨s8, h⟩ := h
  refine r_getR c112_10 s5 s7 s8 ?_
  obtain ⟨s9, h⟩ := h
  exact r_call c112_13 rfl rfl (Nat.le_of_ble_eq_true rfl) (okc_r rfl rfl s9) h
theorem t112_16 {d : Nat} {l0 : Nat} {l1 : Int} {M : Mem} {K : KK} {Q : RR → Mem → KK → Prop} (h : Wp d 112 18 [vR l0, vI l1, vI (0 : Int)] [] M K Q) : Wp d 112 16 [vR l0, vI l1, vU] [] M K Q := by
  refine r_iconst c112_16 ?_
  refine r_istore_n c112_17 (Nat.le_of_ble_eq_true rfl) ?_
  exact h
theorem t112_18 {d : Nat} {l0 : Nat} {l1 : Int} {l2 : Int} {M : Mem} {K : KK} {Q : RR → Mem → KK → Prop} (h : ((200 : Int) ≤ l2 → isO K.1 l0 11 = true ∧ ∃ b2 : Nat, (M l0 3) = (b2 : Int) ∧ 0 < b2 ∧ isO K.1 b2 3 = true ∧ ∃ b6 : Nat, (M b2 0) = (b6 : Int) ∧ 0 < b6 ∧ isO K.1 b6 20 = true ∧ (0 ≤ l1 ∧ l1 < (ln b6 : Int)) ∧ (¬ (M b6 (Int.toNat l1)) = (0 : Int) → Wp (d + 1) 112 89 [vR l0, vI l1, vI l2] [vI (-1 : Int)] M K Q) ∧ (¬ (¬ (M b6 (Int.toNat l1)) = (0 : Int)) → Wp (d + 1) 112 89 [vR l0, vI l1, vI l2] [vI (200 : Int)] M K Q)) ∧ (¬ ((200 : Int) ≤ l2) → isO K.1 l0 11 = true ∧ ∃ b12 : Nat, (M l0 3) = (b12 : Int) ∧ 0 < b12 ∧ isO K.1 b12 3 = true ∧ ∃ b16 : Nat, (M b12 0) = (b16 : Int) ∧ 0 < b16 ∧ isO K.1 b16 20 = true ∧ (0 ≤ l1 ∧ l1 < (ln b16 : Int)) ∧ (¬ (M b16 (Int.toNat l1)) = (0 : Int) → isO K.1 l0 11 = true ∧ ∃ b22 : Nat, (M l0 3) = (b22 : Int) ∧ 0 < b22 ∧ isO K.1 l0 11 = true ∧ ∃ b26 : Nat, (M l0 11) = (b26 : Int) ∧ 0 < b26 ∧ isO K.1 l0 11 = true ∧ ∃ b30 : Nat, (M l0 11) = (b30 : Int) ∧ 0 < b30 ∧ isO K.1 l0 11 = true ∧ ∃ b34 : Nat, (M l0 3) = (b34 : Int) ∧ 0 < b34 ∧ isO K.1 b34 3 = true ∧ isO K.1 b30 0 = true ∧ Wm d 7 [vR b30, vI (M b34 4)] M K (Bk d 112 58 61 7 [vR l0, vI l1, vI l2] [vR b26, vR b22] Q)) ∧ (¬ (¬ (M b16 (Int.toNat l1)) = (0 : Int)) → Q (.inl (some (vI l2))) M K))) : Wp (d + 1) 112 18 [vR l0, vI l1, vI l2] [] M K Q := by
  refine r_iload_n c112_18 rfl ?_
  refine r_sipush c112_19 ?_
  refine r_icmpP (P := (200 : Int) ≤ l2) c112_22 rfl (fun hc => ?_) (fun hc => ?_)
  · replace h := h.1 hc
    refine r_aload_n c112_70 rfl ?_
    obtain ⟨s1, h⟩ := h
    obtain ⟨b2, h⟩ := h
    obtain ⟨s3, h⟩ := h
    obtain ⟨s4, h⟩ := h
    refine r_getR c112_71 s1 s3 s4 ?_
    obtain ⟨s5, h⟩ := h
    obtain ⟨b6, h⟩ := h
    obtain ⟨s7, h⟩ := h
    obtain ⟨s8, h⟩ := h
    refine r_getR c112_74 s5 s7 s8 ?_
    refine r_iload_n c112_77 rfl ?_
    obtain ⟨s9, h⟩ := h
    obtain ⟨s10, h⟩ := h
    refine r_ia c112_78 s9 s10 ?_
    refine r_ifP (P := ¬ (M b6 (Int.toNat l1)) = (0 : Int)) c112_79 rfl (fun hc => ?_) (fun hc => ?_)
    · replace h := h.1 hc
      refine r_iconst c112_88 ?_
      exact h
    · replace h := h.2 hc
      refine r_sipush c112_82 ?_
      refine r_goto c112_85 ?_
      exact h
  · replace h := h.2 hc
    refine r_aload_n c112_25 rfl ?_
    obtain ⟨s11, h⟩ := h
    obtain ⟨b12, h⟩ := h
    obtain ⟨s13, h⟩ := h
    obtain ⟨s14, h⟩ := h
    refine r_getR c112_26 s11 s13 s14 ?_
    obtain ⟨s15, h⟩ := h
    obtain ⟨b16, h⟩ := h
    obtain ⟨s17, h⟩ := h
    obtain ⟨s18, h⟩ := h
    refine r_getR c112_29 s15 s17 s18 ?_
    refine r_iload_n c112_32 rfl ?_
    obtain ⟨s19, h⟩ := h
    obtain ⟨s20, h⟩ := h
    refine r_ia c112_33 s19 s20 ?_
    refine r_ifP (P := ¬ (M b16 (Int.toNat l1)) = (0 : Int)) c112_34 rfl (fun hc => ?_) (fun hc => ?_)
    · replace h := h.1 hc
      refine r_aload_n c112_39 rfl ?_
      obtain ⟨s21, h⟩ := h
      obtain ⟨b22, h⟩ := h
      obtain ⟨s23, h⟩ := h
      obtain ⟨s24, h⟩ := h
      refine r_getR c112_40 s21 s23 s24 ?_
      refine r_aload_n c112_43 rfl ?_
      obtain ⟨s25, h⟩ := h
      obtain ⟨b26, h⟩ := h
      obtain ⟨s27, h⟩ := h
      obtain ⟨s28, h⟩ := h
      refine r_getR c112_44 s25 s27 s28 ?_
      refine r_aload_n c112_47 rfl ?_
      obtain ⟨s29, h⟩ := h
      obtain ⟨b30, h⟩ := h
      obtain ⟨s31, h⟩ := h
      obtain ⟨s32, h⟩ := h
      refine r_getR c112_48 s29 s31 s32 ?_
      refine r_aload_n c112_51 rfl ?_
      obtain ⟨s33, h⟩ := h
      obtain ⟨b34, h⟩ := h
      obtain ⟨s35, h⟩ := h
      obtain ⟨s36, h⟩ := h
      refine r_getR c112_52 s33 s35 s36 ?_
      obtain ⟨s37, h⟩ := h
      refine r_getI c112_55 s37 ?_
      obtain ⟨s38, h⟩ := h
      exact r_call c112_58 rfl rfl (Nat.le_of_ble_eq_true rfl) (okc_r rfl rfl s38) h
    · replace h := h.2 hc
      refine r_iload_n c112_37 rfl ?_
      exact r_iret c112_38 (Or.inl rfl) h
theorem t112_61 {d : Nat} {l0 : Nat} {l1 : Int} {l2 : Int} {t0 : Nat} {t1 : Nat} {t2 : Int} {M : Mem} {K : KK} {Q : RR → Mem → KK → Prop} (h : isO K.1 t0 3 = true ∧ Wm d 36 [vR t0, vR t1, vI t2] M K (Bk d 112 61 64 36 [vR l0, vI l1, vI l2] [] Q)) : Wp (d + 1) 112 61 [vR l0, vI l1, vI l2] [vI t2, vR t1, vR t0] M K Q := by
  obtain ⟨s1, h⟩ := h
  exact r_call c112_61 rfl rfl (Nat.le_of_ble_eq_true rfl) (okc_r rfl rfl s1) h
theorem t112_64 {d : Nat} {l0 : Nat} {l1 : Int} {l2 : Int} {M : Mem} {K : KK} {Q : RR → Mem → KK → Prop} (h : Wp d 112 18 [vR l0, vI l1, vI (w32 (l2 + 1))] [] M K Q) : Wp d 112 64 [vR l0, vI l1, vI l2] [] M K Q := by
  refine r_iinc c112_64 rfl ?_
  refine r_goto c112_67 ?_
  exact h
theorem t112_89 {d : Nat} {l0 : Nat} {l1 : Int} {l2 : Int} {t0 : Int} {M : Mem} {K : KK} {Q : RR → Mem → KK → Prop} (h : Q (.inl (some (vI t0))) M K) : Wp d 112 89 [vR l0, vI l1, vI l2] [vI t0] M K Q := by
  exact r_iret c112_89 (Or.inl rfl) h
theorem t113_0 {d : Nat} {l0 : Nat} {l1 : Int} {M : Mem} {K : KK} {Q : RR → Mem → KK → Prop} (h : Wm d 142 [vI l1, vI (0 : Int), vI (36 : Int)] M K (Bk d 113 5 8 142 [vR l0, vI l1, vU] [vR l0] Q)) : Wp (d + 1) 113 0 [vR l0, vI l1, vU] [] M K Q := by
  refine r_aload_n c113_0 rfl ?_
  refine r_iload_n c113_1 rfl ?_
  refine r_iconst c113_2 ?_
  refine r_bipush c113_3 ?_
  exact r_call c113_5 rfl rfl (Nat.le_of_ble_eq_true rfl) (okc_s rfl rfl rfl) h
theorem t113_8 {d : Nat} {l0 : Nat} {l1 : Int} {t0 : Nat} {t1 : Int} {M : Mem} {K : KK} {Q : RR → Mem → KK → Prop} (h : isO K.1 t0 11 = true ∧ Wm d 136 [vR t0, vI t1] M K (Bk d 113 8 11 136 [vR l0, vI l1, vU] [] Q)) : Wp (d + 1) 113 8 [vR l0, vI l1, vU] [vI t1, vR t0] M K Q := by
  obtain ⟨s1, h⟩ := h
  exact r_call c113_8 rfl rfl (Nat.le_of_ble_eq_true rfl) (okc_r rfl rfl s1) h
theorem t113_11 {d : Nat} {l0 : Nat} {l1 : Int} {M : Mem} {K : KK} {Q : RR → Mem → KK → Prop} (h : isO K.1 l0 11 = true ∧ ∃ b2 : Nat, (M l0 3) = (b2 : Int) ∧ 0 < b2 ∧ isO K.1 l0 11 = true ∧ ∃ b6 : Nat, (M l0 2) = (b6 : Int) ∧ 0 < b6 ∧ isO K.1 b2 3 = true ∧ Wm d 30 [vR b2, vR b6] M K (Bk d 113 19 22 30 [vR l0, vI l1, vU] [] Q)) : Wp (d + 1) 113 11 [vR l0, vI l1, vU] [] M K Q := by
  refine r_aload_n c113_11 rfl ?_
  obtain ⟨s1, h⟩ := h
  obtain ⟨b2, h⟩ := h
  obtain ⟨s3, h⟩ := h
  obtain ⟨s4, h⟩ := h
  refine r_getR c113_12 s1 s3 s4 ?_
  refine r_aload_n c113_15 rfl ?_
  obtain ⟨s5, h⟩ := h
  obtain ⟨b6, h⟩ := h
  obtain ⟨s7, h⟩ := h
  obtain ⟨s8, h⟩ := h
  refine r_getR c113_16 s5 s7 s8 ?_
  obtain ⟨s9, h⟩ := h
  exact r_call c113_19 rfl rfl (Nat.le_of_ble_eq_true rfl) (okc_r rfl rfl s9) h
theorem t113_22 {d : Nat} {l0 : Nat} {l1 : Int} {M : Mem} {K : KK} {Q : RR → Mem → KK → Prop} (h : Wp d 113 24 [vR l0, vI l1, vI (0 : Int)] [] M K Q) : Wp d 113 22 [vR l0, vI l1, vU] [] M K Q := by
  refine r_iconst c113_22 ?_
  refine r_istore_n c113_23 (Nat.le_of_ble_eq_true rfl) ?_
  exact h
theorem t113_24 {d : Nat} {l0 : Nat} {l1 : Int} {l2 : Int} {M : Mem} {K : KK} {Q : RR → Mem → KK → Prop} (h : ((200 : Int) ≤ l2 → isO K.1 l0 11 = true ∧ ∃ b2 : Nat, (M l0 3) = (b2 : Int) ∧ 0 < b2 ∧ isO K.1 l0 11 = true ∧ ∃ b6 : Nat, (M l0 11) = (b6 : Int) ∧ 0 < b6 ∧ isO K.1 b2 3 = true ∧ Wm d 42 [vR b2, vR b6] M K (Bk d 113 87 90 42 [vR l0, vI l1, vI l2] [] Q)) ∧ (¬ ((200 : Int) ≤ l2) → isO K.1 l0 11 = true ∧ ∃ b11 : Nat, (M l0 3) = (b11 : Int) ∧ 0 < b11 ∧ isO K.1 l0 11 = true ∧ ∃ b15 : Nat, (M l0 11) = (b15 : Int) ∧ 0 < b15 ∧ isO K.1 b11 3 = true ∧ Wm d 42 [vR b11, vR b15] M K (Bk d 113 39 42 42 [vR l0, vI l1, vI l2] [] Q))) : Wp (d + 1) 113 24 [vR l0, vI l1, vI l2] [] M K Q := by
  refine r_iload_n c113_24 rfl ?_
  refine r_sipush c113_25 ?_
  refine r_icmpP (P := (200 : Int) ≤ l2) c113_28 rfl (fun hc => ?_) (fun hc => ?_)
  · replace h := h.1 hc
    refine r_aload_n c113_79 rfl ?_
    obtain ⟨s1, h⟩ := h
    obtain ⟨b2, h⟩ := h
    obtain ⟨s3, h⟩ := h
    obtain ⟨s4, h⟩ := h
    refine r_getR c113_80 s1 s3 s4 ?_
    refine r_aload_n c113_83 rfl ?_
    obtain ⟨s5, h⟩ := h
    obtain ⟨b6, h⟩ := h
    obtain ⟨s7, h⟩ := h
    obtain ⟨s8, h⟩ := h
    refine r_getR c113_84 s5 s7 s8 ?_
    obtain ⟨s9, h⟩ := h
    exact r_call c113_87 rfl rfl (Nat.le_of_ble_eq_true rfl) (okc_r rfl rfl s9) h
  · replace h := h.2 hc
    refine r_aload_n c113_31 rfl ?_
    obtain ⟨s10, h⟩ := h
    obtain ⟨b11, h⟩ := h
    obtain ⟨s12, h⟩ := h
    obtain ⟨s13, h⟩ := h
    refine r_getR c113_32 s10 s12 s13 ?_
    refine r_aload_n c113_35 rfl ?_
    obtain ⟨s14, h⟩ := h
    obtain ⟨b15, h⟩ := h
    obtain ⟨s16, h⟩ := h
    obtain ⟨s17, h⟩ := h
    refine r_getR c113_36 s14 s16 s17 ?_
    obtain ⟨s18, h⟩ := h
    exact r_call c113_39 rfl rfl (Nat.le_of_ble_eq_true rfl) (okc_r rfl rfl s18) h
theorem t113_42 {d : Nat} {l0 : Nat} {l1 : Int} {l2 : Int} {t0 : Int} {M : Mem} {K : KK} {Q : RR → Mem → KK → Prop} (h : (t0 < l1 → isO K.1 l0 11 = true ∧ ∃ b2 : Nat, (M l0 3) = (b2 : Int) ∧ 0 < b2 ∧ isO K.1 l0 11 = true ∧ ∃ b6 : Nat, (M l0 11) = (b6 : Int) ∧ 0 < b6 ∧ isO K.1 l0 11 = true ∧ ∃ b10 : Nat, (M l0 11) = (b10 : Int) ∧ 0 < b10 ∧ isO K.1 l0 11 = true ∧ ∃ b14 : Nat, (M l0 3) = (b14 : Int) ∧ 0 < b14 ∧ isO K.1 b14 3 = true ∧ isO K.1 b10 0 = true ∧ Wm d 7 [vR b10, vI (M b14 4)] M K (Bk d 113 67 70 7 [vR l0, vI l1, vI l2] [vR b6, vR b2] Q)) ∧ (¬ (t0 < l1) → Q (.inl (some (vI l2))) M K)) : Wp (d + 1) 113 42 [vR l0, vI l1, vI l2] [vI t0] M K Q := by
  refine r_iload_n c113_42 rfl ?_
  refine r_icmpP (P := t0 < l1) c113_43 rfl (fun hc => ?_) (fun hc => ?_)
  · replace h := h.1 hc
    refine r_aload_n c113_48 rfl ?_
    obtain ⟨s1, h⟩ := h
    obtain ⟨b2, h⟩ := h
    obtain ⟨s3, h⟩ := h
    obtain ⟨s4, h⟩ := h
    refine r_getR c113_49 s1 s3 s4 ?_
    refine r_aload_n c113_52 rfl ?_
    obtain ⟨s5, h⟩ := h
    obtain ⟨b6, h⟩ := h
    obtain ⟨s7, h⟩ := h
    obtain ⟨s8, h⟩ := h
    refine r_getR c113_53 s5 s7 s8 ?_
    refine r_aload_n c113_56 rfl ?_
    obtain ⟨s9, h⟩ := h
    obtain ⟨b10, h⟩ := h
    obtain ⟨s11, h⟩ := h
    obtain ⟨s12, h⟩ := h
    refine r_getR c113_57 s9 s11 s12 ?_
    refine r_aload_n c113_60 rfl ?_
    obtain ⟨s13, h⟩ := h
    obtain ⟨b14, h⟩ := h
    obtain ⟨s15, h⟩ := h
    obtain ⟨s16, h⟩ := h
    refine r_getR c113_61 s13 s15 s16 ?_
    obtain ⟨s17, h⟩ := h
    refine r_getI c113_64 s17 ?_
    obtain ⟨s18, h⟩ := h
    exact r_call c113_67 rfl rfl (Nat.le_of_ble_eq_true rfl) (okc_r rfl rfl s18) h
  · replace h := h.2 hc
    refine r_iload_n c113_46 rfl ?_
    exact r_iret c113_47 (Or.inl rfl) h
theorem t113_70 {d : Nat} {l0 : Nat} {l1 : Int} {l2 : Int} {t0 : Nat} {t1 : Nat} {t2 : Int} {M : Mem} {K : KK} {Q : RR → Mem → KK → Prop} (h : isO K.1 t0 3 = true ∧ Wm d 36 [vR t0, vR t1, vI t2] M K (Bk d 113 70 73 36 [vR l0, vI l1, vI l2] [] Q)) : Wp (d + 1) 113 70 [vR l0, vI l1, vI l2] [vI t2, vR t1, vR t0] M K Q := by
  obtain ⟨s1, h⟩ := h
  exact r_call c113_70 rfl rfl (Nat.le_of_ble_eq_true rfl) (okc_r rfl rfl s1) h
theorem t113_73 {d : Nat} {l0 : Nat} {l1 : Int} {l2 : Int} {M : Mem} {K : KK} {Q : RR → Mem → KK → Prop} (h : Wp d 113 24 [vR l0, vI l1, vI (w32 (l2 + 1))] [] M K Q) : Wp d 113 73 [vR l0, vI l1, vI l2] [] M K Q := by
  refine r_iinc c113_73 rfl ?_
  refine r_goto c113_76 ?_
  exact h
theorem t113_90 {d : Nat} {l0 : Nat} {l1 : Int} {l2 : Int} {t0 : Int} {M : Mem} {K : KK} {Q : RR → Mem → KK → Prop} (h : (t0 < l1 → Wp d 113 101 [vR l0, vI l1, vI l2] [vI (-1 : Int)] M K Q) ∧ (¬ (t0 < l1) → Wp d 113 101 [vR l0, vI l1, vI l2] [vI (200 : Int)] M K Q)) : Wp d 113 90 [vR l0, vI l1, vI l2] [vI t0] M K Q := by
  refine r_iload_n c113_90 rfl ?_
  refine r_icmpP (P := t0 < l1) c113_91 rfl (fun hc => ?_) (fun hc => ?_)
  · replace h := h.1 hc
    refine r_iconst c113_100 ?_
    exact h
  · replace h := h.2 hc
    refine r_sipush c113_94 ?_
    refine r_goto c113_97 ?_
    exact h
theorem t113_101 {d : Nat} {l0 : Nat} {l1 : Int} {l2 : Int} {t0 : Int} {M : Mem} {K : KK} {Q : RR → Mem → KK → Prop} (h : Q (.inl (some (vI t0))) M K) : Wp d 113 101 [vR l0, vI l1, vI l2] [vI t0] M K Q := by
  exact r_iret c113_101 (Or.inl rfl) h
theorem t114_0 {d : Nat} {l0 : Nat} {l1 : Int} {M : Mem} {K : KK} {Q : RR → Mem → KK → Prop} (h : isO K.1 l0 11 = true ∧ ∃ b2 : Nat, (M l0 11) = (b2 : Int) ∧ 0 < b2 ∧ isO K.1 b2 0 = true ∧ Wm d 143 [vI l1, vI (M b2 6)] M K (Bk d 114 9 12 143 [vR l0, vI l1] [vR l0] Q)) : Wp (d + 1) 114 0 [vR l0, vI l1] [] M K Q := by
  refine r_aload_n c114_0 rfl ?_
  refine r_iload_n c114_1 rfl ?_
  refine r_aload_n c114_2 rfl ?_
  obtain ⟨s1, h⟩ := h
  obtain ⟨b2, h⟩ := h
  obtain ⟨s3, h⟩ := h
  obtain ⟨s4, h⟩ := h
  refine r_getR c114_3 s1 s3 s4 ?_
  obtain ⟨s5, h⟩ := h
  refine r_getI c114_6 s5 ?_
  exact r_call c114_9 rfl rfl (Nat.le_of_ble_eq_true rfl) (okc_s rfl rfl rfl) h
theorem t114_12 {d : Nat} {l0 : Nat} {l1 : Int} {t0 : Nat} {t1 : Int} {M : Mem} {K : KK} {Q : RR → Mem → KK → Prop} (h : isO K.1 t0 11 = true ∧ Wm d 136 [vR t0, vI t1] M K (Bk d 114 12 15 136 [vR l0, vI l1] [] Q)) : Wp (d + 1) 114 12 [vR l0, vI l1] [vI t1, vR t0] M K Q := by
  obtain ⟨s1, h⟩ := h
  exact r_call c114_12 rfl rfl (Nat.le_of_ble_eq_true rfl) (okc_r rfl rfl s1) h
theorem t114_15 {d : Nat} {l0 : Nat} {l1 : Int} {M : Mem} {K : KK} {Q : RR → Mem → KK → Prop} (h : isO K.1 l0 11 = true ∧ ∃ b2 : Nat, (M l0 7) = (b2 : Int) ∧ 0 < b2 ∧ isO K.1 l0 11 = true ∧ ∃ b6 : Nat, (M l0 11) = (b6 : Int) ∧ 0 < b6 ∧ isO K.1 l0 11 = true ∧ ∃ b10 : Nat, (M l0 2) = (b10 : Int) ∧ 0 < b10 ∧ isO K.1 b2 5 = true ∧ Wm d 52 [vR b2, vR b6, vR b10, vI l1] M K (Bk d 114 28 31 52 [vR l0, vI l1] [] Q)) : Wp (d + 1) 114 15 [vR l0, vI l1] [] M K Q := by
  refine r_aload_n c114_15 rfl ?_
  obtain ⟨s1, h⟩ := h
  obtain ⟨b2, h⟩ := h
  obtain ⟨s3, h⟩ := h
  obtain ⟨s4, h⟩ := h
  refine r_getR c114_16 s1 s3 s4 ?_
  refine r_aload_n c114_19 rfl ?_
  obtain ⟨s5, h⟩ := h
  obtain ⟨b6, h⟩ := h
  obtain ⟨s7, h⟩ := h
  obtain ⟨s8, h⟩ := h
  refine r_getR c114_20 s5 s7 s8 ?_
  refine r_aload_n c114_23 rfl ?_
  obtain ⟨s9, h⟩ := h
  obtain ⟨b10, h⟩ := h
  obtain ⟨s11, h⟩ := h
  obtain ⟨s12, h⟩ := h
  refine r_getR c114_24 s9 s11 s12 ?_
  refine r_iload_n c114_27 rfl ?_
  obtain ⟨s13, h⟩ := h
  exact r_call c114_28 rfl rfl (Nat.le_of_ble_eq_true rfl) (okc_r rfl rfl s13) h
theorem t114_31 {d : Nat} {l0 : Nat} {l1 : Int} {t0 : Int} {M : Mem} {K : KK} {Q : RR → Mem → KK → Prop} (h : Q (.inl (some (vI t0))) M K) : Wp d 114 31 [vR l0, vI l1] [vI t0] M K Q := by
  exact r_iret c114_31 (Or.inl rfl) h
theorem t115_0 {d : Nat} {l0 : Nat} {l1 : Int} {l2 : Int} {M : Mem} {K : KK} {Q : RR → Mem → KK → Prop} (h : isO K.1 l0 11 = true ∧ Wm d 138 [vR l0, vI l2] M K (Bk d 115 2 5 138 [vR l0, vI l1, vI l2] [] Q)) : Wp (d + 1) 115 0 [vR l0, vI l1, vI l2] [] M K Q := by
  refine r_aload_n c115_0 rfl ?_
  refine r_iload_n c115_1 rfl ?_
  obtain ⟨s1, h⟩ := h
  exact r_call c115_2 rfl rfl (Nat.le_of_ble_eq_true rfl) (okc_r rfl rfl s1) h
theorem t115_5 {d : Nat} {l0 : Nat} {l1 : Int} {l2 : Int} {M : Mem} {K : KK} {Q : RR → Mem → KK → Prop} (h : isO K.1 l0 11 = true ∧ ∃ b2 : Nat, (M l0 11) = (b2 : Int) ∧ 0 < b2 ∧ isO K.1 b2 0 = true ∧ Wm d 143 [vI l1, vI (M b2 6)] M K (Bk d 115 14 17 143 [vR l0, vI l1, vI l2] [vR l0] Q)) : Wp (d + 1) 115 5 [vR l0, vI l1, vI l2] [] M K Q := by
  refine r_aload_n c115_5 rfl ?_
  refine r_iload_n c115_6 rfl ?_
  refine r_aload_n c115_7 rfl ?_
  obtain ⟨s1, h⟩ := h
  obtain ⟨b2, h⟩ := h
  obtain ⟨s3, h⟩ := h
  obtain ⟨s4, h⟩ := h
  refine r_getR c115_8 s1 s3 s4 ?_
  obtain ⟨s5, h⟩ := h
  refine r_getI c115_11 s5 ?_
  exact r_call c115_14 rfl rfl (Nat.le_of_ble_eq_true rfl) (okc_s rfl rfl rfl) h
theorem t115_17 {d : Nat} {l0 : Nat} {l1 : Int} {l2 : Int} {t0 : Nat} {t1 : Int} {M : Mem} {K : KK} {Q : RR → Mem → KK → Prop} (h : isO K.1 t0 11 = true ∧ Wm d 136 [vR t0, vI t1] M K (Bk d 115 17 20 136 [vR l0, vI l1, vI l2] [] Q)) : Wp (d + 1) 115 17 [vR l0, vI l1, vI l2] [vI t1, vR t0] M K Q := by
  obtain ⟨s1, h⟩ := h
  exact r_call c115_17 rfl rfl (Nat.le_of_ble_eq_true rfl) (okc_r rfl rfl s1) h
theorem t115_20 {d : Nat} {l0 : Nat} {l1 : Int} {l2 : Int} {M : Mem} {K : KK} {Q : RR → Mem → KK → Prop} (h : isO K.1 l0 11 = true ∧ ∃ b2 : Nat, (M l0 7) = (b2 : Int) ∧ 0 < b2 ∧ isO K.1 l0 11 = true ∧ ∃ b6 : Nat, (M l0 11) = (b6 : Int) ∧ 0 < b6 ∧ isO K.1 l0 11 = true ∧ ∃ b10 : Nat, (M l0 2) = (b10 : Int) ∧ 0 < b10 ∧ isO K.1 b2 5 = true ∧ Wm d 52 [vR b2, vR b6, vR b10, vI l1] M K (Bk d 115 33 36 52 [vR l0, vI l1, vI l2] [] Q)) : Wp (d + 1) 115 20 [vR l0, vI l1, vI l2] [] M K Q := by
  refine r_aload_n c115_20 rfl ?_
  obtain ⟨s1, h⟩ := h
  obtain ⟨b2, h⟩ := h
  obtain ⟨s3, h⟩ := h
  obtain ⟨s4, h⟩ := h
  refine r_getR c115_21 s1 s3 s4 ?_
  refine r_aload_n c115_24 rfl ?_
  obtain ⟨s5, h⟩ := h
  obtain ⟨b6, h⟩ := h
  obtain ⟨s7, h⟩ := h
  obtain ⟨s8, h⟩ := h
  refine r_getR c115_25 s5 s7 s8 ?_
  refine r_aload_n c115_28 rfl ?_
  obtain ⟨s9, h⟩ := h
  obtain ⟨b10, h⟩ := h
  obtain ⟨s11, h⟩ := h
  obtain ⟨s12, h⟩ := h
  refine r_getR c115_29 s9 s11 s12 ?_
  refine r_iload_n c115_32 rfl ?_
  obtain ⟨s13, h⟩ := h
  exact r_call c115_33 rfl rfl (Nat.le_of_ble_eq_true rfl) (okc_r rfl rfl s13) h
theorem t115_36 {d : Nat} {l0 : Nat} {l1 : Int} {l2 : Int} {t0 : Int} {M : Mem} {K : KK} {Q : RR → Mem → KK → Prop} (h : isO K.1 l0 11 = true ∧ ∃ b2 : Nat, (M l0 7) = (b2 : Int) ∧ 0 < b2 ∧ isO K.1 b2 5 = true ∧ ∃ b6 : Nat, (M b2 2) = (b6 : Int) ∧ 0 < b6 ∧ isO K.1 b6 20 = true ∧ (0 ≤ l2 ∧ l2 < (ln b6 : Int)) ∧ Q (.inl (some (vI (M b6 (Int.toNat l2))))) M K) : Wp d 115 36 [vR l0, vI l1, vI l2] [vI t0] M K Q := by
  refine r_popi c115_36 ?_
  refine r_aload_n c115_37 rfl ?_
  obtain ⟨s1, h⟩ := h
  obtain ⟨b2, h⟩ := h
  obtain ⟨s3, h⟩ := h
  obtain ⟨s4, h⟩ := h
  refine r_getR c115_38 s1 s3 s4 ?_
  obtain ⟨s5, h⟩ := h
  obtain ⟨b6, h⟩ := h
  obtain ⟨s7, h⟩ := h
  obtain ⟨s8, h⟩ := h
  refine r_getR c115_41 s5 s7 s8 ?_
  refine r_iload_n c115_44 rfl ?_
  obtain ⟨s9, h⟩ := h
  obtain ⟨s10, h⟩ := h
  refine r_ia c115_45 s9 s10 ?_
  exact r_iret c115_46 (Or.inl rfl) h
theorem t116_0 {d : Nat} {l0 : Nat} {l1 : Int} {M : Mem} {K : KK} {Q : RR → Mem → KK → Prop} (h : Wm d 142 [vI l1, vI (0 : Int), vI (20 : Int)] M K (Bk d 116 5 8 142 [vR l0, vI l1] [vR l0] Q)) : Wp (d + 1) 116 0 [vR l0, vI l1] [] M K Q := by
  refine r_aload_n c116_0 rfl ?_
  refine r_iload_n c116_1 rfl ?_
  refine r_iconst c116_2 ?_
  refine r_bipush c116_3 ?_
  exact r_call c116_5 rfl rfl (Nat.le_of_ble_eq_true rfl) (okc_s rfl rfl rfl) h
theorem t116_8 {d : Nat} {l0 : Nat} {l1 : Int} {t0 : Nat} {t1 : Int} {M : Mem} {K : KK} {Q : RR → Mem → KK → Prop} (h : isO K.1 t0 11 = true ∧ Wm d 136 [vR t0, vI t1] M K (Bk d 116 8 11 136 [vR l0, vI l1] [] Q)) : Wp (d + 1) 116 8 [vR l0, vI l1] [vI t1, vR t0] M K Q := by
  obtain ⟨s1, h⟩ := h
  exact r_call c116_8 rfl rfl (Nat.le_of_ble_eq_true rfl) (okc_r rfl rfl s1) h
theorem t116_11 {d : Nat} {l0 : Nat} {l1 : Int} {M : Mem} {K : KK} {Q : RR → Mem → KK → Prop} (h : isO K.1 l0 11 = true ∧ ∃ b2 : Nat, (M l0 8) = (b2 : Int) ∧ 0 < b2 ∧ isO K.1 l0 11 = true ∧ ∃ b6 : Nat, (M l0 11) = (b6 : Int) ∧ 0 < b6 ∧ isO K.1 l0 11 = true ∧ ∃ b10 : Nat, (M l0 2) = (b10 : Int) ∧ 0 < b10 ∧ isO K.1 b2 1 = true ∧ Wm d 14 [vR b2, vR b6, vR b10, vI l1] M K (Bk d 116 24 27 14 [vR l0, vI l1] [] Q)) : Wp (d + 1) 116 11 [vR l0, vI l1] [] M K Q := by
  refine r_aload_n c116_11 rfl ?_
  obtain ⟨s1, h⟩ := h
  obtain ⟨b2, h⟩ := h
  obtain ⟨s3, h⟩ := h
  obtain ⟨s4, h⟩ := h
  refine r_getR c116_12 s1 s3 s4 ?_
  refine r_aload_n c116_15 rfl ?_
  obtain ⟨s5, h⟩ := h
  obtain ⟨b6, h⟩ := h
  obtain ⟨s7, h⟩ := h
  obtain ⟨s8, h⟩ := h
  refine r_getR c116_16 s5 s7 s8 ?_
  refine r_aload_n c116_19 rfl ?_
  obtain ⟨s9, h⟩ := h
  obtain ⟨b10, h⟩ := h
  obtain ⟨s11, h⟩ := h
  obtain ⟨s12, h⟩ := h
  refine r_getR c116_20 s9 s11 s12 ?_
  refine r_iload_n c116_23 rfl ?_
  obtain ⟨s13, h⟩ := h
  exact r_call c116_24 rfl rfl (Nat.le_of_ble_eq_true rfl) (okc_r rfl rfl s13) h
theorem t116_27 {d : Nat} {l0 : Nat} {l1 : Int} {t0 : Int} {M : Mem} {K : KK} {Q : RR → Mem → KK → Prop} (h : Q (.inl (some (vI t0))) M K) : Wp d 116 27 [vR l0, vI l1] [vI t0] M K Q := by
  exact r_iret c116_27 (Or.inl rfl) h
theorem t117_0 {d : Nat} {l0 : Nat} {l1 : Int} {l2 : Int} {M : Mem} {K : KK} {Q : RR → Mem → KK → Prop} (h : isO K.1 l0 11 = true ∧ Wm d 138 [vR l0, vI l2] M K (Bk d 117 2 5 138 [vR l0, vI l1, vI l2] [] Q)) : Wp (d + 1) 117 0 [vR l0, vI l1, vI l2] [] M K Q := by
  refine r_aload_n c117_0 rfl ?_
  refine r_iload_n c117_1 rfl ?_
  obtain ⟨s1, h⟩ := h
  exact r_call c117_2 rfl rfl (Nat.le_of_ble_eq_true rfl) (okc_r rfl rfl s1) h
theorem t117_5 {d : Nat} {l0 : Nat} {l1 : Int} {l2 : Int} {M : Mem} {K : KK} {Q : RR → Mem → KK → Prop} (h : Wm d 142 [vI l1, vI (0 : Int), vI (20 : Int)] M K (Bk d 117 10 13 142 [vR l0, vI l1, vI l2] [vR l0] Q)) : Wp (d + 1) 117 5 [vR l0, vI l1, vI l2] [] M K Q := by
  refine r_aload_n c117_5 rfl ?_
  refine r_iload_n c117_6 rfl ?_
  refine r_iconst c117_7 ?_
  refine r_bipush c117_8 ?_
  exact r_call c117_10 rfl rfl (Nat.le_of_ble_eq_true rfl) (okc_s rfl rfl rfl) h
theorem t117_13 {d : Nat} {l0 : Nat} {l1 : Int} {l2 : Int} {t0 : Nat} {t1 : Int} {M : Mem} {K : KK} {Q : RR → Mem → KK → Prop} (h : isO K.1 t0 11 = true ∧ Wm d 136 [vR t0, vI t1] M K (Bk d 117 13 16 136 [vR l0, vI l1, vI l2] [] Q)) : Wp (d + 1) 117 13 [vR l0, vI l1, vI l2] [vI t1, vR t0] M K Q := by
  obtain ⟨s1, h⟩ := h
  exact r_call c117_13 rfl rfl (Nat.le_of_ble_eq_true rfl) (okc_r rfl rfl s1) h
theorem t117_16 {d : Nat} {l0 : Nat} {l1 : Int} {l2 : Int} {M : Mem} {K : KK} {Q : RR → Mem → KK → Prop} (h : isO K.1 l0 11 = true ∧ ∃ b2 : Nat, (M l0 8) = (b2 : Int) ∧ 0 < b2 ∧ isO K.1 l0 11 = true ∧ ∃ b6 : Nat, (M l0 11) = (b6 : Int) ∧ 0 < b6 ∧ isO K.1 l0 11 = true ∧ ∃ b10 : Nat, (M l0 2) = (b10 : Int) ∧ 0 < b10 ∧ isO K.1 b2 1 = true ∧ Wm d 14 [vR b2, vR b6, vR b10, vI l1] M K (Bk d 117 29 32 14 [vR l0, vI l1, vI l2] [] Q)) : Wp (d + 1) 117 16 [vR l0, vI l1, vI l2] [] M K Q := by
  refine r_aload_n c117_16 rfl ?_
  obtain ⟨s1, h⟩ := h
  obtain ⟨b2, h⟩ := h
  obtain ⟨s3, h⟩ := h
  obtain ⟨s4, h⟩ := h
  refine r_getR c117_17 s1 s3 s4 ?_
  refine r_aload_n c117_20 rfl ?_
  obtain ⟨s5, h⟩ := h
  obtain ⟨b6, h⟩ := h
  obtain ⟨s7, h⟩ := h
  obtain ⟨s8, h⟩ := h
  refine r_getR c117_21 s5 s7 s8 ?_
  refine r_aload_n c117_24 rfl ?_
  obtain ⟨s9, h⟩ := h
  obtain ⟨b10, h⟩ := h
  obtain ⟨s11, h⟩ := h
  obtain ⟨s12, h⟩ := h
  refine r_getR c117_25 s9 s11 s12 ?_
  refine r_iload_n c117_28 rfl ?_
  obtain ⟨s13, h⟩ := h
  exact r_call c117_29 rfl rfl (Nat.le_of_ble_eq_true rfl) (okc_r rfl rfl s13) h
theorem t117_32 {d : Nat} {l0 : Nat} {l1 : Int} {l2 : Int} {t0 : Int} {M : Mem} {K : KK} {Q : RR → Mem → KK → Prop} (h : (¬ t0 = (-1 : Int) → isO K.1 l0 11 = true ∧ ∃ b2 : Nat, (M l0 8) = (b2 : Int) ∧ 0 < b2 ∧ isO K.1 b2 1 = true ∧ ∃ b6 : Nat, (M b2 3) = (b6 : Int) ∧ 0 < b6 ∧ isO K.1 b6 20 = true ∧ (0 ≤ l2 ∧ l2 < (ln b6 : Int)) ∧ Wp d 117 49 [vR l0, vI l1, vI l2] [vI (M b6 (Int.toNat l2))] M K Q) ∧ (¬ (¬ t0 = (-1 : Int)) → Wp d 117 49 [vR l0, vI l1, vI l2] [vI (-1 : Int)] M K Q)) : Wp d 117 32 [vR l0, vI l1, vI l2] [vI t0] M K Q := by
  refine r_iconst c117_32 ?_
  refine r_icmpP (P := ¬ t0 = (-1 : Int)) c117_33 rfl (fun hc => ?_) (fun hc => ?_)
  · replace h := h.1 hc
    refine r_aload_n c117_40 rfl ?_
    obtain ⟨s1, h⟩ := h
    obtain ⟨b2, h⟩ := h
    obtain ⟨s3, h⟩ := h
    obtain ⟨s4, h⟩ := h
    refine r_getR c117_41 s1 s3 s4 ?_
    obtain ⟨s5, h⟩ := h
    obtain ⟨b6, h⟩ := h
    obtain ⟨s7, h⟩ := h
    obtain ⟨s8, h⟩ := h
    refine r_getR c117_44 s5 s7 s8 ?_
    refine r_iload_n c117_47 rfl ?_
    obtain ⟨s9, h⟩ := h
    obtain ⟨s10, h⟩ := h
    refine r_ia c117_48 s9 s10 ?_
    exact h
  · replace h := h.2 hc
    refine r_iconst c117_36 ?_
    refine r_goto c117_37 ?_
    exact h
theorem t117_49 {d : Nat} {l0 : Nat} {l1 : Int} {l2 : Int} {t0 : Int} {M : Mem} {K : KK} {Q : RR → Mem → KK → Prop} (h : Q (.inl (some (vI t0))) M K) : Wp d 117 49 [vR l0, vI l1, vI l2] [vI t0] M K Q := by
  exact r_iret c117_49 (Or.inl rfl) h
theorem t118_0 {d : Nat} {l0 : Nat} {l1 : Int} {l2 : Int} {l3 : Int} {l4 : Int} {l5 : Int} {M : Mem} {K : KK} {Q : RR → Mem → KK → Prop} (h : isO K.1 l0 11 = true ∧ Wm d 138 [vR l0, vI l1] M K (Bk d 118 2 5 138 [vR l0, vI l1, vI l2, vI l3, vI l4, vI l5] [] Q)) : Wp (d + 1) 118 0 [vR l0, vI l1, vI l2, vI l3, vI l4, vI l5] [] M K Q := by
  refine r_aload_n c118_0 rfl ?_
  refine r_iload_n c118_1 rfl ?_
  obtain ⟨s1, h⟩ := h
  exact r_call c118_2 rfl rfl (Nat.le_of_ble_eq_true rfl) (okc_r rfl rfl s1) h
theorem t118_5 {d : Nat} {l0 : Nat} {l1 : Int} {l2 : Int} {l3 : Int} {l4 : Int} {l5 : Int} {M : Mem} {K : KK} {Q : RR → Mem → KK → Prop} (h : Wm d 142 [vI l2, vI (0 : Int), vI (16 : Int)] M K (Bk d 118 10 13 142 [vR l0, vI l1, vI l2, vI l3, vI l4, vI l5] [vR l0] Q)) : Wp (d + 1) 118 5 [vR l0, vI l1, vI l2, vI l3, vI l4, vI l5] [] M K Q := by
  refine r_aload_n c118_5 rfl ?_
  refine r_iload_n c118_6 rfl ?_
  refine r_iconst c118_7 ?_
  refine r_bipush c118_8 ?_
  exact r_call c118_10 rfl rfl (Nat.le_of_ble_eq_true rfl) (okc_s rfl rfl rfl) h
theorem t118_13 {d : Nat} {l0 : Nat} {l1 : Int} {l2 : Int} {l3 : Int} {l4 : Int} {l5 : Int} {t0 : Nat} {t1 : Int} {M : Mem} {K : KK} {Q : RR → Mem → KK → Prop} (h : (t1 = (0 : Int) → Wp (d + 1) 118 51 [vR l0, vI l1, vI l2, vI l3, vI l4, vI l5] [vR t0] M K Q) ∧ (¬ (t1 = (0 : Int)) → Wm d 142 [vI l3, vI (0 : Int), vI (9 : Int)] M K (Bk d 118 20 23 142 [vR l0, vI l1, vI l2, vI l3, vI l4, vI l5] [vR t0] Q))) : Wp (d + 1) 118 13 [vR l0, vI l1, vI l2, vI l3, vI l4, vI l5] [vI t1, vR t0] M K Q := by
  refine r_ifP (P := t1 = (0 : Int)) c118_13 rfl (fun hc => ?_) (fun hc => ?_)
  · replace h := h.1 hc
    exact h
  · replace h := h.2 hc
    refine r_iload_n c118_16 rfl ?_
    refine r_iconst c118_17 ?_
    refine r_bipush c118_18 ?_
    exact r_call c118_20 rfl rfl (Nat.le_of_ble_eq_true rfl) (okc_s rfl rfl rfl) h
theorem t118_23 {d : Nat} {l0 : Nat} {l1 : Int} {l2 : Int} {l3 : Int} {l4 : Int} {l5 : Int} {t0 : Nat} {t1 : Int} {M : Mem} {K : KK} {Q : RR → Mem → KK → Prop} (h : (t1 = (0 : Int) → Wp (d + 1) 118 51 [vR l0, vI l1, vI l2, vI l3, vI l4, vI l5] [vR t0] M K Q) ∧ (¬ (t1 = (0 : Int)) → Wm d 142 [vI l4, vI (0 : Int), vI (8 : Int)] M K (Bk d 118 31 34 142 [vR l0, vI l1, vI l2, vI l3, vI l4, vI l5] [vR t0] Q))) : Wp (d + 1) 118 23 [vR l0, vI l1, vI l2, vI l3, vI l4, vI l5] [vI t1, vR t0] M K Q := by
  refine r_ifP (P := t1 = (0 : Int)) c118_23 rfl (fun hc => ?_) (fun hc => ?_)
  · replace h := h.1 hc
    exact h
  · replace h := h.2 hc
    refine r_iload c118_26 rfl ?_
    refine r_iconst c118_28 ?_
    refine r_bipush c118_29 ?_
    exact r_call c118_31 rfl rfl (Nat.le_of_ble_eq_true rfl) (okc_s rfl rfl rfl) h
theorem t118_34 {d : Nat} {l0 : Nat} {l1 : Int} {l2 : Int} {l3 : Int} {l4 : Int} {l5 : Int} {t0 : Nat} {t1 : Int} {M : Mem} {K : KK} {Q : RR → Mem → KK → Prop} (h : (t1 = (0 : Int) → Wp (d + 1) 118 51 [vR l0, vI l1, vI l2, vI l3, vI l4, vI l5] [vR t0] M K Q) ∧ (¬ (t1 = (0 : Int)) → Wm d 142 [vI l5, vI (0 : Int), vI (1 : Int)] M K (Bk d 118 41 44 142 [vR l0, vI l1, vI l2, vI l3, vI l4, vI l5] [vR t0] Q))) : Wp (d + 1) 118 34 [vR l0, vI l1, vI l2, vI l3, vI l4, vI l5] [vI t1, vR t0] M K Q := by
  refine r_ifP (P := t1 = (0 : Int)) c118_34 rfl (fun hc => ?_) (fun hc => ?_)
  · replace h := h.1 hc
    exact h
  · replace h := h.2 hc
    refine r_iload c118_37 rfl ?_
    refine r_iconst c118_39 ?_
    refine r_iconst c118_40 ?_
    exact r_call c118_41 rfl rfl (Nat.le_of_ble_eq_true rfl) (okc_s rfl rfl rfl) h
theorem t118_44 {d : Nat} {l0 : Nat} {l1 : Int} {l2 : Int} {l3 : Int} {l4 : Int} {l5 : Int} {t0 : Nat} {t1 : Int} {M : Mem} {K : KK} {Q : RR → Mem → KK → Prop} (h : (t1 = (0 : Int) → Wp d 118 51 [vR l0, vI l1, vI l2, vI l3, vI l4, vI l5] [vR t0] M K Q) ∧ (¬ (t1 = (0 : Int)) → Wp d 118 52 [vR l0, vI l1, vI l2, vI l3, vI l4, vI l5] [vI (1 : Int), vR t0] M K Q)) : Wp d 118 44 [vR l0, vI l1, vI l2, vI l3, vI l4, vI l5] [vI t1, vR t0] M K Q := by
  refine r_ifP (P := t1 = (0 : Int)) c118_44 rfl (fun hc => ?_) (fun hc => ?_)
  · replace h := h.1 hc
    exact h
  · replace h := h.2 hc
    refine r_iconst c118_47 ?_
    refine r_goto c118_48 ?_
    exact h
theorem t118_51 {d : Nat} {l0 : Nat} {l1 : Int} {l2 : Int} {l3 : Int} {l4 : Int} {l5 : Int} {t0 : Nat} {M : Mem} {K : KK} {Q : RR → Mem → KK → Prop} (h : Wp d 118 52 [vR l0, vI l1, vI l2, vI l3, vI l4, vI l5] [vI (0 : Int), vR t0] M K Q) : Wp d 118 51 [vR l0, vI l1, vI l2, vI l3, vI l4, vI l5] [vR t0] M K Q := by
  refine r_iconst c118_51 ?_
  exact h
theorem t118_52 {d : Nat} {l0 : Nat} {l1 : Int} {l2 : Int} {l3 : Int} {l4 : Int} {l5 : Int} {t0 : Nat} {t1 : Int} {M : Mem} {K : KK} {Q : RR → Mem → KK → Prop} (h : isO K.1 t0 11 = true ∧ Wm d 136 [vR t0, vI t1] M K (Bk d 118 52 55 136 [vR l0, vI l1, vI l2, vI l3, vI l4, vI l5] [] Q)) : Wp (d + 1) 118 52 [vR l0, vI l1, vI l2, vI l3, vI l4, vI l5] [vI t1, vR t0] M K Q := by
  obtain ⟨s1, h⟩ := h
  exact r_call c118_52 rfl rfl (Nat.le_of_ble_eq_true rfl) (okc_r rfl rfl s1) h
theorem t118_55 {d : Nat} {l0 : Nat} {l1 : Int} {l2 : Int} {l3 : Int} {l4 : Int} {l5 : Int} {M : Mem} {K : KK} {Q : RR → Mem → KK → Prop} (h : isO K.1 l0 11 = true ∧ ∃ b2 : Nat, (M l0 9) = (b2 : Int) ∧ 0 < b2 ∧ isO K.1 l0 11 = true ∧ ∃ b6 : Nat, (M l0 11) = (b6 : Int) ∧ 0 < b6 ∧ isO K.1 l0 11 = true ∧ ∃ b10 : Nat, (M l0 2) = (b10 : Int) ∧ 0 < b10 ∧ isO K.1 b2 4 = true ∧ Wm d 48 [vR b2, vR b6, vR b10, vI l1, vI l2, vI l3, vI l4] M K (Bk d 118 72 75 48 [vR l0, vI l1, vI l2, vI l3, vI l4, vI l5] [] Q)) : Wp (d + 1) 118 55 [vR l0, vI l1, vI l2, vI l3, vI l4, vI l5] [] M K Q := by
  refine r_aload_n c118_55 rfl ?_
  obtain ⟨s1, h⟩ := h
  obtain ⟨b2, h⟩ := h
  obtain ⟨s3, h⟩ := h
  obtain ⟨s4, h⟩ := h
  refine r_getR c118_56 s1 s3 s4 ?_
  refine r_aload_n c118_59 rfl ?_
  obtain ⟨s5, h⟩ := h
  obtain ⟨b6, h⟩ := h
  obtain ⟨s7, h⟩ := h
  obtain ⟨s8, h⟩ := h
  refine r_getR c118_60 s5 s7 s8 ?_
  refine r_aload_n c118_63 rfl ?_
  obtain ⟨s9, h⟩ := h
  obtain ⟨b10, h⟩ := h
  obtain ⟨s11, h⟩ := h
  obtain ⟨s12, h⟩ := h
  refine r_getR c118_64 s9 s11 s12 ?_
  refine r_iload_n c118_67 rfl ?_
  refine r_iload_n c118_68 rfl ?_
  refine r_iload_n c118_69 rfl ?_
  refine r_iload c118_70 rfl ?_
  obtain ⟨s13, h⟩ := h
  exact r_call c118_72 rfl rfl (Nat.le_of_ble_eq_true rfl) (okc_r rfl rfl s13) h
theorem t118_75 {d : Nat} {l0 : Nat} {l1 : Int} {l2 : Int} {l3 : Int} {l4 : Int} {l5 : Int} {M : Mem} {K : KK} {Q : RR → Mem → KK → Prop} (h : (¬ l5 = (0 : Int) → isO K.1 l0 11 = true ∧ ∃ b2 : Nat, (M l0 9) = (b2 : Int) ∧ 0 < b2 ∧ isO K.1 b2 4 = true ∧ Wp d 118 97 [vR l0, vI l1, vI l2, vI l3, vI l4, vI l5] [vL (M b2 3)] M K Q) ∧ (¬ (¬ l5 = (0 : Int)) → isO K.1 l0 11 = true ∧ ∃ b7 : Nat, (M l0 9) = (b7 : Int) ∧ 0 < b7 ∧ isO K.1 b7 4 = true ∧ Wp d 118 97 [vR l0, vI l1, vI l2, vI l3, vI l4, vI l5] [vL (M b7 2)] M K Q)) : Wp d 118 75 [vR l0, vI l1, vI l2, vI l3, vI l4, vI l5] [] M K Q := by
  refine r_iload c118_75 rfl ?_
  refine r_ifP (P := ¬ l5 = (0 : Int)) c118_77 rfl (fun hc => ?_) (fun hc => ?_)
  · replace h := h.1 hc
    refine r_aload_n c118_90 rfl ?_
    obtain ⟨s1, h⟩ := h
    obtain ⟨b2, h⟩ := h
    obtain ⟨s3, h⟩ := h
    obtain ⟨s4, h⟩ := h
    refine r_getR c118_91 s1 s3 s4 ?_
    obtain ⟨s5, h⟩ := h
    refine r_getL c118_94 s5 ?_
    exact h
  · replace h := h.2 hc
    refine r_aload_n c118_80 rfl ?_
    obtain ⟨s6, h⟩ := h
    obtain ⟨b7, h⟩ := h
    obtain ⟨s8, h⟩ := h
    obtain ⟨s9, h⟩ := h
    refine r_getR c118_81 s6 s8 s9 ?_
    obtain ⟨s10, h⟩ := h
    refine r_getL c118_84 s10 ?_
    refine r_goto c118_87 ?_
    exact h
theorem t118_97 {d : Nat} {l0 : Nat} {l1 : Int} {l2 : Int} {l3 : Int} {l4 : Int} {l5 : Int} {t0 : Int} {M : Mem} {K : KK} {Q : RR → Mem → KK → Prop} (h : Q (.inl (some (vL t0))) M K) : Wp d 118 97 [vR l0, vI l1, vI l2, vI l3, vI l4, vI l5] [vL t0] M K Q := by
  exact r_lret c118_97 h
theorem t119_0 {d : Nat} {l0 : Nat} {l1 : Int} {l2 : Int} {M : Mem} {K : KK} {Q : RR → Mem → KK → Prop} (h : Wm d 142 [vI l1, vI (0 : Int), vI (72 : Int)] M K (Bk d 119 5 8 142 [vR l0, vI l1, vI l2, vU, vU, vU, vU, vU, vU] [vR l0] Q)) : Wp (d + 1) 119 0 [vR l0, vI l1, vI l2, vU, vU, vU, vU, vU, vU] [] M K Q := by
  refine r_aload_n c119_0 rfl ?_
  refine r_iload_n c119_1 rfl ?_
  refine r_iconst c119_2 ?_
  refine r_bipush c119_3 ?_
  exact r_call c119_5 rfl rfl (Nat.le_of_ble_eq_true rfl) (okc_s rfl rfl rfl) h
theorem t119_8 {d : Nat} {l0 : Nat} {l1 : Int} {l2 : Int} {t0 : Nat} {t1 : Int} {M : Mem} {K : KK} {Q : RR → Mem → KK → Prop} (h : (t1 = (0 : Int) → Wp (d + 1) 119 24 [vR l0, vI l1, vI l2, vU, vU, vU, vU, vU, vU] [vR t0] M K Q) ∧ (¬ (t1 = (0 : Int)) → Wm d 142 [vI l2, vI (0 : Int), vI (3 : Int)] M K (Bk d 119 14 17 142 [vR l0, vI l1, vI l2, vU, vU, vU, vU, vU, vU] [vR t0] Q))) : Wp (d + 1) 119 8 [vR l0, vI l1, vI l2, vU, vU, vU, vU, vU, vU] [vI t1, vR t0] M K Q := by
  refine r_ifP (P := t1 = (0 : Int)) c119_8 rfl (fun hc => ?_) (fun hc => ?_)
  · replace h := h.1 hc
    exact h
  · replace h := h.2 hc
    refine r_iload_n c119_11 rfl ?_
    refine r_iconst c119_12 ?_
    refine r_iconst c119_13 ?_
    exact r_call c119_14 rfl rfl (Nat.le_of_ble_eq_true rfl) (okc_s rfl rfl rfl) h
theorem t119_17 {d : Nat} {l0 : Nat} {l1 : Int} {l2 : Int} {t0 : Nat} {t1 : Int} {M : Mem} {K : KK} {Q : RR → Mem → KK → Prop} (h : (t1 = (0 : Int) → Wp d 119 24 [vR l0, vI l1, vI l2, vU, vU, vU, vU, vU, vU] [vR t0] M K Q) ∧ (¬ (t1 = (0 : Int)) → Wp d 119 25 [vR l0, vI l1, vI l2, vU, vU, vU, vU, vU, vU] [vI (1 : Int), vR t0] M K Q)) : Wp d 119 17 [vR l0, vI l1, vI l2, vU, vU, vU, vU, vU, vU] [vI t1, vR t0] M K Q := by
  refine r_ifP (P := t1 = (0 : Int)) c119_17 rfl (fun hc => ?_) (fun hc => ?_)
  · replace h := h.1 hc
    exact h
  · replace h := h.2 hc
    refine r_iconst c119_20 ?_
    refine r_goto c119_21 ?_
    exact h
theorem t119_24 {d : Nat} {l0 : Nat} {l1 : Int} {l2 : Int} {t0 : Nat} {M : Mem} {K : KK} {Q : RR → Mem → KK → Prop} (h : Wp d 119 25 [vR l0, vI l1, vI l2, vU, vU, vU, vU, vU, vU] [vI (0 : Int), vR t0] M K Q) : Wp d 119 24 [vR l0, vI l1, vI l2, vU, vU, vU, vU, vU, vU] [vR t0] M K Q := by
  refine r_iconst c119_24 ?_
  exact h
theorem t119_25 {d : Nat} {l0 : Nat} {l1 : Int} {l2 : Int} {t0 : Nat} {t1 : Int} {M : Mem} {K : KK} {Q : RR → Mem → KK → Prop} (h : isO K.1 t0 11 = true ∧ Wm d 136 [vR t0, vI t1] M K (Bk d 119 25 28 136 [vR l0, vI l1, vI l2, vU, vU, vU, vU, vU, vU] [] Q)) : Wp (d + 1) 119 25 [vR l0, vI l1, vI l2, vU, vU, vU, vU, vU, vU] [vI t1, vR t0] M K Q := by
  obtain ⟨s1, h⟩ := h
  exact r_call c119_25 rfl rfl (Nat.le_of_ble_eq_true rfl) (okc_r rfl rfl s1) h
theorem t119_28 {d : Nat} {l0 : Nat} {l1 : Int} {l2 : Int} {M : Mem} {K : KK} {Q : RR → Mem → KK → Prop} (h : isO K.1 l0 11 = true ∧ ∃ b2 : Nat, (M l0 11) = (b2 : Int) ∧ 0 < b2 ∧ isO K.1 b2 0 = true ∧ Wp d 119 55 [vR l0, vI l1, vI l2, vI (w32 ((jshl (1 : Int) (M b2 7)) - (1 : Int))), vI (0 : Int), vI (-1 : Int), vI (w32 ((jshl (1 : Int) (M b2 7)) - (1 : Int))), vI (0 : Int), vI (0 : Int)] [] M K Q) : Wp d 119 28 [vR l0, vI l1, vI l2, vU, vU, vU, vU, vU, vU] [] M K Q := by
  refine r_iconst c119_28 ?_
  refine r_aload_n c119_29 rfl ?_
  obtain ⟨s1, h⟩ := h
  obtain ⟨b2, h⟩ := h
  obtain ⟨s3, h⟩ := h
  obtain ⟨s4, h⟩ := h
  refine r_getR c119_30 s1 s3 s4 ?_
  obtain ⟨s5, h⟩ := h
  refine r_getI c119_33 s5 ?_
  refine r_ishl c119_36 ?_
  refine r_iconst c119_37 ?_
  refine r_isub c119_38 ?_
  refine r_istore_n c119_39 (Nat.le_of_ble_eq_true rfl) ?_
  refine r_iconst c119_40 ?_
  refine r_istore c119_41 (Nat.le_of_ble_eq_true rfl) ?_
  refine r_iconst c119_43 ?_
  refine r_istore c119_44 (Nat.le_of_ble_eq_true rfl) ?_
  refine r_iload_n c119_46 rfl ?_
  refine r_istore c119_47 (Nat.le_of_ble_eq_true rfl) ?_
  refine r_iconst c119_49 ?_
  refine r_istore c119_50 (Nat.le_of_ble_eq_true rfl) ?_
  refine r_iconst c119_52 ?_
  refine r_istore c119_53 (Nat.le_of_ble_eq_true rfl) ?_
  exact h
theorem t119_55 {d : Nat} {l0 : Nat} {l1 : Int} {l2 : Int} {l3 : Int} {l4 : Int} {l5 : Int} {l6 : Int} {l7 : Int} {l8 : Int} {M : Mem} {K : KK} {Q : RR → Mem → KK → Prop} (h : (l3 < l8 → Wp (d + 1) 119 (tsw 110 44 0 2 #[26, 29, 32] l2) [vR l0, vI l1, vI l2, vI l3, vI l4, vI l5, vI l6, vI l7, vI l8] [] M K Q) ∧ (¬ (l3 < l8) → isO K.1 l0 11 = true ∧ Wm d 145 [vR l0, vI l8, vI l1] M K (Bk d 119 65 68 145 [vR l0, vI l1, vI l2, vI l3, vI l4, vI l5, vI l6, vI l7, vI l8] [] Q))) : Wp (d + 1) 119 55 [vR l0, vI l1, vI l2, vI l3, vI l4, vI l5, vI l6, vI l7, vI l8] [] M K Q := by
  refine r_iload c119_55 rfl ?_
  refine r_iload_n c119_57 rfl ?_
  refine r_icmpP (P := l3 < l8) c119_58 rfl (fun hc => ?_) (fun hc => ?_)
  · replace h := h.1 hc
    refine r_iload_n c119_109 rfl ?_
    refine r_tsw c119_110 ?_
    exact h
  · replace h := h.2 hc
    refine r_aload_n c119_61 rfl ?_
    refine r_iload c119_62 rfl ?_
    refine r_iload_n c119_64 rfl ?_
    obtain ⟨s1, h⟩ := h
    exact r_call c119_65 rfl rfl (Nat.le_of_ble_eq_true rfl) (okc_r rfl rfl s1) h
theorem t119_68 {d : Nat} {l0 : Nat} {l1 : Int} {l2 : Int} {l3 : Int} {l4 : Int} {l5 : Int} {l6 : Int} {l7 : Int} {l8 : Int} {t0 : Int} {M : Mem} {K : KK} {Q : RR → Mem → KK → Prop} (h : (t0 = (0 : Int) → Wp d 119 103 [vR l0, vI l1, vI l2, vI l3, vI l4, vI l5, vI l6, vI l7, vI l8] [] M K Q) ∧ (¬ (t0 = (0 : Int)) → (¬ l5 = (-1 : Int) → Wp d 119 87 [vR l0, vI l1, vI l2, vI l3, vI (w32 (l4 + 1)), vI l5, vI l6, vI l7, vI l8] [vI l5] M K Q) ∧ (¬ (¬ l5 = (-1 : Int)) → Wp d 119 87 [vR l0, vI l1, vI l2, vI l3, vI (w32 (l4 + 1)), vI l5, vI l6, vI l7, vI l8] [vI l8] M K Q))) : Wp d 119 68 [vR l0, vI l1, vI l2, vI l3, vI l4, vI l5, vI l6, vI l7, vI l8] [vI t0] M K Q := by
  refine r_ifP (P := t0 = (0 : Int)) c119_68 rfl (fun hc => ?_) (fun hc => ?_)
  · replace h := h.1 hc
    exact h
  · replace h := h.2 hc
    refine r_iinc c119_71 rfl ?_
    refine r_iload c119_74 rfl ?_
    refine r_iconst c119_76 ?_
    refine r_icmpP (P := ¬ l5 = (-1 : Int)) c119_77 rfl (fun hc => ?_) (fun hc => ?_)
    · replace h := h.1 hc
      refine r_iload c119_85 rfl ?_
      exact h
    · replace h := h.2 hc
      refine r_iload c119_80 rfl ?_
      refine r_goto c119_82 ?_
      exact h
theorem t119_87 {d : Nat} {l0 : Nat} {l1 : Int} {l2 : Int} {l3 : Int} {l4 : Int} {l5 : Int} {l6 : Int} {l7 : Int} {l8 : Int} {t0 : Int} {M : Mem} {K : KK} {Q : RR → Mem → KK → Prop} (h : Wp d 119 103 [vR l0, vI l1, vI l2, vI l3, vI l4, vI t0, vI (jand l6 l8), vI (jor l7 l8), vI l8] [] M K Q) : Wp d 119 87 [vR l0, vI l1, vI l2, vI l3, vI l4, vI l5, vI l6, vI l7, vI l8] [vI t0] M K Q := by
  refine r_istore c119_87 (Nat.le_of_ble_eq_true rfl) ?_
  refine r_iload c119_89 rfl ?_
  refine r_iload c119_91 rfl ?_
  refine r_iand c119_93 ?_
  refine r_istore c119_94 (Nat.le_of_ble_eq_true rfl) ?_
  refine r_iload c119_96 rfl ?_
  refine r_iload c119_98 rfl ?_
  refine r_ior c119_100 ?_
  refine r_istore c119_101 (Nat.le_of_ble_eq_true rfl) ?_
  exact h
theorem t119_103 {d : Nat} {l0 : Nat} {l1 : Int} {l2 : Int} {l3 : Int} {l4 : Int} {l5 : Int} {l6 : Int} {l7 : Int} {l8 : Int} {M : Mem} {K : KK} {Q : RR → Mem → KK → Prop} (h : Wp d 119 55 [vR l0, vI l1, vI l2, vI l3, vI l4, vI l5, vI l6, vI l7, vI (w32 (l8 + 1))] [] M K Q) : Wp d 119 103 [vR l0, vI l1, vI l2, vI l3, vI l4, vI l5, vI l6, vI l7, vI l8] [] M K Q := by
  refine r_iinc c119_103 rfl ?_
  refine r_goto c119_106 ?_
  exact h
theorem t119_136 {d : Nat} {l0 : Nat} {l1 : Int} {l2 : Int} {l3 : Int} {l4 : Int} {l5 : Int} {l6 : Int} {l7 : Int} {l8 : Int} {M : Mem} {K : KK} {Q : RR → Mem → KK → Prop} (h : Q (.inl (some (vI l4))) M K) : Wp d 119 136 [vR l0, vI l1, vI l2, vI l3, vI l4, vI l5, vI l6, vI l7, vI l8] [] M K Q := by
  refine r_iload c119_136 rfl ?_
  exact r_iret c119_138 (Or.inl rfl) h
theorem t119_139 {d : Nat} {l0 : Nat} {l1 : Int} {l2 : Int} {l3 : Int} {l4 : Int} {l5 : Int} {l6 : Int} {l7 : Int} {l8 : Int} {M : Mem} {K : KK} {Q : RR → Mem → KK → Prop} (h : Q (.inl (some (vI l5))) M K) : Wp d 119 139 [vR l0, vI l1, vI l2, vI l3, vI l4, vI l5, vI l6, vI l7, vI l8] [] M K Q := by
  refine r_iload c119_139 rfl ?_
  exact r_iret c119_141 (Or.inl rfl) h
theorem t119_142 {d : Nat} {l0 : Nat} {l1 : Int} {l2 : Int} {l3 : Int} {l4 : Int} {l5 : Int} {l6 : Int} {l7 : Int} {l8 : Int} {M : Mem} {K : KK} {Q : RR → Mem → KK → Prop} (h : (¬ l4 = (0 : Int) → Wp d 119 153 [vR l0, vI l1, vI l2, vI l3, vI l4, vI l5, vI l6, vI l7, vI l8] [vI l6] M K Q) ∧ (¬ (¬ l4 = (0 : Int)) → Wp d 119 153 [vR l0, vI l1, vI l2, vI l3, vI l4, vI l5, vI l6, vI l7, vI l8] [vI (0 : Int)] M K Q)) : Wp d 119 142 [vR l0, vI l1, vI l2, vI l3, vI l4, vI l5, vI l6, vI l7, vI l8] [] M K Q := by
  refine r_iload c119_142 rfl ?_
  refine r_ifP (P := ¬ l4 = (0 : Int)) c119_144 rfl (fun hc => ?_) (fun hc => ?_)
  · replace h := h.1 hc
    refine r_iload c119_151 rfl ?_
    exact h
  · replace h := h.2 hc
    refine r_iconst c119_147 ?_
    refine r_goto c119_148 ?_
    exact h
theorem t119_153 {d : Nat} {l0 : Nat} {l1 : Int} {l2 : Int} {l3 : Int} {l4 : Int} {l5 : Int} {l6 : Int} {l7 : Int} {l8 : Int} {t0 : Int} {M : Mem} {K : KK} {Q : RR → Mem → KK → Prop} (h : Q (.inl (some (vI t0))) M K) : Wp d 119 153 [vR l0, vI l1, vI l2, vI l3, vI l4, vI l5, vI l6, vI l7, vI l8] [vI t0] M K Q := by
  exact r_iret c119_153 (Or.inl rfl) h
theorem t119_154 {d : Nat} {l0 : Nat} {l1 : Int} {l2 : Int} {l3 : Int} {l4 : Int} {l5 : Int} {l6 : Int} {l7 : Int} {l8 : Int} {M : Mem} {K : KK} {Q : RR → Mem → KK → Prop} (h : (¬ l4 = (0 : Int) → Wp d 119 169 [vR l0, vI l1, vI l2, vI l3, vI l4, vI l5, vI l6, vI l7, vI l8] [vI (jand l3 (jxor l7 (-1 : Int)))] M K Q) ∧ (¬ (¬ l4 = (0 : Int)) → Wp d 119 169 [vR l0, vI l1, vI l2, vI l3, vI l4, vI l5, vI l6, vI l7, vI l8] [vI (0 : Int)] M K Q)) : Wp d 119 154 [vR l0, vI l1, vI l2, vI l3, vI l4, vI l5, vI l6, vI l7, vI l8] [] M K Q := by
  refine r_iload c119_154 rfl ?_
  refine r_ifP (P := ¬ l4 = (0 : Int)) c119_156 rfl (fun hc => ?_) (fun hc => ?_)
  · replace h := h.1 hc
    refine r_iload_n c119_163 rfl ?_
    refine r_iload c119_164 rfl ?_
    refine r_iconst c119_166 ?_
    refine r_ixor c119_167 ?_
    refine r_iand c119_168 ?_
    exact h
  · replace h := h.2 hc
    refine r_iconst c119_159 ?_
    refine r_goto c119_160 ?_
    exact h
theorem t119_169 {d : Nat} {l0 : Nat} {l1 : Int} {l2 : Int} {l3 : Int} {l4 : Int} {l5 : Int} {l6 : Int} {l7 : Int} {l8 : Int} {t0 : Int} {M : Mem} {K : KK} {Q : RR → Mem → KK → Prop} (h : Q (.inl (some (vI t0))) M K) : Wp d 119 169 [vR l0, vI l1, vI l2, vI l3, vI l4, vI l5, vI l6, vI l7, vI l8] [vI t0] M K Q := by
  exact r_iret c119_169 (Or.inl rfl) h
theorem t120_0 {d : Nat} {l0 : Nat} {l1 : Int} {l2 : Int} {M : Mem} {K : KK} {Q : RR → Mem → KK → Prop} (h : Wm d 142 [vI l1, vI (0 : Int), vI (72 : Int)] M K (Bk d 120 5 8 142 [vR l0, vI l1, vI l2, vU, vU, vU, vU] [vR l0] Q)) : Wp (d + 1) 120 0 [vR l0, vI l1, vI l2, vU, vU, vU, vU] [] M K Q := by
  refine r_aload_n c120_0 rfl ?_
  refine r_iload_n c120_1 rfl ?_
  refine r_iconst c120_2 ?_
  refine r_bipush c120_3 ?_
  exact r_call c120_5 rfl rfl (Nat.le_of_ble_eq_true rfl) (okc_s rfl rfl rfl) h
theorem t120_8 {d : Nat} {l0 : Nat} {l1 : Int} {l2 : Int} {t0 : Nat} {t1 : Int} {M : Mem} {K : KK} {Q : RR → Mem → KK → Prop} (h : (t1 = (0 : Int) → Wp (d + 1) 120 24 [vR l0, vI l1, vI l2, vU, vU, vU, vU] [vR t0] M K Q) ∧ (¬ (t1 = (0 : Int)) → Wm d 142 [vI l2, vI (0 : Int), vI (1 : Int)] M K (Bk d 120 14 17 142 [vR l0, vI l1, vI l2, vU, vU, vU, vU] [vR t0] Q))) : Wp (d + 1) 120 8 [vR l0, vI l1, vI l2, vU, vU, vU, vU] [vI t1, vR t0] M K Q := by
  refine r_ifP (P := t1 = (0 : Int)) c120_8 rfl (fun hc => ?_) (fun hc => ?_)
  · replace h := h.1 hc
    exact h
  · replace h := h.2 hc
    refine r_iload_n c120_11 rfl ?_
    refine r_iconst c120_12 ?_
    refine r_iconst c120_13 ?_
    exact r_call c120_14 rfl rfl (Nat.le_of_ble_eq_true rfl) (okc_s rfl rfl rfl) h
theorem t120_17 {d : Nat} {l0 : Nat} {l1 : Int} {l2 : Int} {t0 : Nat} {t1 : Int} {M : Mem} {K : KK} {Q : RR → Mem → KK → Prop} (h : (t1 = (0 : Int) → Wp d 120 24 [vR l0, vI l1, vI l2, vU, vU, vU, vU] [vR t0] M K Q) ∧ (¬ (t1 = (0 : Int)) → Wp d 120 25 [vR l0, vI l1, vI l2, vU, vU, vU, vU] [vI (1 : Int), vR t0] M K Q)) : Wp d 120 17 [vR l0, vI l1, vI l2, vU, vU, vU, vU] [vI t1, vR t0] M K Q := by
  refine r_ifP (P := t1 = (0 : Int)) c120_17 rfl (fun hc => ?_) (fun hc => ?_)
  · replace h := h.1 hc
    exact h
  · replace h := h.2 hc
    refine r_iconst c120_20 ?_
    refine r_goto c120_21 ?_
    exact h
theorem t120_24 {d : Nat} {l0 : Nat} {l1 : Int} {l2 : Int} {t0 : Nat} {M : Mem} {K : KK} {Q : RR → Mem → KK → Prop} (h : Wp d 120 25 [vR l0, vI l1, vI l2, vU, vU, vU, vU] [vI (0 : Int), vR t0] M K Q) : Wp d 120 24 [vR l0, vI l1, vI l2, vU, vU, vU, vU] [vR t0] M K Q := by
  refine r_iconst c120_24 ?_
  exact h
theorem t120_25 {d : Nat} {l0 : Nat} {l1 : Int} {l2 : Int} {t0 : Nat} {t1 : Int} {M : Mem} {K : KK} {Q : RR → Mem → KK → Prop} (h : isO K.1 t0 11 = true ∧ Wm d 136 [vR t0, vI t1] M K (Bk d 120 25 28 136 [vR l0, vI l1, vI l2, vU, vU, vU, vU] [] Q)) : Wp (d + 1) 120 25 [vR l0, vI l1, vI l2, vU, vU, vU, vU] [vI t1, vR t0] M K Q := by
  obtain ⟨s1, h⟩ := h
  exact r_call c120_25 rfl rfl (Nat.le_of_ble_eq_true rfl) (okc_r rfl rfl s1) h
theorem t120_28 {d : Nat} {l0 : Nat} {l1 : Int} {l2 : Int} {M : Mem} {K : KK} {Q : RR → Mem → KK → Prop} (h : Wp d 120 36 [vR l0, vI l1, vI l2, vI (-1 : Int), vI (-1 : Int), vI (0 : Int), vU] [] M K Q) : Wp d 120 28 [vR l0, vI l1, vI l2, vU, vU, vU, vU] [] M K Q := by
  refine r_iconst c120_28 ?_
  refine r_istore_n c120_29 (Nat.le_of_ble_eq_true rfl) ?_
  refine r_iconst c120_30 ?_
  refine r_istore c120_31 (Nat.le_of_ble_eq_true rfl) ?_
  refine r_iconst c120_33 ?_
  refine r_istore c120_34 (Nat.le_of_ble_eq_true rfl) ?_
  exact h
theorem t120_36 {d : Nat} {l0 : Nat} {l1 : Int} {l2 : Int} {l3 : Int} {l4 : Int} {l5 : Int} {l6 : PV} {M : Mem} {K : KK} {Q : RR → Mem → KK → Prop} (h : isO K.1 l0 11 = true ∧ ∃ b2 : Nat, (M l0 11) = (b2 : Int) ∧ 0 < b2 ∧ isO K.1 b2 0 = true ∧ ((M b2 7) ≤ l5 → (¬ l2 = (0 : Int) → Wp (d + 1) 120 104 [vR l0, vI l1, vI l2, vI l3, vI l4, vI l5, l6] [vI l4] M K Q) ∧ (¬ (¬ l2 = (0 : Int)) → Wp (d + 1) 120 104 [vR l0, vI l1, vI l2, vI l3, vI l4, vI l5, l6] [vI l3] M K Q)) ∧ (¬ ((M b2 7) ≤ l5) → isO K.1 l0 11 = true ∧ ∃ b7 : Nat, (M l0 14) = (b7 : Int) ∧ 0 < b7 ∧ isO K.1 b7 8 = true ∧ Wm d 77 [vR b7, vI l5] M K (Bk d 120 54 57 77 [vR l0, vI l1, vI l2, vI l3, vI l4, vI l5, l6] [] Q))) : Wp (d + 1) 120 36 [vR l0, vI l1, vI l2, vI l3, vI l4, vI l5, l6] [] M K Q := by
  refine r_iload c120_36 rfl ?_
  refine r_aload_n c120_38 rfl ?_
  obtain ⟨s1, h⟩ := h
  obtain ⟨b2, h⟩ := h
  obtain ⟨s3, h⟩ := h
  obtain ⟨s4, h⟩ := h
  refine r_getR c120_39 s1 s3 s4 ?_
  obtain ⟨s5, h⟩ := h
  refine r_getI c120_42 s5 ?_
  refine r_icmpP (P := (M b2 7) ≤ l5) c120_45 rfl (fun hc => ?_) (fun hc => ?_)
  · replace h := h.1 hc
    refine r_iload_n c120_94 rfl ?_
    refine r_ifP (P := ¬ l2 = (0 : Int)) c120_95 rfl (fun hc => ?_) (fun hc => ?_)
    · replace h := h.1 hc
      refine r_iload c120_102 rfl ?_
      exact h
    · replace h := h.2 hc
      refine r_iload_n c120_98 rfl ?_
      refine r_goto c120_99 ?_
      exact h
  · replace h := h.2 hc
    refine r_aload_n c120_48 rfl ?_
    obtain ⟨s6, h⟩ := h
    obtain ⟨b7, h⟩ := h
    obtain ⟨s8, h⟩ := h
    obtain ⟨s9, h⟩ := h
    refine r_getR c120_49 s6 s8 s9 ?_
    refine r_iload c120_52 rfl ?_
    obtain ⟨s10, h⟩ := h
    exact r_call c120_54 rfl rfl (Nat.le_of_ble_eq_true rfl) (okc_r rfl rfl s10) h
theorem t120_57 {d : Nat} {l0 : Nat} {l1 : Int} {l2 : Int} {l3 : Int} {l4 : Int} {l5 : Int} {l6 : PV} {t0 : Int} {M : Mem} {K : KK} {Q : RR → Mem → KK → Prop} (h : (¬ t0 = (0 : Int) → Wp (d + 1) 120 88 [vR l0, vI l1, vI l2, vI l3, vI l4, vI l5, l6] [] M K Q) ∧ (¬ (¬ t0 = (0 : Int)) → isO K.1 l0 11 = true ∧ Wm d 146 [vR l0, vI l1, vI l5] M K (Bk d 120 64 67 146 [vR l0, vI l1, vI l2, vI l3, vI l4, vI l5, l6] [] Q))) : Wp (d + 1) 120 57 [vR l0, vI l1, vI l2, vI l3, vI l4, vI l5, l6] [vI t0] M K Q := by
  refine r_ifP (P := ¬ t0 = (0 : Int)) c120_57 rfl (fun hc => ?_) (fun hc => ?_)
  · replace h := h.1 hc
    exact h
  · replace h := h.2 hc
    refine r_aload_n c120_60 rfl ?_
    refine r_iload_n c120_61 rfl ?_
    refine r_iload c120_62 rfl ?_
    obtain ⟨s1, h⟩ := h
    exact r_call c120_64 rfl rfl (Nat.le_of_ble_eq_true rfl) (okc_r rfl rfl s1) h
theorem t120_67 {d : Nat} {l0 : Nat} {l1 : Int} {l2 : Int} {l3 : Int} {l4 : Int} {l5 : Int} {l6 : PV} {t0 : Int} {M : Mem} {K : KK} {Q : RR → Mem → KK → Prop} (h : (l3 = (-1 : Int) → Wp d 120 81 [vR l0, vI l1, vI l2, vI l3, vI l4, vI l5, vI t0] [] M K Q) ∧ (¬ (l3 = (-1 : Int)) → (l4 ≤ t0 → Wp d 120 88 [vR l0, vI l1, vI l2, vI l3, vI l4, vI l5, vI t0] [] M K Q) ∧ (¬ (l4 ≤ t0) → Wp d 120 81 [vR l0, vI l1, vI l2, vI l3, vI l4, vI l5, vI t0] [] M K Q))) : Wp d 120 67 [vR l0, vI l1, vI l2, vI l3, vI l4, vI l5, l6] [vI t0] M K Q := by
  refine r_istore c120_67 (Nat.le_of_ble_eq_true rfl) ?_
  refine r_iload_n c120_69 rfl ?_
  refine r_iconst c120_70 ?_
  refine r_icmpP (P := l3 = (-1 : Int)) c120_71 rfl (fun hc => ?_) (fun hc => ?_)
  · replace h := h.1 hc
    exact h
  · replace h := h.2 hc
    refine r_iload c120_74 rfl ?_
    refine r_iload c120_76 rfl ?_
    refine r_icmpP (P := l4 ≤ t0) c120_78 rfl (fun hc => ?_) (fun hc => ?_)
    · replace h := h.1 hc
      exact h
    · replace h := h.2 hc
      exact h
theorem t120_81 {d : Nat} {l0 : Nat} {l1 : Int} {l2 : Int} {l3 : Int} {l4 : Int} {l5 : Int} {l6 : Int} {M : Mem} {K : KK} {Q : RR → Mem → KK → Prop} (h : Wp d 120 88 [vR l0, vI l1, vI l2, vI l5, vI l6, vI l5, vI l6] [] M K Q) : Wp d 120 81 [vR l0, vI l1, vI l2, vI l3, vI l4, vI l5, vI l6] [] M K Q := by
  refine r_iload c120_81 rfl ?_
  refine r_istore_n c120_83 (Nat.le_of_ble_eq_true rfl) ?_
  refine r_iload c120_84 rfl ?_
  refine r_istore c120_86 (Nat.le_of_ble_eq_true rfl) ?_
  exact h
theorem t120_88 {d : Nat} {l0 : Nat} {l1 : Int} {l2 : Int} {l3 : Int} {l4 : Int} {l5 : Int} {l6 : PV} {M : Mem} {K : KK} {Q : RR → Mem → KK → Prop} (h : Wp d 120 36 [vR l0, vI l1, vI l2, vI l3, vI l4, vI (w32 (l5 + 1)), l6] [] M K Q) : Wp d 120 88 [vR l0, vI l1, vI l2, vI l3, vI l4, vI l5, l6] [] M K Q := by
  refine r_iinc c120_88 rfl ?_
  refine r_goto c120_91 ?_
  exact h
theorem t120_104 {d : Nat} {l0 : Nat} {l1 : Int} {l2 : Int} {l3 : Int} {l4 : Int} {l5 : Int} {l6 : PV} {t0 : Int} {M : Mem} {K : KK} {Q : RR → Mem → KK → Prop} (h : Q (.inl (some (vI t0))) M K) : Wp d 120 104 [vR l0, vI l1, vI l2, vI l3, vI l4, vI l5, l6] [vI t0] M K Q := by
  exact r_iret c120_104 (Or.inl rfl) h
theorem t121_0 {d : Nat} {l0 : Nat} {M : Mem} {K : KK} {Q : RR → Mem → KK → Prop} (h : isO K.1 l0 11 = true ∧ ∃ b2 : Nat, (M l0 2) = (b2 : Int) ∧ 0 < b2 ∧ isO K.1 l0 11 = true ∧ ∃ b6 : Nat, (M l0 11) = (b6 : Int) ∧ 0 < b6 ∧ isO K.1 b2 3 = true ∧ Wm d 39 [vR b2, vR b6] M K (Bk d 121 8 11 39 [vR l0, vU, vU, vU, vU] [] Q)) : Wp (d + 1) 121 0 [vR l0, vU, vU, vU, vU] [] M K Q := by
  refine r_aload_n c121_0 rfl ?_
  obtain ⟨s1, h⟩ := h
  obtain ⟨b2, h⟩ := h
  obtain ⟨s3, h⟩ := h
  obtain ⟨s4, h⟩ := h
  refine r_getR c121_1 s1 s3 s4 ?_
  refine r_aload_n c121_4 rfl ?_
  obtain ⟨s5, h⟩ := h
  obtain ⟨b6, h⟩ := h
  obtain ⟨s7, h⟩ := h
  obtain ⟨s8, h⟩ := h
  refine r_getR c121_5 s5 s7 s8 ?_
  obtain ⟨s9, h⟩ := h
  exact r_call c121_8 rfl rfl (Nat.le_of_ble_eq_true rfl) (okc_r rfl rfl s9) h
theorem t121_11 {d : Nat} {l0 : Nat} {t0 : Int} {M : Mem} {K : KK} {Q : RR → Mem → KK → Prop} (h : isO K.1 l0 11 = true ∧ ∃ b2 : Nat, (M l0 11) = (b2 : Int) ∧ 0 < b2 ∧ isO K.1 b2 0 = true ∧ Wp d 121 26 [vR l0, vI t0, vI (w32 ((jshl (1 : Int) (M b2 5)) - (1 : Int))), vI (0 : Int), vU] [] M K Q) : Wp d 121 11 [vR l0, vU, vU, vU, vU] [vI t0] M K Q := by
  refine r_istore_n c121_11 (Nat.le_of_ble_eq_true rfl) ?_
  refine r_iconst c121_12 ?_
  refine r_aload_n c121_13 rfl ?_
  obtain ⟨s1, h⟩ := h
  obtain ⟨b2, h⟩ := h
  obtain ⟨s3, h⟩ := h
  obtain ⟨s4, h⟩ := h
  refine r_getR c121_14 s1 s3 s4 ?_
  obtain ⟨s5, h⟩ := h
  refine r_getI c121_17 s5 ?_
  refine r_ishl c121_20 ?_
  refine r_iconst c121_21 ?_
  refine r_isub c121_22 ?_
  refine r_istore_n c121_23 (Nat.le_of_ble_eq_true rfl) ?_
  refine r_iconst c121_24 ?_
  refine r_istore_n c121_25 (Nat.le_of_ble_eq_true rfl) ?_
  exact h
theorem t121_26 {d : Nat} {l0 : Nat} {l1 : Int} {l2 : Int} {l3 : Int} {l4 : PV} {M : Mem} {K : KK} {Q : RR → Mem → KK → Prop} (h : isO K.1 l0 11 = true ∧ ∃ b2 : Nat, (M l0 11) = (b2 : Int) ∧ 0 < b2 ∧ isO K.1 b2 0 = true ∧ ((jshl (1 : Int) (M b2 5)) ≤ l3 → Q (.inl (some (vI l2))) M K) ∧ (¬ ((jshl (1 : Int) (M b2 5)) ≤ l3) → Wm d 289 [vI l3] M K (Bk d 121 40 43 289 [vR l0, vI l1, vI l2, vI l3, l4] [] Q))) : Wp (d + 1) 121 26 [vR l0, vI l1, vI l2, vI l3, l4] [] M K Q := by
  refine r_iload_n c121_26 rfl ?_
  refine r_iconst c121_27 ?_
  refine r_aload_n c121_28 rfl ?_
  obtain ⟨s1, h⟩ := h
  obtain ⟨b2, h⟩ := h
  obtain ⟨s3, h⟩ := h
  obtain ⟨s4, h⟩ := h
  refine r_getR c121_29 s1 s3 s4 ?_
  obtain ⟨s5, h⟩ := h
  refine r_getI c121_32 s5 ?_
  refine r_ishl c121_35 ?_
  refine r_icmpP (P := (jshl (1 : Int) (M b2 5)) ≤ l3) c121_36 rfl (fun hc => ?_) (fun hc => ?_)
  · replace h := h.1 hc
    refine r_iload_n c121_85 rfl ?_
    exact r_iret c121_86 (Or.inl rfl) h
  · replace h := h.2 hc
    refine r_iload_n c121_39 rfl ?_
    exact r_call c121_40 rfl rfl (Nat.le_of_ble_eq_true rfl) (okc_s rfl rfl rfl) h
theorem t121_43 {d : Nat} {l0 : Nat} {l1 : Int} {l2 : Int} {l3 : Int} {l4 : PV} {t0 : Int} {M : Mem} {K : KK} {Q : RR → Mem → KK → Prop} (h : Wm d 289 [vI l2] M K (Bk d 121 44 47 289 [vR l0, vI l1, vI l2, vI l3, l4] [vI t0] Q)) : Wp (d + 1) 121 43 [vR l0, vI l1, vI l2, vI l3, l4] [vI t0] M K Q := by
  refine r_iload_n c121_43 rfl ?_
  exact r_call c121_44 rfl rfl (Nat.le_of_ble_eq_true rfl) (okc_s rfl rfl rfl) h
theorem t121_47 {d : Nat} {l0 : Nat} {l1 : Int} {l2 : Int} {l3 : Int} {l4 : PV} {t0 : Int} {t1 : Int} {M : Mem} {K : KK} {Q : RR → Mem → KK → Prop} (h : (t1 ≤ t0 → Wp d 121 55 [vR l0, vI l1, vI l2, vI l3, l4] [vI (0 : Int)] M K Q) ∧ (¬ (t1 ≤ t0) → Wp d 121 55 [vR l0, vI l1, vI l2, vI l3, l4] [vI (1 : Int)] M K Q)) : Wp d 121 47 [vR l0, vI l1, vI l2, vI l3, l4] [vI t1, vI t0] M K Q := by
  refine r_icmpP (P := t1 ≤ t0) c121_47 rfl (fun hc => ?_) (fun hc => ?_)
  · replace h := h.1 hc
    refine r_iconst c121_54 ?_
    exact h
  · replace h := h.2 hc
    refine r_iconst c121_50 ?_
    refine r_goto c121_51 ?_
    exact h
theorem t121_55 {d : Nat} {l0 : Nat} {l1 : Int} {l2 : Int} {l3 : Int} {l4 : PV} {t0 : Int} {M : Mem} {K : KK} {Q : RR → Mem → KK → Prop} (h : (t0 = (0 : Int) → Wp (d + 1) 121 79 [vR l0, vI l1, vI l2, vI l3, vI t0] [] M K Q) ∧ (¬ (t0 = (0 : Int)) → isO K.1 l0 11 = true ∧ ∃ b2 : Nat, (M l0 11) = (b2 : Int) ∧ 0 < b2 ∧ isO K.1 b2 0 = true ∧ Wm d 12 [vR b2, vI l3] M K (Bk d 121 68 71 12 [vR l0, vI l1, vI l2, vI l3, vI t0] [vI l1] Q))) : Wp (d + 1) 121 55 [vR l0, vI l1, vI l2, vI l3, l4] [vI t0] M K Q := by
  refine r_istore c121_55 (Nat.le_of_ble_eq_true rfl) ?_
  refine r_iload c121_57 rfl ?_
  refine r_ifP (P := t0 = (0 : Int)) c121_59 rfl (fun hc => ?_) (fun hc => ?_)
  · replace h := h.1 hc
    exact h
  · replace h := h.2 hc
    refine r_iload_n c121_62 rfl ?_
    refine r_aload_n c121_63 rfl ?_
    obtain ⟨s1, h⟩ := h
    obtain ⟨b2, h⟩ := h
    obtain ⟨s3, h⟩ := h
    obtain ⟨s4, h⟩ := h
    refine r_getR c121_64 s1 s3 s4 ?_
    refine r_iload_n c121_67 rfl ?_
    obtain ⟨s5, h⟩ := h
    exact r_call c121_68 rfl rfl (Nat.le_of_ble_eq_true rfl) (okc_r rfl rfl s5) h
theorem t121_71 {d : Nat} {l0 : Nat} {l1 : Int} {l2 : Int} {l3 : Int} {l4 : Int} {t0 : Int} {t1 : Int} {M : Mem} {K : KK} {Q : RR → Mem → KK → Prop} (h : (¬ (jand t0 (jxor t1 (-1 : Int))) = (0 : Int) → Wp d 121 79 [vR l0, vI l1, vI l2, vI l3, vI l4] [] M K Q) ∧ (¬ (¬ (jand t0 (jxor t1 (-1 : Int))) = (0 : Int)) → Wp d 121 79 [vR l0, vI l1, vI l3, vI l3, vI l4] [] M K Q)) : Wp d 121 71 [vR l0, vI l1, vI l2, vI l3, vI l4] [vI t1, vI t0] M K Q := by
  refine r_iconst c121_71 ?_
  refine r_ixor c121_72 ?_
  refine r_iand c121_73 ?_
  refine r_ifP (P := ¬ (jand t0 (jxor t1 (-1 : Int))) = (0 : Int)) c121_74 rfl (fun hc => ?_) (fun hc => ?_)
  · replace h := h.1 hc
    exact h
  · replace h := h.2 hc
    refine r_iload_n c121_77 rfl ?_
    refine r_istore_n c121_78 (Nat.le_of_ble_eq_true rfl) ?_
    exact h
theorem t121_79 {d : Nat} {l0 : Nat} {l1 : Int} {l2 : Int} {l3 : Int} {l4 : Int} {M : Mem} {K : KK} {Q : RR → Mem → KK → Prop} (h : Wp d 121 26 [vR l0, vI l1, vI l2, vI (w32 (l3 + 1)), vI l4] [] M K Q) : Wp d 121 79 [vR l0, vI l1, vI l2, vI l3, vI l4] [] M K Q := by
  refine r_iinc c121_79 rfl ?_
  refine r_goto c121_82 ?_
  exact h
theorem t122_0 {d : Nat} {l0 : Nat} {l1 : Int} {M : Mem} {K : KK} {Q : RR → Mem → KK → Prop} (h : isO K.1 l0 11 = true ∧ ∃ b2 : Nat, (M l0 11) = (b2 : Int) ∧ 0 < b2 ∧ isO K.1 b2 0 = true ∧ Wm d 143 [vI l1, vI (M b2 5)] M K (Bk d 122 9 12 143 [vR l0, vI l1] [vR l0] Q)) : Wp (d + 1) 122 0 [vR l0, vI l1] [] M K Q := by
  refine r_aload_n c122_0 rfl ?_
  refine r_iload_n c122_1 rfl ?_
  refine r_aload_n c122_2 rfl ?_
  obtain ⟨s1, h⟩ := h
  obtain ⟨b2, h⟩ := h
  obtain ⟨s3, h⟩ := h
  obtain ⟨s4, h⟩ := h
  refine r_getR c122_3 s1 s3 s4 ?_
  obtain ⟨s5, h⟩ := h
  refine r_getI c122_6 s5 ?_
  exact r_call c122_9 rfl rfl (Nat.le_of_ble_eq_true rfl) (okc_s rfl rfl rfl) h
theorem t122_12 {d : Nat} {l0 : Nat} {l1 : Int} {t0 : Nat} {t1 : Int} {M : Mem} {K : KK} {Q : RR → Mem → KK → Prop} (h : isO K.1 t0 11 = true ∧ Wm d 136 [vR t0, vI t1] M K (Bk d 122 12 15 136 [vR l0, vI l1] [] Q)) : Wp (d + 1) 122 12 [vR l0, vI l1] [vI t1, vR t0] M K Q := by
  obtain ⟨s1, h⟩ := h
  exact r_call c122_12 rfl rfl (Nat.le_of_ble_eq_true rfl) (okc_r rfl rfl s1) h
theorem t122_15 {d : Nat} {l0 : Nat} {l1 : Int} {M : Mem} {K : KK} {Q : RR → Mem → KK → Prop} (h : isO K.1 l0 11 = true ∧ ∃ b2 : Nat, (M l0 11) = (b2 : Int) ∧ 0 < b2 ∧ isO K.1 b2 0 = true ∧ Wm d 12 [vR b2, vI l1] M K (Bk d 122 20 23 12 [vR l0, vI l1] [] Q)) : Wp (d + 1) 122 15 [vR l0, vI l1] [] M K Q := by
  refine r_aload_n c122_15 rfl ?_
  obtain ⟨s1, h⟩ := h
  obtain ⟨b2, h⟩ := h
  obtain ⟨s3, h⟩ := h
  obtain ⟨s4, h⟩ := h
  refine r_getR c122_16 s1 s3 s4 ?_
  refine r_iload_n c122_19 rfl ?_
  obtain ⟨s5, h⟩ := h
  exact r_call c122_20 rfl rfl (Nat.le_of_ble_eq_true rfl) (okc_r rfl rfl s5) h
theorem t122_23 {d : Nat} {l0 : Nat} {l1 : Int} {t0 : Int} {M : Mem} {K : KK} {Q : RR → Mem → KK → Prop} (h : Q (.inl (some (vI t0))) M K) : Wp d 122 23 [vR l0, vI l1] [vI t0] M K Q := by
  exact r_iret c122_23 (Or.inl rfl) h
theorem t123_0 {d : Nat} {l0 : Nat} {l1 : Int} {M : Mem} {K : KK} {Q : RR → Mem → KK → Prop} (h : Wm d 142 [vI l1, vI (0 : Int), vI (2 : Int)] M K (Bk d 123 4 7 142 [vR l0, vI l1, vU, vU, vU, vU, vU] [vR l0] Q)) : Wp (d + 1) 123 0 [vR l0, vI l1, vU, vU, vU, vU, vU] [] M K Q := by
  refine r_aload_n c123_0 rfl ?_
  refine r_iload_n c123_1 rfl ?_
  refine r_iconst c123_2 ?_
  refine r_iconst c123_3 ?_
  exact r_call c123_4 rfl rfl (Nat.le_of_ble_eq_true rfl) (okc_s rfl rfl rfl) h
theorem t123_7 {d : Nat} {l0 : Nat} {l1 : Int} {t0 : Nat} {t1 : Int} {M : Mem} {K : KK} {Q : RR → Mem → KK → Prop} (h : isO K.1 t0 11 = true ∧ Wm d 136 [vR t0, vI t1] M K (Bk d 123 7 10 136 [vR l0, vI l1, vU, vU, vU, vU, vU] [] Q)) : Wp (d + 1) 123 7 [vR l0, vI l1, vU, vU, vU, vU, vU] [vI t1, vR t0] M K Q := by
  obtain ⟨s1, h⟩ := h
  exact r_call c123_7 rfl rfl (Nat.le_of_ble_eq_true rfl) (okc_r rfl rfl s1) h
theorem t123_10 {d : Nat} {l0 : Nat} {l1 : Int} {M : Mem} {K : KK} {Q : RR → Mem → KK → Prop} (h : Wp d 123 20 [vR l0, vI l1, vI (0 : Int), vI (-1 : Int), vI (0 : Int), vI (0 : Int), vU] [] M K Q) : Wp d 123 10 [vR l0, vI l1, vU, vU, vU, vU, vU] [] M K Q := by
  refine r_iconst c123_10 ?_
  refine r_istore_n c123_11 (Nat.le_of_ble_eq_true rfl) ?_
  refine r_iconst c123_12 ?_
  refine r_istore_n c123_13 (Nat.le_of_ble_eq_true rfl) ?_
  refine r_iconst c123_14 ?_
  refine r_istore c123_15 (Nat.le_of_ble_eq_true rfl) ?_
  refine r_iconst c123_17 ?_
  refine r_istore c123_18 (Nat.le_of_ble_eq_true rfl) ?_
  exact h
theorem t123_20 {d : Nat} {l0 : Nat} {l1 : Int} {l2 : Int} {l3 : Int} {l4 : Int} {l5 : Int} {l6 : PV} {M : Mem} {K : KK} {Q : RR → Mem → KK → Prop} (h : isO K.1 l0 11 = true ∧ ∃ b2 : Nat, (M l0 11) = (b2 : Int) ∧ 0 < b2 ∧ isO K.1 b2 0 = true ∧ ((M b2 5) ≤ l5 → (¬ l1 = (0 : Int) → (¬ l1 = (1 : Int) → Wp d 123 115 [vR l0, vI l1, vI l2, vI l3, vI l4, vI l5, l6] [vI l4] M K Q) ∧ (¬ (¬ l1 = (1 : Int)) → Wp d 123 115 [vR l0, vI l1, vI l2, vI l3, vI l4, vI l5, l6] [vI l3] M K Q)) ∧ (¬ (¬ l1 = (0 : Int)) → Wp d 123 115 [vR l0, vI l1, vI l2, vI l3, vI l4, vI l5, l6] [vI l2] M K Q)) ∧ (¬ ((M b2 5) ≤ l5) → Wp d 123 35 [vR l0, vI l1, vI l2, vI l3, vI l4, vI l5, vI (0 : Int)] [] M K Q)) : Wp d 123 20 [vR l0, vI l1, vI l2, vI l3, vI l4, vI l5, l6] [] M K Q := by
  refine r_iload c123_20 rfl ?_
  refine r_aload_n c123_22 rfl ?_
  obtain ⟨s1, h⟩ := h
  obtain ⟨b2, h⟩ := h
  obtain ⟨s3, h⟩ := h
  obtain ⟨s4, h⟩ := h
  refine r_getR c123_23 s1 s3 s4 ?_
  obtain ⟨s5, h⟩ := h
  refine r_getI c123_26 s5 ?_
  refine r_icmpP (P := (M b2 5) ≤ l5) c123_29 rfl (fun hc => ?_) (fun hc => ?_)
  · replace h := h.1 hc
    refine r_iload_n c123_96 rfl ?_
    refine r_ifP (P := ¬ l1 = (0 : Int)) c123_97 rfl (fun hc => ?_) (fun hc => ?_)
    · replace h := h.1 hc
      refine r_iload_n c123_104 rfl ?_
      refine r_iconst c123_105 ?_
      refine r_icmpP (P := ¬ l1 = (1 : Int)) c123_106 rfl (fun hc => ?_) (fun hc => ?_)
      · replace h := h.1 hc
        refine r_iload c123_113 rfl ?_
        exact h
      · replace h := h.2 hc
        refine r_iload_n c123_109 rfl ?_
        refine r_goto c123_110 ?_
        exact h
    · replace h := h.2 hc
      refine r_iload_n c123_100 rfl ?_
      refine r_goto c123_101 ?_
      exact h
  · replace h := h.2 hc
    refine r_iconst c123_32 ?_
    refine r_istore c123_33 (Nat.le_of_ble_eq_true rfl) ?_
    exact h
theorem t123_35 {d : Nat} {l0 : Nat} {l1 : Int} {l2 : Int} {l3 : Int} {l4 : Int} {l5 : Int} {l6 : Int} {M : Mem} {K : KK} {Q : RR → Mem → KK → Prop} (h : isO K.1 l0 11 = true ∧ ∃ b2 : Nat, (M l0 11) = (b2 : Int) ∧ 0 < b2 ∧ isO K.1 b2 0 = true ∧ ((M b2 5) ≤ l6 → Wp (d + 1) 123 20 [vR l0, vI l1, vI l2, vI l3, vI l4, vI (w32 (l5 + 1)), vI l6] [] M K Q) ∧ (¬ ((M b2 5) ≤ l6) → isO K.1 l0 11 = true ∧ Wm d 148 [vR l0, vI l5, vI l6] M K (Bk d 123 52 55 148 [vR l0, vI l1, vI l2, vI l3, vI l4, vI l5, vI l6] [] Q))) : Wp (d + 1) 123 35 [vR l0, vI l1, vI l2, vI l3, vI l4, vI l5, vI l6] [] M K Q := by
  refine r_iload c123_35 rfl ?_
  refine r_aload_n c123_37 rfl ?_
  obtain ⟨s1, h⟩ := h
  obtain ⟨b2, h⟩ := h
  obtain ⟨s3, h⟩ := h
  obtain ⟨s4, h⟩ := h
  refine r_getR c123_38 s1 s3 s4 ?_
  obtain ⟨s5, h⟩ := h
  refine r_getI c123_41 s5 ?_
  refine r_icmpP (P := (M b2 5) ≤ l6) c123_44 rfl (fun hc => ?_) (fun hc => ?_)
  · replace h := h.1 hc
    refine r_iinc c123_90 rfl ?_
    refine r_goto c123_93 ?_
    exact h
  · replace h := h.2 hc
    refine r_aload_n c123_47 rfl ?_
    refine r_iload c123_48 rfl ?_
    refine r_iload c123_50 rfl ?_
    obtain ⟨s6, h⟩ := h
    exact r_call c123_52 rfl rfl (Nat.le_of_ble_eq_true rfl) (okc_r rfl rfl s6) h
theorem t123_55 {d : Nat} {l0 : Nat} {l1 : Int} {l2 : Int} {l3 : Int} {l4 : Int} {l5 : Int} {l6 : Int} {t0 : Int} {M : Mem} {K : KK} {Q : RR → Mem → KK → Prop} (h : (t0 = (0 : Int) → Wp (d + 1) 123 84 [vR l0, vI l1, vI l2, vI l3, vI l4, vI l5, vI l6] [] M K Q) ∧ (¬ (t0 = (0 : Int)) → (¬ l2 = (0 : Int) → Wp (d + 1) 123 81 [vR l0, vI l1, vI l2, vI l3, vI l4, vI l5, vI l6] [] M K Q) ∧ (¬ (¬ l2 = (0 : Int)) → isO K.1 l0 11 = true ∧ Wm d 147 [vR l0, vI l5, vI l6] M K (Bk d 123 76 79 147 [vR l0, vI l1, vI l2, vI (w32 ((w32 ((100 : Int) * l5)) + l6)), vI l4, vI l5, vI l6] [] Q)))) : Wp (d + 1) 123 55 [vR l0, vI l1, vI l2, vI l3, vI l4, vI l5, vI l6] [vI t0] M K Q := by
  refine r_ifP (P := t0 = (0 : Int)) c123_55 rfl (fun hc => ?_) (fun hc => ?_)
  · replace h := h.1 hc
    exact h
  · replace h := h.2 hc
    refine r_iload_n c123_58 rfl ?_
    refine r_ifP (P := ¬ l2 = (0 : Int)) c123_59 rfl (fun hc => ?_) (fun hc => ?_)
    · replace h := h.1 hc
      exact h
    · replace h := h.2 hc
      refine r_bipush c123_62 ?_
      refine r_iload c123_64 rfl ?_
      refine r_imul c123_66 ?_
      refine r_iload c123_67 rfl ?_
      refine r_iadd c123_69 ?_
      refine r_istore_n c123_70 (Nat.le_of_ble_eq_true rfl) ?_
      refine r_aload_n c123_71 rfl ?_
      refine r_iload c123_72 rfl ?_
      refine r_iload c123_74 rfl ?_
      obtain ⟨s1, h⟩ := h
      exact r_call c123_76 rfl rfl (Nat.le_of_ble_eq_true rfl) (okc_r rfl rfl s1) h
theorem t123_79 {d : Nat} {l0 : Nat} {l1 : Int} {l2 : Int} {l3 : Int} {l4 : Int} {l5 : Int} {l6 : Int} {t0 : Int} {M : Mem} {K : KK} {Q : RR → Mem → KK → Prop} (h : Wp d 123 81 [vR l0, vI l1, vI l2, vI l3, vI t0, vI l5, vI l6] [] M K Q) : Wp d 123 79 [vR l0, vI l1, vI l2, vI l3, vI l4, vI l5, vI l6] [vI t0] M K Q := by
  refine r_istore c123_79 (Nat.le_of_ble_eq_true rfl) ?_
  exact h
theorem t123_81 {d : Nat} {l0 : Nat} {l1 : Int} {l2 : Int} {l3 : Int} {l4 : Int} {l5 : Int} {l6 : Int} {M : Mem} {K : KK} {Q : RR → Mem → KK → Prop} (h : Wp d 123 84 [vR l0, vI l1, vI (w32 (l2 + 1)), vI l3, vI l4, vI l5, vI l6] [] M K Q) : Wp d 123 81 [vR l0, vI l1, vI l2, vI l3, vI l4, vI l5, vI l6] [] M K Q := by
  refine r_iinc c123_81 rfl ?_
  exact h
theorem t123_84 {d : Nat} {l0 : Nat} {l1 : Int} {l2 : Int} {l3 : Int} {l4 : Int} {l5 : Int} {l6 : Int} {M : Mem} {K : KK} {Q : RR → Mem → KK → Prop} (h : Wp d 123 35 [vR l0, vI l1, vI l2, vI l3, vI l4, vI l5, vI (w32 (l6 + 1))] [] M K Q) : Wp d 123 84 [vR l0, vI l1, vI l2, vI l3, vI l4, vI l5, vI l6] [] M K Q := by
  refine r_iinc c123_84 rfl ?_
  refine r_goto c123_87 ?_
  exact h
theorem t123_115 {d : Nat} {l0 : Nat} {l1 : Int} {l2 : Int} {l3 : Int} {l4 : Int} {l5 : Int} {l6 : PV} {t0 : Int} {M : Mem} {K : KK} {Q : RR → Mem → KK → Prop} (h : Q (.inl (some (vI t0))) M K) : Wp d 123 115 [vR l0, vI l1, vI l2, vI l3, vI l4, vI l5, l6] [vI t0] M K Q := by
  exact r_iret c123_115 (Or.inl rfl) h
theorem t124_0 {d : Nat} {l0 : Nat} {l1 : Int} {l2 : Int} {l3 : Int} {M : Mem} {K : KK} {Q : RR → Mem → KK → Prop} (h : isO K.1 l0 11 = true ∧ Wm d 138 [vR l0, vI l1] M K (Bk d 124 2 5 138 [vR l0, vI l1, vI l2, vI l3, vU, vU, vU, vU, vU, vU] [] Q)) : Wp (d + 1) 124 0 [vR l0, vI l1, vI l2, vI l3, vU, vU, vU, vU, vU, vU] [] M K Q := by
  refine r_aload_n c124_0 rfl ?_
  refine r_iload_n c124_1 rfl ?_
  obtain ⟨s1, h⟩ := h
  exact r_call c124_2 rfl rfl (Nat.le_of_ble_eq_true rfl) (okc_r rfl rfl s1) h
theorem t124_5 {d : Nat} {l0 : Nat} {l1 : Int} {l2 : Int} {l3 : Int} {M : Mem} {K : KK} {Q : RR → Mem → KK → Prop} (h : isO K.1 l0 11 = true ∧ ∃ b2 : Nat, (M l0 11) = (b2 : Int) ∧ 0 < b2 ∧ isO K.1 b2 0 = true ∧ Wm d 143 [vI l2, vI (M b2 6)] M K (Bk d 124 14 17 143 [vR l0, vI l1, vI l2, vI l3, vU, vU, vU, vU, vU, vU] [vR l0] Q)) : Wp (d + 1) 124 5 [vR l0, vI l1, vI l2, vI l3, vU, vU, vU, vU, vU, vU] [] M K Q := by
  refine r_aload_n c124_5 rfl ?_
  refine r_iload_n c124_6 rfl ?_
  refine r_aload_n c124_7 rfl ?_
  obtain ⟨s1, h⟩ := h
  obtain ⟨b2, h⟩ := h
  obtain ⟨s3, h⟩ := h
  obtain ⟨s4, h⟩ := h
  refine r_getR c124_8 s1 s3 s4 ?_
  obtain ⟨s5, h⟩ := h
  refine r_getI c124_11 s5 ?_
  exact r_call c124_14 rfl rfl (Nat.le_of_ble_eq_true rfl) (okc_s rfl rfl rfl) h
theorem t124_17 {d : Nat} {l0 : Nat} {l1 : Int} {l2 : Int} {l3 : Int} {t0 : Nat} {t1 : Int} {M : Mem} {K : KK} {Q : RR → Mem → KK → Prop} (h : (t1 = (0 : Int) → Wp (d + 1) 124 35 [vR l0, vI l1, vI l2, vI l3, vU, vU, vU, vU, vU, vU] [vR t0] M K Q) ∧ (¬ (t1 = (0 : Int)) → Wm d 142 [vI l3, vI (0 : Int), vI (999 : Int)] M K (Bk d 124 25 28 142 [vR l0, vI l1, vI l2, vI l3, vU, vU, vU, vU, vU, vU] [vR t0] Q))) : Wp (d + 1) 124 17 [vR l0, vI l1, vI l2, vI l3, vU, vU, vU, vU, vU, vU] [vI t1, vR t0] M K Q := by
  refine r_ifP (P := t1 = (0 : Int)) c124_17 rfl (fun hc => ?_) (fun hc => ?_)
  · replace h := h.1 hc
    exact h
  · replace h := h.2 hc
    refine r_iload_n c124_20 rfl ?_
    refine r_iconst c124_21 ?_
    refine r_sipush c124_22 ?_
    exact r_call c124_25 rfl rfl (Nat.le_of_ble_eq_true rfl) (okc_s rfl rfl rfl) h
theorem t124_28 {d : Nat} {l0 : Nat} {l1 : Int} {l2 : Int} {l3 : Int} {t0 : Nat} {t1 : Int} {M : Mem} {K : KK} {Q : RR → Mem → KK → Prop} (h : (t1 = (0 : Int) → Wp d 124 35 [vR l0, vI l1, vI l2, vI l3, vU, vU, vU, vU, vU, vU] [vR t0] M K Q) ∧ (¬ (t1 = (0 : Int)) → Wp d 124 36 [vR l0, vI l1, vI l2, vI l3, vU, vU, vU, vU, vU, vU] [vI (1 : Int), vR t0] M K Q)) : Wp d 124 28 [vR l0, vI l1, vI l2, vI l3, vU, vU, vU, vU, vU, vU] [vI t1, vR t0] M K Q := by
  refine r_ifP (P := t1 = (0 : Int)) c124_28 rfl (fun hc => ?_) (fun hc => ?_)
  · replace h := h.1 hc
    exact h
  · replace h := h.2 hc
    refine r_iconst c124_31 ?_
    refine r_goto c124_32 ?_
    exact h
theorem t124_35 {d : Nat} {l0 : Nat} {l1 : Int} {l2 : Int} {l3 : Int} {t0 : Nat} {M : Mem} {K : KK} {Q : RR → Mem → KK → Prop} (h : Wp d 124 36 [vR l0, vI l1, vI l2, vI l3, vU, vU, vU, vU, vU, vU] [vI (0 : Int), vR t0] M K Q) : Wp d 124 35 [vR l0, vI l1, vI l2, vI l3, vU, vU, vU, vU, vU, vU] [vR t0] M K Q := by
  refine r_iconst c124_35 ?_
  exact h
theorem t124_36 {d : Nat} {l0 : Nat} {l1 : Int} {l2 : Int} {l3 : Int} {t0 : Nat} {t1 : Int} {M : Mem} {K : KK} {Q : RR → Mem → KK → Prop} (h : isO K.1 t0 11 = true ∧ Wm d 136 [vR t0, vI t1] M K (Bk d 124 36 39 136 [vR l0, vI l1, vI l2, vI l3, vU, vU, vU, vU, vU, vU] [] Q)) : Wp (d + 1) 124 36 [vR l0, vI l1, vI l2, vI l3, vU, vU, vU, vU, vU, vU] [vI t1, vR t0] M K Q := by
  obtain ⟨s1, h⟩ := h
  exact r_call c124_36 rfl rfl (Nat.le_of_ble_eq_true rfl) (okc_r rfl rfl s1) h
theorem t124_39 {d : Nat} {l0 : Nat} {l1 : Int} {l2 : Int} {l3 : Int} {M : Mem} {K : KK} {Q : RR → Mem → KK → Prop} (h : isO K.1 l0 11 = true ∧ ∃ b2 : Nat, (M l0 11) = (b2 : Int) ∧ 0 < b2 ∧ isO K.1 b2 0 = true ∧ Wm d 9 [vR b2, vI l2] M K (Bk d 124 44 47 9 [vR l0, vI l1, vI l2, vI l3, vU, vU, vU, vU, vU, vU] [] Q)) : Wp (d + 1) 124 39 [vR l0, vI l1, vI l2, vI l3, vU, vU, vU, vU, vU, vU] [] M K Q := by
  refine r_aload_n c124_39 rfl ?_
  obtain ⟨s1, h⟩ := h
  obtain ⟨b2, h⟩ := h
  obtain ⟨s3, h⟩ := h
  obtain ⟨s4, h⟩ := h
  refine r_getR c124_40 s1 s3 s4 ?_
  refine r_iload_n c124_43 rfl ?_
  obtain ⟨s5, h⟩ := h
  exact r_call c124_44 rfl rfl (Nat.le_of_ble_eq_true rfl) (okc_r rfl rfl s5) h
theorem t124_47 {d : Nat} {l0 : Nat} {l1 : Int} {l2 : Int} {l3 : Int} {t0 : Int} {M : Mem} {K : KK} {Q : RR → Mem → KK → Prop} (h : ((jand (jshr l2 l1) (1 : Int)) = (0 : Int) → Wp d 124 62 [vR l0, vI l1, vI l2, vI l3, vI t0, vU, vU, vU, vU, vU] [] M K Q) ∧ (¬ ((jand (jshr l2 l1) (1 : Int)) = (0 : Int)) → ((0 : Int) < t0 → isO K.1 l0 11 = true ∧ ∃ b2 : Nat, (M l0 11) = (b2 : Int) ∧ 0 < b2 ∧ isO K.1 b2 0 = true ∧ ∃ b6 : Nat, (M b2 1) = (b6 : Int) ∧ 0 < b6 ∧ isO K.1 b6 20 = true ∧ (0 ≤ l1 ∧ l1 < (ln b6 : Int)) ∧ t0 ≠ 0 ∧ Wp d 124 89 [vR l0, vI l1, vI l2, vI l3, vI t0, vI l3, vI (0 : Int), vI (Int.tmod (w32 (l3 * (M b6 (Int.toNat l1)))) t0), vI (0 : Int), vU] [] M K Q) ∧ (¬ ((0 : Int) < t0) → Wp d 124 62 [vR l0, vI l1, vI l2, vI l3, vI t0, vU, vU, vU, vU, vU] [] M K Q))) : Wp d 124 47 [vR l0, vI l1, vI l2, vI l3, vU, vU, vU, vU, vU, vU] [vI t0] M K Q := by
  refine r_istore c124_47 (Nat.le_of_ble_eq_true rfl) ?_
  refine r_iload_n c124_49 rfl ?_
  refine r_iload_n c124_50 rfl ?_
  refine r_ishr c124_51 ?_
  refine r_iconst c124_52 ?_
  refine r_iand c124_53 ?_
  refine r_ifP (P := (jand (jshr l2 l1) (1 : Int)) = (0 : Int)) c124_54 rfl (fun hc => ?_) (fun hc => ?_)
  · replace h := h.1 hc
    exact h
  · replace h := h.2 hc
    refine r_iload c124_57 rfl ?_
    refine r_ifP (P := (0 : Int) < t0) c124_59 rfl (fun hc => ?_) (fun hc => ?_)
    · replace h := h.1 hc
      refine r_iload_n c124_64 rfl ?_
      refine r_istore c124_65 (Nat.le_of_ble_eq_true rfl) ?_
      refine r_iconst c124_67 ?_
      refine r_istore c124_68 (Nat.le_of_ble_eq_true rfl) ?_
      refine r_iload_n c124_70 rfl ?_
      refine r_aload_n c124_71 rfl ?_
      obtain ⟨s1, h⟩ := h
      obtain ⟨b2, h⟩ := h
      obtain ⟨s3, h⟩ := h
      obtain ⟨s4, h⟩ := h
      refine r_getR c124_72 s1 s3 s4 ?_
      obtain ⟨s5, h⟩ := h
      obtain ⟨b6, h⟩ := h
      obtain ⟨s7, h⟩ := h
      obtain ⟨s8, h⟩ := h
      refine r_getR c124_75 s5 s7 s8 ?_
      refine r_iload_n c124_78 rfl ?_
      obtain ⟨s9, h⟩ := h
      obtain ⟨s10, h⟩ := h
      refine r_ia c124_79 s9 s10 ?_
      refine r_imul c124_80 ?_
      refine r_iload c124_81 rfl ?_
      obtain ⟨s11, h⟩ := h
      refine r_irem c124_83 s11 ?_
      refine r_istore c124_84 (Nat.le_of_ble_eq_true rfl) ?_
      refine r_iconst c124_86 ?_
      refine r_istore c124_87 (Nat.le_of_ble_eq_true rfl) ?_
      exact h
    · replace h := h.2 hc
      exact h
theorem t124_62 {d : Nat} {l0 : Nat} {l1 : Int} {l2 : Int} {l3 : Int} {l4 : Int} {M : Mem} {K : KK} {Q : RR → Mem → KK → Prop} (h : Q (.inl (some (vI (0 : Int)))) M K) : Wp d 124 62 [vR l0, vI l1, vI l2, vI l3, vI l4, vU, vU, vU, vU, vU] [] M K Q := by
  refine r_iconst c124_62 ?_
  exact r_iret c124_63 (Or.inl rfl) h
theorem t124_89 {d : Nat} {l0 : Nat} {l1 : Int} {l2 : Int} {l3 : Int} {l4 : Int} {l5 : Int} {l6 : Int} {l7 : Int} {l8 : Int} {l9 : PV} {M : Mem} {K : KK} {Q : RR → Mem → KK → Prop} (h : isO K.1 l0 11 = true ∧ ∃ b2 : Nat, (M l0 11) = (b2 : Int) ∧ 0 < b2 ∧ isO K.1 b2 0 = true ∧ ((M b2 6) ≤ l8 → isO K.1 l0 11 = true ∧ ∃ b7 : Nat, (M l0 11) = (b7 : Int) ∧ 0 < b7 ∧ isO K.1 b7 0 = true ∧ ∃ b11 : Nat, (M b7 1) = (b11 : Int) ∧ 0 < b11 ∧ isO K.1 b11 20 = true ∧ (0 ≤ l1 ∧ l1 < (ln b11 : Int)) ∧ l4 ≠ 0 ∧ (l5 ≤ l6 → Wp d 124 210 [vR l0, vI l1, vI l2, vI l3, vI l4, vI l5, vI l6, vI l7, vI l8, l9] [vI (0 : Int), vI (w32 (Int.tdiv (w32 (l3 * (M b11 (Int.toNat l1)))) l4))] M K Q) ∧ (¬ (l5 ≤ l6) → Wp d 124 210 [vR l0, vI l1, vI l2, vI l3, vI l4, vI l5, vI l6, vI l7, vI l8, l9] [vI (1 : Int), vI (w32 (Int.tdiv (w32 (l3 * (M b11 (Int.toNat l1)))) l4))] M K Q)) ∧ (¬ ((M b2 6) ≤ l8) → (¬ (jand (jshr l2 l8) (1 : Int)) = (1 : Int) → Wp d 124 178 [vR l0, vI l1, vI l2, vI l3, vI l4, vI l5, vI l6, vI l7, vI l8, l9] [] M K Q) ∧ (¬ (¬ (jand (jshr l2 l8) (1 : Int)) = (1 : Int)) → isO K.1 l0 11 = true ∧ ∃ b18 : Nat, (M l0 11) = (b18 : Int) ∧ 0 < b18 ∧ isO K.1 b18 0 = true ∧ ∃ b22 : Nat, (M b18 1) = (b22 : Int) ∧ 0 < b22 ∧ isO K.1 b22 20 = true ∧ (0 ≤ l8 ∧ l8 < (ln b22 : Int)) ∧ l4 ≠ 0 ∧ isO K.1 l0 11 = true ∧ ∃ b29 : Nat, (M l0 11) = (b29 : Int) ∧ 0 < b29 ∧ isO K.1 b29 0 = true ∧ ∃ b33 : Nat, (M b29 1) = (b33 : Int) ∧ 0 < b33 ∧ isO K.1 b33 20 = true ∧ (0 ≤ l8 ∧ l8 < (ln b33 : Int)) ∧ l4 ≠ 0 ∧ (l7 < (Int.tmod (w32 (l3 * (M b22 (Int.toNat l8)))) l4) → Wp d 124 170 [vR l0, vI l1, vI l2, vI l3, vI l4, vI (w32 (l5 - (w32 (Int.tdiv (w32 (l3 * (M b33 (Int.toNat l8)))) l4)))), vI l6, vI l7, vI l8, vI (Int.tmod (w32 (l3 * (M b22 (Int.toNat l8)))) l4)] [vI l6] M K Q) ∧ (¬ (l7 < (Int.tmod (w32 (l3 * (M b22 (Int.toNat l8)))) l4)) → (¬ (Int.tmod (w32 (l3 * (M b22 (Int.toNat l8)))) l4) = l7 → Wp d 124 174 [vR l0, vI l1, vI l2, vI l3, vI l4, vI (w32 (l5 - (w32 (Int.tdiv (w32 (l3 * (M b33 (Int.toNat l8)))) l4)))), vI l6, vI l7, vI l8, vI (Int.tmod (w32 (l3 * (M b22 (Int.toNat l8)))) l4)] [vI l6] M K Q) ∧ (¬ (¬ (Int.tmod (w32 (l3 * (M b22 (Int.toNat l8)))) l4) = l7) → (l1 ≤ l8 → Wp d 124 174 [vR l0, vI l1, vI l2, vI l3, vI l4, vI (w32 (l5 - (w32 (Int.tdiv (w32 (l3 * (M b33 (Int.toNat l8)))) l4)))), vI l6, vI l7, vI l8, vI (Int.tmod (w32 (l3 * (M b22 (Int.toNat l8)))) l4)] [vI l6] M K Q) ∧ (¬ (l1 ≤ l8) → Wp d 124 170 [vR l0, vI l1, vI l2, vI l3, vI l4, vI (w32 (l5 - (w32 (Int.tdiv (w32 (l3 * (M b33 (Int.toNat l8)))) l4)))), vI l6, vI l7, vI l8, vI (Int.tmod (w32 (l3 * (M b22 (Int.toNat l8)))) l4)] [vI l6] M K Q)))))) : Wp d 124 89 [vR l0, vI l1, vI l2, vI l3, vI l4, vI l5, vI l6, vI l7, vI l8, l9] [] M K Q := by
  refine r_iload c124_89 rfl ?_
  refine r_aload_n c124_91 rfl ?_
  obtain ⟨s1, h⟩ := h
  obtain ⟨b2, h⟩ := h
  obtain ⟨s3, h⟩ := h
  obtain ⟨s4, h⟩ := h
  refine r_getR c124_92 s1 s3 s4 ?_
  obtain ⟨s5, h⟩ := h
  refine r_getI c124_95 s5 ?_
  refine r_icmpP (P := (M b2 6) ≤ l8) c124_98 rfl (fun hc => ?_) (fun hc => ?_)
  · replace h := h.1 hc
    refine r_iload_n c124_184 rfl ?_
    refine r_aload_n c124_185 rfl ?_
    obtain ⟨s6, h⟩ := h
    obtain ⟨b7, h⟩ := h
    obtain ⟨s8, h⟩ := h
    obtain ⟨s9, h⟩ := h
    refine r_getR c124_186 s6 s8 s9 ?_
    obtain ⟨s10, h⟩ := h
    obtain ⟨b11, h⟩ := h
    obtain ⟨s12, h⟩ := h
    obtain ⟨s13, h⟩ := h
    refine r_getR c124_189 s10 s12 s13 ?_
    refine r_iload_n c124_192 rfl ?_
    obtain ⟨s14, h⟩ := h
    obtain ⟨s15, h⟩ := h
    refine r_ia c124_193 s14 s15 ?_
    refine r_imul c124_194 ?_
    refine r_iload c124_195 rfl ?_
    obtain ⟨s16, h⟩ := h
    refine r_idiv c124_197 s16 ?_
    refine r_iload c124_198 rfl ?_
    refine r_iload c124_200 rfl ?_
    refine r_icmpP (P := l5 ≤ l6) c124_202 rfl (fun hc => ?_) (fun hc => ?_)
    · replace h := h.1 hc
      refine r_iconst c124_209 ?_
      exact h
    · replace h := h.2 hc
      refine r_iconst c124_205 ?_
      refine r_goto c124_206 ?_
      exact h
  · replace h := h.2 hc
    refine r_iload_n c124_101 rfl ?_
    refine r_iload c124_102 rfl ?_
    refine r_ishr c124_104 ?_
    refine r_iconst c124_105 ?_
    refine r_iand c124_106 ?_
    refine r_iconst c124_107 ?_
    refine r_icmpP (P := ¬ (jand (jshr l2 l8) (1 : Int)) = (1 : Int)) c124_108 rfl (fun hc => ?_) (fun hc => ?_)
    · replace h := h.1 hc
      exact h
    · replace h := h.2 hc
      refine r_iload_n c124_111 rfl ?_
      refine r_aload_n c124_112 rfl ?_
      obtain ⟨s17, h⟩ := h
      obtain ⟨b18, h⟩ := h
      obtain ⟨s19, h⟩ := h
      obtain ⟨s20, h⟩ := h
      refine r_getR c124_113 s17 s19 s20 ?_
      obtain ⟨s21, h⟩ := h
      obtain ⟨b22, h⟩ := h
      obtain ⟨s23, h⟩ := h
      obtain ⟨s24, h⟩ := h
      refine r_getR c124_116 s21 s23 s24 ?_
      refine r_iload c124_119 rfl ?_
      obtain ⟨s25, h⟩ := h
      obtain ⟨s26, h⟩ := h
      refine r_ia c124_121 s25 s26 ?_
      refine r_imul c124_122 ?_
      refine r_iload c124_123 rfl ?_
      obtain ⟨s27, h⟩ := h
      refine r_irem c124_125 s27 ?_
      refine r_istore c124_126 (Nat.le_of_ble_eq_true rfl) ?_
      refine r_iload c124_128 rfl ?_
      refine r_iload_n c124_130 rfl ?_
      refine r_aload_n c124_131 rfl ?_
      obtain ⟨s28, h⟩ := h
      obtain ⟨b29, h⟩ := h
      obtain ⟨s30, h⟩ := h
      obtain ⟨s31, h⟩ := h
      refine r_getR c124_132 s28 s30 s31 ?_
      obtain ⟨s32, h⟩ := h
      obtain ⟨b33, h⟩ := h
      obtain ⟨s34, h⟩ := h
      obtain ⟨s35, h⟩ := h
      refine r_getR c124_135 s32 s34 s35 ?_
      refine r_iload c124_138 rfl ?_
      obtain ⟨s36, h⟩ := h
      obtain ⟨s37, h⟩ := h
      refine r_ia c124_140 s36 s37 ?_
      refine r_imul c124_141 ?_
      refine r_iload c124_142 rfl ?_
      obtain ⟨s38, h⟩ := h
      refine r_idiv c124_144 s38 ?_
      refine r_isub c124_145 ?_
      refine r_istore c124_146 (Nat.le_of_ble_eq_true rfl) ?_
      refine r_iload c124_148 rfl ?_
      refine r_iload c124_150 rfl ?_
      refine r_iload c124_152 rfl ?_
      refine r_icmpP (P := l7 < (Int.tmod (w32 (l3 * (M b22 (Int.toNat l8)))) l4)) c124_154 rfl (fun hc => ?_) (fun hc => ?_)
      · replace h := h.1 hc
        exact h
      · replace h := h.2 hc
        refine r_iload c124_157 rfl ?_
        refine r_iload c124_159 rfl ?_
        refine r_icmpP (P := ¬ (Int.tmod (w32 (l3 * (M b22 (Int.toNat l8)))) l4) = l7) c124_161 rfl (fun hc => ?_) (fun hc => ?_)
        · replace h := h.1 hc
          exact h
        · replace h := h.2 hc
          refine r_iload c124_164 rfl ?_
          refine r_iload_n c124_166 rfl ?_
          refine r_icmpP (P := l1 ≤ l8) c124_167 rfl (fun hc => ?_) (fun hc => ?_)
          · replace h := h.1 hc
            exact h
          · replace h := h.2 hc
            exact h
theorem t124_170 {d : Nat} {l0 : Nat} {l1 : Int} {l2 : Int} {l3 : Int} {l4 : Int} {l5 : Int} {l6 : Int} {l7 : Int} {l8 : Int} {l9 : Int} {t0 : Int} {M : Mem} {K : KK} {Q : RR → Mem → KK → Prop} (h : Wp d 124 175 [vR l0, vI l1, vI l2, vI l3, vI l4, vI l5, vI l6, vI l7, vI l8, vI l9] [vI (1 : Int), vI t0] M K Q) : Wp d 124 170 [vR l0, vI l1, vI l2, vI l3, vI l4, vI l5, vI l6, vI l7, vI l8, vI l9] [vI t0] M K Q := by
  refine r_iconst c124_170 ?_
  refine r_goto c124_171 ?_
  exact h
theorem t124_174 {d : Nat} {l0 : Nat} {l1 : Int} {l2 : Int} {l3 : Int} {l4 : Int} {l5 : Int} {l6 : Int} {l7 : Int} {l8 : Int} {l9 : Int} {t0 : Int} {M : Mem} {K : KK} {Q : RR → Mem → KK → Prop} (h : Wp d 124 175 [vR l0, vI l1, vI l2, vI l3, vI l4, vI l5, vI l6, vI l7, vI l8, vI l9] [vI (0 : Int), vI t0] M K Q) : Wp d 124 174 [vR l0, vI l1, vI l2, vI l3, vI l4, vI l5, vI l6, vI l7, vI l8, vI l9] [vI t0] M K Q := by
  refine r_iconst c124_174 ?_
  exact h
theorem t124_175 {d : Nat} {l0 : Nat} {l1 : Int} {l2 : Int} {l3 : Int} {l4 : Int} {l5 : Int} {l6 : Int} {l7 : Int} {l8 : Int} {l9 : Int} {t0 : Int} {t1 : Int} {M : Mem} {K : KK} {Q : RR → Mem → KK → Prop} (h : Wp d 124 178 [vR l0, vI l1, vI l2, vI l3, vI l4, vI l5, vI (w32 (t0 + t1)), vI l7, vI l8, vI l9] [] M K Q) : Wp d 124 175 [vR l0, vI l1, vI l2, vI l3, vI l4, vI l5, vI l6, vI l7, vI l8, vI l9] [vI t1, vI t0] M K Q := by
  refine r_iadd c124_175 ?_
  refine r_istore c124_176 (Nat.le_of_ble_eq_true rfl) ?_
  exact h
theorem t124_178 {d : Nat} {l0 : Nat} {l1 : Int} {l2 : Int} {l3 : Int} {l4 : Int} {l5 : Int} {l6 : Int} {l7 : Int} {l8 : Int} {l9 : PV} {M : Mem} {K : KK} {Q : RR → Mem → KK → Prop} (h : Wp d 124 89 [vR l0, vI l1, vI l2, vI l3, vI l4, vI l5, vI l6, vI l7, vI (w32 (l8 + 1)), l9] [] M K Q) : Wp d 124 178 [vR l0, vI l1, vI l2, vI l3, vI l4, vI l5, vI l6, vI l7, vI l8, l9] [] M K Q := by
  refine r_iinc c124_178 rfl ?_
  refine r_goto c124_181 ?_
  exact h
theorem t124_210 {d : Nat} {l0 : Nat} {l1 : Int} {l2 : Int} {l3 : Int} {l4 : Int} {l5 : Int} {l6 : Int} {l7 : Int} {l8 : Int} {l9 : PV} {t0 : Int} {t1 : Int} {M : Mem} {K : KK} {Q : RR → Mem → KK → Prop} (h : Q (.inl (some (vI (w32 (t0 + t1))))) M K) : Wp d 124 210 [vR l0, vI l1, vI l2, vI l3, vI l4, vI l5, vI l6, vI l7, vI l8, l9] [vI t1, vI t0] M K Q := by
  refine r_iadd c124_210 ?_
  exact r_iret c124_211 (Or.inl rfl) h
theorem t125_0 {d : Nat} {l0 : Nat} {l1 : Int} {M : Mem} {K : KK} {Q : RR → Mem → KK → Prop} (h : Wm d 142 [vI l1, vI (0 : Int), vI (1 : Int)] M K (Bk d 125 4 7 142 [vR l0, vI l1, vU, vU, vU, vU, vU] [vR l0] Q)) : Wp (d + 1) 125 0 [vR l0, vI l1, vU, vU, vU, vU, vU] [] M K Q := by
  refine r_aload_n c125_0 rfl ?_
  refine r_iload_n c125_1 rfl ?_
  refine r_iconst c125_2 ?_
  refine r_iconst c125_3 ?_
  exact r_call c125_4 rfl rfl (Nat.le_of_ble_eq_true rfl) (okc_s rfl rfl rfl) h
theorem t125_7 {d : Nat} {l0 : Nat} {l1 : Int} {t0 : Nat} {t1 : Int} {M : Mem} {K : KK} {Q : RR → Mem → KK → Prop} (h : isO K.1 t0 11 = true ∧ Wm d 136 [vR t0, vI t1] M K (Bk d 125 7 10 136 [vR l0, vI l1, vU, vU, vU, vU, vU] [] Q)) : Wp (d + 1) 125 7 [vR l0, vI l1, vU, vU, vU, vU, vU] [vI t1, vR t0] M K Q := by
  obtain ⟨s1, h⟩ := h
  exact r_call c125_7 rfl rfl (Nat.le_of_ble_eq_true rfl) (okc_r rfl rfl s1) h
theorem t125_10 {d : Nat} {l0 : Nat} {l1 : Int} {M : Mem} {K : KK} {Q : RR → Mem → KK → Prop} (h : isO K.1 l0 11 = true ∧ ∃ b2 : Nat, (M l0 2) = (b2 : Int) ∧ 0 < b2 ∧ isO K.1 l0 11 = true ∧ ∃ b6 : Nat, (M l0 11) = (b6 : Int) ∧ 0 < b6 ∧ isO K.1 b2 3 = true ∧ Wm d 39 [vR b2, vR b6] M K (Bk d 125 18 21 39 [vR l0, vI l1, vU, vU, vU, vU, vU] [] Q)) : Wp (d + 1) 125 10 [vR l0, vI l1, vU, vU, vU, vU, vU] [] M K Q := by
  refine r_aload_n c125_10 rfl ?_
  obtain ⟨s1, h⟩ := h
  obtain ⟨b2, h⟩ := h
  obtain ⟨s3, h⟩ := h
  obtain ⟨s4, h⟩ := h
  refine r_getR c125_11 s1 s3 s4 ?_
  refine r_aload_n c125_14 rfl ?_
  obtain ⟨s5, h⟩ := h
  obtain ⟨b6, h⟩ := h
  obtain ⟨s7, h⟩ := h
  obtain ⟨s8, h⟩ := h
  refine r_getR c125_15 s5 s7 s8 ?_
  obtain ⟨s9, h⟩ := h
  exact r_call c125_18 rfl rfl (Nat.le_of_ble_eq_true rfl) (okc_r rfl rfl s9) h
theorem t125_21 {d : Nat} {l0 : Nat} {l1 : Int} {t0 : Int} {M : Mem} {K : KK} {Q : RR → Mem → KK → Prop} (h : Wp d 125 33 [vR l0, vI l1, vI t0, vI (0 : Int), vI (-1 : Int), vI (0 : Int), vI (0 : Int)] [] M K Q) : Wp d 125 21 [vR l0, vI l1, vU, vU, vU, vU, vU] [vI t0] M K Q := by
  refine r_istore_n c125_21 (Nat.le_of_ble_eq_true rfl) ?_
  refine r_iconst c125_22 ?_
  refine r_istore_n c125_23 (Nat.le_of_ble_eq_true rfl) ?_
  refine r_iconst c125_24 ?_
  refine r_istore c125_25 (Nat.le_of_ble_eq_true rfl) ?_
  refine r_iconst c125_27 ?_
  refine r_istore c125_28 (Nat.le_of_ble_eq_true rfl) ?_
  refine r_iconst c125_30 ?_
  refine r_istore c125_31 (Nat.le_of_ble_eq_true rfl) ?_
  exact h
theorem t125_33 {d : Nat} {l0 : Nat} {l1 : Int} {l2 : Int} {l3 : Int} {l4 : Int} {l5 : Int} {l6 : Int} {M : Mem} {K : KK} {Q : RR → Mem → KK → Prop} (h : isO K.1 l0 11 = true ∧ ∃ b2 : Nat, (M l0 11) = (b2 : Int) ∧ 0 < b2 ∧ isO K.1 b2 0 = true ∧ ((M b2 5) ≤ l6 → (¬ l1 = (0 : Int) → Wp d 125 99 [vR l0, vI l1, vI l2, vI l3, vI l4, vI l5, vI l6] [vI l4] M K Q) ∧ (¬ (¬ l1 = (0 : Int)) → Wp d 125 99 [vR l0, vI l1, vI l2, vI l3, vI l4, vI l5, vI l6] [vI l3] M K Q)) ∧ (¬ ((M b2 5) ≤ l6) → (¬ (jand (jshr l2 l6) (1 : Int)) = (1 : Int) → Wp d 125 63 [vR l0, vI l1, vI l2, vI l3, vI l4, vI l5, vI l6] [vI (w32 (l5 + (1 : Int)))] M K Q) ∧ (¬ (¬ (jand (jshr l2 l6) (1 : Int)) = (1 : Int)) → Wp d 125 63 [vR l0, vI l1, vI l2, vI l3, vI l4, vI l5, vI l6] [vI (0 : Int)] M K Q))) : Wp d 125 33 [vR l0, vI l1, vI l2, vI l3, vI l4, vI l5, vI l6] [] M K Q := by
  refine r_iload c125_33 rfl ?_
  refine r_aload_n c125_35 rfl ?_
  obtain ⟨s1, h⟩ := h
  obtain ⟨b2, h⟩ := h
  obtain ⟨s3, h⟩ := h
  obtain ⟨s4, h⟩ := h
  refine r_getR c125_36 s1 s3 s4 ?_
  obtain ⟨s5, h⟩ := h
  refine r_getI c125_39 s5 ?_
  refine r_icmpP (P := (M b2 5) ≤ l6) c125_42 rfl (fun hc => ?_) (fun hc => ?_)
  · replace h := h.1 hc
    refine r_iload_n c125_89 rfl ?_
    refine r_ifP (P := ¬ l1 = (0 : Int)) c125_90 rfl (fun hc => ?_) (fun hc => ?_)
    · replace h := h.1 hc
      refine r_iload c125_97 rfl ?_
      exact h
    · replace h := h.2 hc
      refine r_iload_n c125_93 rfl ?_
      refine r_goto c125_94 ?_
      exact h
  · replace h := h.2 hc
    refine r_iload_n c125_45 rfl ?_
    refine r_iload c125_46 rfl ?_
    refine r_ishr c125_48 ?_
    refine r_iconst c125_49 ?_
    refine r_iand c125_50 ?_
    refine r_iconst c125_51 ?_
    refine r_icmpP (P := ¬ (jand (jshr l2 l6) (1 : Int)) = (1 : Int)) c125_52 rfl (fun hc => ?_) (fun hc => ?_)
    · replace h := h.1 hc
      refine r_iload c125_59 rfl ?_
      refine r_iconst c125_61 ?_
      refine r_iadd c125_62 ?_
      exact h
    · replace h := h.2 hc
      refine r_iconst c125_55 ?_
      refine r_goto c125_56 ?_
      exact h
theorem t125_63 {d : Nat} {l0 : Nat} {l1 : Int} {l2 : Int} {l3 : Int} {l4 : Int} {l5 : Int} {l6 : Int} {t0 : Int} {M : Mem} {K : KK} {Q : RR → Mem → KK → Prop} (h : (t0 ≤ l3 → Wp d 125 83 [vR l0, vI l1, vI l2, vI l3, vI l4, vI t0, vI l6] [] M K Q) ∧ (¬ (t0 ≤ l3) → Wp d 125 83 [vR l0, vI l1, vI l2, vI t0, vI (w32 ((w32 (l6 - t0)) + (1 : Int))), vI t0, vI l6] [] M K Q)) : Wp d 125 63 [vR l0, vI l1, vI l2, vI l3, vI l4, vI l5, vI l6] [vI t0] M K Q := by
  refine r_istore c125_63 (Nat.le_of_ble_eq_true rfl) ?_
  refine r_iload c125_65 rfl ?_
  refine r_iload_n c125_67 rfl ?_
  refine r_icmpP (P := t0 ≤ l3) c125_68 rfl (fun hc => ?_) (fun hc => ?_)
  · replace h := h.1 hc
    exact h
  · replace h := h.2 hc
    refine r_iload c125_71 rfl ?_
    refine r_istore_n c125_73 (Nat.le_of_ble_eq_true rfl) ?_
    refine r_iload c125_74 rfl ?_
    refine r_iload c125_76 rfl ?_
    refine r_isub c125_78 ?_
    refine r_iconst c125_79 ?_
    refine r_iadd c125_80 ?_
    refine r_istore c125_81 (Nat.le_of_ble_eq_true rfl) ?_
    exact h
theorem t125_83 {d : Nat} {l0 : Nat} {l1 : Int} {l2 : Int} {l3 : Int} {l4 : Int} {l5 : Int} {l6 : Int} {M : Mem} {K : KK} {Q : RR → Mem → KK → Prop} (h : Wp d 125 33 [vR l0, vI l1, vI l2, vI l3, vI l4, vI l5, vI (w32 (l6 + 1))] [] M K Q) : Wp d 125 83 [vR l0, vI l1, vI l2, vI l3, vI l4, vI l5, vI l6] [] M K Q := by
  refine r_iinc c125_83 rfl ?_
  refine r_goto c125_86 ?_
  exact h
theorem t125_99 {d : Nat} {l0 : Nat} {l1 : Int} {l2 : Int} {l3 : Int} {l4 : Int} {l5 : Int} {l6 : Int} {t0 : Int} {M : Mem} {K : KK} {Q : RR → Mem → KK → Prop} (h : Q (.inl (some (vI t0))) M K) : Wp d 125 99 [vR l0, vI l1, vI l2, vI l3, vI l4, vI l5, vI l6] [vI t0] M K Q := by
  exact r_iret c125_99 (Or.inl rfl) h
theorem t126_0 {d : Nat} {l0 : Nat} {l1 : Int} {M : Mem} {K : KK} {Q : RR → Mem → KK → Prop} (h : Wm d 142 [vI l1, vI (0 : Int), vI (1 : Int)] M K (Bk d 126 4 7 142 [vR l0, vI l1, vU, vU, vU] [vR l0] Q)) : Wp (d + 1) 126 0 [vR l0, vI l1, vU, vU, vU] [] M K Q := by
  refine r_aload_n c126_0 rfl ?_
  refine r_iload_n c126_1 rfl ?_
  refine r_iconst c126_2 ?_
  refine r_iconst c126_3 ?_
  exact r_call c126_4 rfl rfl (Nat.le_of_ble_eq_true rfl) (okc_s rfl rfl rfl) h
theorem t126_7 {d : Nat} {l0 : Nat} {l1 : Int} {t0 : Nat} {t1 : Int} {M : Mem} {K : KK} {Q : RR → Mem → KK → Prop} (h : isO K.1 t0 11 = true ∧ Wm d 136 [vR t0, vI t1] M K (Bk d 126 7 10 136 [vR l0, vI l1, vU, vU, vU] [] Q)) : Wp (d + 1) 126 7 [vR l0, vI l1, vU, vU, vU] [vI t1, vR t0] M K Q := by
  obtain ⟨s1, h⟩ := h
  exact r_call c126_7 rfl rfl (Nat.le_of_ble_eq_true rfl) (okc_r rfl rfl s1) h
theorem t126_10 {d : Nat} {l0 : Nat} {l1 : Int} {M : Mem} {K : KK} {Q : RR → Mem → KK → Prop} (h : Wp d 126 17 [vR l0, vI l1, vI (-1 : Int), vI (-1 : Int), vI (0 : Int)] [] M K Q) : Wp d 126 10 [vR l0, vI l1, vU, vU, vU] [] M K Q := by
  refine r_iconst c126_10 ?_
  refine r_istore_n c126_11 (Nat.le_of_ble_eq_true rfl) ?_
  refine r_iconst c126_12 ?_
  refine r_istore_n c126_13 (Nat.le_of_ble_eq_true rfl) ?_
  refine r_iconst c126_14 ?_
  refine r_istore c126_15 (Nat.le_of_ble_eq_true rfl) ?_
  exact h
theorem t126_17 {d : Nat} {l0 : Nat} {l1 : Int} {l2 : Int} {l3 : Int} {l4 : Int} {M : Mem} {K : KK} {Q : RR → Mem → KK → Prop} (h : isO K.1 l0 11 = true ∧ ∃ b2 : Nat, (M l0 11) = (b2 : Int) ∧ 0 < b2 ∧ isO K.1 b2 0 = true ∧ ((M b2 6) ≤ l4 → (¬ l1 = (0 : Int) → Wp d 126 86 [vR l0, vI l1, vI l2, vI l3, vI l4] [vI l3] M K Q) ∧ (¬ (¬ l1 = (0 : Int)) → Wp d 126 86 [vR l0, vI l1, vI l2, vI l3, vI l4] [vI l2] M K Q)) ∧ (¬ ((M b2 6) ≤ l4) → isO K.1 l0 11 = true ∧ ∃ b7 : Nat, (M l0 2) = (b7 : Int) ∧ 0 < b7 ∧ isO K.1 b7 3 = true ∧ ∃ b11 : Nat, (M b7 1) = (b11 : Int) ∧ 0 < b11 ∧ isO K.1 b11 20 = true ∧ (0 ≤ l4 ∧ l4 < (ln b11 : Int)) ∧ ((M b11 (Int.toNat l4)) = (-1 : Int) → Wp d 126 71 [vR l0, vI l1, vI l2, vI l3, vI l4] [] M K Q) ∧ (¬ ((M b11 (Int.toNat l4)) = (-1 : Int)) → isO K.1 l0 11 = true ∧ ∃ b17 : Nat, (M l0 2) = (b17 : Int) ∧ 0 < b17 ∧ isO K.1 b17 3 = true ∧ ∃ b21 : Nat, (M b17 0) = (b21 : Int) ∧ 0 < b21 ∧ isO K.1 b21 20 = true ∧ (0 ≤ l4 ∧ l4 < (ln b21 : Int)) ∧ ((M b21 (Int.toNat l4)) ≤ l3 → Wp d 126 71 [vR l0, vI l1, vI l2, vI l3, vI l4] [] M K Q) ∧ (¬ ((M b21 (Int.toNat l4)) ≤ l3) → isO K.1 l0 11 = true ∧ ∃ b27 : Nat, (M l0 2) = (b27 : Int) ∧ 0 < b27 ∧ isO K.1 b27 3 = true ∧ ∃ b31 : Nat, (M b27 0) = (b31 : Int) ∧ 0 < b31 ∧ isO K.1 b31 20 = true ∧ (0 ≤ l4 ∧ l4 < (ln b31 : Int)) ∧ Wp d 126 71 [vR l0, vI l1, vI l4, vI (M b31 (Int.toNat l4)), vI l4] [] M K Q)))) : Wp d 126 17 [vR l0, vI l1, vI l2, vI l3, vI l4] [] M K Q := by
  refine r_iload c126_17 rfl ?_
  refine r_aload_n c126_19 rfl ?_
  obtain ⟨s1, h⟩ := h
  obtain ⟨b2, h⟩ := h
  obtain ⟨s3, h⟩ := h
  obtain ⟨s4, h⟩ := h
  refine r_getR c126_20 s1 s3 s4 ?_
  obtain ⟨s5, h⟩ := h
  refine r_getI c126_23 s5 ?_
  refine r_icmpP (P := (M b2 6) ≤ l4) c126_26 rfl (fun hc => ?_) (fun hc => ?_)
  · replace h := h.1 hc
    refine r_iload_n c126_77 rfl ?_
    refine r_ifP (P := ¬ l1 = (0 : Int)) c126_78 rfl (fun hc => ?_) (fun hc => ?_)
    · replace h := h.1 hc
      refine r_iload_n c126_85 rfl ?_
      exact h
    · replace h := h.2 hc
      refine r_iload_n c126_81 rfl ?_
      refine r_goto c126_82 ?_
      exact h
  · replace h := h.2 hc
    refine r_aload_n c126_29 rfl ?_
    obtain ⟨s6, h⟩ := h
    obtain ⟨b7, h⟩ := h
    obtain ⟨s8, h⟩ := h
    obtain ⟨s9, h⟩ := h
    refine r_getR c126_30 s6 s8 s9 ?_
    obtain ⟨s10, h⟩ := h
    obtain ⟨b11, h⟩ := h
    obtain ⟨s12, h⟩ := h
    obtain ⟨s13, h⟩ := h
    refine r_getR c126_33 s10 s12 s13 ?_
    refine r_iload c126_36 rfl ?_
    obtain ⟨s14, h⟩ := h
    obtain ⟨s15, h⟩ := h
    refine r_ia c126_38 s14 s15 ?_
    refine r_iconst c126_39 ?_
    refine r_icmpP (P := (M b11 (Int.toNat l4)) = (-1 : Int)) c126_40 rfl (fun hc => ?_) (fun hc => ?_)
    · replace h := h.1 hc
      exact h
    · replace h := h.2 hc
      refine r_aload_n c126_43 rfl ?_
      obtain ⟨s16, h⟩ := h
      obtain ⟨b17, h⟩ := h
      obtain ⟨s18, h⟩ := h
      obtain ⟨s19, h⟩ := h
      refine r_getR c126_44 s16 s18 s19 ?_
      obtain ⟨s20, h⟩ := h
      obtain ⟨b21, h⟩ := h
      obtain ⟨s22, h⟩ := h
      obtain ⟨s23, h⟩ := h
      refine r_getR c126_47 s20 s22 s23 ?_
      refine r_iload c126_50 rfl ?_
      obtain ⟨s24, h⟩ := h
      obtain ⟨s25, h⟩ := h
      refine r_ia c126_52 s24 s25 ?_
      refine r_iload_n c126_53 rfl ?_
      refine r_icmpP (P := (M b21 (Int.toNat l4)) ≤ l3) c126_54 rfl (fun hc => ?_) (fun hc => ?_)
      · replace h := h.1 hc
        exact h
      · replace h := h.2 hc
        refine r_iload c126_57 rfl ?_
        refine r_istore_n c126_59 (Nat.le_of_ble_eq_true rfl) ?_
        refine r_aload_n c126_60 rfl ?_
        obtain ⟨s26, h⟩ := h
        obtain ⟨b27, h⟩ := h
        obtain ⟨s28, h⟩ := h
        obtain ⟨s29, h⟩ := h
        refine r_getR c126_61 s26 s28 s29 ?_
        obtain ⟨s30, h⟩ := h
        obtain ⟨b31, h⟩ := h
        obtain ⟨s32, h⟩ := h
        obtain ⟨s33, h⟩ := h
        refine r_getR c126_64 s30 s32 s33 ?_
        refine r_iload c126_67 rfl ?_
        obtain ⟨s34, h⟩ := h
        obtain ⟨s35, h⟩ := h
        refine r_ia c126_69 s34 s35 ?_
        refine r_istore_n c126_70 (Nat.le_of_ble_eq_true rfl) ?_
        exact h
theorem t126_71 {d : Nat} {l0 : Nat} {l1 : Int} {l2 : Int} {l3 : Int} {l4 : Int} {M : Mem} {K : KK} {Q : RR → Mem → KK → Prop} (h : Wp d 126 17 [vR l0, vI l1, vI l2, vI l3, vI (w32 (l4 + 1))] [] M K Q) : Wp d 126 71 [vR l0, vI l1, vI l2, vI l3, vI l4] [] M K Q := by
  refine r_iinc c126_71 rfl ?_
  refine r_goto c126_74 ?_
  exact h
theorem t126_86 {d : Nat} {l0 : Nat} {l1 : Int} {l2 : Int} {l3 : Int} {l4 : Int} {t0 : Int} {M : Mem} {K : KK} {Q : RR → Mem → KK → Prop} (h : Q (.inl (some (vI t0))) M K) : Wp d 126 86 [vR l0, vI l1, vI l2, vI l3, vI l4] [vI t0] M K Q := by
  exact r_iret c126_86 (Or.inl rfl) h
theorem t127_0 {d : Nat} {l0 : Nat} {l1 : Int} {l2 : Int} {M : Mem} {K : KK} {Q : RR → Mem → KK → Prop} (h : isO K.1 l0 11 = true ∧ Wm d 138 [vR l0, vI l1] M K (Bk d 127 2 5 138 [vR l0, vI l1, vI l2, vU, vU, vU, vU] [] Q)) : Wp (d + 1) 127 0 [vR l0, vI l1, vI l2, vU, vU, vU, vU] [] M K Q := by
  refine r_aload_n c127_0 rfl ?_
  refine r_iload_n c127_1 rfl ?_
  obtain ⟨s1, h⟩ := h
  exact r_call c127_2 rfl rfl (Nat.le_of_ble_eq_true rfl) (okc_r rfl rfl s1) h
theorem t127_5 {d : Nat} {l0 : Nat} {l1 : Int} {l2 : Int} {M : Mem} {K : KK} {Q : RR → Mem → KK → Prop} (h : Wm d 142 [vI l2, vI (0 : Int), vI (1 : Int)] M K (Bk d 127 9 12 142 [vR l0, vI l1, vI l2, vU, vU, vU, vU] [vR l0] Q)) : Wp (d + 1) 127 5 [vR l0, vI l1, vI l2, vU, vU, vU, vU] [] M K Q := by
  refine r_aload_n c127_5 rfl ?_
  refine r_iload_n c127_6 rfl ?_
  refine r_iconst c127_7 ?_
  refine r_iconst c127_8 ?_
  exact r_call c127_9 rfl rfl (Nat.le_of_ble_eq_true rfl) (okc_s rfl rfl rfl) h
theorem t127_12 {d : Nat} {l0 : Nat} {l1 : Int} {l2 : Int} {t0 : Nat} {t1 : Int} {M : Mem} {K : KK} {Q : RR → Mem → KK → Prop} (h : isO K.1 t0 11 = true ∧ Wm d 136 [vR t0, vI t1] M K (Bk d 127 12 15 136 [vR l0, vI l1, vI l2, vU, vU, vU, vU] [] Q)) : Wp (d + 1) 127 12 [vR l0, vI l1, vI l2, vU, vU, vU, vU] [vI t1, vR t0] M K Q := by
  obtain ⟨s1, h⟩ := h
  exact r_call c127_12 rfl rfl (Nat.le_of_ble_eq_true rfl) (okc_r rfl rfl s1) h
theorem t127_15 {d : Nat} {l0 : Nat} {l1 : Int} {l2 : Int} {M : Mem} {K : KK} {Q : RR → Mem → KK → Prop} (h : Wp d 127 23 [vR l0, vI l1, vI l2, vI (-1 : Int), vI (-1 : Int), vI (0 : Int), vU] [] M K Q) : Wp d 127 15 [vR l0, vI l1, vI l2, vU, vU, vU, vU] [] M K Q := by
  refine r_iconst c127_15 ?_
  refine r_istore_n c127_16 (Nat.le_of_ble_eq_true rfl) ?_
  refine r_iconst c127_17 ?_
  refine r_istore c127_18 (Nat.le_of_ble_eq_true rfl) ?_
  refine r_iconst c127_20 ?_
  refine r_istore c127_21 (Nat.le_of_ble_eq_true rfl) ?_
  exact h
theorem t127_23 {d : Nat} {l0 : Nat} {l1 : Int} {l2 : Int} {l3 : Int} {l4 : Int} {l5 : Int} {l6 : PV} {M : Mem} {K : KK} {Q : RR → Mem → KK → Prop} (h : isO K.1 l0 11 = true ∧ ∃ b2 : Nat, (M l0 11) = (b2 : Int) ∧ 0 < b2 ∧ isO K.1 b2 0 = true ∧ ∃ b6 : Nat, (M b2 1) = (b6 : Int) ∧ 0 < b6 ∧ isO K.1 b6 20 = true ∧ (0 ≤ l1 ∧ l1 < (ln b6 : Int)) ∧ isO K.1 l0 11 = true ∧ ∃ b12 : Nat, (M l0 11) = (b12 : Int) ∧ 0 < b12 ∧ isO K.1 b12 0 = true ∧ ((M b12 5) < (w32 (l5 + (M b6 (Int.toNat l1)))) → (¬ l2 = (0 : Int) → Wp (d + 1) 127 91 [vR l0, vI l1, vI l2, vI l3, vI l4, vI l5, l6] [vI l4] M K Q) ∧ (¬ (¬ l2 = (0 : Int)) → Wp (d + 1) 127 91 [vR l0, vI l1, vI l2, vI l3, vI l4, vI l5, l6] [vI l3] M K Q)) ∧ (¬ ((M b12 5) < (w32 (l5 + (M b6 (Int.toNat l1))))) → isO K.1 l0 11 = true ∧ ∃ b17 : Nat, (M l0 2) = (b17 : Int) ∧ 0 < b17 ∧ isO K.1 l0 11 = true ∧ ∃ b21 : Nat, (M l0 11) = (b21 : Int) ∧ 0 < b21 ∧ isO K.1 b17 3 = true ∧ Wm d 45 [vR b17, vR b21, vI l1, vI l5] M K (Bk d 127 56 59 45 [vR l0, vI l1, vI l2, vI l3, vI l4, vI l5, l6] [] Q))) : Wp (d + 1) 127 23 [vR l0, vI l1, vI l2, vI l3, vI l4, vI l5, l6] [] M K Q := by
  refine r_iload c127_23 rfl ?_
  refine r_aload_n c127_25 rfl ?_
  obtain ⟨s1, h⟩ := h
  obtain ⟨b2, h⟩ := h
  obtain ⟨s3, h⟩ := h
  obtain ⟨s4, h⟩ := h
  refine r_getR c127_26 s1 s3 s4 ?_
  obtain ⟨s5, h⟩ := h
  obtain ⟨b6, h⟩ := h
  obtain ⟨s7, h⟩ := h
  obtain ⟨s8, h⟩ := h
  refine r_getR c127_29 s5 s7 s8 ?_
  refine r_iload_n c127_32 rfl ?_
  obtain ⟨s9, h⟩ := h
  obtain ⟨s10, h⟩ := h
  refine r_ia c127_33 s9 s10 ?_
  refine r_iadd c127_34 ?_
  refine r_aload_n c127_35 rfl ?_
  obtain ⟨s11, h⟩ := h
  obtain ⟨b12, h⟩ := h
  obtain ⟨s13, h⟩ := h
  obtain ⟨s14, h⟩ := h
  refine r_getR c127_36 s11 s13 s14 ?_
  obtain ⟨s15, h⟩ := h
  refine r_getI c127_39 s15 ?_
  refine r_icmpP (P := (M b12 5) < (w32 (l5 + (M b6 (Int.toNat l1))))) c127_42 rfl (fun hc => ?_) (fun hc => ?_)
  · replace h := h.1 hc
    refine r_iload_n c127_81 rfl ?_
    refine r_ifP (P := ¬ l2 = (0 : Int)) c127_82 rfl (fun hc => ?_) (fun hc => ?_)
    · replace h := h.1 hc
      refine r_iload c127_89 rfl ?_
      exact h
    · replace h := h.2 hc
      refine r_iload_n c127_85 rfl ?_
      refine r_goto c127_86 ?_
      exact h
  · replace h := h.2 hc
    refine r_aload_n c127_45 rfl ?_
    obtain ⟨s16, h⟩ := h
    obtain ⟨b17, h⟩ := h
    obtain ⟨s18, h⟩ := h
    obtain ⟨s19, h⟩ := h
    refine r_getR c127_46 s16 s18 s19 ?_
    refine r_aload_n c127_49 rfl ?_
    obtain ⟨s20, h⟩ := h
    obtain ⟨b21, h⟩ := h
    obtain ⟨s22, h⟩ := h
    obtain ⟨s23, h⟩ := h
    refine r_getR c127_50 s20 s22 s23 ?_
    refine r_iload_n c127_53 rfl ?_
    refine r_iload c127_54 rfl ?_
    obtain ⟨s24, h⟩ := h
    exact r_call c127_56 rfl rfl (Nat.le_of_ble_eq_true rfl) (okc_r rfl rfl s24) h
theorem t127_59 {d : Nat} {l0 : Nat} {l1 : Int} {l2 : Int} {l3 : Int} {l4 : Int} {l5 : Int} {l6 : PV} {t0 : Int} {M : Mem} {K : KK} {Q : RR → Mem → KK → Prop} (h : (t0 ≤ l4 → Wp d 127 75 [vR l0, vI l1, vI l2, vI l3, vI l4, vI l5, vI t0] [] M K Q) ∧ (¬ (t0 ≤ l4) → Wp d 127 75 [vR l0, vI l1, vI l2, vI l5, vI t0, vI l5, vI t0] [] M K Q)) : Wp d 127 59 [vR l0, vI l1, vI l2, vI l3, vI l4, vI l5, l6] [vI t0] M K Q := by
  refine r_istore c127_59 (Nat.le_of_ble_eq_true rfl) ?_
  refine r_iload c127_61 rfl ?_
  refine r_iload c127_63 rfl ?_
  refine r_icmpP (P := t0 ≤ l4) c127_65 rfl (fun hc => ?_) (fun hc => ?_)
  · replace h := h.1 hc
    exact h
  · replace h := h.2 hc
    refine r_iload c127_68 rfl ?_
    refine r_istore_n c127_70 (Nat.le_of_ble_eq_true rfl) ?_
    refine r_iload c127_71 rfl ?_
    refine r_istore c127_73 (Nat.le_of_ble_eq_true rfl) ?_
    exact h
theorem t127_75 {d : Nat} {l0 : Nat} {l1 : Int} {l2 : Int} {l3 : Int} {l4 : Int} {l5 : Int} {l6 : Int} {M : Mem} {K : KK} {Q : RR → Mem → KK → Prop} (h : Wp d 127 23 [vR l0, vI l1, vI l2, vI l3, vI l4, vI (w32 (l5 + 1)), vI l6] [] M K Q) : Wp d 127 75 [vR l0, vI l1, vI l2, vI l3, vI l4, vI l5, vI l6] [] M K Q := by
  refine r_iinc c127_75 rfl ?_
  refine r_goto c127_78 ?_
  exact h
theorem t127_91 {d : Nat} {l0 : Nat} {l1 : Int} {l2 : Int} {l3 : Int} {l4 : Int} {l5 : Int} {l6 : PV} {t0 : Int} {M : Mem} {K : KK} {Q : RR → Mem → KK → Prop} (h : Q (.inl (some (vI t0))) M K) : Wp d 127 91 [vR l0, vI l1, vI l2, vI l3, vI l4, vI l5, l6] [vI t0] M K Q := by
  exact r_iret c127_91 (Or.inl rfl) h
theorem t128_0 {d : Nat} {l0 : Nat} {l1 : Int} {l2 : Int} {M : Mem} {K : KK} {Q : RR → Mem → KK → Prop} (h : Wm d 142 [vI l1, vI (1 : Int), vI (12 : Int)] M K (Bk d 128 5 8 142 [vR l0, vI l1, vI l2, vU, vU, vU, vU, vU] [vR l0] Q)) : Wp (d + 1) 128 0 [vR l0, vI l1, vI l2, vU, vU, vU, vU, vU] [] M K Q := by
  refine r_aload_n c128_0 rfl ?_
  refine r_iload_n c128_1 rfl ?_
  refine r_iconst c128_2 ?_
  refine r_bipush c128_3 ?_
  exact r_call c128_5 rfl rfl (Nat.le_of_ble_eq_true rfl) (okc_s rfl rfl rfl) h
theorem t128_8 {d : Nat} {l0 : Nat} {l1 : Int} {l2 : Int} {t0 : Nat} {t1 : Int} {M : Mem} {K : KK} {Q : RR → Mem → KK → Prop} (h : (t1 = (0 : Int) → Wp (d + 1) 128 24 [vR l0, vI l1, vI l2, vU, vU, vU, vU, vU] [vR t0] M K Q) ∧ (¬ (t1 = (0 : Int)) → Wm d 142 [vI l2, vI (0 : Int), vI (1 : Int)] M K (Bk d 128 14 17 142 [vR l0, vI l1, vI l2, vU, vU, vU, vU, vU] [vR t0] Q))) : Wp (d + 1) 128 8 [vR l0, vI l1, vI l2, vU, vU, vU, vU, vU] [vI t1, vR t0] M K Q := by
  refine r_ifP (P := t1 = (0 : Int)) c128_8 rfl (fun hc => ?_) (fun hc => ?_)
  · replace h := h.1 hc
    exact h
  · replace h := h.2 hc
    refine r_iload_n c128_11 rfl ?_
    refine r_iconst c128_12 ?_
    refine r_iconst c128_13 ?_
    exact r_call c128_14 rfl rfl (Nat.le_of_ble_eq_true rfl) (okc_s rfl rfl rfl) h
theorem t128_17 {d : Nat} {l0 : Nat} {l1 : Int} {l2 : Int} {t0 : Nat} {t1 : Int} {M : Mem} {K : KK} {Q : RR → Mem → KK → Prop} (h : (t1 = (0 : Int) → Wp d 128 24 [vR l0, vI l1, vI l2, vU, vU, vU, vU, vU] [vR t0] M K Q) ∧ (¬ (t1 = (0 : Int)) → Wp d 128 25 [vR l0, vI l1, vI l2, vU, vU, vU, vU, vU] [vI (1 : Int), vR t0] M K Q)) : Wp d 128 17 [vR l0, vI l1, vI l2, vU, vU, vU, vU, vU] [vI t1, vR t0] M K Q := by
  refine r_ifP (P := t1 = (0 : Int)) c128_17 rfl (fun hc => ?_) (fun hc => ?_)
  · replace h := h.1 hc
    exact h
  · replace h := h.2 hc
    refine r_iconst c128_20 ?_
    refine r_goto c128_21 ?_
    exact h
theorem t128_24 {d : Nat} {l0 : Nat} {l1 : Int} {l2 : Int} {t0 : Nat} {M : Mem} {K : KK} {Q : RR → Mem → KK → Prop} (h : Wp d 128 25 [vR l0, vI l1, vI l2, vU, vU, vU, vU, vU] [vI (0 : Int), vR t0] M K Q) : Wp d 128 24 [vR l0, vI l1, vI l2, vU, vU, vU, vU, vU] [vR t0] M K Q := by
  refine r_iconst c128_24 ?_
  exact h
theorem t128_25 {d : Nat} {l0 : Nat} {l1 : Int} {l2 : Int} {t0 : Nat} {t1 : Int} {M : Mem} {K : KK} {Q : RR → Mem → KK → Prop} (h : isO K.1 t0 11 = true ∧ Wm d 136 [vR t0, vI t1] M K (Bk d 128 25 28 136 [vR l0, vI l1, vI l2, vU, vU, vU, vU, vU] [] Q)) : Wp (d + 1) 128 25 [vR l0, vI l1, vI l2, vU, vU, vU, vU, vU] [vI t1, vR t0] M K Q := by
  obtain ⟨s1, h⟩ := h
  exact r_call c128_25 rfl rfl (Nat.le_of_ble_eq_true rfl) (okc_r rfl rfl s1) h
theorem t128_28 {d : Nat} {l0 : Nat} {l1 : Int} {l2 : Int} {M : Mem} {K : KK} {Q : RR → Mem → KK → Prop} (h : isO K.1 l0 11 = true ∧ ∃ b2 : Nat, (M l0 2) = (b2 : Int) ∧ 0 < b2 ∧ isO K.1 l0 11 = true ∧ ∃ b6 : Nat, (M l0 11) = (b6 : Int) ∧ 0 < b6 ∧ isO K.1 b2 3 = true ∧ Wm d 39 [vR b2, vR b6] M K (Bk d 128 36 39 39 [vR l0, vI l1, vI l2, vU, vU, vU, vU, vU] [] Q)) : Wp (d + 1) 128 28 [vR l0, vI l1, vI l2, vU, vU, vU, vU, vU] [] M K Q := by
  refine r_aload_n c128_28 rfl ?_
  obtain ⟨s1, h⟩ := h
  obtain ⟨b2, h⟩ := h
  obtain ⟨s3, h⟩ := h
  obtain ⟨s4, h⟩ := h
  refine r_getR c128_29 s1 s3 s4 ?_
  refine r_aload_n c128_32 rfl ?_
  obtain ⟨s5, h⟩ := h
  obtain ⟨b6, h⟩ := h
  obtain ⟨s7, h⟩ := h
  obtain ⟨s8, h⟩ := h
  refine r_getR c128_33 s5 s7 s8 ?_
  obtain ⟨s9, h⟩ := h
  exact r_call c128_36 rfl rfl (Nat.le_of_ble_eq_true rfl) (okc_r rfl rfl s9) h
theorem t128_39 {d : Nat} {l0 : Nat} {l1 : Int} {l2 : Int} {t0 : Int} {M : Mem} {K : KK} {Q : RR → Mem → KK → Prop} (h : Wp d 128 49 [vR l0, vI l1, vI l2, vI t0, vI (-1 : Int), vI (-1 : Int), vI (0 : Int), vU] [] M K Q) : Wp d 128 39 [vR l0, vI l1, vI l2, vU, vU, vU, vU, vU] [vI t0] M K Q := by
  refine r_istore_n c128_39 (Nat.le_of_ble_eq_true rfl) ?_
  refine r_iconst c128_40 ?_
  refine r_istore c128_41 (Nat.le_of_ble_eq_true rfl) ?_
  refine r_iconst c128_43 ?_
  refine r_istore c128_44 (Nat.le_of_ble_eq_true rfl) ?_
  refine r_iconst c128_46 ?_
  refine r_istore c128_47 (Nat.le_of_ble_eq_true rfl) ?_
  exact h
theorem t128_49 {d : Nat} {l0 : Nat} {l1 : Int} {l2 : Int} {l3 : Int} {l4 : Int} {l5 : Int} {l6 : Int} {l7 : PV} {M : Mem} {K : KK} {Q : RR → Mem → KK → Prop} (h : isO K.1 l0 11 = true ∧ ∃ b2 : Nat, (M l0 11) = (b2 : Int) ∧ 0 < b2 ∧ isO K.1 b2 0 = true ∧ ((M b2 5) < (w32 (l6 + l1)) → (¬ l2 = (0 : Int) → Wp (d + 1) 128 118 [vR l0, vI l1, vI l2, vI l3, vI l4, vI l5, vI l6, l7] [vI l5] M K Q) ∧ (¬ (¬ l2 = (0 : Int)) → Wp (d + 1) 128 118 [vR l0, vI l1, vI l2, vI l3, vI l4, vI l5, vI l6, l7] [vI l4] M K Q)) ∧ (¬ ((M b2 5) < (w32 (l6 + l1))) → isO K.1 l0 11 = true ∧ ∃ b7 : Nat, (M l0 11) = (b7 : Int) ∧ 0 < b7 ∧ isO K.1 b7 0 = true ∧ Wm d 8 [vR b7, vI l6, vI l1] M K (Bk d 128 70 73 8 [vR l0, vI l1, vI l2, vI l3, vI l4, vI l5, vI l6, l7] [] Q))) : Wp (d + 1) 128 49 [vR l0, vI l1, vI l2, vI l3, vI l4, vI l5, vI l6, l7] [] M K Q := by
  refine r_iload c128_49 rfl ?_
  refine r_iload_n c128_51 rfl ?_
  refine r_iadd c128_52 ?_
  refine r_aload_n c128_53 rfl ?_
  obtain ⟨s1, h⟩ := h
  obtain ⟨b2, h⟩ := h
  obtain ⟨s3, h⟩ := h
  obtain ⟨s4, h⟩ := h
  refine r_getR c128_54 s1 s3 s4 ?_
  obtain ⟨s5, h⟩ := h
  refine r_getI c128_57 s5 ?_
  refine r_icmpP (P := (M b2 5) < (w32 (l6 + l1))) c128_60 rfl (fun hc => ?_) (fun hc => ?_)
  · replace h := h.1 hc
    refine r_iload_n c128_107 rfl ?_
    refine r_ifP (P := ¬ l2 = (0 : Int)) c128_108 rfl (fun hc => ?_) (fun hc => ?_)
    · replace h := h.1 hc
      refine r_iload c128_116 rfl ?_
      exact h
    · replace h := h.2 hc
      refine r_iload c128_111 rfl ?_
      refine r_goto c128_113 ?_
      exact h
  · replace h := h.2 hc
    refine r_aload_n c128_63 rfl ?_
    obtain ⟨s6, h⟩ := h
    obtain ⟨b7, h⟩ := h
    obtain ⟨s8, h⟩ := h
    obtain ⟨s9, h⟩ := h
    refine r_getR c128_64 s6 s8 s9 ?_
    refine r_iload c128_67 rfl ?_
    refine r_iload_n c128_69 rfl ?_
    obtain ⟨s10, h⟩ := h
    exact r_call c128_70 rfl rfl (Nat.le_of_ble_eq_true rfl) (okc_r rfl rfl s10) h
theorem t128_73 {d : Nat} {l0 : Nat} {l1 : Int} {l2 : Int} {l3 : Int} {l4 : Int} {l5 : Int} {l6 : Int} {l7 : PV} {t0 : Int} {M : Mem} {K : KK} {Q : RR → Mem → KK → Prop} (h : Wm d 144 [vI l6, vI l1] M K (Bk d 128 79 82 144 [vR l0, vI l1, vI l2, vI l3, vI l4, vI l5, vI l6, vI t0] [vI l3] Q)) : Wp (d + 1) 128 73 [vR l0, vI l1, vI l2, vI l3, vI l4, vI l5, vI l6, l7] [vI t0] M K Q := by
  refine r_istore c128_73 (Nat.le_of_ble_eq_true rfl) ?_
  refine r_iload_n c128_75 rfl ?_
  refine r_iload c128_76 rfl ?_
  refine r_iload_n c128_78 rfl ?_
  exact r_call c128_79 rfl rfl (Nat.le_of_ble_eq_true rfl) (okc_s rfl rfl rfl) h
theorem t128_82 {d : Nat} {l0 : Nat} {l1 : Int} {l2 : Int} {l3 : Int} {l4 : Int} {l5 : Int} {l6 : Int} {l7 : Int} {t0 : Int} {t1 : Int} {M : Mem} {K : KK} {Q : RR → Mem → KK → Prop} (h : (¬ (jand t0 t1) = (0 : Int) → Wp d 128 101 [vR l0, vI l1, vI l2, vI l3, vI l4, vI l5, vI l6, vI l7] [] M K Q) ∧ (¬ (¬ (jand t0 t1) = (0 : Int)) → (l7 ≤ l5 → Wp d 128 101 [vR l0, vI l1, vI l2, vI l3, vI l4, vI l5, vI l6, vI l7] [] M K Q) ∧ (¬ (l7 ≤ l5) → Wp d 128 101 [vR l0, vI l1, vI l2, vI l3, vI l6, vI l7, vI l6, vI l7] [] M K Q))) : Wp d 128 82 [vR l0, vI l1, vI l2, vI l3, vI l4, vI l5, vI l6, vI l7] [vI t1, vI t0] M K Q := by
  refine r_iand c128_82 ?_
  refine r_ifP (P := ¬ (jand t0 t1) = (0 : Int)) c128_83 rfl (fun hc => ?_) (fun hc => ?_)
  · replace h := h.1 hc
    exact h
  · replace h := h.2 hc
    refine r_iload c128_86 rfl ?_
    refine r_iload c128_88 rfl ?_
    refine r_icmpP (P := l7 ≤ l5) c128_90 rfl (fun hc => ?_) (fun hc => ?_)
    · replace h := h.1 hc
      exact h
    · replace h := h.2 hc
      refine r_iload c128_93 rfl ?_
      refine r_istore c128_95 (Nat.le_of_ble_eq_true rfl) ?_
      refine r_iload c128_97 rfl ?_
      refine r_istore c128_99 (Nat.le_of_ble_eq_true rfl) ?_
      exact h
theorem t128_101 {d : Nat} {l0 : Nat} {l1 : Int} {l2 : Int} {l3 : Int} {l4 : Int} {l5 : Int} {l6 : Int} {l7 : Int} {M : Mem} {K : KK} {Q : RR → Mem → KK → Prop} (h : Wp d 128 49 [vR l0, vI l1, vI l2, vI l3, vI l4, vI l5, vI (w32 (l6 + 1)), vI l7] [] M K Q) : Wp d 128 101 [vR l0, vI l1, vI l2, vI l3, vI l4, vI l5, vI l6, vI l7] [] M K Q := by
  refine r_iinc c128_101 rfl ?_
  refine r_goto c128_104 ?_
  exact h
theorem t128_118 {d : Nat} {l0 : Nat} {l1 : Int} {l2 : Int} {l3 : Int} {l4 : Int} {l5 : Int} {l6 : Int} {l7 : PV} {t0 : Int} {M : Mem} {K : KK} {Q : RR → Mem → KK → Prop} (h : Q (.inl (some (vI t0))) M K) : Wp d 128 118 [vR l0, vI l1, vI l2, vI l3, vI l4, vI l5, vI l6, l7] [vI t0] M K Q := by
  exact r_iret c128_118 (Or.inl rfl) h
theorem t129_0 {d : Nat} {l0 : Nat} {M : Mem} {K : KK} {Q : RR → Mem → KK → Prop} (h : Wp d 129 4 [vR l0, vI (0 : Int), vI (0 : Int)] [] M K Q) : Wp d 129 0 [vR l0, vU, vU] [] M K Q := by
  refine r_iconst c129_0 ?_
  refine r_istore_n c129_1 (Nat.le_of_ble_eq_true rfl) ?_
  refine r_iconst c129_2 ?_
  refine r_istore_n c129_3 (Nat.le_of_ble_eq_true rfl) ?_
  exact h
theorem t129_4 {d : Nat} {l0 : Nat} {l1 : Int} {l2 : Int} {M : Mem} {K : KK} {Q : RR → Mem → KK → Prop} (h : isO K.1 l0 11 = true ∧ ∃ b2 : Nat, (M l0 11) = (b2 : Int) ∧ 0 < b2 ∧ isO K.1 b2 0 = true ∧ ((M b2 6) ≤ l2 → Q (.inl (some (vI l1))) M K) ∧ (¬ ((M b2 6) ≤ l2) → isO K.1 l0 11 = true ∧ ∃ b7 : Nat, (M l0 2) = (b7 : Int) ∧ 0 < b7 ∧ isO K.1 b7 3 = true ∧ ∃ b11 : Nat, (M b7 1) = (b11 : Int) ∧ 0 < b11 ∧ isO K.1 b11 20 = true ∧ (0 ≤ l2 ∧ l2 < (ln b11 : Int)) ∧ (¬ (M b11 (Int.toNat l2)) = (-1 : Int) → isO K.1 l0 11 = true ∧ ∃ b17 : Nat, (M l0 2) = (b17 : Int) ∧ 0 < b17 ∧ isO K.1 b17 3 = true ∧ ∃ b21 : Nat, (M b17 2) = (b21 : Int) ∧ 0 < b21 ∧ isO K.1 b21 20 = true ∧ (0 ≤ l2 ∧ l2 < (ln b21 : Int)) ∧ Wp d 129 45 [vR l0, vI l1, vI l2] [vI (w32 ((9 : Int) - (M b21 (Int.toNat l2)))), vI l1] M K Q) ∧ (¬ (¬ (M b11 (Int.toNat l2)) = (-1 : Int)) → Wp d 129 45 [vR l0, vI l1, vI l2] [vI (0 : Int), vI l1] M K Q))) : Wp d 129 4 [vR l0, vI l1, vI l2] [] M K Q := by
  refine r_iload_n c129_4 rfl ?_
  refine r_aload_n c129_5 rfl ?_
  obtain ⟨s1, h⟩ := h
  obtain ⟨b2, h⟩ := h
  obtain ⟨s3, h⟩ := h
  obtain ⟨s4, h⟩ := h
  refine r_getR c129_6 s1 s3 s4 ?_
  obtain ⟨s5, h⟩ := h
  refine r_getI c129_9 s5 ?_
  refine r_icmpP (P := (M b2 6) ≤ l2) c129_12 rfl (fun hc => ?_) (fun hc => ?_)
  · replace h := h.1 hc
    refine r_iload_n c129_53 rfl ?_
    exact r_iret c129_54 (Or.inl rfl) h
  · replace h := h.2 hc
    refine r_iload_n c129_15 rfl ?_
    refine r_aload_n c129_16 rfl ?_
    obtain ⟨s6, h⟩ := h
    obtain ⟨b7, h⟩ := h
    obtain ⟨s8, h⟩ := h
    obtain ⟨s9, h⟩ := h
    refine r_getR c129_17 s6 s8 s9 ?_
    obtain ⟨s10, h⟩ := h
    obtain ⟨b11, h⟩ := h
    obtain ⟨s12, h⟩ := h
    obtain ⟨s13, h⟩ := h
    refine r_getR c129_20 s10 s12 s13 ?_
    refine r_iload_n c129_23 rfl ?_
    obtain ⟨s14, h⟩ := h
    obtain ⟨s15, h⟩ := h
    refine r_ia c129_24 s14 s15 ?_
    refine r_iconst c129_25 ?_
    refine r_icmpP (P := ¬ (M b11 (Int.toNat l2)) = (-1 : Int)) c129_26 rfl (fun hc => ?_) (fun hc => ?_)
    · replace h := h.1 hc
      refine r_bipush c129_33 ?_
      refine r_aload_n c129_35 rfl ?_
      obtain ⟨s16, h⟩ := h
      obtain ⟨b17, h⟩ := h
      obtain ⟨s18, h⟩ := h
      obtain ⟨s19, h⟩ := h
      refine r_getR c129_36 s16 s18 s19 ?_
      obtain ⟨s20, h⟩ := h
      obtain ⟨b21, h⟩ := h
      obtain ⟨s22, h⟩ := h
      obtain ⟨s23, h⟩ := h
      refine r_getR c129_39 s20 s22 s23 ?_
      refine r_iload_n c129_42 rfl ?_
      obtain ⟨s24, h⟩ := h
      obtain ⟨s25, h⟩ := h
      refine r_ia c129_43 s24 s25 ?_
      refine r_isub c129_44 ?_
      exact h
    · replace h := h.2 hc
      refine r_iconst c129_29 ?_
      refine r_goto c129_30 ?_
      exact h
theorem t129_45 {d : Nat} {l0 : Nat} {l1 : Int} {l2 : Int} {t0 : Int} {t1 : Int} {M : Mem} {K : KK} {Q : RR → Mem → KK → Prop} (h : Wp d 129 4 [vR l0, vI (w32 (t0 + t1)), vI (w32 (l2 + 1))] [] M K Q) : Wp d 129 45 [vR l0, vI l1, vI l2] [vI t1, vI t0] M K Q := by
  refine r_iadd c129_45 ?_
  refine r_istore_n c129_46 (Nat.le_of_ble_eq_true rfl) ?_
  refine r_iinc c129_47 rfl ?_
  refine r_goto c129_50 ?_
  exact h
theorem t130_0 {d : Nat} {l0 : Nat} {l1 : Int} {l2 : Int} {l3 : Int} {l4 : Int} {l5 : Int} {M : Mem} {K : KK} {Q : RR → Mem → KK → Prop} (h : Wm d 141 [vI l2, vI l3, vI l4] M K (Bk d 130 5 8 141 [vR l0, vI l1, vI l2, vI l3, vI l4, vI l5] [vR l0] Q)) : Wp (d + 1) 130 0 [vR l0, vI l1, vI l2, vI l3, vI l4, vI l5] [] M K Q := by
  refine r_aload_n c130_0 rfl ?_
  refine r_iload_n c130_1 rfl ?_
  refine r_iload_n c130_2 rfl ?_
  refine r_iload c130_3 rfl ?_
  exact r_call c130_5 rfl rfl (Nat.le_of_ble_eq_true rfl) (okc_s rfl rfl rfl) h
theorem t130_8 {d : Nat} {l0 : Nat} {l1 : Int} {l2 : Int} {l3 : Int} {l4 : Int} {l5 : Int} {t0 : Nat} {t1 : Int} {M : Mem} {K : KK} {Q : RR → Mem → KK → Prop} (h : (t1 = (0 : Int) → Wp (d + 1) 130 25 [vR l0, vI l1, vI l2, vI l3, vI l4, vI l5] [vR t0] M K Q) ∧ (¬ (t1 = (0 : Int)) → Wm d 142 [vI l5, vI (0 : Int), vI (3 : Int)] M K (Bk d 130 15 18 142 [vR l0, vI l1, vI l2, vI l3, vI l4, vI l5] [vR t0] Q))) : Wp (d + 1) 130 8 [vR l0, vI l1, vI l2, vI l3, vI l4, vI l5] [vI t1, vR t0] M K Q := by
  refine r_ifP (P := t1 = (0 : Int)) c130_8 rfl (fun hc => ?_) (fun hc => ?_)
  · replace h := h.1 hc
    exact h
  · replace h := h.2 hc
    refine r_iload c130_11 rfl ?_
    refine r_iconst c130_13 ?_
    refine r_iconst c130_14 ?_
    exact r_call c130_15 rfl rfl (Nat.le_of_ble_eq_true rfl) (okc_s rfl rfl rfl) h
theorem t130_18 {d : Nat} {l0 : Nat} {l1 : Int} {l2 : Int} {l3 : Int} {l4 : Int} {l5 : Int} {t0 : Nat} {t1 : Int} {M : Mem} {K : KK} {Q : RR → Mem → KK → Prop} (h : (t1 = (0 : Int) → Wp d 130 25 [vR l0, vI l1, vI l2, vI l3, vI l4, vI l5] [vR t0] M K Q) ∧ (¬ (t1 = (0 : Int)) → Wp d 130 26 [vR l0, vI l1, vI l2, vI l3, vI l4, vI l5] [vI (1 : Int), vR t0] M K Q)) : Wp d 130 18 [vR l0, vI l1, vI l2, vI l3, vI l4, vI l5] [vI t1, vR t0] M K Q := by
  refine r_ifP (P := t1 = (0 : Int)) c130_18 rfl (fun hc => ?_) (fun hc => ?_)
  · replace h := h.1 hc
    exact h
  · replace h := h.2 hc
    refine r_iconst c130_21 ?_
    refine r_goto c130_22 ?_
    exact h
theorem t130_25 {d : Nat} {l0 : Nat} {l1 : Int} {l2 : Int} {l3 : Int} {l4 : Int} {l5 : Int} {t0 : Nat} {M : Mem} {K : KK} {Q : RR → Mem → KK → Prop} (h : Wp d 130 26 [vR l0, vI l1, vI l2, vI l3, vI l4, vI l5] [vI (0 : Int), vR t0] M K Q) : Wp d 130 25 [vR l0, vI l1, vI l2, vI l3, vI l4, vI l5] [vR t0] M K Q := by
  refine r_iconst c130_25 ?_
  exact h
theorem t130_26 {d : Nat} {l0 : Nat} {l1 : Int} {l2 : Int} {l3 : Int} {l4 : Int} {l5 : Int} {t0 : Nat} {t1 : Int} {M : Mem} {K : KK} {Q : RR → Mem → KK → Prop} (h : isO K.1 t0 11 = true ∧ Wm d 136 [vR t0, vI t1] M K (Bk d 130 26 29 136 [vR l0, vI l1, vI l2, vI l3, vI l4, vI l5] [] Q)) : Wp (d + 1) 130 26 [vR l0, vI l1, vI l2, vI l3, vI l4, vI l5] [vI t1, vR t0] M K Q := by
  obtain ⟨s1, h⟩ := h
  exact r_call c130_26 rfl rfl (Nat.le_of_ble_eq_true rfl) (okc_r rfl rfl s1) h
theorem t130_29 {d : Nat} {l0 : Nat} {l1 : Int} {l2 : Int} {l3 : Int} {l4 : Int} {l5 : Int} {M : Mem} {K : KK} {Q : RR → Mem → KK → Prop} (h : isO K.1 l0 11 = true ∧ ∃ b2 : Nat, (M l0 10) = (b2 : Int) ∧ 0 < b2 ∧ isO K.1 l0 11 = true ∧ ∃ b6 : Nat, (M l0 11) = (b6 : Int) ∧ 0 < b6 ∧ isO K.1 l0 11 = true ∧ ∃ b10 : Nat, (M l0 2) = (b10 : Int) ∧ 0 < b10 ∧ isO K.1 b2 9 = true ∧ Wm d 80 [vR b2, vR b6, vR b10, vI l1, vI l2, vI l3, vI l4] M K (Bk d 130 46 49 80 [vR l0, vI l1, vI l2, vI l3, vI l4, vI l5] [] Q)) : Wp (d + 1) 130 29 [vR l0, vI l1, vI l2, vI l3, vI l4, vI l5] [] M K Q := by
  refine r_aload_n c130_29 rfl ?_
  obtain ⟨s1, h⟩ := h
  obtain ⟨b2, h⟩ := h
  obtain ⟨s3, h⟩ := h
  obtain ⟨s4, h⟩ := h
  refine r_getR c130_30 s1 s3 s4 ?_
  refine r_aload_n c130_33 rfl ?_
  obtain ⟨s5, h⟩ := h
  obtain ⟨b6, h⟩ := h
  obtain ⟨s7, h⟩ := h
  obtain ⟨s8, h⟩ := h
  refine r_getR c130_34 s5 s7 s8 ?_
  refine r_aload_n c130_37 rfl ?_
  obtain ⟨s9, h⟩ := h
  obtain ⟨b10, h⟩ := h
  obtain ⟨s11, h⟩ := h
  obtain ⟨s12, h⟩ := h
  refine r_getR c130_38 s9 s11 s12 ?_
  refine r_iload_n c130_41 rfl ?_
  refine r_iload_n c130_42 rfl ?_
  refine r_iload_n c130_43 rfl ?_
  refine r_iload c130_44 rfl ?_
  obtain ⟨s13, h⟩ := h
  exact r_call c130_46 rfl rfl (Nat.le_of_ble_eq_true rfl) (okc_r rfl rfl s13) h
theorem t130_49 {d : Nat} {l0 : Nat} {l1 : Int} {l2 : Int} {l3 : Int} {l4 : Int} {l5 : Int} {M : Mem} {K : KK} {Q : RR → Mem → KK → Prop} (h : Wp d 130 (tsw 51 63 0 2 #[25, 40, 55] l5) [vR l0, vI l1, vI l2, vI l3, vI l4, vI l5] [] M K Q) : Wp d 130 49 [vR l0, vI l1, vI l2, vI l3, vI l4, vI l5] [] M K Q := by
  refine r_iload c130_49 rfl ?_
  refine r_tsw c130_51 ?_
  exact h
theorem t130_76 {d : Nat} {l0 : Nat} {l1 : Int} {l2 : Int} {l3 : Int} {l4 : Int} {l5 : Int} {M : Mem} {K : KK} {Q : RR → Mem → KK → Prop} (h : isO K.1 l0 11 = true ∧ ∃ b2 : Nat, (M l0 10) = (b2 : Int) ∧ 0 < b2 ∧ isO K.1 b2 9 = true ∧ ∃ b6 : Nat, (M b2 0) = (b6 : Int) ∧ 0 < b6 ∧ isO K.1 l0 11 = true ∧ ∃ b10 : Nat, (M l0 11) = (b10 : Int) ∧ 0 < b10 ∧ isO K.1 b6 3 = true ∧ Wm d 43 [vR b6, vR b10] M K (Bk d 130 87 90 43 [vR l0, vI l1, vI l2, vI l3, vI l4, vI l5] [] Q)) : Wp (d + 1) 130 76 [vR l0, vI l1, vI l2, vI l3, vI l4, vI l5] [] M K Q := by
  refine r_aload_n c130_76 rfl ?_
  obtain ⟨s1, h⟩ := h
  obtain ⟨b2, h⟩ := h
  obtain ⟨s3, h⟩ := h
  obtain ⟨s4, h⟩ := h
  refine r_getR c130_77 s1 s3 s4 ?_
  obtain ⟨s5, h⟩ := h
  obtain ⟨b6, h⟩ := h
  obtain ⟨s7, h⟩ := h
  obtain ⟨s8, h⟩ := h
  refine r_getR c130_80 s5 s7 s8 ?_
  refine r_aload_n c130_83 rfl ?_
  obtain ⟨s9, h⟩ := h
  obtain ⟨b10, h⟩ := h
  obtain ⟨s11, h⟩ := h
  obtain ⟨s12, h⟩ := h
  refine r_getR c130_84 s9 s11 s12 ?_
  obtain ⟨s13, h⟩ := h
  exact r_call c130_87 rfl rfl (Nat.le_of_ble_eq_true rfl) (okc_r rfl rfl s13) h
theorem t130_90 {d : Nat} {l0 : Nat} {l1 : Int} {l2 : Int} {l3 : Int} {l4 : Int} {l5 : Int} {t0 : Int} {M : Mem} {K : KK} {Q : RR → Mem → KK → Prop} (h : Q (.inl (some (vI t0))) M K) : Wp d 130 90 [vR l0, vI l1, vI l2, vI l3, vI l4, vI l5] [vI t0] M K Q := by
  exact r_iret c130_90 (Or.inl rfl) h
theorem t130_91 {d : Nat} {l0 : Nat} {l1 : Int} {l2 : Int} {l3 : Int} {l4 : Int} {l5 : Int} {M : Mem} {K : KK} {Q : RR → Mem → KK → Prop} (h : isO K.1 l0 11 = true ∧ ∃ b2 : Nat, (M l0 10) = (b2 : Int) ∧ 0 < b2 ∧ isO K.1 b2 9 = true ∧ ∃ b6 : Nat, (M b2 0) = (b6 : Int) ∧ 0 < b6 ∧ isO K.1 l0 11 = true ∧ ∃ b10 : Nat, (M l0 11) = (b10 : Int) ∧ 0 < b10 ∧ isO K.1 b6 3 = true ∧ Wm d 41 [vR b6, vR b10] M K (Bk d 130 102 105 41 [vR l0, vI l1, vI l2, vI l3, vI l4, vI l5] [] Q)) : Wp (d + 1) 130 91 [vR l0, vI l1, vI l2, vI l3, vI l4, vI l5] [] M K Q := by
  refine r_aload_n c130_91 rfl ?_
  obtain ⟨s1, h⟩ := h
  obtain ⟨b2, h⟩ := h
  obtain ⟨s3, h⟩ := h
  obtain ⟨s4, h⟩ := h
  refine r_getR c130_92 s1 s3 s4 ?_
  obtain ⟨s5, h⟩ := h
  obtain ⟨b6, h⟩ := h
  obtain ⟨s7, h⟩ := h
  obtain ⟨s8, h⟩ := h
  refine r_getR c130_95 s5 s7 s8 ?_
  refine r_aload_n c130_98 rfl ?_
  obtain ⟨s9, h⟩ := h
  obtain ⟨b10, h⟩ := h
  obtain ⟨s11, h⟩ := h
  obtain ⟨s12, h⟩ := h
  refine r_getR c130_99 s9 s11 s12 ?_
  obtain ⟨s13, h⟩ := h
  exact r_call c130_102 rfl rfl (Nat.le_of_ble_eq_true rfl) (okc_r rfl rfl s13) h
theorem t130_105 {d : Nat} {l0 : Nat} {l1 : Int} {l2 : Int} {l3 : Int} {l4 : Int} {l5 : Int} {t0 : Int} {M : Mem} {K : KK} {Q : RR → Mem → KK → Prop} (h : Q (.inl (some (vI t0))) M K) : Wp d 130 105 [vR l0, vI l1, vI l2, vI l3, vI l4, vI l5] [vI t0] M K Q := by
  exact r_iret c130_105 (Or.inl rfl) h
theorem t130_106 {d : Nat} {l0 : Nat} {l1 : Int} {l2 : Int} {l3 : Int} {l4 : Int} {l5 : Int} {M : Mem} {K : KK} {Q : RR → Mem → KK → Prop} (h : isO K.1 l0 11 = true ∧ ∃ b2 : Nat, (M l0 10) = (b2 : Int) ∧ 0 < b2 ∧ isO K.1 b2 9 = true ∧ Q (.inl (some (vI (M b2 2)))) M K) : Wp d 130 106 [vR l0, vI l1, vI l2, vI l3, vI l4, vI l5] [] M K Q := by
  refine r_aload_n c130_106 rfl ?_
  obtain ⟨s1, h⟩ := h
  obtain ⟨b2, h⟩ := h
  obtain ⟨s3, h⟩ := h
  obtain ⟨s4, h⟩ := h
  refine r_getR c130_107 s1 s3 s4 ?_
  obtain ⟨s5, h⟩ := h
  refine r_getI c130_110 s5 ?_
  exact r_iret c130_113 (Or.inl rfl) h
theorem t130_114 {d : Nat} {l0 : Nat} {l1 : Int} {l2 : Int} {l3 : Int} {l4 : Int} {l5 : Int} {M : Mem} {K : KK} {Q : RR → Mem → KK → Prop} (h : isO K.1 l0 11 = true ∧ ∃ b2 : Nat, (M l0 10) = (b2 : Int) ∧ 0 < b2 ∧ isO K.1 b2 9 = true ∧ Q (.inl (some (vI (M b2 3)))) M K) : Wp d 130 114 [vR l0, vI l1, vI l2, vI l3, vI l4, vI l5] [] M K Q := by
  refine r_aload_n c130_114 rfl ?_
  obtain ⟨s1, h⟩ := h
  obtain ⟨b2, h⟩ := h
  obtain ⟨s3, h⟩ := h
  obtain ⟨s4, h⟩ := h
  refine r_getR c130_115 s1 s3 s4 ?_
  obtain ⟨s5, h⟩ := h
  refine r_getI c130_118 s5 ?_
  exact r_iret c130_121 (Or.inl rfl) h
theorem t131_0 {d : Nat} {l0 : Nat} {l1 : Int} {l2 : Int} {l3 : Int} {l4 : Int} {l5 : Int} {l6 : Int} {l7 : Int} {M : Mem} {K : KK} {Q : RR → Mem → KK → Prop} (h : Wm d 142 [vI l2, vI (1 : Int), vI (20 : Int)] M K (Bk d 131 5 8 142 [vR l0, vI l1, vI l2, vI l3, vI l4, vI l5, vI l6, vI l7, vU, vU, vU, vU, vU] [vR l0] Q)) : Wp (d + 1) 131 0 [vR l0, vI l1, vI l2, vI l3, vI l4, vI l5, vI l6, vI l7, vU, vU, vU, vU, vU] [] M K Q := by
  refine r_aload_n c131_0 rfl ?_
  refine r_iload_n c131_1 rfl ?_
  refine r_iconst c131_2 ?_
  refine r_bipush c131_3 ?_
  exact r_call c131_5 rfl rfl (Nat.le_of_ble_eq_true rfl) (okc_s rfl rfl rfl) h
theorem t131_8 {d : Nat} {l0 : Nat} {l1 : Int} {l2 : Int} {l3 : Int} {l4 : Int} {l5 : Int} {l6 : Int} {l7 : Int} {t0 : Nat} {t1 : Int} {M : Mem} {K : KK} {Q : RR → Mem → KK → Prop} (h : (t1 = (0 : Int) → Wp (d + 1) 131 36 [vR l0, vI l1, vI l2, vI l3, vI l4, vI l5, vI l6, vI l7, vU, vU, vU, vU, vU] [vR t0] M K Q) ∧ (¬ (t1 = (0 : Int)) → Wm d 141 [vI l3, vI l4, vI l5] M K (Bk d 131 16 19 141 [vR l0, vI l1, vI l2, vI l3, vI l4, vI l5, vI l6, vI l7, vU, vU, vU, vU, vU] [vR t0] Q))) : Wp (d + 1) 131 8 [vR l0, vI l1, vI l2, vI l3, vI l4, vI l5, vI l6, vI l7, vU, vU, vU, vU, vU] [vI t1, vR t0] M K Q := by
  refine r_ifP (P := t1 = (0 : Int)) c131_8 rfl (fun hc => ?_) (fun hc => ?_)
  · replace h := h.1 hc
    exact h
  · replace h := h.2 hc
    refine r_iload_n c131_11 rfl ?_
    refine r_iload c131_12 rfl ?_
    refine r_iload c131_14 rfl ?_
    exact r_call c131_16 rfl rfl (Nat.le_of_ble_eq_true rfl) (okc_s rfl rfl rfl) h
theorem t131_19 {d : Nat} {l0 : Nat} {l1 : Int} {l2 : Int} {l3 : Int} {l4 : Int} {l5 : Int} {l6 : Int} {l7 : Int} {t0 : Nat} {t1 : Int} {M : Mem} {K : KK} {Q : RR → Mem → KK → Prop} (h : (t1 = (0 : Int) → Wp (d + 1) 131 36 [vR l0, vI l1, vI l2, vI l3, vI l4, vI l5, vI l6, vI l7, vU, vU, vU, vU, vU] [vR t0] M K Q) ∧ (¬ (t1 = (0 : Int)) → Wm d 142 [vI l6, vI (0 : Int), vI (2 : Int)] M K (Bk d 131 26 29 142 [vR l0, vI l1, vI l2, vI l3, vI l4, vI l5, vI l6, vI l7, vU, vU, vU, vU, vU] [vR t0] Q))) : Wp (d + 1) 131 19 [vR l0, vI l1, vI l2, vI l3, vI l4, vI l5, vI l6, vI l7, vU, vU, vU, vU, vU] [vI t1, vR t0] M K Q := by
  refine r_ifP (P := t1 = (0 : Int)) c131_19 rfl (fun hc => ?_) (fun hc => ?_)
  · replace h := h.1 hc
    exact h
  · replace h := h.2 hc
    refine r_iload c131_22 rfl ?_
    refine r_iconst c131_24 ?_
    refine r_iconst c131_25 ?_
    exact r_call c131_26 rfl rfl (Nat.le_of_ble_eq_true rfl) (okc_s rfl rfl rfl) h
theorem t131_29 {d : Nat} {l0 : Nat} {l1 : Int} {l2 : Int} {l3 : Int} {l4 : Int} {l5 : Int} {l6 : Int} {l7 : Int} {t0 : Nat} {t1 : Int} {M : Mem} {K : KK} {Q : RR → Mem → KK → Prop} (h : (t1 = (0 : Int) → Wp d 131 36 [vR l0, vI l1, vI l2, vI l3, vI l4, vI l5, vI l6, vI l7, vU, vU, vU, vU, vU] [vR t0] M K Q) ∧ (¬ (t1 = (0 : Int)) → Wp d 131 37 [vR l0, vI l1, vI l2, vI l3, vI l4, vI l5, vI l6, vI l7, vU, vU, vU, vU, vU] [vI (1 : Int), vR t0] M K Q)) : Wp d 131 29 [vR l0, vI l1, vI l2, vI l3, vI l4, vI l5, vI l6, vI l7, vU, vU, vU, vU, vU] [vI t1, vR t0] M K Q := by
  refine r_ifP (P := t1 = (0 : Int)) c131_29 rfl (fun hc => ?_) (fun hc => ?_)
  · replace h := h.1 hc
    exact h
  · replace h := h.2 hc
    refine r_iconst c131_32 ?_
    refine r_goto c131_33 ?_
    exact h
theorem t131_36 {d : Nat} {l0 : Nat} {l1 : Int} {l2 : Int} {l3 : Int} {l4 : Int} {l5 : Int} {l6 : Int} {l7 : Int} {t0 : Nat} {M : Mem} {K : KK} {Q : RR → Mem → KK → Prop} (h : Wp d 131 37 [vR l0, vI l1, vI l2, vI l3, vI l4, vI l5, vI l6, vI l7, vU, vU, vU, vU, vU] [vI (0 : Int), vR t0] M K Q) : Wp d 131 36 [vR l0, vI l1, vI l2, vI l3, vI l4, vI l5, vI l6, vI l7, vU, vU, vU, vU, vU] [vR t0] M K Q := by
  refine r_iconst c131_36 ?_
  exact h
theorem t131_37 {d : Nat} {l0 : Nat} {l1 : Int} {l2 : Int} {l3 : Int} {l4 : Int} {l5 : Int} {l6 : Int} {l7 : Int} {t0 : Nat} {t1 : Int} {M : Mem} {K : KK} {Q : RR → Mem → KK → Prop} (h : isO K.1 t0 11 = true ∧ Wm d 136 [vR t0, vI t1] M K (Bk d 131 37 40 136 [vR l0, vI l1, vI l2, vI l3, vI l4, vI l5, vI l6, vI l7, vU, vU, vU, vU, vU] [] Q)) : Wp (d + 1) 131 37 [vR l0, vI l1, vI l2, vI l3, vI l4, vI l5, vI l6, vI l7, vU, vU, vU, vU, vU] [vI t1, vR t0] M K Q := by
  obtain ⟨s1, h⟩ := h
  exact r_call c131_37 rfl rfl (Nat.le_of_ble_eq_true rfl) (okc_r rfl rfl s1) h
theorem t131_40 {d : Nat} {l0 : Nat} {l1 : Int} {l2 : Int} {l3 : Int} {l4 : Int} {l5 : Int} {l6 : Int} {l7 : Int} {M : Mem} {K : KK} {Q : RR → Mem → KK → Prop} (h : isO K.1 l0 11 = true ∧ ∃ b2 : Nat, (M l0 11) = (b2 : Int) ∧ 0 < b2 ∧ isO K.1 b2 0 = true ∧ Wm d 142 [vI l7, vI (0 : Int), vI (w32 ((M b2 6) - (1 : Int)))] M K (Bk d 131 53 56 142 [vR l0, vI l1, vI l2, vI l3, vI l4, vI l5, vI l6, vI l7, vU, vU, vU, vU, vU] [vR l0] Q)) : Wp (d + 1) 131 40 [vR l0, vI l1, vI l2, vI l3, vI l4, vI l5, vI l6, vI l7, vU, vU, vU, vU, vU] [] M K Q := by
  refine r_aload_n c131_40 rfl ?_
  refine r_iload c131_41 rfl ?_
  refine r_iconst c131_43 ?_
  refine r_aload_n c131_44 rfl ?_
  obtain ⟨s1, h⟩ := h
  obtain ⟨b2, h⟩ := h
  obtain ⟨s3, h⟩ := h
  obtain ⟨s4, h⟩ := h
  refine r_getR c131_45 s1 s3 s4 ?_
  obtain ⟨s5, h⟩ := h
  refine r_getI c131_48 s5 ?_
  refine r_iconst c131_51 ?_
  refine r_isub c131_52 ?_
  exact r_call c131_53 rfl rfl (Nat.le_of_ble_eq_true rfl) (okc_s rfl rfl rfl) h
theorem t131_56 {d : Nat} {l0 : Nat} {l1 : Int} {l2 : Int} {l3 : Int} {l4 : Int} {l5 : Int} {l6 : Int} {l7 : Int} {t0 : Nat} {t1 : Int} {M : Mem} {K : KK} {Q : RR → Mem → KK → Prop} (h : isO K.1 t0 11 = true ∧ Wm d 136 [vR t0, vI t1] M K (Bk d 131 56 59 136 [vR l0, vI l1, vI l2, vI l3, vI l4, vI l5, vI l6, vI l7, vU, vU, vU, vU, vU] [] Q)) : Wp (d + 1) 131 56 [vR l0, vI l1, vI l2, vI l3, vI l4, vI l5, vI l6, vI l7, vU, vU, vU, vU, vU] [vI t1, vR t0] M K Q := by
  obtain ⟨s1, h⟩ := h
  exact r_call c131_56 rfl rfl (Nat.le_of_ble_eq_true rfl) (okc_r rfl rfl s1) h
theorem t131_59 {d : Nat} {l0 : Nat} {l1 : Int} {l2 : Int} {l3 : Int} {l4 : Int} {l5 : Int} {l6 : Int} {l7 : Int} {M : Mem} {K : KK} {Q : RR → Mem → KK → Prop} (h : Wp d 131 71 [vR l0, vI l1, vI l2, vI l3, vI l4, vI l5, vI l6, vI l7, vI (-1 : Int), vI (-1 : Int), vI (0 : Int), vI (0 : Int), vU] [] M K Q) : Wp d 131 59 [vR l0, vI l1, vI l2, vI l3, vI l4, vI l5, vI l6, vI l7, vU, vU, vU, vU, vU] [] M K Q := by
  refine r_iconst c131_59 ?_
  refine r_istore c131_60 (Nat.le_of_ble_eq_true rfl) ?_
  refine r_iconst c131_62 ?_
  refine r_istore c131_63 (Nat.le_of_ble_eq_true rfl) ?_
  refine r_iconst c131_65 ?_
  refine r_istore c131_66 (Nat.le_of_ble_eq_true rfl) ?_
  refine r_iconst c131_68 ?_
  refine r_istore c131_69 (Nat.le_of_ble_eq_true rfl) ?_
  exact h
theorem t131_71 {d : Nat} {l0 : Nat} {l1 : Int} {l2 : Int} {l3 : Int} {l4 : Int} {l5 : Int} {l6 : Int} {l7 : Int} {l8 : Int} {l9 : Int} {l10 : Int} {l11 : Int} {l12 : PV} {M : Mem} {K : KK} {Q : RR → Mem → KK → Prop} (h : (l2 ≤ l11 → (¬ l6 = (0 : Int) → (¬ l6 = (1 : Int) → Wp (d + 1) 131 201 [vR l0, vI l1, vI l2, vI l3, vI l4, vI l5, vI l6, vI l7, vI l8, vI l9, vI l10, vI l11, l12] [vI l10] M K Q) ∧ (¬ (¬ l6 = (1 : Int)) → Wp (d + 1) 131 201 [vR l0, vI l1, vI l2, vI l3, vI l4, vI l5, vI l6, vI l7, vI l8, vI l9, vI l10, vI l11, l12] [vI l9] M K Q)) ∧ (¬ (¬ l6 = (0 : Int)) → Wp (d + 1) 131 201 [vR l0, vI l1, vI l2, vI l3, vI l4, vI l5, vI l6, vI l7, vI l8, vI l9, vI l10, vI l11, l12] [vI l8] M K Q)) ∧ (¬ (l2 ≤ l11) → isO K.1 l0 11 = true ∧ ∃ b2 : Nat, (M l0 10) = (b2 : Int) ∧ 0 < b2 ∧ isO K.1 l0 11 = true ∧ ∃ b6 : Nat, (M l0 11) = (b6 : Int) ∧ 0 < b6 ∧ isO K.1 l0 11 = true ∧ ∃ b10 : Nat, (M l0 2) = (b10 : Int) ∧ 0 < b10 ∧ isO K.1 b2 9 = true ∧ Wm d 80 [vR b2, vR b6, vR b10, vI (w32 (l1 + l11)), vI l3, vI l4, vI l5] M K (Bk d 131 98 101 80 [vR l0, vI l1, vI l2, vI l3, vI l4, vI l5, vI l6, vI l7, vI l8, vI l9, vI l10, vI l11, l12] [] Q))) : Wp (d + 1) 131 71 [vR l0, vI l1, vI l2, vI l3, vI l4, vI l5, vI l6, vI l7, vI l8, vI l9, vI l10, vI l11, l12] [] M K Q := by
  refine r_iload c131_71 rfl ?_
  refine r_iload_n c131_73 rfl ?_
  refine r_icmpP (P := l2 ≤ l11) c131_74 rfl (fun hc => ?_) (fun hc => ?_)
  · replace h := h.1 hc
    refine r_iload c131_178 rfl ?_
    refine r_ifP (P := ¬ l6 = (0 : Int)) c131_180 rfl (fun hc => ?_) (fun hc => ?_)
    · replace h := h.1 hc
      refine r_iload c131_188 rfl ?_
      refine r_iconst c131_190 ?_
      refine r_icmpP (P := ¬ l6 = (1 : Int)) c131_191 rfl (fun hc => ?_) (fun hc => ?_)
      · replace h := h.1 hc
        refine r_iload c131_199 rfl ?_
        exact h
      · replace h := h.2 hc
        refine r_iload c131_194 rfl ?_
        refine r_goto c131_196 ?_
        exact h
    · replace h := h.2 hc
      refine r_iload c131_183 rfl ?_
      refine r_goto c131_185 ?_
      exact h
  · replace h := h.2 hc
    refine r_aload_n c131_77 rfl ?_
    obtain ⟨s1, h⟩ := h
    obtain ⟨b2, h⟩ := h
    obtain ⟨s3, h⟩ := h
    obtain ⟨s4, h⟩ := h
    refine r_getR c131_78 s1 s3 s4 ?_
    refine r_aload_n c131_81 rfl ?_
    obtain ⟨s5, h⟩ := h
    obtain ⟨b6, h⟩ := h
    obtain ⟨s7, h⟩ := h
    obtain ⟨s8, h⟩ := h
    refine r_getR c131_82 s5 s7 s8 ?_
    refine r_aload_n c131_85 rfl ?_
    obtain ⟨s9, h⟩ := h
    obtain ⟨b10, h⟩ := h
    obtain ⟨s11, h⟩ := h
    obtain ⟨s12, h⟩ := h
    refine r_getR c131_86 s9 s11 s12 ?_
    refine r_iload_n c131_89 rfl ?_
    refine r_iload c131_90 rfl ?_
    refine r_iadd c131_92 ?_
    refine r_iload_n c131_93 rfl ?_
    refine r_iload c131_94 rfl ?_
    refine r_iload c131_96 rfl ?_
    obtain ⟨s13, h⟩ := h
    exact r_call c131_98 rfl rfl (Nat.le_of_ble_eq_true rfl) (okc_r rfl rfl s13) h
theorem t131_101 {d : Nat} {l0 : Nat} {l1 : Int} {l2 : Int} {l3 : Int} {l4 : Int} {l5 : Int} {l6 : Int} {l7 : Int} {l8 : Int} {l9 : Int} {l10 : Int} {l11 : Int} {l12 : PV} {M : Mem} {K : KK} {Q : RR → Mem → KK → Prop} (h : isO K.1 l0 11 = true ∧ ∃ b2 : Nat, (M l0 10) = (b2 : Int) ∧ 0 < b2 ∧ isO K.1 b2 9 = true ∧ ∃ b6 : Nat, (M b2 0) = (b6 : Int) ∧ 0 < b6 ∧ isO K.1 l0 11 = true ∧ ∃ b10 : Nat, (M l0 11) = (b10 : Int) ∧ 0 < b10 ∧ isO K.1 b6 3 = true ∧ Wm d 43 [vR b6, vR b10] M K (Bk d 131 112 115 43 [vR l0, vI l1, vI l2, vI l3, vI l4, vI l5, vI l6, vI l7, vI l8, vI l9, vI l10, vI l11, l12] [] Q)) : Wp (d + 1) 131 101 [vR l0, vI l1, vI l2, vI l3, vI l4, vI l5, vI l6, vI l7, vI l8, vI l9, vI l10, vI l11, l12] [] M K Q := by
  refine r_aload_n c131_101 rfl ?_
  obtain ⟨s1, h⟩ := h
  obtain ⟨b2, h⟩ := h
  obtain ⟨s3, h⟩ := h
  obtain ⟨s4, h⟩ := h
  refine r_getR c131_102 s1 s3 s4 ?_
  obtain ⟨s5, h⟩ := h
  obtain ⟨b6, h⟩ := h
  obtain ⟨s7, h⟩ := h
  obtain ⟨s8, h⟩ := h
  refine r_getR c131_105 s5 s7 s8 ?_
  refine r_aload_n c131_108 rfl ?_
  obtain ⟨s9, h⟩ := h
  obtain ⟨b10, h⟩ := h
  obtain ⟨s11, h⟩ := h
  obtain ⟨s12, h⟩ := h
  refine r_getR c131_109 s9 s11 s12 ?_
  obtain ⟨s13, h⟩ := h
  exact r_call c131_112 rfl rfl (Nat.le_of_ble_eq_true rfl) (okc_r rfl rfl s13) h
theorem t131_115 {d : Nat} {l0 : Nat} {l1 : Int} {l2 : Int} {l3 : Int} {l4 : Int} {l5 : Int} {l6 : Int} {l7 : Int} {l8 : Int} {l9 : Int} {l10 : Int} {l11 : Int} {l12 : PV} {t0 : Int} {M : Mem} {K : KK} {Q : RR → Mem → KK → Prop} (h : (¬ l8 = (-1 : Int) → Wp d 131 135 [vR l0, vI l1, vI l2, vI l3, vI l4, vI l5, vI l6, vI l7, vI l8, vI l9, vI l10, vI l11, vI t0] [vI (if t0 < l8 then t0 else l8)] M K Q) ∧ (¬ (¬ l8 = (-1 : Int)) → Wp d 131 135 [vR l0, vI l1, vI l2, vI l3, vI l4, vI l5, vI l6, vI l7, vI l8, vI l9, vI l10, vI l11, vI t0] [vI t0] M K Q)) : Wp d 131 115 [vR l0, vI l1, vI l2, vI l3, vI l4, vI l5, vI l6, vI l7, vI l8, vI l9, vI l10, vI l11, l12] [vI t0] M K Q := by
  refine r_istore c131_115 (Nat.le_of_ble_eq_true rfl) ?_
  refine r_iload c131_117 rfl ?_
  refine r_iconst c131_119 ?_
  refine r_icmpP (P := ¬ l8 = (-1 : Int)) c131_120 rfl (fun hc => ?_) (fun hc => ?_)
  · replace h := h.1 hc
    refine r_iload c131_128 rfl ?_
    refine r_iload c131_130 rfl ?_
    refine r_min c131_132 (Nat.le_of_ble_eq_true rfl) ?_
    exact h
  · replace h := h.2 hc
    refine r_iload c131_123 rfl ?_
    refine r_goto c131_125 ?_
    exact h
theorem t131_135 {d : Nat} {l0 : Nat} {l1 : Int} {l2 : Int} {l3 : Int} {l4 : Int} {l5 : Int} {l6 : Int} {l7 : Int} {l8 : Int} {l9 : Int} {l10 : Int} {l11 : Int} {l12 : Int} {t0 : Int} {M : Mem} {K : KK} {Q : RR → Mem → KK → Prop} (h : isO K.1 l0 11 = true ∧ ∃ b2 : Nat, (M l0 10) = (b2 : Int) ∧ 0 < b2 ∧ isO K.1 b2 9 = true ∧ ∃ b6 : Nat, (M b2 0) = (b6 : Int) ∧ 0 < b6 ∧ isO K.1 b6 3 = true ∧ ∃ b10 : Nat, (M b6 0) = (b10 : Int) ∧ 0 < b10 ∧ isO K.1 b10 20 = true ∧ (0 ≤ l7 ∧ l7 < (ln b10 : Int)) ∧ (¬ (M b10 (Int.toNat l7)) = (0 : Int) → Wp d 131 169 [vR l0, vI l1, vI l2, vI l3, vI l4, vI l5, vI l6, vI l7, vI t0, vI (if l9 < l12 then l12 else l9), vI l10, vI l11, vI l12] [vI (0 : Int), vI l10] M K Q) ∧ (¬ (¬ (M b10 (Int.toNat l7)) = (0 : Int)) → Wp d 131 169 [vR l0, vI l1, vI l2, vI l3, vI l4, vI l5, vI l6, vI l7, vI t0, vI (if l9 < l12 then l12 else l9), vI l10, vI l11, vI l12] [vI (1 : Int), vI l10] M K Q)) : Wp d 131 135 [vR l0, vI l1, vI l2, vI l3, vI l4, vI l5, vI l6, vI l7, vI l8, vI l9, vI l10, vI l11, vI l12] [vI t0] M K Q := by
  refine r_istore c131_135 (Nat.le_of_ble_eq_true rfl) ?_
  refine r_iload c131_137 rfl ?_
  refine r_iload c131_139 rfl ?_
  refine r_max c131_141 (Nat.le_of_ble_eq_true rfl) ?_
  refine r_istore c131_144 (Nat.le_of_ble_eq_true rfl) ?_
  refine r_iload c131_146 rfl ?_
  refine r_aload_n c131_148 rfl ?_
  obtain ⟨s1, h⟩ := h
  obtain ⟨b2, h⟩ := h
  obtain ⟨s3, h⟩ := h
  obtain ⟨s4, h⟩ := h
  refine r_getR c131_149 s1 s3 s4 ?_
  obtain ⟨s5, h⟩ := h
  obtain ⟨b6, h⟩ := h
  obtain ⟨s7, h⟩ := h
  obtain ⟨s8, h⟩ := h
  refine r_getR c131_152 s5 s7 s8 ?_
  obtain ⟨s9, h⟩ := h
  obtain ⟨b10, h⟩ := h
  obtain ⟨s11, h⟩ := h
  obtain ⟨s12, h⟩ := h
  refine r_getR c131_155 s9 s11 s12 ?_
  refine r_iload c131_158 rfl ?_
  obtain ⟨s13, h⟩ := h
  obtain ⟨s14, h⟩ := h
  refine r_ia c131_160 s13 s14 ?_
  refine r_ifP (P := ¬ (M b10 (Int.toNat l7)) = (0 : Int)) c131_161 rfl (fun hc => ?_) (fun hc => ?_)
  · replace h := h.1 hc
    refine r_iconst c131_168 ?_
    exact h
  · replace h := h.2 hc
    refine r_iconst c131_164 ?_
    refine r_goto c131_165 ?_
    exact h
theorem t131_169 {d : Nat} {l0 : Nat} {l1 : Int} {l2 : Int} {l3 : Int} {l4 : Int} {l5 : Int} {l6 : Int} {l7 : Int} {l8 : Int} {l9 : Int} {l10 : Int} {l11 : Int} {l12 : Int} {t0 : Int} {t1 : Int} {M : Mem} {K : KK} {Q : RR → Mem → KK → Prop} (h : Wp d 131 71 [vR l0, vI l1, vI l2, vI l3, vI l4, vI l5, vI l6, vI l7, vI l8, vI l9, vI (w32 (t0 + t1)), vI (w32 (l11 + 1)), vI l12] [] M K Q) : Wp d 131 169 [vR l0, vI l1, vI l2, vI l3, vI l4, vI l5, vI l6, vI l7, vI l8, vI l9, vI l10, vI l11, vI l12] [vI t1, vI t0] M K Q := by
  refine r_iadd c131_169 ?_
  refine r_istore c131_170 (Nat.le_of_ble_eq_true rfl) ?_
  refine r_iinc c131_172 rfl ?_
  refine r_goto c131_175 ?_
  exact h
theorem t131_201 {d : Nat} {l0 : Nat} {l1 : Int} {l2 : Int} {l3 : Int} {l4 : Int} {l5 : Int} {l6 : Int} {l7 : Int} {l8 : Int} {l9 : Int} {l10 : Int} {l11 : Int} {l12 : PV} {t0 : Int} {M : Mem} {K : KK} {Q : RR → Mem → KK → Prop} (h : Q (.inl (some (vI t0))) M K) : Wp d 131 201 [vR l0, vI l1, vI l2, vI l3, vI l4, vI l5, vI l6, vI l7, vI l8, vI l9, vI l10, vI l11, l12] [vI t0] M K Q := by
  exact r_iret c131_201 (Or.inl rfl) h
theorem t132_0 {d : Nat} {l0 : Nat} {M : Mem} {K : KK} {Q : RR → Mem → KK → Prop} (h : isO K.1 l0 11 = true ∧ ((M l0 16) < (3 : Int) → isO K.1 l0 11 = true ∧ ∃ b3 : Nat, (M l0 5) = (b3 : Int) ∧ 0 < b3 ∧ isO K.1 l0 11 = true ∧ (Nat.ble 30 (tg b3) = true ∧ isO K.1 b3 (tg b3) = true) ∧ (0 ≤ (M l0 16) ∧ (M l0 16) < (ln b3 : Int)) ∧ ∃ b9 : Nat, (M b3 (Int.toNat (M l0 16))) = (b9 : Int) ∧ 0 < b9 ∧ isO K.1 l0 11 = true ∧ ∃ b13 : Nat, (M l0 2) = (b13 : Int) ∧ 0 < b13 ∧ isO K.1 b9 3 = true ∧ Wm d 30 [vR b9, vR b13] M K (Bk d 132 23 26 30 [vR l0] [] Q)) ∧ (¬ ((M l0 16) < (3 : Int)) → Q (.inl (some (vI (-1 : Int)))) M K)) : Wp (d + 1) 132 0 [vR l0] [] M K Q := by
  refine r_aload_n c132_0 rfl ?_
  obtain ⟨s1, h⟩ := h
  refine r_getI c132_1 s1 ?_
  refine r_iconst c132_4 ?_
  refine r_icmpP (P := (M l0 16) < (3 : Int)) c132_5 rfl (fun hc => ?_) (fun hc => ?_)
  · replace h := h.1 hc
    refine r_aload_n c132_10 rfl ?_
    obtain ⟨s2, h⟩ := h
    obtain ⟨b3, h⟩ := h
    obtain ⟨s4, h⟩ := h
    obtain ⟨s5, h⟩ := h
    refine r_getR c132_11 s2 s4 s5 ?_
    refine r_aload_n c132_14 rfl ?_
    obtain ⟨s6, h⟩ := h
    refine r_getI c132_15 s6 ?_
    obtain ⟨s7, h⟩ := h
    obtain ⟨s8, h⟩ := h
    obtain ⟨b9, h⟩ := h
    obtain ⟨s10, h⟩ := h
    obtain ⟨s11, h⟩ := h
    refine r_aa c132_18 s7 s8 s10 s11 ?_
    refine r_aload_n c132_19 rfl ?_
    obtain ⟨s12, h⟩ := h
    obtain ⟨b13, h⟩ := h
    obtain ⟨s14, h⟩ := h
    obtain ⟨s15, h⟩ := h
    refine r_getR c132_20 s12 s14 s15 ?_
    obtain ⟨s16, h⟩ := h
    exact r_call c132_23 rfl rfl (Nat.le_of_ble_eq_true rfl) (okc_r rfl rfl s16) h
  · replace h := h.2 hc
    refine r_iconst c132_8 ?_
    exact r_iret c132_9 (Or.inl rfl) h
theorem t132_26 {d : Nat} {l0 : Nat} {M : Mem} {K : KK} {Q : RR → Mem → KK → Prop} (h : isO K.1 l0 11 = true ∧ ∃ b2 : Nat, (M l0 6) = (b2 : Int) ∧ 0 < b2 ∧ isO K.1 l0 11 = true ∧ (Nat.ble 30 (tg b2) = true ∧ isO K.1 b2 (tg b2) = true) ∧ (0 ≤ (M l0 16) ∧ (M l0 16) < (ln b2 : Int)) ∧ ∃ b8 : Nat, (M b2 (Int.toNat (M l0 16))) = (b8 : Int) ∧ 0 < b8 ∧ isO K.1 l0 11 = true ∧ ∃ b12 : Nat, (M l0 4) = (b12 : Int) ∧ 0 < b12 ∧ isO K.1 b8 6 = true ∧ Wm d 62 [vR b8, vR b12] M K (Bk d 132 39 42 62 [vR l0] [] Q)) : Wp (d + 1) 132 26 [vR l0] [] M K Q := by
  refine r_aload_n c132_26 rfl ?_
  obtain ⟨s1, h⟩ := h
  obtain ⟨b2, h⟩ := h
  obtain ⟨s3, h⟩ := h
  obtain ⟨s4, h⟩ := h
  refine r_getR c132_27 s1 s3 s4 ?_
  refine r_aload_n c132_30 rfl ?_
  obtain ⟨s5, h⟩ := h
  refine r_getI c132_31 s5 ?_
  obtain ⟨s6, h⟩ := h
  obtain ⟨s7, h⟩ := h
  obtain ⟨b8, h⟩ := h
  obtain ⟨s9, h⟩ := h
  obtain ⟨s10, h⟩ := h
  refine r_aa c132_34 s6 s7 s9 s10 ?_
  refine r_aload_n c132_35 rfl ?_
  obtain ⟨s11, h⟩ := h
  obtain ⟨b12, h⟩ := h
  obtain ⟨s13, h⟩ := h
  obtain ⟨s14, h⟩ := h
  refine r_getR c132_36 s11 s13 s14 ?_
  obtain ⟨s15, h⟩ := h
  exact r_call c132_39 rfl rfl (Nat.le_of_ble_eq_true rfl) (okc_r rfl rfl s15) h
theorem t132_42 {d : Nat} {l0 : Nat} {M : Mem} {K : KK} {Q : RR → Mem → KK → Prop} (h : isO K.1 l0 11 = true ∧ isO K.1 l0 11 = true ∧ isO K.1 l0 11 = true ∧ Q (.inl (some (vI ((mset M l0 16 (w32 ((M l0 16) + (1 : Int)))) l0 16)))) (mset M l0 16 (w32 ((M l0 16) + (1 : Int)))) K) : Wp d 132 42 [vR l0] [] M K Q := by
  refine r_aload_n c132_42 rfl ?_
  refine r_dupr c132_43 ?_
  obtain ⟨s1, h⟩ := h
  refine r_getI c132_44 s1 ?_
  refine r_iconst c132_47 ?_
  refine r_iadd c132_48 ?_
  obtain ⟨s2, h⟩ := h
  refine r_putI c132_49 s2 ?_
  refine r_aload_n c132_52 rfl ?_
  obtain ⟨s3, h⟩ := h
  refine r_getI c132_53 s3 ?_
  exact r_iret c132_56 (Or.inl rfl) h
theorem t133_0 {d : Nat} {l0 : Nat} {M : Mem} {K : KK} {Q : RR → Mem → KK → Prop} (h : isO K.1 l0 11 = true ∧ ((0 : Int) < (M l0 16) → isO K.1 l0 11 = true ∧ isO K.1 l0 11 = true ∧ isO K.1 l0 11 = true ∧ ∃ b5 : Nat, ((mset M l0 16 (w32 ((M l0 16) - (1 : Int)))) l0 2) = (b5 : Int) ∧ 0 < b5 ∧ isO K.1 l0 11 = true ∧ ∃ b9 : Nat, ((mset M l0 16 (w32 ((M l0 16) - (1 : Int)))) l0 5) = (b9 : Int) ∧ 0 < b9 ∧ isO K.1 l0 11 = true ∧ (Nat.ble 30 (tg b9) = true ∧ isO K.1 b9 (tg b9) = true) ∧ (0 ≤ ((mset M l0 16 (w32 ((M l0 16) - (1 : Int)))) l0 16) ∧ ((mset M l0 16 (w32 ((M l0 16) - (1 : Int)))) l0 16) < (ln b9 : Int)) ∧ ∃ b15 : Nat, ((mset M l0 16 (w32 ((M l0 16) - (1 : Int)))) b9 (Int.toNat ((mset M l0 16 (w32 ((M l0 16) - (1 : Int)))) l0 16))) = (b15 : Int) ∧ 0 < b15 ∧ isO K.1 b5 3 = true ∧ Wm d 30 [vR b5, vR b15] (mset M l0 16 (w32 ((M l0 16) - (1 : Int)))) K (Bk d 133 32 35 30 [vR l0] [] Q)) ∧ (¬ ((0 : Int) < (M l0 16)) → Q (.inl (some (vI (-1 : Int)))) M K)) : Wp (d + 1) 133 0 [vR l0] [] M K Q := by
  refine r_aload_n c133_0 rfl ?_
  obtain ⟨s1, h⟩ := h
  refine r_getI c133_1 s1 ?_
  refine r_ifP (P := (0 : Int) < (M l0 16)) c133_4 rfl (fun hc => ?_) (fun hc => ?_)
  · replace h := h.1 hc
    refine r_aload_n c133_9 rfl ?_
    refine r_dupr c133_10 ?_
    obtain ⟨s2, h⟩ := h
    refine r_getI c133_11 s2 ?_
    refine r_iconst c133_14 ?_
    refine r_isub c133_15 ?_
    obtain ⟨s3, h⟩ := h
    refine r_putI c133_16 s3 ?_
    refine r_aload_n c133_19 rfl ?_
    obtain ⟨s4, h⟩ := h
    obtain ⟨b5, h⟩ := h
    obtain ⟨s6, h⟩ := h
    obtain ⟨s7, h⟩ := h
    refine r_getR c133_20 s4 s6 s7 ?_
    refine r_aload_n c133_23 rfl ?_
    obtain ⟨s8, h⟩ := h
    obtain ⟨b9, h⟩ := h
    obtain ⟨s10, h⟩ := h
    obtain ⟨s11, h⟩ := h
    refine r_getR c133_24 s8 s10 s11 ?_
    refine r_aload_n c133_27 rfl ?_
    obtain ⟨s12, h⟩ := h
    refine r_getI c133_28 s12 ?_
    obtain ⟨s13, h⟩ := h
    obtain ⟨s14, h⟩ := h
    obtain ⟨b15, h⟩ := h
    obtain ⟨s16, h⟩ := h
    obtain ⟨s17, h⟩ := h
    refine r_aa c133_31 s13 s14 s16 s17 ?_
    obtain ⟨s18, h⟩ := h
    exact r_call c133_32 rfl rfl (Nat.le_of_ble_eq_true rfl) (okc_r rfl rfl s18) h
  · replace h := h.2 hc
    refine r_iconst c133_7 ?_
    exact r_iret c133_8 (Or.inl rfl) h
theorem t133_35 {d : Nat} {l0 : Nat} {M : Mem} {K : KK} {Q : RR → Mem → KK → Prop} (h : isO K.1 l0 11 = true ∧ ∃ b2 : Nat, (M l0 4) = (b2 : Int) ∧ 0 < b2 ∧ isO K.1 l0 11 = true ∧ ∃ b6 : Nat, (M l0 6) = (b6 : Int) ∧ 0 < b6 ∧ isO K.1 l0 11 = true ∧ (Nat.ble 30 (tg b6) = true ∧ isO K.1 b6 (tg b6) = true) ∧ (0 ≤ (M l0 16) ∧ (M l0 16) < (ln b6 : Int)) ∧ ∃ b12 : Nat, (M b6 (Int.toNat (M l0 16))) = (b12 : Int) ∧ 0 < b12 ∧ isO K.1 b2 6 = true ∧ Wm d 62 [vR b2, vR b12] M K (Bk d 133 48 51 62 [vR l0] [] Q)) : Wp (d + 1) 133 35 [vR l0] [] M K Q := by
  refine r_aload_n c133_35 rfl ?_
  obtain ⟨s1, h⟩ := h
  obtain ⟨b2, h⟩ := h
  obtain ⟨s3, h⟩ := h
  obtain ⟨s4, h⟩ := h
  refine r_getR c133_36 s1 s3 s4 ?_
  refine r_aload_n c133_39 rfl ?_
  obtain ⟨s5, h⟩ := h
  obtain ⟨b6, h⟩ := h
  obtain ⟨s7, h⟩ := h
  obtain ⟨s8, h⟩ := h
  refine r_getR c133_40 s5 s7 s8 ?_
  refine r_aload_n c133_43 rfl ?_
  obtain ⟨s9, h⟩ := h
  refine r_getI c133_44 s9 ?_
  obtain ⟨s10, h⟩ := h
  obtain ⟨s11, h⟩ := h
  obtain ⟨b12, h⟩ := h
  obtain ⟨s13, h⟩ := h
  obtain ⟨s14, h⟩ := h
  refine r_aa c133_47 s10 s11 s13 s14 ?_
  obtain ⟨s15, h⟩ := h
  exact r_call c133_48 rfl rfl (Nat.le_of_ble_eq_true rfl) (okc_r rfl rfl s15) h
theorem t133_51 {d : Nat} {l0 : Nat} {M : Mem} {K : KK} {Q : RR → Mem → KK → Prop} (h : isO K.1 l0 11 = true ∧ isO K.1 l0 11 = true ∧ Q (.inl (some (vI ((mset M l0 17 (0 : Int)) l0 16)))) (mset M l0 17 (0 : Int)) K) : Wp d 133 51 [vR l0] [] M K Q := by
  refine r_aload_n c133_51 rfl ?_
  refine r_iconst c133_52 ?_
  obtain ⟨s1, h⟩ := h
  refine r_putI c133_53 s1 ?_
  refine r_aload_n c133_56 rfl ?_
  obtain ⟨s2, h⟩ := h
  refine r_getI c133_57 s2 ?_
  exact r_iret c133_60 (Or.inl rfl) h
theorem t134_0 {d : Nat} {l0 : Nat} {l1 : Int} {M : Mem} {K : KK} {Q : RR → Mem → KK → Prop} (h : (¬ l1 = (0 : Int) → (¬ l1 = (1 : Int) → Wp d 134 24 [vR l0, vI l1] [vI (-1 : Int)] M K Q) ∧ (¬ (¬ l1 = (1 : Int)) → isO K.1 l0 11 = true ∧ Wp d 134 24 [vR l0, vI l1] [vI (M l0 19)] M K Q)) ∧ (¬ (¬ l1 = (0 : Int)) → isO K.1 l0 11 = true ∧ Wp d 134 24 [vR l0, vI l1] [vI (M l0 18)] M K Q)) : Wp d 134 0 [vR l0, vI l1] [] M K Q := by
  refine r_iload_n c134_0 rfl ?_
  refine r_ifP (P := ¬ l1 = (0 : Int)) c134_1 rfl (fun hc => ?_) (fun hc => ?_)
  · replace h := h.1 hc
    refine r_iload_n c134_11 rfl ?_
    refine r_iconst c134_12 ?_
    refine r_icmpP (P := ¬ l1 = (1 : Int)) c134_13 rfl (fun hc => ?_) (fun hc => ?_)
    · replace h := h.1 hc
      refine r_iconst c134_23 ?_
      exact h
    · replace h := h.2 hc
      refine r_aload_n c134_16 rfl ?_
      obtain ⟨s1, h⟩ := h
      refine r_getI c134_17 s1 ?_
      refine r_goto c134_20 ?_
      exact h
  · replace h := h.2 hc
    refine r_aload_n c134_4 rfl ?_
    obtain ⟨s2, h⟩ := h
    refine r_getI c134_5 s2 ?_
    refine r_goto c134_8 ?_
    exact h
theorem t134_24 {d : Nat} {l0 : Nat} {l1 : Int} {t0 : Int} {M : Mem} {K : KK} {Q : RR → Mem → KK → Prop} (h : Q (.inl (some (vI t0))) M K) : Wp d 134 24 [vR l0, vI l1] [vI t0] M K Q := by
  exact r_iret c134_24 (Or.inl rfl) h
theorem t135_0 {d : Nat} {l0 : Nat} {l1 : Int} {M : Mem} {K : KK} {Q : RR → Mem → KK → Prop} (h : Wp d 135 (tsw 1 48 0 2 #[27, 32, 40] l1) [vR l0, vI l1] [] M K Q) : Wp d 135 0 [vR l0, vI l1] [] M K Q := by
  refine r_iload_n c135_0 rfl ?_
  refine r_tsw c135_1 ?_
  exact h
theorem t135_28 {d : Nat} {l0 : Nat} {l1 : Int} {M : Mem} {K : KK} {Q : RR → Mem → KK → Prop} (h : isO K.1 l0 11 = true ∧ Q (.inl (some (vI (M l0 16)))) M K) : Wp d 135 28 [vR l0, vI l1] [] M K Q := by
  refine r_aload_n c135_28 rfl ?_
  obtain ⟨s1, h⟩ := h
  refine r_getI c135_29 s1 ?_
  exact r_iret c135_32 (Or.inl rfl) h
theorem t135_33 {d : Nat} {l0 : Nat} {l1 : Int} {M : Mem} {K : KK} {Q : RR → Mem → KK → Prop} (h : isO K.1 l0 11 = true ∧ ∃ b2 : Nat, (M l0 0) = (b2 : Int) ∧ 0 < b2 ∧ isO K.1 b2 10 = true ∧ Q (.inl (some (vI (M b2 1)))) M K) : Wp d 135 33 [vR l0, vI l1] [] M K Q := by
  refine r_aload_n c135_33 rfl ?_
  obtain ⟨s1, h⟩ := h
  obtain ⟨b2, h⟩ := h
  obtain ⟨s3, h⟩ := h
  obtain ⟨s4, h⟩ := h
  refine r_getR c135_34 s1 s3 s4 ?_
  obtain ⟨s5, h⟩ := h
  refine r_getI c135_37 s5 ?_
  exact r_iret c135_40 (Or.inl rfl) h
theorem t135_41 {d : Nat} {l0 : Nat} {l1 : Int} {M : Mem} {K : KK} {Q : RR → Mem → KK → Prop} (h : isO K.1 l0 11 = true ∧ ∃ b2 : Nat, (M l0 4) = (b2 : Int) ∧ 0 < b2 ∧ isO K.1 b2 6 = true ∧ Q (.inl (some (vI (M b2 1)))) M K) : Wp d 135 41 [vR l0, vI l1] [] M K Q := by
  refine r_aload_n c135_41 rfl ?_
  obtain ⟨s1, h⟩ := h
  obtain ⟨b2, h⟩ := h
  obtain ⟨s3, h⟩ := h
  obtain ⟨s4, h⟩ := h
  refine r_getR c135_42 s1 s3 s4 ?_
  obtain ⟨s5, h⟩ := h
  refine r_getI c135_45 s5 ?_
  exact r_iret c135_48 (Or.inl rfl) h
theorem t135_49 {d : Nat} {l0 : Nat} {l1 : Int} {M : Mem} {K : KK} {Q : RR → Mem → KK → Prop} (h : Q (.inl (some (vI (-1 : Int)))) M K) : Wp d 135 49 [vR l0, vI l1] [] M K Q := by
  refine r_iconst c135_49 ?_
  exact r_iret c135_50 (Or.inl rfl) h
theorem t136_0 {d : Nat} {l0 : Nat} {l1 : Int} {M : Mem} {K : KK} {Q : RR → Mem → KK → Prop} (h : (¬ l1 = (0 : Int) → Q (.inl none) M K) ∧ (¬ (¬ l1 = (0 : Int)) → isO K.1 l0 11 = true ∧ isO K.1 l0 11 = true ∧ Q (.inr 0) (mset M l0 19 (w32 ((M l0 19) + (1 : Int)))) (K.1, K.2.1 + 1, K.2.2 + 6))) : Wp d 136 0 [vR l0, vI l1] [] M K Q := by
  refine r_iload_n c136_0 rfl ?_
  refine r_ifP (P := ¬ l1 = (0 : Int)) c136_1 rfl (fun hc => ?_) (fun hc => ?_)
  · replace h := h.1 hc
    exact r_ret c136_25 h
  · replace h := h.2 hc
    refine r_aload_n c136_4 rfl ?_
    refine r_dupr c136_5 ?_
    obtain ⟨s1, h⟩ := h
    refine r_getI c136_6 s1 ?_
    refine r_iconst c136_9 ?_
    refine r_iadd c136_10 ?_
    obtain ⟨s2, h⟩ := h
    refine r_putI c136_11 s2 ?_
    exact r_throw (e := 0) c136_14 (Nat.le_of_ble_eq_true rfl) h
theorem t137_0 {d : Nat} {l0 : Nat} {l1 : Int} {M : Mem} {K : KK} {Q : RR → Mem → KK → Prop} (h : (¬ l1 = (0 : Int) → Q (.inl none) M K) ∧ (¬ (¬ l1 = (0 : Int)) → isO K.1 l0 11 = true ∧ isO K.1 l0 11 = true ∧ Q (.inr 1) (mset M l0 18 (w32 ((M l0 18) + (1 : Int)))) (K.1, K.2.1 + 1, K.2.2 + 6))) : Wp d 137 0 [vR l0, vI l1] [] M K Q := by
  refine r_iload_n c137_0 rfl ?_
  refine r_ifP (P := ¬ l1 = (0 : Int)) c137_1 rfl (fun hc => ?_) (fun hc => ?_)
  · replace h := h.1 hc
    exact r_ret c137_25 h
  · replace h := h.2 hc
    refine r_aload_n c137_4 rfl ?_
    refine r_dupr c137_5 ?_
    obtain ⟨s1, h⟩ := h
    refine r_getI c137_6 s1 ?_
    refine r_iconst c137_9 ?_
    refine r_iadd c137_10 ?_
    obtain ⟨s2, h⟩ := h
    refine r_putI c137_11 s2 ?_
    exact r_throw (e := 1) c137_14 (Nat.le_of_ble_eq_true rfl) h
theorem t138_0 {d : Nat} {l0 : Nat} {l1 : Int} {M : Mem} {K : KK} {Q : RR → Mem → KK → Prop} (h : isO K.1 l0 11 = true ∧ ∃ b2 : Nat, (M l0 11) = (b2 : Int) ∧ 0 < b2 ∧ isO K.1 b2 0 = true ∧ Wm d 142 [vI l1, vI (0 : Int), vI (w32 ((M b2 6) - (1 : Int)))] M K (Bk d 138 12 15 142 [vR l0, vI l1] [vR l0] Q)) : Wp (d + 1) 138 0 [vR l0, vI l1] [] M K Q := by
  refine r_aload_n c138_0 rfl ?_
  refine r_iload_n c138_1 rfl ?_
  refine r_iconst c138_2 ?_
  refine r_aload_n c138_3 rfl ?_
  obtain ⟨s1, h⟩ := h
  obtain ⟨b2, h⟩ := h
  obtain ⟨s3, h⟩ := h
  obtain ⟨s4, h⟩ := h
  refine r_getR c138_4 s1 s3 s4 ?_
  obtain ⟨s5, h⟩ := h
  refine r_getI c138_7 s5 ?_
  refine r_iconst c138_10 ?_
  refine r_isub c138_11 ?_
  exact r_call c138_12 rfl rfl (Nat.le_of_ble_eq_true rfl) (okc_s rfl rfl rfl) h
theorem t138_15 {d : Nat} {l0 : Nat} {l1 : Int} {t0 : Nat} {t1 : Int} {M : Mem} {K : KK} {Q : RR → Mem → KK → Prop} (h : isO K.1 t0 11 = true ∧ Wm d 137 [vR t0, vI t1] M K (Bk d 138 15 18 137 [vR l0, vI l1] [] Q)) : Wp (d + 1) 138 15 [vR l0, vI l1] [vI t1, vR t0] M K Q := by
  obtain ⟨s1, h⟩ := h
  exact r_call c138_15 rfl rfl (Nat.le_of_ble_eq_true rfl) (okc_r rfl rfl s1) h
theorem t138_18 {d : Nat} {l0 : Nat} {l1 : Int} {M : Mem} {K : KK} {Q : RR → Mem → KK → Prop} (h : Q (.inl none) M K) : Wp d 138 18 [vR l0, vI l1] [] M K Q := by
  exact r_ret c138_18 h
theorem t139_0 {d : Nat} {l0 : Nat} {l1 : Int} {M : Mem} {K : KK} {Q : RR → Mem → KK → Prop} (h : isO K.1 l0 11 = true ∧ ∃ b2 : Nat, (M l0 11) = (b2 : Int) ∧ 0 < b2 ∧ isO K.1 b2 0 = true ∧ Wm d 142 [vI l1, vI (0 : Int), vI (w32 ((M b2 5) - (1 : Int)))] M K (Bk d 139 12 15 142 [vR l0, vI l1] [vR l0] Q)) : Wp (d + 1) 139 0 [vR l0, vI l1] [] M K Q := by
  refine r_aload_n c139_0 rfl ?_
  refine r_iload_n c139_1 rfl ?_
  refine r_iconst c139_2 ?_
  refine r_aload_n c139_3 rfl ?_
  obtain ⟨s1, h⟩ := h
  obtain ⟨b2, h⟩ := h
  obtain ⟨s3, h⟩ := h
  obtain ⟨s4, h⟩ := h
  refine r_getR c139_4 s1 s3 s4 ?_
  obtain ⟨s5, h⟩ := h
  refine r_getI c139_7 s5 ?_
  refine r_iconst c139_10 ?_
  refine r_isub c139_11 ?_
  exact r_call c139_12 rfl rfl (Nat.le_of_ble_eq_true rfl) (okc_s rfl rfl rfl) h
theorem t139_15 {d : Nat} {l0 : Nat} {l1 : Int} {t0 : Nat} {t1 : Int} {M : Mem} {K : KK} {Q : RR → Mem → KK → Prop} (h : isO K.1 t0 11 = true ∧ Wm d 137 [vR t0, vI t1] M K (Bk d 139 15 18 137 [vR l0, vI l1] [] Q)) : Wp (d + 1) 139 15 [vR l0, vI l1] [vI t1, vR t0] M K Q := by
  obtain ⟨s1, h⟩ := h
  exact r_call c139_15 rfl rfl (Nat.le_of_ble_eq_true rfl) (okc_r rfl rfl s1) h
theorem t139_18 {d : Nat} {l0 : Nat} {l1 : Int} {M : Mem} {K : KK} {Q : RR → Mem → KK → Prop} (h : Q (.inl none) M K) : Wp d 139 18 [vR l0, vI l1] [] M K Q := by
  exact r_ret c139_18 h
theorem t140_0 {d : Nat} {l0 : Nat} {l1 : Int} {l2 : Int} {M : Mem} {K : KK} {Q : RR → Mem → KK → Prop} (h : Wm d 142 [vI l1, vI (0 : Int), vI l2] M K (Bk d 140 3 6 142 [vR l0, vI l1, vI l2] [] Q)) : Wp (d + 1) 140 0 [vR l0, vI l1, vI l2] [] M K Q := by
  refine r_iload_n c140_0 rfl ?_
  refine r_iconst c140_1 ?_
  refine r_iload_n c140_2 rfl ?_
  exact r_call c140_3 rfl rfl (Nat.le_of_ble_eq_true rfl) (okc_s rfl rfl rfl) h
theorem t140_6 {d : Nat} {l0 : Nat} {l1 : Int} {l2 : Int} {t0 : Int} {M : Mem} {K : KK} {Q : RR → Mem → KK → Prop} (h : (t0 = (0 : Int) → Wp d 140 24 [vR l0, vI l1, vI l2] [] M K Q) ∧ (¬ (t0 = (0 : Int)) → isO K.1 l0 11 = true ∧ ∃ b2 : Nat, (M l0 0) = (b2 : Int) ∧ 0 < b2 ∧ isO K.1 b2 10 = true ∧ ((M b2 1) < l1 → Wp d 140 24 [vR l0, vI l1, vI l2] [] M K Q) ∧ (¬ ((M b2 1) < l1) → Wp d 140 25 [vR l0, vI l1, vI l2] [vI (1 : Int)] M K Q))) : Wp d 140 6 [vR l0, vI l1, vI l2] [vI t0] M K Q := by
  refine r_ifP (P := t0 = (0 : Int)) c140_6 rfl (fun hc => ?_) (fun hc => ?_)
  · replace h := h.1 hc
    exact h
  · replace h := h.2 hc
    refine r_iload_n c140_9 rfl ?_
    refine r_aload_n c140_10 rfl ?_
    obtain ⟨s1, h⟩ := h
    obtain ⟨b2, h⟩ := h
    obtain ⟨s3, h⟩ := h
    obtain ⟨s4, h⟩ := h
    refine r_getR c140_11 s1 s3 s4 ?_
    obtain ⟨s5, h⟩ := h
    refine r_getI c140_14 s5 ?_
    refine r_icmpP (P := (M b2 1) < l1) c140_17 rfl (fun hc => ?_) (fun hc => ?_)
    · replace h := h.1 hc
      exact h
    · replace h := h.2 hc
      refine r_iconst c140_20 ?_
      refine r_goto c140_21 ?_
      exact h
theorem t140_24 {d : Nat} {l0 : Nat} {l1 : Int} {l2 : Int} {M : Mem} {K : KK} {Q : RR → Mem → KK → Prop} (h : Wp d 140 25 [vR l0, vI l1, vI l2] [vI (0 : Int)] M K Q) : Wp d 140 24 [vR l0, vI l1, vI l2] [] M K Q := by
  refine r_iconst c140_24 ?_
  exact h
theorem t140_25 {d : Nat} {l0 : Nat} {l1 : Int} {l2 : Int} {t0 : Int} {M : Mem} {K : KK} {Q : RR → Mem → KK → Prop} (h : (t0 = 0 ∨ t0 = 1) ∧ Q (.inl (some (vI t0))) M K) : Wp d 140 25 [vR l0, vI l1, vI l2] [vI t0] M K Q := by
  obtain ⟨s1, h⟩ := h
  exact r_iret c140_25 (Or.inr s1) h
theorem t141_0 {d : Nat} {l0 : Int} {l1 : Int} {l2 : Int} {M : Mem} {K : KK} {Q : RR → Mem → KK → Prop} (h : Wm d 142 [vI l0, vI (1 : Int), vI (96 : Int)] M K (Bk d 141 4 7 142 [vI l0, vI l1, vI l2] [] Q)) : Wp (d + 1) 141 0 [vI l0, vI l1, vI l2] [] M K Q := by
  refine r_iload_n c141_0 rfl ?_
  refine r_iconst c141_1 ?_
  refine r_bipush c141_2 ?_
  exact r_call c141_4 rfl rfl (Nat.le_of_ble_eq_true rfl) (okc_s rfl rfl rfl) h
theorem t141_7 {d : Nat} {l0 : Int} {l1 : Int} {l2 : Int} {t0 : Int} {M : Mem} {K : KK} {Q : RR → Mem → KK → Prop} (h : (t0 = (0 : Int) → Wp (d + 1) 141 34 [vI l0, vI l1, vI l2] [] M K Q) ∧ (¬ (t0 = (0 : Int)) → Wm d 142 [vI l1, vI (0 : Int), vI (16 : Int)] M K (Bk d 141 14 17 142 [vI l0, vI l1, vI l2] [] Q))) : Wp (d + 1) 141 7 [vI l0, vI l1, vI l2] [vI t0] M K Q := by
  refine r_ifP (P := t0 = (0 : Int)) c141_7 rfl (fun hc => ?_) (fun hc => ?_)
  · replace h := h.1 hc
    exact h
  · replace h := h.2 hc
    refine r_iload_n c141_10 rfl ?_
    refine r_iconst c141_11 ?_
    refine r_bipush c141_12 ?_
    exact r_call c141_14 rfl rfl (Nat.le_of_ble_eq_true rfl) (okc_s rfl rfl rfl) h
theorem t141_17 {d : Nat} {l0 : Int} {l1 : Int} {l2 : Int} {t0 : Int} {M : Mem} {K : KK} {Q : RR → Mem → KK → Prop} (h : (t0 = (0 : Int) → Wp (d + 1) 141 34 [vI l0, vI l1, vI l2] [] M K Q) ∧ (¬ (t0 = (0 : Int)) → Wm d 142 [vI l2, vI (0 : Int), vI (16 : Int)] M K (Bk d 141 24 27 142 [vI l0, vI l1, vI l2] [] Q))) : Wp (d + 1) 141 17 [vI l0, vI l1, vI l2] [vI t0] M K Q := by
  refine r_ifP (P := t0 = (0 : Int)) c141_17 rfl (fun hc => ?_) (fun hc => ?_)
  · replace h := h.1 hc
    exact h
  · replace h := h.2 hc
    refine r_iload_n c141_20 rfl ?_
    refine r_iconst c141_21 ?_
    refine r_bipush c141_22 ?_
    exact r_call c141_24 rfl rfl (Nat.le_of_ble_eq_true rfl) (okc_s rfl rfl rfl) h
theorem t141_27 {d : Nat} {l0 : Int} {l1 : Int} {l2 : Int} {t0 : Int} {M : Mem} {K : KK} {Q : RR → Mem → KK → Prop} (h : (t0 = (0 : Int) → Wp d 141 34 [vI l0, vI l1, vI l2] [] M K Q) ∧ (¬ (t0 = (0 : Int)) → Wp d 141 35 [vI l0, vI l1, vI l2] [vI (1 : Int)] M K Q)) : Wp d 141 27 [vI l0, vI l1, vI l2] [vI t0] M K Q := by
  refine r_ifP (P := t0 = (0 : Int)) c141_27 rfl (fun hc => ?_) (fun hc => ?_)
  · replace h := h.1 hc
    exact h
  · replace h := h.2 hc
    refine r_iconst c141_30 ?_
    refine r_goto c141_31 ?_
    exact h
theorem t141_34 {d : Nat} {l0 : Int} {l1 : Int} {l2 : Int} {M : Mem} {K : KK} {Q : RR → Mem → KK → Prop} (h : Wp d 141 35 [vI l0, vI l1, vI l2] [vI (0 : Int)] M K Q) : Wp d 141 34 [vI l0, vI l1, vI l2] [] M K Q := by
  refine r_iconst c141_34 ?_
  exact h
theorem t141_35 {d : Nat} {l0 : Int} {l1 : Int} {l2 : Int} {t0 : Int} {M : Mem} {K : KK} {Q : RR → Mem → KK → Prop} (h : (t0 = 0 ∨ t0 = 1) ∧ Q (.inl (some (vI t0))) M K) : Wp d 141 35 [vI l0, vI l1, vI l2] [vI t0] M K Q := by
  obtain ⟨s1, h⟩ := h
  exact r_iret c141_35 (Or.inr s1) h
theorem t142_0 {d : Nat} {l0 : Int} {l1 : Int} {l2 : Int} {M : Mem} {K : KK} {Q : RR → Mem → KK → Prop} (h : (l0 < l1 → Wp d 142 14 [vI l0, vI l1, vI l2] [] M K Q) ∧ (¬ (l0 < l1) → (l2 < l0 → Wp d 142 14 [vI l0, vI l1, vI l2] [] M K Q) ∧ (¬ (l2 < l0) → Wp d 142 15 [vI l0, vI l1, vI l2] [vI (1 : Int)] M K Q))) : Wp d 142 0 [vI l0, vI l1, vI l2] [] M K Q := by
  refine r_iload_n c142_0 rfl ?_
  refine r_iload_n c142_1 rfl ?_
  refine r_icmpP (P := l0 < l1) c142_2 rfl (fun hc => ?_) (fun hc => ?_)
  · replace h := h.1 hc
    exact h
  · replace h := h.2 hc
    refine r_iload_n c142_5 rfl ?_
    refine r_iload_n c142_6 rfl ?_
    refine r_icmpP (P := l2 < l0) c142_7 rfl (fun hc => ?_) (fun hc => ?_)
    · replace h := h.1 hc
      exact h
    · replace h := h.2 hc
      refine r_iconst c142_10 ?_
      refine r_goto c142_11 ?_
      exact h
theorem t142_14 {d : Nat} {l0 : Int} {l1 : Int} {l2 : Int} {M : Mem} {K : KK} {Q : RR → Mem → KK → Prop} (h : Wp d 142 15 [vI l0, vI l1, vI l2] [vI (0 : Int)] M K Q) : Wp d 142 14 [vI l0, vI l1, vI l2] [] M K Q := by
  refine r_iconst c142_14 ?_
  exact h
theorem t142_15 {d : Nat} {l0 : Int} {l1 : Int} {l2 : Int} {t0 : Int} {M : Mem} {K : KK} {Q : RR → Mem → KK → Prop} (h : (t0 = 0 ∨ t0 = 1) ∧ Q (.inl (some (vI t0))) M K) : Wp d 142 15 [vI l0, vI l1, vI l2] [vI t0] M K Q := by
  obtain ⟨s1, h⟩ := h
  exact r_iret c142_15 (Or.inr s1) h
theorem t143_0 {d : Nat} {l0 : Int} {l1 : Int} {M : Mem} {K : KK} {Q : RR → Mem → KK → Prop} (h : (l0 < (0 : Int) → Wp d 143 15 [vI l0, vI l1] [] M K Q) ∧ (¬ (l0 < (0 : Int)) → ((jshl (1 : Int) l1) ≤ l0 → Wp d 143 15 [vI l0, vI l1] [] M K Q) ∧ (¬ ((jshl (1 : Int) l1) ≤ l0) → Wp d 143 16 [vI l0, vI l1] [vI (1 : Int)] M K Q))) : Wp d 143 0 [vI l0, vI l1] [] M K Q := by
  refine r_iload_n c143_0 rfl ?_
  refine r_ifP (P := l0 < (0 : Int)) c143_1 rfl (fun hc => ?_) (fun hc => ?_)
  · replace h := h.1 hc
    exact h
  · replace h := h.2 hc
    refine r_iload_n c143_4 rfl ?_
    refine r_iconst c143_5 ?_
    refine r_iload_n c143_6 rfl ?_
    refine r_ishl c143_7 ?_
    refine r_icmpP (P := (jshl (1 : Int) l1) ≤ l0) c143_8 rfl (fun hc => ?_) (fun hc => ?_)
    · replace h := h.1 hc
      exact h
    · replace h := h.2 hc
      refine r_iconst c143_11 ?_
      refine r_goto c143_12 ?_
      exact h
theorem t143_15 {d : Nat} {l0 : Int} {l1 : Int} {M : Mem} {K : KK} {Q : RR → Mem → KK → Prop} (h : Wp d 143 16 [vI l0, vI l1] [vI (0 : Int)] M K Q) : Wp d 143 15 [vI l0, vI l1] [] M K Q := by
  refine r_iconst c143_15 ?_
  exact h
theorem t143_16 {d : Nat} {l0 : Int} {l1 : Int} {t0 : Int} {M : Mem} {K : KK} {Q : RR → Mem → KK → Prop} (h : (t0 = 0 ∨ t0 = 1) ∧ Q (.inl (some (vI t0))) M K) : Wp d 143 16 [vI l0, vI l1] [vI t0] M K Q := by
  obtain ⟨s1, h⟩ := h
  exact r_iret c143_16 (Or.inr s1) h
theorem t144_0 {d : Nat} {l0 : Int} {l1 : Int} {M : Mem} {K : KK} {Q : RR → Mem → KK → Prop} (h : Q (.inl (some (vI (jshl (w32 ((jshl (1 : Int) l1) - (1 : Int))) l0)))) M K) : Wp d 144 0 [vI l0, vI l1] [] M K Q := by
  refine r_iconst c144_0 ?_
  refine r_iload_n c144_1 rfl ?_
  refine r_ishl c144_2 ?_
  refine r_iconst c144_3 ?_
  refine r_isub c144_4 ?_
  refine r_iload_n c144_5 rfl ?_
  refine r_ishl c144_6 ?_
  exact r_iret c144_7 (Or.inl rfl) h
theorem t145_0 {d : Nat} {l0 : Nat} {l1 : Int} {l2 : Int} {M : Mem} {K : KK} {Q : RR → Mem → KK → Prop} (h : isO K.1 l0 11 = true ∧ ∃ b2 : Nat, (M l0 14) = (b2 : Int) ∧ 0 < b2 ∧ isO K.1 b2 8 = true ∧ Wm d 78 [vR b2, vI l1] M K (Bk d 145 5 8 78 [vR l0, vI l1, vI l2] [] Q)) : Wp (d + 1) 145 0 [vR l0, vI l1, vI l2] [] M K Q := by
  refine r_aload_n c145_0 rfl ?_
  obtain ⟨s1, h⟩ := h
  obtain ⟨b2, h⟩ := h
  obtain ⟨s3, h⟩ := h
  obtain ⟨s4, h⟩ := h
  refine r_getR c145_1 s1 s3 s4 ?_
  refine r_iload_n c145_4 rfl ?_
  obtain ⟨s5, h⟩ := h
  exact r_call c145_5 rfl rfl (Nat.le_of_ble_eq_true rfl) (okc_r rfl rfl s5) h
theorem t145_8 {d : Nat} {l0 : Nat} {l1 : Int} {l2 : Int} {t0 : Int} {M : Mem} {K : KK} {Q : RR → Mem → KK → Prop} (h : (t0 = (0 : Int) → Wp (d + 1) 145 27 [vR l0, vI l1, vI l2] [] M K Q) ∧ (¬ (t0 = (0 : Int)) → isO K.1 l0 11 = true ∧ ∃ b2 : Nat, (M l0 11) = (b2 : Int) ∧ 0 < b2 ∧ isO K.1 b2 0 = true ∧ Wm d 10 [vR b2, vI l1] M K (Bk d 145 16 19 10 [vR l0, vI l1, vI l2] [] Q))) : Wp (d + 1) 145 8 [vR l0, vI l1, vI l2] [vI t0] M K Q := by
  refine r_ifP (P := t0 = (0 : Int)) c145_8 rfl (fun hc => ?_) (fun hc => ?_)
  · replace h := h.1 hc
    exact h
  · replace h := h.2 hc
    refine r_aload_n c145_11 rfl ?_
    obtain ⟨s1, h⟩ := h
    obtain ⟨b2, h⟩ := h
    obtain ⟨s3, h⟩ := h
    obtain ⟨s4, h⟩ := h
    refine r_getR c145_12 s1 s3 s4 ?_
    refine r_iload_n c145_15 rfl ?_
    obtain ⟨s5, h⟩ := h
    exact r_call c145_16 rfl rfl (Nat.le_of_ble_eq_true rfl) (okc_r rfl rfl s5) h
theorem t145_19 {d : Nat} {l0 : Nat} {l1 : Int} {l2 : Int} {t0 : Int} {M : Mem} {K : KK} {Q : RR → Mem → KK → Prop} (h : (¬ t0 = l2 → Wp d 145 27 [vR l0, vI l1, vI l2] [] M K Q) ∧ (¬ (¬ t0 = l2) → Wp d 145 28 [vR l0, vI l1, vI l2] [vI (1 : Int)] M K Q)) : Wp d 145 19 [vR l0, vI l1, vI l2] [vI t0] M K Q := by
  refine r_iload_n c145_19 rfl ?_
  refine r_icmpP (P := ¬ t0 = l2) c145_20 rfl (fun hc => ?_) (fun hc => ?_)
  · replace h := h.1 hc
    exact h
  · replace h := h.2 hc
    refine r_iconst c145_23 ?_
    refine r_goto c145_24 ?_
    exact h
theorem t145_27 {d : Nat} {l0 : Nat} {l1 : Int} {l2 : Int} {M : Mem} {K : KK} {Q : RR → Mem → KK → Prop} (h : Wp d 145 28 [vR l0, vI l1, vI l2] [vI (0 : Int)] M K Q) : Wp d 145 27 [vR l0, vI l1, vI l2] [] M K Q := by
  refine r_iconst c145_27 ?_
  exact h
theorem t145_28 {d : Nat} {l0 : Nat} {l1 : Int} {l2 : Int} {t0 : Int} {M : Mem} {K : KK} {Q : RR → Mem → KK → Prop} (h : (t0 = 0 ∨ t0 = 1) ∧ Q (.inl (some (vI t0))) M K) : Wp d 145 28 [vR l0, vI l1, vI l2] [vI t0] M K Q := by
  obtain ⟨s1, h⟩ := h
  exact r_iret c145_28 (Or.inr s1) h
theorem t146_0 {d : Nat} {l0 : Nat} {l1 : Int} {l2 : Int} {M : Mem} {K : KK} {Q : RR → Mem → KK → Prop} (h : Wp d 146 8 [vR l0, vI l1, vI l2, vI (0 : Int), vI (0 : Int), vI (0 : Int)] [] M K Q) : Wp d 146 0 [vR l0, vI l1, vI l2, vU, vU, vU] [] M K Q := by
  refine r_iconst c146_0 ?_
  refine r_istore_n c146_1 (Nat.le_of_ble_eq_true rfl) ?_
  refine r_iconst c146_2 ?_
  refine r_istore c146_3 (Nat.le_of_ble_eq_true rfl) ?_
  refine r_iconst c146_5 ?_
  refine r_istore c146_6 (Nat.le_of_ble_eq_true rfl) ?_
  exact h
theorem t146_8 {d : Nat} {l0 : Nat} {l1 : Int} {l2 : Int} {l3 : Int} {l4 : Int} {l5 : Int} {M : Mem} {K : KK} {Q : RR → Mem → KK → Prop} (h : isO K.1 l0 11 = true ∧ ∃ b2 : Nat, (M l0 11) = (b2 : Int) ∧ 0 < b2 ∧ isO K.1 b2 0 = true ∧ ((jshl (1 : Int) (M b2 7)) ≤ l5 → Q (.inl (some (vI (if l3 < l4 then l4 else l3)))) M K) ∧ (¬ ((jshl (1 : Int) (M b2 7)) ≤ l5) → isO K.1 l0 11 = true ∧ Wm d 145 [vR l0, vI l5, vI l1] M K (Bk d 146 26 29 145 [vR l0, vI l1, vI l2, vI l3, vI l4, vI l5] [] Q))) : Wp (d + 1) 146 8 [vR l0, vI l1, vI l2, vI l3, vI l4, vI l5] [] M K Q := by
  refine r_iload c146_8 rfl ?_
  refine r_iconst c146_10 ?_
  refine r_aload_n c146_11 rfl ?_
  obtain ⟨s1, h⟩ := h
  obtain ⟨b2, h⟩ := h
  obtain ⟨s3, h⟩ := h
  obtain ⟨s4, h⟩ := h
  refine r_getR c146_12 s1 s3 s4 ?_
  obtain ⟨s5, h⟩ := h
  refine r_getI c146_15 s5 ?_
  refine r_ishl c146_18 ?_
  refine r_icmpP (P := (jshl (1 : Int) (M b2 7)) ≤ l5) c146_19 rfl (fun hc => ?_) (fun hc => ?_)
  · replace h := h.1 hc
    refine r_iload_n c146_60 rfl ?_
    refine r_iload c146_61 rfl ?_
    refine r_max c146_63 (Nat.le_of_ble_eq_true rfl) ?_
    exact r_iret c146_66 (Or.inl rfl) h
  · replace h := h.2 hc
    refine r_aload_n c146_22 rfl ?_
    refine r_iload c146_23 rfl ?_
    refine r_iload_n c146_25 rfl ?_
    obtain ⟨s6, h⟩ := h
    exact r_call c146_26 rfl rfl (Nat.le_of_ble_eq_true rfl) (okc_r rfl rfl s6) h
theorem t146_29 {d : Nat} {l0 : Nat} {l1 : Int} {l2 : Int} {l3 : Int} {l4 : Int} {l5 : Int} {t0 : Int} {M : Mem} {K : KK} {Q : RR → Mem → KK → Prop} (h : (t0 = (0 : Int) → Wp d 146 54 [vR l0, vI l1, vI l2, vI l3, vI l4, vI l5] [] M K Q) ∧ (¬ (t0 = (0 : Int)) → Wp d 146 54 [vR l0, vI l1, vI l2, vI (w32 (l3 + (jand (jshr l5 l2) (1 : Int)))), vI (w32 (l4 + (w32 ((1 : Int) - (jand (jshr l5 l2) (1 : Int)))))), vI l5] [] M K Q)) : Wp d 146 29 [vR l0, vI l1, vI l2, vI l3, vI l4, vI l5] [vI t0] M K Q := by
  refine r_ifP (P := t0 = (0 : Int)) c146_29 rfl (fun hc => ?_) (fun hc => ?_)
  · replace h := h.1 hc
    exact h
  · replace h := h.2 hc
    refine r_iload_n c146_32 rfl ?_
    refine r_iload c146_33 rfl ?_
    refine r_iload_n c146_35 rfl ?_
    refine r_ishr c146_36 ?_
    refine r_iconst c146_37 ?_
    refine r_iand c146_38 ?_
    refine r_iadd c146_39 ?_
    refine r_istore_n c146_40 (Nat.le_of_ble_eq_true rfl) ?_
    refine r_iload c146_41 rfl ?_
    refine r_iconst c146_43 ?_
    refine r_iload c146_44 rfl ?_
    refine r_iload_n c146_46 rfl ?_
    refine r_ishr c146_47 ?_
    refine r_iconst c146_48 ?_
    refine r_iand c146_49 ?_
    refine r_isub c146_50 ?_
    refine r_iadd c146_51 ?_
    refine r_istore c146_52 (Nat.le_of_ble_eq_true rfl) ?_
    exact h
theorem t146_54 {d : Nat} {l0 : Nat} {l1 : Int} {l2 : Int} {l3 : Int} {l4 : Int} {l5 : Int} {M : Mem} {K : KK} {Q : RR → Mem → KK → Prop} (h : Wp d 146 8 [vR l0, vI l1, vI l2, vI l3, vI l4, vI (w32 (l5 + 1))] [] M K Q) : Wp d 146 54 [vR l0, vI l1, vI l2, vI l3, vI l4, vI l5] [] M K Q := by
  refine r_iinc c146_54 rfl ?_
  refine r_goto c146_57 ?_
  exact h
theorem t147_0 {d : Nat} {l0 : Nat} {l1 : Int} {l2 : Int} {M : Mem} {K : KK} {Q : RR → Mem → KK → Prop} (h : isO K.1 l0 11 = true ∧ ∃ b2 : Nat, (M l0 2) = (b2 : Int) ∧ 0 < b2 ∧ isO K.1 l0 11 = true ∧ ∃ b6 : Nat, (M l0 11) = (b6 : Int) ∧ 0 < b6 ∧ isO K.1 b2 3 = true ∧ Wm d 38 [vR b2, vR b6, vI l1] M K (Bk d 147 9 12 38 [vR l0, vI l1, vI l2, vU, vU] [] Q)) : Wp (d + 1) 147 0 [vR l0, vI l1, vI l2, vU, vU] [] M K Q := by
  refine r_aload_n c147_0 rfl ?_
  obtain ⟨s1, h⟩ := h
  obtain ⟨b2, h⟩ := h
  obtain ⟨s3, h⟩ := h
  obtain ⟨s4, h⟩ := h
  refine r_getR c147_1 s1 s3 s4 ?_
  refine r_aload_n c147_4 rfl ?_
  obtain ⟨s5, h⟩ := h
  obtain ⟨b6, h⟩ := h
  obtain ⟨s7, h⟩ := h
  obtain ⟨s8, h⟩ := h
  refine r_getR c147_5 s5 s7 s8 ?_
  refine r_iload_n c147_8 rfl ?_
  obtain ⟨s9, h⟩ := h
  exact r_call c147_9 rfl rfl (Nat.le_of_ble_eq_true rfl) (okc_r rfl rfl s9) h
theorem t147_12 {d : Nat} {l0 : Nat} {l1 : Int} {l2 : Int} {t0 : Int} {M : Mem} {K : KK} {Q : RR → Mem → KK → Prop} (h : (¬ t0 = (-1 : Int) → isO K.1 l0 11 = true ∧ ∃ b2 : Nat, (M l0 2) = (b2 : Int) ∧ 0 < b2 ∧ isO K.1 b2 3 = true ∧ ∃ b6 : Nat, (M b2 0) = (b6 : Int) ∧ 0 < b6 ∧ isO K.1 b6 20 = true ∧ (0 ≤ t0 ∧ t0 < (ln b6 : Int)) ∧ isO K.1 l0 11 = true ∧ ∃ b12 : Nat, (M l0 11) = (b12 : Int) ∧ 0 < b12 ∧ isO K.1 b12 0 = true ∧ Wm d 11 [vR b12, vI l2, vI l1] M K (Bk d 147 40 43 11 [vR l0, vI l1, vI l2, vI t0, vI (w32 ((99 : Int) - (M b6 (Int.toNat t0))))] [] Q)) ∧ (¬ (¬ t0 = (-1 : Int)) → Q (.inl (some (vI (0 : Int)))) M K)) : Wp (d + 1) 147 12 [vR l0, vI l1, vI l2, vU, vU] [vI t0] M K Q := by
  refine r_istore_n c147_12 (Nat.le_of_ble_eq_true rfl) ?_
  refine r_iload_n c147_13 rfl ?_
  refine r_iconst c147_14 ?_
  refine r_icmpP (P := ¬ t0 = (-1 : Int)) c147_15 rfl (fun hc => ?_) (fun hc => ?_)
  · replace h := h.1 hc
    refine r_bipush c147_20 ?_
    refine r_aload_n c147_22 rfl ?_
    obtain ⟨s1, h⟩ := h
    obtain ⟨b2, h⟩ := h
    obtain ⟨s3, h⟩ := h
    obtain ⟨s4, h⟩ := h
    refine r_getR c147_23 s1 s3 s4 ?_
    obtain ⟨s5, h⟩ := h
    obtain ⟨b6, h⟩ := h
    obtain ⟨s7, h⟩ := h
    obtain ⟨s8, h⟩ := h
    refine r_getR c147_26 s5 s7 s8 ?_
    refine r_iload_n c147_29 rfl ?_
    obtain ⟨s9, h⟩ := h
    obtain ⟨s10, h⟩ := h
    refine r_ia c147_30 s9 s10 ?_
    refine r_isub c147_31 ?_
    refine r_istore c147_32 (Nat.le_of_ble_eq_true rfl) ?_
    refine r_aload_n c147_34 rfl ?_
    obtain ⟨s11, h⟩ := h
    obtain ⟨b12, h⟩ := h
    obtain ⟨s13, h⟩ := h
    obtain ⟨s14, h⟩ := h
    refine r_getR c147_35 s11 s13 s14 ?_
    refine r_iload_n c147_38 rfl ?_
    refine r_iload_n c147_39 rfl ?_
    obtain ⟨s15, h⟩ := h
    exact r_call c147_40 rfl rfl (Nat.le_of_ble_eq_true rfl) (okc_r rfl rfl s15) h
  · replace h := h.2 hc
    refine r_iconst c147_18 ?_
    exact r_iret c147_19 (Or.inl rfl) h
theorem t147_43 {d : Nat} {l0 : Nat} {l1 : Int} {l2 : Int} {l3 : Int} {l4 : Int} {t0 : Int} {M : Mem} {K : KK} {Q : RR → Mem → KK → Prop} (h : (t0 = (0 : Int) → Wp d 147 56 [vR l0, vI l1, vI l2, vI l3, vI l4] [vI l4] M K Q) ∧ (¬ (t0 = (0 : Int)) → Wp d 147 56 [vR l0, vI l1, vI l2, vI l3, vI l4] [vI (w32 (l4 - (99 : Int)))] M K Q)) : Wp d 147 43 [vR l0, vI l1, vI l2, vI l3, vI l4] [vI t0] M K Q := by
  refine r_ifP (P := t0 = (0 : Int)) c147_43 rfl (fun hc => ?_) (fun hc => ?_)
  · replace h := h.1 hc
    refine r_iload c147_54 rfl ?_
    exact h
  · replace h := h.2 hc
    refine r_iload c147_46 rfl ?_
    refine r_bipush c147_48 ?_
    refine r_isub c147_50 ?_
    refine r_goto c147_51 ?_
    exact h
theorem t147_56 {d : Nat} {l0 : Nat} {l1 : Int} {l2 : Int} {l3 : Int} {l4 : Int} {t0 : Int} {M : Mem} {K : KK} {Q : RR → Mem → KK → Prop} (h : Q (.inl (some (vI t0))) M K) : Wp d 147 56 [vR l0, vI l1, vI l2, vI l3, vI l4] [vI t0] M K Q := by
  exact r_iret c147_56 (Or.inl rfl) h
theorem t148_0 {d : Nat} {l0 : Nat} {l1 : Int} {l2 : Int} {M : Mem} {K : KK} {Q : RR → Mem → KK → Prop} (h : isO K.1 l0 11 = true ∧ ∃ b2 : Nat, (M l0 2) = (b2 : Int) ∧ 0 < b2 ∧ isO K.1 l0 11 = true ∧ ∃ b6 : Nat, (M l0 11) = (b6 : Int) ∧ 0 < b6 ∧ isO K.1 b2 3 = true ∧ Wm d 38 [vR b2, vR b6, vI l1] M K (Bk d 148 9 12 38 [vR l0, vI l1, vI l2, vU, vU, vU] [] Q)) : Wp (d + 1) 148 0 [vR l0, vI l1, vI l2, vU, vU, vU] [] M K Q := by
  refine r_aload_n c148_0 rfl ?_
  obtain ⟨s1, h⟩ := h
  obtain ⟨b2, h⟩ := h
  obtain ⟨s3, h⟩ := h
  obtain ⟨s4, h⟩ := h
  refine r_getR c148_1 s1 s3 s4 ?_
  refine r_aload_n c148_4 rfl ?_
  obtain ⟨s5, h⟩ := h
  obtain ⟨b6, h⟩ := h
  obtain ⟨s7, h⟩ := h
  obtain ⟨s8, h⟩ := h
  refine r_getR c148_5 s5 s7 s8 ?_
  refine r_iload_n c148_8 rfl ?_
  obtain ⟨s9, h⟩ := h
  exact r_call c148_9 rfl rfl (Nat.le_of_ble_eq_true rfl) (okc_r rfl rfl s9) h
theorem t148_12 {d : Nat} {l0 : Nat} {l1 : Int} {l2 : Int} {t0 : Int} {M : Mem} {K : KK} {Q : RR → Mem → KK → Prop} (h : (¬ t0 = (-1 : Int) → isO K.1 l0 11 = true ∧ Wm d 147 [vR l0, vI l1, vI l2] M K (Bk d 148 21 24 147 [vR l0, vI l1, vI l2, vU, vU, vU] [] Q)) ∧ (¬ (¬ t0 = (-1 : Int)) → Q (.inl (some (vI (0 : Int)))) M K)) : Wp (d + 1) 148 12 [vR l0, vI l1, vI l2, vU, vU, vU] [vI t0] M K Q := by
  refine r_iconst c148_12 ?_
  refine r_icmpP (P := ¬ t0 = (-1 : Int)) c148_13 rfl (fun hc => ?_) (fun hc => ?_)
  · replace h := h.1 hc
    refine r_aload_n c148_18 rfl ?_
    refine r_iload_n c148_19 rfl ?_
    refine r_iload_n c148_20 rfl ?_
    obtain ⟨s1, h⟩ := h
    exact r_call c148_21 rfl rfl (Nat.le_of_ble_eq_true rfl) (okc_r rfl rfl s1) h
  · replace h := h.2 hc
    refine r_iconst c148_16 ?_
    exact r_iret c148_17 (by decide) h
theorem t148_24 {d : Nat} {l0 : Nat} {l1 : Int} {l2 : Int} {t0 : Int} {M : Mem} {K : KK} {Q : RR → Mem → KK → Prop} (h : Wp d 148 28 [vR l0, vI l1, vI l2, vI t0, vI (0 : Int), vU] [] M K Q) : Wp d 148 24 [vR l0, vI l1, vI l2, vU, vU, vU] [vI t0] M K Q := by
  refine r_istore_n c148_24 (Nat.le_of_ble_eq_true rfl) ?_
  refine r_iconst c148_25 ?_
  refine r_istore c148_26 (Nat.le_of_ble_eq_true rfl) ?_
  exact h
theorem t148_28 {d : Nat} {l0 : Nat} {l1 : Int} {l2 : Int} {l3 : Int} {l4 : Int} {l5 : PV} {M : Mem} {K : KK} {Q : RR → Mem → KK → Prop} (h : isO K.1 l0 11 = true ∧ ∃ b2 : Nat, (M l0 11) = (b2 : Int) ∧ 0 < b2 ∧ isO K.1 b2 0 = true ∧ ((M b2 5) ≤ l4 → Q (.inl (some (vI (1 : Int)))) M K) ∧ (¬ ((M b2 5) ≤ l4) → isO K.1 l0 11 = true ∧ ∃ b7 : Nat, (M l0 2) = (b7 : Int) ∧ 0 < b7 ∧ isO K.1 l0 11 = true ∧ ∃ b11 : Nat, (M l0 11) = (b11 : Int) ∧ 0 < b11 ∧ isO K.1 b7 3 = true ∧ Wm d 38 [vR b7, vR b11, vI l4] M K (Bk d 148 50 53 38 [vR l0, vI l1, vI l2, vI l3, vI l4, l5] [] Q))) : Wp (d + 1) 148 28 [vR l0, vI l1, vI l2, vI l3, vI l4, l5] [] M K Q := by
  refine r_iload c148_28 rfl ?_
  refine r_aload_n c148_30 rfl ?_
  obtain ⟨s1, h⟩ := h
  obtain ⟨b2, h⟩ := h
  obtain ⟨s3, h⟩ := h
  obtain ⟨s4, h⟩ := h
  refine r_getR c148_31 s1 s3 s4 ?_
  obtain ⟨s5, h⟩ := h
  refine r_getI c148_34 s5 ?_
  refine r_icmpP (P := (M b2 5) ≤ l4) c148_37 rfl (fun hc => ?_) (fun hc => ?_)
  · replace h := h.1 hc
    refine r_iconst c148_99 ?_
    exact r_iret c148_100 (by decide) h
  · replace h := h.2 hc
    refine r_aload_n c148_40 rfl ?_
    obtain ⟨s6, h⟩ := h
    obtain ⟨b7, h⟩ := h
    obtain ⟨s8, h⟩ := h
    obtain ⟨s9, h⟩ := h
    refine r_getR c148_41 s6 s8 s9 ?_
    refine r_aload_n c148_44 rfl ?_
    obtain ⟨s10, h⟩ := h
    obtain ⟨b11, h⟩ := h
    obtain ⟨s12, h⟩ := h
    obtain ⟨s13, h⟩ := h
    refine r_getR c148_45 s10 s12 s13 ?_
    refine r_iload c148_48 rfl ?_
    obtain ⟨s14, h⟩ := h
    exact r_call c148_50 rfl rfl (Nat.le_of_ble_eq_true rfl) (okc_r rfl rfl s14) h
theorem t148_53 {d : Nat} {l0 : Nat} {l1 : Int} {l2 : Int} {l3 : Int} {l4 : Int} {l5 : PV} {t0 : Int} {M : Mem} {K : KK} {Q : RR → Mem → KK → Prop} (h : (t0 = (-1 : Int) → Wp (d + 1) 148 72 [vR l0, vI l1, vI l2, vI l3, vI l4, l5] [] M K Q) ∧ (¬ (t0 = (-1 : Int)) → isO K.1 l0 11 = true ∧ Wm d 147 [vR l0, vI l4, vI l2] M K (Bk d 148 61 64 147 [vR l0, vI l1, vI l2, vI l3, vI l4, l5] [] Q))) : Wp (d + 1) 148 53 [vR l0, vI l1, vI l2, vI l3, vI l4, l5] [vI t0] M K Q := by
  refine r_iconst c148_53 ?_
  refine r_icmpP (P := t0 = (-1 : Int)) c148_54 rfl (fun hc => ?_) (fun hc => ?_)
  · replace h := h.1 hc
    exact h
  · replace h := h.2 hc
    refine r_aload_n c148_57 rfl ?_
    refine r_iload c148_58 rfl ?_
    refine r_iload_n c148_60 rfl ?_
    obtain ⟨s1, h⟩ := h
    exact r_call c148_61 rfl rfl (Nat.le_of_ble_eq_true rfl) (okc_r rfl rfl s1) h
theorem t148_64 {d : Nat} {l0 : Nat} {l1 : Int} {l2 : Int} {l3 : Int} {l4 : Int} {l5 : PV} {t0 : Int} {M : Mem} {K : KK} {Q : RR → Mem → KK → Prop} (h : (t0 ≤ l3 → Wp d 148 72 [vR l0, vI l1, vI l2, vI l3, vI l4, l5] [] M K Q) ∧ (¬ (t0 ≤ l3) → Wp d 148 73 [vR l0, vI l1, vI l2, vI l3, vI l4, l5] [vI (1 : Int)] M K Q)) : Wp d 148 64 [vR l0, vI l1, vI l2, vI l3, vI l4, l5] [vI t0] M K Q := by
  refine r_iload_n c148_64 rfl ?_
  refine r_icmpP (P := t0 ≤ l3) c148_65 rfl (fun hc => ?_) (fun hc => ?_)
  · replace h := h.1 hc
    exact h
  · replace h := h.2 hc
    refine r_iconst c148_68 ?_
    refine r_goto c148_69 ?_
    exact h
theorem t148_72 {d : Nat} {l0 : Nat} {l1 : Int} {l2 : Int} {l3 : Int} {l4 : Int} {l5 : PV} {M : Mem} {K : KK} {Q : RR → Mem → KK → Prop} (h : Wp d 148 73 [vR l0, vI l1, vI l2, vI l3, vI l4, l5] [vI (0 : Int)] M K Q) : Wp d 148 72 [vR l0, vI l1, vI l2, vI l3, vI l4, l5] [] M K Q := by
  refine r_iconst c148_72 ?_
  exact h
theorem t148_73 {d : Nat} {l0 : Nat} {l1 : Int} {l2 : Int} {l3 : Int} {l4 : Int} {l5 : PV} {t0 : Int} {M : Mem} {K : KK} {Q : RR → Mem → KK → Prop} (h : (¬ t0 = (0 : Int) → Wp (d + 1) 148 91 [vR l0, vI l1, vI l2, vI l3, vI l4, vI t0] [] M K Q) ∧ (¬ (¬ t0 = (0 : Int)) → isO K.1 l0 11 = true ∧ Wm d 147 [vR l0, vI l1, vI l4] M K (Bk d 148 84 87 147 [vR l0, vI l1, vI l2, vI l3, vI l4, vI t0] [] Q))) : Wp (d + 1) 148 73 [vR l0, vI l1, vI l2, vI l3, vI l4, l5] [vI t0] M K Q := by
  refine r_istore c148_73 (Nat.le_of_ble_eq_true rfl) ?_
  refine r_iload c148_75 rfl ?_
  refine r_ifP (P := ¬ t0 = (0 : Int)) c148_77 rfl (fun hc => ?_) (fun hc => ?_)
  · replace h := h.1 hc
    exact h
  · replace h := h.2 hc
    refine r_aload_n c148_80 rfl ?_
    refine r_iload_n c148_81 rfl ?_
    refine r_iload c148_82 rfl ?_
    obtain ⟨s1, h⟩ := h
    exact r_call c148_84 rfl rfl (Nat.le_of_ble_eq_true rfl) (okc_r rfl rfl s1) h
theorem t148_87 {d : Nat} {l0 : Nat} {l1 : Int} {l2 : Int} {l3 : Int} {l4 : Int} {l5 : Int} {t0 : Int} {M : Mem} {K : KK} {Q : RR → Mem → KK → Prop} (h : (l3 ≤ t0 → Wp d 148 28 [vR l0, vI l1, vI l2, vI l3, vI (w32 (l4 + 1)), vI l5] [] M K Q) ∧ (¬ (l3 ≤ t0) → Wp d 148 91 [vR l0, vI l1, vI l2, vI l3, vI l4, vI l5] [] M K Q)) : Wp d 148 87 [vR l0, vI l1, vI l2, vI l3, vI l4, vI l5] [vI t0] M K Q := by
  refine r_iload_n c148_87 rfl ?_
  refine r_icmpP (P := l3 ≤ t0) c148_88 rfl (fun hc => ?_) (fun hc => ?_)
  · replace h := h.1 hc
    refine r_iinc c148_93 rfl ?_
    refine r_goto c148_96 ?_
    exact h
  · replace h := h.2 hc
    exact h
theorem t148_91 {d : Nat} {l0 : Nat} {l1 : Int} {l2 : Int} {l3 : Int} {l4 : Int} {l5 : Int} {M : Mem} {K : KK} {Q : RR → Mem → KK → Prop} (h : Q (.inl (some (vI (0 : Int)))) M K) : Wp d 148 91 [vR l0, vI l1, vI l2, vI l3, vI l4, vI l5] [] M K Q := by
  refine r_iconst c148_91 ?_
  exact r_iret c148_92 (by decide) h
