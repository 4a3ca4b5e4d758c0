/-! the trees of the code -/
theorem t0_0 {d : Nat} {l0 : Nat} {M : Mem} {K : KK} {Q : RR → Mem → KK → Prop} (h : (tg K.1 = 20 ∧ (12 : Int) = (ln K.1 : Int)) ∧ isO (K.1 + 1) l0 0 = true ∧ 0 < K.1 ∧ (tg (K.1 + 1) = 20 ∧ (6 : Int) = (ln (K.1 + 1) : Int)) ∧ isO ((K.1 + 1) + 1) l0 0 = true ∧ 0 < (K.1 + 1) ∧ (tg ((K.1 + 1) + 1) = 20 ∧ (6 : Int) = (ln ((K.1 + 1) + 1) : Int)) ∧ isO (((K.1 + 1) + 1) + 1) l0 0 = true ∧ 0 < ((K.1 + 1) + 1) ∧ (tg (((K.1 + 1) + 1) + 1) = 20 ∧ (8 : Int) = (ln (((K.1 + 1) + 1) + 1) : Int)) ∧ isO ((((K.1 + 1) + 1) + 1) + 1) l0 0 = true ∧ 0 < (((K.1 + 1) + 1) + 1) ∧ (tg ((((K.1 + 1) + 1) + 1) + 1) = 20 ∧ (7 : Int) = (ln ((((K.1 + 1) + 1) + 1) + 1) : Int)) ∧ isO (((((K.1 + 1) + 1) + 1) + 1) + 1) l0 0 = true ∧ 0 < ((((K.1 + 1) + 1) + 1) + 1) ∧ (tg (((((K.1 + 1) + 1) + 1) + 1) + 1) = 2 ∧ 2 < 13) ∧ isO ((((((K.1 + 1) + 1) + 1) + 1) + 1) + 1) (((((K.1 + 1) + 1) + 1) + 1) + 1) 2 = true ∧ Wm d 17 [vR (((((K.1 + 1) + 1) + 1) + 1) + 1)] (mset (mset (mset (mset (mset M l0 0 (K.1 : Nat)) l0 1 ((K.1 + 1) : Nat)) l0 2 (((K.1 + 1) + 1) : Nat)) l0 3 ((((K.1 + 1) + 1) + 1) : Nat)) l0 4 (((((K.1 + 1) + 1) + 1) + 1) : Nat)) (((((((K.1 + 1) + 1) + 1) + 1) + 1) + 1), ((((((K.2.1 + 1) + 1) + 1) + 1) + 1) + 1), ((((((K.2.2 + ln K.1) + ln (K.1 + 1)) + ln ((K.1 + 1) + 1)) + ln (((K.1 + 1) + 1) + 1)) + ln ((((K.1 + 1) + 1) + 1) + 1)) + fnT.getD 2 0)) (Bk d 0 49 52 17 [vR l0] [vR (((((K.1 + 1) + 1) + 1) + 1) + 1), vR l0] Q)) : Wp (d + 1) 0 0 [vR l0] [] M K Q := by
  refine r_aload_n c0_0 rfl ?_
  refine r_obj c0_1 (Nat.le_of_ble_eq_true rfl) ?_
  refine r_aload_n c0_4 rfl ?_
  refine r_bipush c0_5 ?_
  obtain ⟨s1, h⟩ := h
  refine r_newarray c0_7 s1 ?_
  obtain ⟨s2, h⟩ := h
  obtain ⟨s3, h⟩ := h
  refine r_putR c0_9 s2 s3 ?_
  refine r_aload_n c0_12 rfl ?_
  refine r_bipush c0_13 ?_
  obtain ⟨s4, h⟩ := h
  refine r_newarray c0_15 s4 ?_
  obtain ⟨s5, h⟩ := h
  obtain ⟨s6, h⟩ := h
  refine r_putR c0_17 s5 s6 ?_
  refine r_aload_n c0_20 rfl ?_
  refine r_bipush c0_21 ?_
  obtain ⟨s7, h⟩ := h
  refine r_newarray c0_23 s7 ?_
  obtain ⟨s8, h⟩ := h
  obtain ⟨s9, h⟩ := h
  refine r_putR c0_25 s8 s9 ?_
  refine r_aload_n c0_28 rfl ?_
  refine r_bipush c0_29 ?_
  obtain ⟨s10, h⟩ := h
  refine r_newarray c0_31 s10 ?_
  obtain ⟨s11, h⟩ := h
  obtain ⟨s12, h⟩ := h
  refine r_putR c0_33 s11 s12 ?_
  refine r_aload_n c0_36 rfl ?_
  refine r_bipush c0_37 ?_
  obtain ⟨s13, h⟩ := h
  refine r_newarray c0_39 s13 ?_
  obtain ⟨s14, h⟩ := h
  obtain ⟨s15, h⟩ := h
  refine r_putR c0_41 s14 s15 ?_
  refine r_aload_n c0_44 rfl ?_
  obtain ⟨s16, h⟩ := h
  refine r_new c0_45 s16 ?_
  refine r_dupr c0_48 ?_
  obtain ⟨s17, h⟩ := h
  exact r_call c0_49 rfl rfl (Nat.le_of_ble_eq_true rfl) (okc_r rfl rfl s17) h
theorem t0_52 {d : Nat} {l0 : Nat} {t0 : Nat} {t1 : Nat} {M : Mem} {K : KK} {Q : RR → Mem → KK → Prop} (h : isO K.1 t0 0 = true ∧ 0 < t1 ∧ isO K.1 l0 0 = true ∧ Wm d 1 [vR l0] (mset M t0 11 (t1 : Nat)) K (Bk d 0 56 59 1 [vR l0] [] Q)) : Wp (d + 1) 0 52 [vR l0] [vR t1, vR t0] M K Q := by
  obtain ⟨s1, h⟩ := h
  obtain ⟨s2, h⟩ := h
  refine r_putR c0_52 s1 s2 ?_
  refine r_aload_n c0_55 rfl ?_
  obtain ⟨s3, h⟩ := h
  exact r_call c0_56 rfl rfl (Nat.le_of_ble_eq_true rfl) (okc_r rfl rfl s3) h
theorem t0_59 {d : Nat} {l0 : Nat} {M : Mem} {K : KK} {Q : RR → Mem → KK → Prop} (h : Q (.inl none) M K) : Wp d 0 59 [vR l0] [] M K Q := by
  exact r_ret c0_59 h
theorem t1_0 {d : Nat} {l0 : Nat} {M : Mem} {K : KK} {Q : RR → Mem → KK → Prop} (h : isO K.1 l0 0 = true ∧ isO K.1 l0 0 = true ∧ isO K.1 l0 0 = true ∧ isO K.1 l0 0 = true ∧ isO K.1 l0 0 = true ∧ isO K.1 l0 0 = true ∧ isO K.1 l0 0 = true ∧ ∃ b8 : Nat, ((mset (mset (mset (mset (mset (mset M l0 5 (0 : Int)) l0 6 (0 : Int)) l0 7 (0 : Int)) l0 8 (0 : Int)) l0 9 (5 : Int)) l0 10 (1 : Int)) l0 11) = (b8 : Int) ∧ 0 < b8 ∧ isO K.1 b8 2 = true ∧ Wm d 18 [vR b8] (mset (mset (mset (mset (mset (mset M l0 5 (0 : Int)) l0 6 (0 : Int)) l0 7 (0 : Int)) l0 8 (0 : Int)) l0 9 (5 : Int)) l0 10 (1 : Int)) K (Bk d 1 34 37 18 [vR l0] [] Q)) : Wp (d + 1) 1 0 [vR l0] [] M K Q := by
  refine r_aload_n c1_0 rfl ?_
  refine r_iconst c1_1 ?_
  obtain ⟨s1, h⟩ := h
  refine r_putI c1_2 s1 ?_
  refine r_aload_n c1_5 rfl ?_
  refine r_iconst c1_6 ?_
  obtain ⟨s2, h⟩ := h
  refine r_putI c1_7 s2 ?_
  refine r_aload_n c1_10 rfl ?_
  refine r_iconst c1_11 ?_
  obtain ⟨s3, h⟩ := h
  refine r_putI c1_12 s3 ?_
  refine r_aload_n c1_15 rfl ?_
  refine r_iconst c1_16 ?_
  obtain ⟨s4, h⟩ := h
  refine r_putI c1_17 s4 ?_
  refine r_aload_n c1_20 rfl ?_
  refine r_iconst c1_21 ?_
  obtain ⟨s5, h⟩ := h
  refine r_putI c1_22 s5 ?_
  refine r_aload_n c1_25 rfl ?_
  refine r_iconst c1_26 ?_
  obtain ⟨s6, h⟩ := h
  refine r_putI c1_27 s6 ?_
  refine r_aload_n c1_30 rfl ?_
  obtain ⟨s7, h⟩ := h
  obtain ⟨b8, h⟩ := h
  obtain ⟨s9, h⟩ := h
  obtain ⟨s10, h⟩ := h
  refine r_getR c1_31 s7 s9 s10 ?_
  obtain ⟨s11, h⟩ := h
  exact r_call c1_34 rfl rfl (Nat.le_of_ble_eq_true rfl) (okc_r rfl rfl s11) h
theorem t1_37 {d : Nat} {l0 : Nat} {M : Mem} {K : KK} {Q : RR → Mem → KK → Prop} (h : Q (.inl none) M K) : Wp d 1 37 [vR l0] [] M K Q := by
  exact r_ret c1_37 h
theorem t2_0 {d : Nat} {l0 : Nat} {l1 : Nat} {M : Mem} {K : KK} {Q : RR → Mem → KK → Prop} (h : isO K.1 l0 0 = true ∧ Wm d 1 [vR l0] M K (Bk d 2 1 4 1 [vR l0, vR l1, vU] [] Q)) : Wp (d + 1) 2 0 [vR l0, vR l1, vU] [] M K Q := by
  refine r_aload_n c2_0 rfl ?_
  obtain ⟨s1, h⟩ := h
  exact r_call c2_1 rfl rfl (Nat.le_of_ble_eq_true rfl) (okc_r rfl rfl s1) h
theorem t2_4 {d : Nat} {l0 : Nat} {l1 : Nat} {M : Mem} {K : KK} {Q : RR → Mem → KK → Prop} (h : Wp d 2 6 [vR l0, vR l1, vI (0 : Int)] [] M K Q) : Wp d 2 4 [vR l0, vR l1, vU] [] M K Q := by
  refine r_iconst c2_4 ?_
  refine r_istore_n c2_5 (Nat.le_of_ble_eq_true rfl) ?_
  exact h
theorem t2_6 {d : Nat} {l0 : Nat} {l1 : Nat} {l2 : Int} {M : Mem} {K : KK} {Q : RR → Mem → KK → Prop} (h : ((60 : Int) < l2 → Wp (d + 1) 2 32 [vR l0, vR l1, vI l2] [] M K Q) ∧ (¬ ((60 : Int) < l2) → isO K.1 l1 10 = true ∧ Wm d 88 [vR l1] M K (Bk d 2 13 16 88 [vR l0, vR l1, vI l2] [] Q))) : Wp (d + 1) 2 6 [vR l0, vR l1, vI l2] [] M K Q := by
  refine r_iload_n c2_6 rfl ?_
  refine r_bipush c2_7 ?_
  refine r_icmpP (P := (60 : Int) < l2) c2_9 rfl (fun hc => ?_) (fun hc => ?_)
  · replace h := h.1 hc
    exact h
  · replace h := h.2 hc
    refine r_aload_n c2_12 rfl ?_
    obtain ⟨s1, h⟩ := h
    exact r_call c2_13 rfl rfl (Nat.le_of_ble_eq_true rfl) (okc_r rfl rfl s1) h
theorem t2_16 {d : Nat} {l0 : Nat} {l1 : Nat} {l2 : Int} {t0 : Int} {M : Mem} {K : KK} {Q : RR → Mem → KK → Prop} (h : (t0 = (-1 : Int) → Wp (d + 1) 2 32 [vR l0, vR l1, vI l2] [] M K Q) ∧ (¬ (t0 = (-1 : Int)) → isO K.1 l0 0 = true ∧ Wm d 3 [vR l0, vR l1, vI l2] M K (Bk d 2 23 26 3 [vR l0, vR l1, vI l2] [] Q))) : Wp (d + 1) 2 16 [vR l0, vR l1, vI l2] [vI t0] M K Q := by
  refine r_iconst c2_16 ?_
  refine r_icmpP (P := t0 = (-1 : Int)) c2_17 rfl (fun hc => ?_) (fun hc => ?_)
  · replace h := h.1 hc
    exact h
  · replace h := h.2 hc
    refine r_aload_n c2_20 rfl ?_
    refine r_aload_n c2_21 rfl ?_
    refine r_iload_n c2_22 rfl ?_
    obtain ⟨s1, h⟩ := h
    exact r_call c2_23 rfl rfl (Nat.le_of_ble_eq_true rfl) (okc_r rfl rfl s1) h
theorem t2_26 {d : Nat} {l0 : Nat} {l1 : Nat} {l2 : Int} {M : Mem} {K : KK} {Q : RR → Mem → KK → Prop} (h : Wp d 2 6 [vR l0, vR l1, vI (w32 (l2 + 1))] [] M K Q) : Wp d 2 26 [vR l0, vR l1, vI l2] [] M K Q := by
  refine r_iinc c2_26 rfl ?_
  refine r_goto c2_29 ?_
  exact h
theorem t2_32 {d : Nat} {l0 : Nat} {l1 : Nat} {l2 : Int} {M : Mem} {K : KK} {Q : RR → Mem → KK → Prop} (h : Q (.inl none) M K) : Wp d 2 32 [vR l0, vR l1, vI l2] [] M K Q := by
  exact r_ret c2_32 h
theorem t3_0 {d : Nat} {l0 : Nat} {l1 : Nat} {l2 : Int} {M : Mem} {K : KK} {Q : RR → Mem → KK → Prop} (h : isO K.1 l1 10 = true ∧ Wm d 93 [vR l1] M K (Bk d 3 1 4 93 [vR l0, vR l1, vI l2, vU] [] Q)) : Wp (d + 1) 3 0 [vR l0, vR l1, vI l2, vU] [] M K Q := by
  refine r_aload_n c3_0 rfl ?_
  obtain ⟨s1, h⟩ := h
  exact r_call c3_1 rfl rfl (Nat.le_of_ble_eq_true rfl) (okc_r rfl rfl s1) h
theorem t3_4 {d : Nat} {l0 : Nat} {l1 : Nat} {l2 : Int} {M : Mem} {K : KK} {Q : RR → Mem → KK → Prop} (h : Wm d 4 [vR l1] M K (Bk d 3 5 8 4 [vR l0, vR l1, vI l2, vU] [] Q)) : Wp (d + 1) 3 4 [vR l0, vR l1, vI l2, vU] [] M K Q := by
  refine r_aload_n c3_4 rfl ?_
  exact r_call c3_5 rfl rfl (Nat.le_of_ble_eq_true rfl) (okc_s rfl rfl rfl) h
theorem t3_8 {d : Nat} {l0 : Nat} {l1 : Nat} {l2 : Int} {t0 : Int} {M : Mem} {K : KK} {Q : RR → Mem → KK → Prop} (h : (¬ t0 = (-1 : Int) → ((60 : Int) ≤ l2 → Wp (d + 1) 3 36 [vR l0, vR l1, vI l2, vI t0] [] M K Q) ∧ (¬ ((60 : Int) ≤ l2) → isO K.1 l0 0 = true ∧ Wm d 5 [vR l0, vI t0] M K (Bk d 3 30 33 5 [vR l0, vR l1, vI l2, vI t0] [] Q))) ∧ (¬ (¬ t0 = (-1 : Int)) → isO K.1 l1 10 = true ∧ Wm d 95 [vR l1, vI (1 : Int)] M K (Bk d 3 16 19 95 [vR l0, vR l1, vI l2, vI t0] [] Q))) : Wp (d + 1) 3 8 [vR l0, vR l1, vI l2, vU] [vI t0] M K Q := by
  refine r_istore_n c3_8 (Nat.le_of_ble_eq_true rfl) ?_
  refine r_iload_n c3_9 rfl ?_
  refine r_iconst c3_10 ?_
  refine r_icmpP (P := ¬ t0 = (-1 : Int)) c3_11 rfl (fun hc => ?_) (fun hc => ?_)
  · replace h := h.1 hc
    refine r_iload_n c3_22 rfl ?_
    refine r_bipush c3_23 ?_
    refine r_icmpP (P := (60 : Int) ≤ l2) c3_25 rfl (fun hc => ?_) (fun hc => ?_)
    · replace h := h.1 hc
      exact h
    · replace h := h.2 hc
      refine r_aload_n c3_28 rfl ?_
      refine r_iload_n c3_29 rfl ?_
      obtain ⟨s1, h⟩ := h
      exact r_call c3_30 rfl rfl (Nat.le_of_ble_eq_true rfl) (okc_r rfl rfl s1) h
  · replace h := h.2 hc
    refine r_aload_n c3_14 rfl ?_
    refine r_iconst c3_15 ?_
    obtain ⟨s2, h⟩ := h
    exact r_call c3_16 rfl rfl (Nat.le_of_ble_eq_true rfl) (okc_r rfl rfl s2) h
theorem t3_19 {d : Nat} {l0 : Nat} {l1 : Nat} {l2 : Int} {l3 : Int} {M : Mem} {K : KK} {Q : RR → Mem → KK → Prop} (h : Wp d 3 56 [vR l0, vR l1, vI l2, vI l3] [] M K Q) : Wp d 3 19 [vR l0, vR l1, vI l2, vI l3] [] M K Q := by
  refine r_goto c3_19 ?_
  exact h
theorem t3_33 {d : Nat} {l0 : Nat} {l1 : Nat} {l2 : Int} {l3 : Int} {t0 : Int} {M : Mem} {K : KK} {Q : RR → Mem → KK → Prop} (h : (t0 = (0 : Int) → isO K.1 l0 0 = true ∧ Wm d 6 [vR l0, vR l1, vI l3] M K (Bk d 3 47 50 6 [vR l0, vR l1, vI l2, vI l3] [] Q)) ∧ (¬ (t0 = (0 : Int)) → Wp (d + 1) 3 36 [vR l0, vR l1, vI l2, vI l3] [] M K Q)) : Wp (d + 1) 3 33 [vR l0, vR l1, vI l2, vI l3] [vI t0] M K Q := by
  refine r_ifP (P := t0 = (0 : Int)) c3_33 rfl (fun hc => ?_) (fun hc => ?_)
  · replace h := h.1 hc
    refine r_aload_n c3_44 rfl ?_
    refine r_aload_n c3_45 rfl ?_
    refine r_iload_n c3_46 rfl ?_
    obtain ⟨s1, h⟩ := h
    exact r_call c3_47 rfl rfl (Nat.le_of_ble_eq_true rfl) (okc_r rfl rfl s1) h
  · replace h := h.2 hc
    exact h
theorem t3_36 {d : Nat} {l0 : Nat} {l1 : Nat} {l2 : Int} {l3 : Int} {M : Mem} {K : KK} {Q : RR → Mem → KK → Prop} (h : isO K.1 l1 10 = true ∧ Wm d 95 [vR l1, vI (3 : Int)] M K (Bk d 3 38 41 95 [vR l0, vR l1, vI l2, vI l3] [] Q)) : Wp (d + 1) 3 36 [vR l0, vR l1, vI l2, vI l3] [] M K Q := by
  refine r_aload_n c3_36 rfl ?_
  refine r_iconst c3_37 ?_
  obtain ⟨s1, h⟩ := h
  exact r_call c3_38 rfl rfl (Nat.le_of_ble_eq_true rfl) (okc_r rfl rfl s1) h
theorem t3_41 {d : Nat} {l0 : Nat} {l1 : Nat} {l2 : Int} {l3 : Int} {M : Mem} {K : KK} {Q : RR → Mem → KK → Prop} (h : Wp d 3 56 [vR l0, vR l1, vI l2, vI l3] [] M K Q) : Wp d 3 41 [vR l0, vR l1, vI l2, vI l3] [] M K Q := by
  refine r_goto c3_41 ?_
  exact h
theorem t3_50 {d : Nat} {l0 : Nat} {l1 : Nat} {l2 : Int} {l3 : Int} {M : Mem} {K : KK} {Q : RR → Mem → KK → Prop} (h : isO K.1 l1 10 = true ∧ Wm d 91 [vR l1, vI (59 : Int)] M K (Bk d 3 53 56 91 [vR l0, vR l1, vI l2, vI l3] [] Q)) : Wp (d + 1) 3 50 [vR l0, vR l1, vI l2, vI l3] [] M K Q := by
  refine r_aload_n c3_50 rfl ?_
  refine r_bipush c3_51 ?_
  obtain ⟨s1, h⟩ := h
  exact r_call c3_53 rfl rfl (Nat.le_of_ble_eq_true rfl) (okc_r rfl rfl s1) h
theorem t3_56 {d : Nat} {l0 : Nat} {l1 : Nat} {l2 : Int} {l3 : Int} {M : Mem} {K : KK} {Q : RR → Mem → KK → Prop} (h : Q (.inl none) M K) : Wp d 3 56 [vR l0, vR l1, vI l2, vI l3] [] M K Q := by
  exact r_ret c3_56 h
theorem t4_0 {d : Nat} {l0 : Nat} {M : Mem} {K : KK} {Q : RR → Mem → KK → Prop} (h : isO K.1 l0 10 = true ∧ Wm d 94 [vR l0, vR 2] M K (Bk d 4 3 6 94 [vR l0] [] Q)) : Wp (d + 1) 4 0 [vR l0] [] M K Q := by
  refine r_aload_n c4_0 rfl ?_
  refine r_ldcs c4_1 ?_
  obtain ⟨s1, h⟩ := h
  exact r_call c4_3 rfl rfl (Nat.le_of_ble_eq_true rfl) (okc_r rfl rfl s1) h
theorem t4_6 {d : Nat} {l0 : Nat} {t0 : Int} {M : Mem} {K : KK} {Q : RR → Mem → KK → Prop} (h : (t0 = (0 : Int) → isO K.1 l0 10 = true ∧ Wm d 94 [vR l0, vR 3] M K (Bk d 4 16 19 94 [vR l0] [] Q)) ∧ (¬ (t0 = (0 : Int)) → Wp (d + 1) 4 80 [vR l0] [vI (1 : Int)] M K Q)) : Wp (d + 1) 4 6 [vR l0] [vI t0] M K Q := by
  refine r_ifP (P := t0 = (0 : Int)) c4_6 rfl (fun hc => ?_) (fun hc => ?_)
  · replace h := h.1 hc
    refine r_aload_n c4_13 rfl ?_
    refine r_ldcs c4_14 ?_
    obtain ⟨s1, h⟩ := h
    exact r_call c4_16 rfl rfl (Nat.le_of_ble_eq_true rfl) (okc_r rfl rfl s1) h
  · replace h := h.2 hc
    refine r_iconst c4_9 ?_
    refine r_goto c4_10 ?_
    exact h
theorem t4_19 {d : Nat} {l0 : Nat} {t0 : Int} {M : Mem} {K : KK} {Q : RR → Mem → KK → Prop} (h : (t0 = (0 : Int) → isO K.1 l0 10 = true ∧ Wm d 94 [vR l0, vR 4] M K (Bk d 4 29 32 94 [vR l0] [] Q)) ∧ (¬ (t0 = (0 : Int)) → Wp (d + 1) 4 80 [vR l0] [vI (2 : Int)] M K Q)) : Wp (d + 1) 4 19 [vR l0] [vI t0] M K Q := by
  refine r_ifP (P := t0 = (0 : Int)) c4_19 rfl (fun hc => ?_) (fun hc => ?_)
  · replace h := h.1 hc
    refine r_aload_n c4_26 rfl ?_
    refine r_ldcs c4_27 ?_
    obtain ⟨s1, h⟩ := h
    exact r_call c4_29 rfl rfl (Nat.le_of_ble_eq_true rfl) (okc_r rfl rfl s1) h
  · replace h := h.2 hc
    refine r_iconst c4_22 ?_
    refine r_goto c4_23 ?_
    exact h
theorem t4_32 {d : Nat} {l0 : Nat} {t0 : Int} {M : Mem} {K : KK} {Q : RR → Mem → KK → Prop} (h : (t0 = (0 : Int) → isO K.1 l0 10 = true ∧ Wm d 94 [vR l0, vR 5] M K (Bk d 4 42 45 94 [vR l0] [] Q)) ∧ (¬ (t0 = (0 : Int)) → Wp (d + 1) 4 80 [vR l0] [vI (3 : Int)] M K Q)) : Wp (d + 1) 4 32 [vR l0] [vI t0] M K Q := by
  refine r_ifP (P := t0 = (0 : Int)) c4_32 rfl (fun hc => ?_) (fun hc => ?_)
  · replace h := h.1 hc
    refine r_aload_n c4_39 rfl ?_
    refine r_ldcs c4_40 ?_
    obtain ⟨s1, h⟩ := h
    exact r_call c4_42 rfl rfl (Nat.le_of_ble_eq_true rfl) (okc_r rfl rfl s1) h
  · replace h := h.2 hc
    refine r_iconst c4_35 ?_
    refine r_goto c4_36 ?_
    exact h
theorem t4_45 {d : Nat} {l0 : Nat} {t0 : Int} {M : Mem} {K : KK} {Q : RR → Mem → KK → Prop} (h : (t0 = (0 : Int) → isO K.1 l0 10 = true ∧ Wm d 94 [vR l0, vR 6] M K (Bk d 4 55 58 94 [vR l0] [] Q)) ∧ (¬ (t0 = (0 : Int)) → Wp (d + 1) 4 80 [vR l0] [vI (4 : Int)] M K Q)) : Wp (d + 1) 4 45 [vR l0] [vI t0] M K Q := by
  refine r_ifP (P := t0 = (0 : Int)) c4_45 rfl (fun hc => ?_) (fun hc => ?_)
  · replace h := h.1 hc
    refine r_aload_n c4_52 rfl ?_
    refine r_ldcs c4_53 ?_
    obtain ⟨s1, h⟩ := h
    exact r_call c4_55 rfl rfl (Nat.le_of_ble_eq_true rfl) (okc_r rfl rfl s1) h
  · replace h := h.2 hc
    refine r_iconst c4_48 ?_
    refine r_goto c4_49 ?_
    exact h
theorem t4_58 {d : Nat} {l0 : Nat} {t0 : Int} {M : Mem} {K : KK} {Q : RR → Mem → KK → Prop} (h : (t0 = (0 : Int) → isO K.1 l0 10 = true ∧ Wm d 94 [vR l0, vR 7] M K (Bk d 4 68 71 94 [vR l0] [] Q)) ∧ (¬ (t0 = (0 : Int)) → Wp (d + 1) 4 80 [vR l0] [vI (5 : Int)] M K Q)) : Wp (d + 1) 4 58 [vR l0] [vI t0] M K Q := by
  refine r_ifP (P := t0 = (0 : Int)) c4_58 rfl (fun hc => ?_) (fun hc => ?_)
  · replace h := h.1 hc
    refine r_aload_n c4_65 rfl ?_
    refine r_ldcs c4_66 ?_
    obtain ⟨s1, h⟩ := h
    exact r_call c4_68 rfl rfl (Nat.le_of_ble_eq_true rfl) (okc_r rfl rfl s1) h
  · replace h := h.2 hc
    refine r_iconst c4_61 ?_
    refine r_goto c4_62 ?_
    exact h
theorem t4_71 {d : Nat} {l0 : Nat} {t0 : Int} {M : Mem} {K : KK} {Q : RR → Mem → KK → Prop} (h : (t0 = (0 : Int) → Wp d 4 80 [vR l0] [vI (-1 : Int)] M K Q) ∧ (¬ (t0 = (0 : Int)) → Wp d 4 80 [vR l0] [vI (6 : Int)] M K Q)) : Wp d 4 71 [vR l0] [vI t0] M K Q := by
  refine r_ifP (P := t0 = (0 : Int)) c4_71 rfl (fun hc => ?_) (fun hc => ?_)
  · replace h := h.1 hc
    refine r_iconst c4_79 ?_
    exact h
  · replace h := h.2 hc
    refine r_bipush c4_74 ?_
    refine r_goto c4_76 ?_
    exact h
theorem t4_80 {d : Nat} {l0 : Nat} {t0 : Int} {M : Mem} {K : KK} {Q : RR → Mem → KK → Prop} (h : Q (.inl (some (vI t0))) M K) : Wp d 4 80 [vR l0] [vI t0] M K Q := by
  exact r_iret c4_80 (Or.inl rfl) h
theorem t5_0 {d : Nat} {l0 : Nat} {l1 : Int} {M : Mem} {K : KK} {Q : RR → Mem → KK → Prop} (h : (¬ l1 = (1 : Int) → Wp d 5 14 [vR l0, vI l1] [] M K Q) ∧ (¬ (¬ l1 = (1 : Int)) → isO K.1 l0 0 = true ∧ ((12 : Int) ≤ (M l0 5) → Wp d 5 56 [vR l0, vI l1] [] M K Q) ∧ (¬ ((12 : Int) ≤ (M l0 5)) → Wp d 5 14 [vR l0, vI l1] [] M K Q))) : Wp d 5 0 [vR l0, vI l1] [] M K Q := by
  refine r_iload_n c5_0 rfl ?_
  refine r_iconst c5_1 ?_
  refine r_icmpP (P := ¬ l1 = (1 : Int)) c5_2 rfl (fun hc => ?_) (fun hc => ?_)
  · replace h := h.1 hc
    exact h
  · replace h := h.2 hc
    refine r_aload_n c5_5 rfl ?_
    obtain ⟨s1, h⟩ := h
    refine r_getI c5_6 s1 ?_
    refine r_bipush c5_9 ?_
    refine r_icmpP (P := (12 : Int) ≤ (M l0 5)) c5_11 rfl (fun hc => ?_) (fun hc => ?_)
    · replace h := h.1 hc
      exact h
    · replace h := h.2 hc
      exact h
theorem t5_14 {d : Nat} {l0 : Nat} {l1 : Int} {M : Mem} {K : KK} {Q : RR → Mem → KK → Prop} (h : (¬ l1 = (2 : Int) → Wp d 5 28 [vR l0, vI l1] [] M K Q) ∧ (¬ (¬ l1 = (2 : Int)) → isO K.1 l0 0 = true ∧ ((6 : Int) ≤ (M l0 6) → Wp d 5 56 [vR l0, vI l1] [] M K Q) ∧ (¬ ((6 : Int) ≤ (M l0 6)) → Wp d 5 28 [vR l0, vI l1] [] M K Q))) : Wp d 5 14 [vR l0, vI l1] [] M K Q := by
  refine r_iload_n c5_14 rfl ?_
  refine r_iconst c5_15 ?_
  refine r_icmpP (P := ¬ l1 = (2 : Int)) c5_16 rfl (fun hc => ?_) (fun hc => ?_)
  · replace h := h.1 hc
    exact h
  · replace h := h.2 hc
    refine r_aload_n c5_19 rfl ?_
    obtain ⟨s1, h⟩ := h
    refine r_getI c5_20 s1 ?_
    refine r_bipush c5_23 ?_
    refine r_icmpP (P := (6 : Int) ≤ (M l0 6)) c5_25 rfl (fun hc => ?_) (fun hc => ?_)
    · replace h := h.1 hc
      exact h
    · replace h := h.2 hc
      exact h
theorem t5_28 {d : Nat} {l0 : Nat} {l1 : Int} {M : Mem} {K : KK} {Q : RR → Mem → KK → Prop} (h : (¬ l1 = (3 : Int) → Wp d 5 42 [vR l0, vI l1] [] M K Q) ∧ (¬ (¬ l1 = (3 : Int)) → isO K.1 l0 0 = true ∧ ((8 : Int) ≤ (M l0 7) → Wp d 5 56 [vR l0, vI l1] [] M K Q) ∧ (¬ ((8 : Int) ≤ (M l0 7)) → Wp d 5 42 [vR l0, vI l1] [] M K Q))) : Wp d 5 28 [vR l0, vI l1] [] M K Q := by
  refine r_iload_n c5_28 rfl ?_
  refine r_iconst c5_29 ?_
  refine r_icmpP (P := ¬ l1 = (3 : Int)) c5_30 rfl (fun hc => ?_) (fun hc => ?_)
  · replace h := h.1 hc
    exact h
  · replace h := h.2 hc
    refine r_aload_n c5_33 rfl ?_
    obtain ⟨s1, h⟩ := h
    refine r_getI c5_34 s1 ?_
    refine r_bipush c5_37 ?_
    refine r_icmpP (P := (8 : Int) ≤ (M l0 7)) c5_39 rfl (fun hc => ?_) (fun hc => ?_)
    · replace h := h.1 hc
      exact h
    · replace h := h.2 hc
      exact h
theorem t5_42 {d : Nat} {l0 : Nat} {l1 : Int} {M : Mem} {K : KK} {Q : RR → Mem → KK → Prop} (h : (¬ l1 = (4 : Int) → Wp d 5 60 [vR l0, vI l1] [] M K Q) ∧ (¬ (¬ l1 = (4 : Int)) → isO K.1 l0 0 = true ∧ ((M l0 8) < (7 : Int) → Wp d 5 60 [vR l0, vI l1] [] M K Q) ∧ (¬ ((M l0 8) < (7 : Int)) → Wp d 5 56 [vR l0, vI l1] [] M K Q))) : Wp d 5 42 [vR l0, vI l1] [] M K Q := by
  refine r_iload_n c5_42 rfl ?_
  refine r_iconst c5_43 ?_
  refine r_icmpP (P := ¬ l1 = (4 : Int)) c5_44 rfl (fun hc => ?_) (fun hc => ?_)
  · replace h := h.1 hc
    exact h
  · replace h := h.2 hc
    refine r_aload_n c5_47 rfl ?_
    obtain ⟨s1, h⟩ := h
    refine r_getI c5_48 s1 ?_
    refine r_bipush c5_51 ?_
    refine r_icmpP (P := (M l0 8) < (7 : Int)) c5_53 rfl (fun hc => ?_) (fun hc => ?_)
    · replace h := h.1 hc
      exact h
    · replace h := h.2 hc
      exact h
theorem t5_56 {d : Nat} {l0 : Nat} {l1 : Int} {M : Mem} {K : KK} {Q : RR → Mem → KK → Prop} (h : Wp d 5 61 [vR l0, vI l1] [vI (1 : Int)] M K Q) : Wp d 5 56 [vR l0, vI l1] [] M K Q := by
  refine r_iconst c5_56 ?_
  refine r_goto c5_57 ?_
  exact h
theorem t5_60 {d : Nat} {l0 : Nat} {l1 : Int} {M : Mem} {K : KK} {Q : RR → Mem → KK → Prop} (h : Wp d 5 61 [vR l0, vI l1] [vI (0 : Int)] M K Q) : Wp d 5 60 [vR l0, vI l1] [] M K Q := by
  refine r_iconst c5_60 ?_
  exact h
theorem t5_61 {d : Nat} {l0 : Nat} {l1 : Int} {t0 : Int} {M : Mem} {K : KK} {Q : RR → Mem → KK → Prop} (h : (t0 = 0 ∨ t0 = 1) ∧ Q (.inl (some (vI t0))) M K) : Wp d 5 61 [vR l0, vI l1] [vI t0] M K Q := by
  obtain ⟨s1, h⟩ := h
  exact r_iret c5_61 (Or.inr s1) h
theorem t6_0 {d : Nat} {l0 : Nat} {l1 : Nat} {l2 : Int} {M : Mem} {K : KK} {Q : RR → Mem → KK → Prop} (h : Wp d 6 (tsw 1 181 1 5 #[35, 64, 109, 138, 167] l2) [vR l0, vR l1, vI l2] [] M K Q) : Wp d 6 0 [vR l0, vR l1, vI l2] [] M K Q := by
  refine r_iload_n c6_0 rfl ?_
  refine r_tsw c6_1 ?_
  exact h
theorem t6_36 {d : Nat} {l0 : Nat} {l1 : Nat} {l2 : Int} {M : Mem} {K : KK} {Q : RR → Mem → KK → Prop} (h : isO K.1 l0 0 = true ∧ ∃ b2 : Nat, (M l0 0) = (b2 : Int) ∧ 0 < b2 ∧ isO K.1 l0 0 = true ∧ isO K.1 l1 10 = true ∧ Wm d 92 [vR l1, vI (0 : Int), vI (9 : Int)] M K (Bk d 6 48 51 92 [vR l0, vR l1, vI l2] [vI (M l0 5), vR b2] Q)) : Wp (d + 1) 6 36 [vR l0, vR l1, vI l2] [] M K Q := by
  refine r_aload_n c6_36 rfl ?_
  obtain ⟨s1, h⟩ := h
  obtain ⟨b2, h⟩ := h
  obtain ⟨s3, h⟩ := h
  obtain ⟨s4, h⟩ := h
  refine r_getR c6_37 s1 s3 s4 ?_
  refine r_aload_n c6_40 rfl ?_
  obtain ⟨s5, h⟩ := h
  refine r_getI c6_41 s5 ?_
  refine r_aload_n c6_44 rfl ?_
  refine r_iconst c6_45 ?_
  refine r_bipush c6_46 ?_
  obtain ⟨s6, h⟩ := h
  exact r_call c6_48 rfl rfl (Nat.le_of_ble_eq_true rfl) (okc_r rfl rfl s6) h
theorem t6_51 {d : Nat} {l0 : Nat} {l1 : Nat} {l2 : Int} {t0 : Nat} {t1 : Int} {t2 : Int} {M : Mem} {K : KK} {Q : RR → Mem → KK → Prop} (h : isO K.1 t0 20 = true ∧ (0 ≤ t1 ∧ t1 < (ln t0 : Int)) ∧ isO K.1 l0 0 = true ∧ isO K.1 l0 0 = true ∧ Wp d 6 192 [vR l0, vR l1, vI l2] [] (mset (mset M t0 (Int.toNat t1) t2) l0 5 (w32 (((mset M t0 (Int.toNat t1) t2) l0 5) + (1 : Int)))) K Q) : Wp d 6 51 [vR l0, vR l1, vI l2] [vI t2, vI t1, vR t0] M K Q := by
  obtain ⟨s1, h⟩ := h
  obtain ⟨s2, h⟩ := h
  refine r_ias c6_51 s1 s2 ?_
  refine r_aload_n c6_52 rfl ?_
  refine r_dupr c6_53 ?_
  obtain ⟨s3, h⟩ := h
  refine r_getI c6_54 s3 ?_
  refine r_iconst c6_57 ?_
  refine r_iadd c6_58 ?_
  obtain ⟨s4, h⟩ := h
  refine r_putI c6_59 s4 ?_
  refine r_goto c6_62 ?_
  exact h
theorem t6_65 {d : Nat} {l0 : Nat} {l1 : Nat} {l2 : Int} {M : Mem} {K : KK} {Q : RR → Mem → KK → Prop} (h : isO K.1 l0 0 = true ∧ ∃ b2 : Nat, (M l0 1) = (b2 : Int) ∧ 0 < b2 ∧ isO K.1 l0 0 = true ∧ isO K.1 l1 10 = true ∧ Wm d 92 [vR l1, vI (1 : Int), vI (6 : Int)] M K (Bk d 6 77 80 92 [vR l0, vR l1, vI l2] [vI (M l0 6), vR b2] Q)) : Wp (d + 1) 6 65 [vR l0, vR l1, vI l2] [] M K Q := by
  refine r_aload_n c6_65 rfl ?_
  obtain ⟨s1, h⟩ := h
  obtain ⟨b2, h⟩ := h
  obtain ⟨s3, h⟩ := h
  obtain ⟨s4, h⟩ := h
  refine r_getR c6_66 s1 s3 s4 ?_
  refine r_aload_n c6_69 rfl ?_
  obtain ⟨s5, h⟩ := h
  refine r_getI c6_70 s5 ?_
  refine r_aload_n c6_73 rfl ?_
  refine r_iconst c6_74 ?_
  refine r_bipush c6_75 ?_
  obtain ⟨s6, h⟩ := h
  exact r_call c6_77 rfl rfl (Nat.le_of_ble_eq_true rfl) (okc_r rfl rfl s6) h
theorem t6_80 {d : Nat} {l0 : Nat} {l1 : Nat} {l2 : Int} {t0 : Nat} {t1 : Int} {t2 : Int} {M : Mem} {K : KK} {Q : RR → Mem → KK → Prop} (h : isO K.1 t0 20 = true ∧ (0 ≤ t1 ∧ t1 < (ln t0 : Int)) ∧ isO K.1 l0 0 = true ∧ ∃ b4 : Nat, ((mset M t0 (Int.toNat t1) t2) l0 2) = (b4 : Int) ∧ 0 < b4 ∧ isO K.1 l0 0 = true ∧ isO K.1 l1 10 = true ∧ Wm d 92 [vR l1, vI (1 : Int), vI (99 : Int)] (mset M t0 (Int.toNat t1) t2) K (Bk d 6 93 96 92 [vR l0, vR l1, vI l2] [vI ((mset M t0 (Int.toNat t1) t2) l0 6), vR b4] Q)) : Wp (d + 1) 6 80 [vR l0, vR l1, vI l2] [vI t2, vI t1, vR t0] M K Q := by
  obtain ⟨s1, h⟩ := h
  obtain ⟨s2, h⟩ := h
  refine r_ias c6_80 s1 s2 ?_
  refine r_aload_n c6_81 rfl ?_
  obtain ⟨s3, h⟩ := h
  obtain ⟨b4, h⟩ := h
  obtain ⟨s5, h⟩ := h
  obtain ⟨s6, h⟩ := h
  refine r_getR c6_82 s3 s5 s6 ?_
  refine r_aload_n c6_85 rfl ?_
  obtain ⟨s7, h⟩ := h
  refine r_getI c6_86 s7 ?_
  refine r_aload_n c6_89 rfl ?_
  refine r_iconst c6_90 ?_
  refine r_bipush c6_91 ?_
  obtain ⟨s8, h⟩ := h
  exact r_call c6_93 rfl rfl (Nat.le_of_ble_eq_true rfl) (okc_r rfl rfl s8) h
theorem t6_96 {d : Nat} {l0 : Nat} {l1 : Nat} {l2 : Int} {t0 : Nat} {t1 : Int} {t2 : Int} {M : Mem} {K : KK} {Q : RR → Mem → KK → Prop} (h : isO K.1 t0 20 = true ∧ (0 ≤ t1 ∧ t1 < (ln t0 : Int)) ∧ isO K.1 l0 0 = true ∧ isO K.1 l0 0 = true ∧ Wp d 6 192 [vR l0, vR l1, vI l2] [] (mset (mset M t0 (Int.toNat t1) t2) l0 6 (w32 (((mset M t0 (Int.toNat t1) t2) l0 6) + (1 : Int)))) K Q) : Wp d 6 96 [vR l0, vR l1, vI l2] [vI t2, vI t1, vR t0] M K Q := by
  obtain ⟨s1, h⟩ := h
  obtain ⟨s2, h⟩ := h
  refine r_ias c6_96 s1 s2 ?_
  refine r_aload_n c6_97 rfl ?_
  refine r_dupr c6_98 ?_
  obtain ⟨s3, h⟩ := h
  refine r_getI c6_99 s3 ?_
  refine r_iconst c6_102 ?_
  refine r_iadd c6_103 ?_
  obtain ⟨s4, h⟩ := h
  refine r_putI c6_104 s4 ?_
  refine r_goto c6_107 ?_
  exact h
theorem t6_110 {d : Nat} {l0 : Nat} {l1 : Nat} {l2 : Int} {M : Mem} {K : KK} {Q : RR → Mem → KK → Prop} (h : isO K.1 l0 0 = true ∧ ∃ b2 : Nat, (M l0 3) = (b2 : Int) ∧ 0 < b2 ∧ isO K.1 l0 0 = true ∧ isO K.1 l1 10 = true ∧ Wm d 92 [vR l1, vI (1 : Int), vI (9 : Int)] M K (Bk d 6 122 125 92 [vR l0, vR l1, vI l2] [vI (M l0 7), vR b2] Q)) : Wp (d + 1) 6 110 [vR l0, vR l1, vI l2] [] M K Q := by
  refine r_aload_n c6_110 rfl ?_
  obtain ⟨s1, h⟩ := h
  obtain ⟨b2, h⟩ := h
  obtain ⟨s3, h⟩ := h
  obtain ⟨s4, h⟩ := h
  refine r_getR c6_111 s1 s3 s4 ?_
  refine r_aload_n c6_114 rfl ?_
  obtain ⟨s5, h⟩ := h
  refine r_getI c6_115 s5 ?_
  refine r_aload_n c6_118 rfl ?_
  refine r_iconst c6_119 ?_
  refine r_bipush c6_120 ?_
  obtain ⟨s6, h⟩ := h
  exact r_call c6_122 rfl rfl (Nat.le_of_ble_eq_true rfl) (okc_r rfl rfl s6) h
theorem t6_125 {d : Nat} {l0 : Nat} {l1 : Nat} {l2 : Int} {t0 : Nat} {t1 : Int} {t2 : Int} {M : Mem} {K : KK} {Q : RR → Mem → KK → Prop} (h : isO K.1 t0 20 = true ∧ (0 ≤ t1 ∧ t1 < (ln t0 : Int)) ∧ isO K.1 l0 0 = true ∧ isO K.1 l0 0 = true ∧ Wp d 6 192 [vR l0, vR l1, vI l2] [] (mset (mset M t0 (Int.toNat t1) t2) l0 7 (w32 (((mset M t0 (Int.toNat t1) t2) l0 7) + (1 : Int)))) K Q) : Wp d 6 125 [vR l0, vR l1, vI l2] [vI t2, vI t1, vR t0] M K Q := by
  obtain ⟨s1, h⟩ := h
  obtain ⟨s2, h⟩ := h
  refine r_ias c6_125 s1 s2 ?_
  refine r_aload_n c6_126 rfl ?_
  refine r_dupr c6_127 ?_
  obtain ⟨s3, h⟩ := h
  refine r_getI c6_128 s3 ?_
  refine r_iconst c6_131 ?_
  refine r_iadd c6_132 ?_
  obtain ⟨s4, h⟩ := h
  refine r_putI c6_133 s4 ?_
  refine r_goto c6_136 ?_
  exact h
theorem t6_139 {d : Nat} {l0 : Nat} {l1 : Nat} {l2 : Int} {M : Mem} {K : KK} {Q : RR → Mem → KK → Prop} (h : isO K.1 l0 0 = true ∧ ∃ b2 : Nat, (M l0 4) = (b2 : Int) ∧ 0 < b2 ∧ isO K.1 l0 0 = true ∧ isO K.1 l1 10 = true ∧ Wm d 92 [vR l1, vI (0 : Int), vI (9 : Int)] M K (Bk d 6 151 154 92 [vR l0, vR l1, vI l2] [vI (M l0 8), vR b2] Q)) : Wp (d + 1) 6 139 [vR l0, vR l1, vI l2] [] M K Q := by
  refine r_aload_n c6_139 rfl ?_
  obtain ⟨s1, h⟩ := h
  obtain ⟨b2, h⟩ := h
  obtain ⟨s3, h⟩ := h
  obtain ⟨s4, h⟩ := h
  refine r_getR c6_140 s1 s3 s4 ?_
  refine r_aload_n c6_143 rfl ?_
  obtain ⟨s5, h⟩ := h
  refine r_getI c6_144 s5 ?_
  refine r_aload_n c6_147 rfl ?_
  refine r_iconst c6_148 ?_
  refine r_bipush c6_149 ?_
  obtain ⟨s6, h⟩ := h
  exact r_call c6_151 rfl rfl (Nat.le_of_ble_eq_true rfl) (okc_r rfl rfl s6) h
theorem t6_154 {d : Nat} {l0 : Nat} {l1 : Nat} {l2 : Int} {t0 : Nat} {t1 : Int} {t2 : Int} {M : Mem} {K : KK} {Q : RR → Mem → KK → Prop} (h : isO K.1 t0 20 = true ∧ (0 ≤ t1 ∧ t1 < (ln t0 : Int)) ∧ isO K.1 l0 0 = true ∧ isO K.1 l0 0 = true ∧ Wp d 6 192 [vR l0, vR l1, vI l2] [] (mset (mset M t0 (Int.toNat t1) t2) l0 8 (w32 (((mset M t0 (Int.toNat t1) t2) l0 8) + (1 : Int)))) K Q) : Wp d 6 154 [vR l0, vR l1, vI l2] [vI t2, vI t1, vR t0] M K Q := by
  obtain ⟨s1, h⟩ := h
  obtain ⟨s2, h⟩ := h
  refine r_ias c6_154 s1 s2 ?_
  refine r_aload_n c6_155 rfl ?_
  refine r_dupr c6_156 ?_
  obtain ⟨s3, h⟩ := h
  refine r_getI c6_157 s3 ?_
  refine r_iconst c6_160 ?_
  refine r_iadd c6_161 ?_
  obtain ⟨s4, h⟩ := h
  refine r_putI c6_162 s4 ?_
  refine r_goto c6_165 ?_
  exact h
theorem t6_168 {d : Nat} {l0 : Nat} {l1 : Nat} {l2 : Int} {M : Mem} {K : KK} {Q : RR → Mem → KK → Prop} (h : isO K.1 l1 10 = true ∧ Wm d 92 [vR l1, vI (0 : Int), vI (99 : Int)] M K (Bk d 6 173 176 92 [vR l0, vR l1, vI l2] [vR l0] Q)) : Wp (d + 1) 6 168 [vR l0, vR l1, vI l2] [] M K Q := by
  refine r_aload_n c6_168 rfl ?_
  refine r_aload_n c6_169 rfl ?_
  refine r_iconst c6_170 ?_
  refine r_bipush c6_171 ?_
  obtain ⟨s1, h⟩ := h
  exact r_call c6_173 rfl rfl (Nat.le_of_ble_eq_true rfl) (okc_r rfl rfl s1) h
theorem t6_176 {d : Nat} {l0 : Nat} {l1 : Nat} {l2 : Int} {t0 : Nat} {t1 : Int} {M : Mem} {K : KK} {Q : RR → Mem → KK → Prop} (h : isO K.1 t0 0 = true ∧ Wp d 6 192 [vR l0, vR l1, vI l2] [] (mset M t0 9 t1) K Q) : Wp d 6 176 [vR l0, vR l1, vI l2] [vI t1, vR t0] M K Q := by
  obtain ⟨s1, h⟩ := h
  refine r_putI c6_176 s1 ?_
  refine r_goto c6_179 ?_
  exact h
theorem t6_182 {d : Nat} {l0 : Nat} {l1 : Nat} {l2 : Int} {M : Mem} {K : KK} {Q : RR → Mem → KK → Prop} (h : isO K.1 l1 10 = true ∧ Wm d 92 [vR l1, vI (0 : Int), vI (4 : Int)] M K (Bk d 6 186 189 92 [vR l0, vR l1, vI l2] [vR l0] Q)) : Wp (d + 1) 6 182 [vR l0, vR l1, vI l2] [] M K Q := by
  refine r_aload_n c6_182 rfl ?_
  refine r_aload_n c6_183 rfl ?_
  refine r_iconst c6_184 ?_
  refine r_iconst c6_185 ?_
  obtain ⟨s1, h⟩ := h
  exact r_call c6_186 rfl rfl (Nat.le_of_ble_eq_true rfl) (okc_r rfl rfl s1) h
theorem t6_189 {d : Nat} {l0 : Nat} {l1 : Nat} {l2 : Int} {t0 : Nat} {t1 : Int} {M : Mem} {K : KK} {Q : RR → Mem → KK → Prop} (h : isO K.1 t0 0 = true ∧ Wp d 6 192 [vR l0, vR l1, vI l2] [] (mset M t0 10 t1) K Q) : Wp d 6 189 [vR l0, vR l1, vI l2] [vI t1, vR t0] M K Q := by
  obtain ⟨s1, h⟩ := h
  refine r_putI c6_189 s1 ?_
  exact h
theorem t6_192 {d : Nat} {l0 : Nat} {l1 : Nat} {l2 : Int} {M : Mem} {K : KK} {Q : RR → Mem → KK → Prop} (h : Q (.inl none) M K) : Wp d 6 192 [vR l0, vR l1, vI l2] [] M K Q := by
  exact r_ret c6_192 h
theorem t7_0 {d : Nat} {l0 : Nat} {l1 : Int} {M : Mem} {K : KK} {Q : RR → Mem → KK → Prop} (h : isO K.1 l0 0 = true ∧ ((M l0 8) ≤ (0 : Int) → Wp d 7 11 [vR l0, vI l1] [] M K Q) ∧ (¬ ((M l0 8) ≤ (0 : Int)) → ((0 : Int) ≤ l1 → isO K.1 l0 0 = true ∧ ∃ b3 : Nat, (M l0 4) = (b3 : Int) ∧ 0 < b3 ∧ isO K.1 l0 0 = true ∧ (M l0 8) ≠ 0 ∧ isO K.1 b3 20 = true ∧ (0 ≤ (Int.tmod l1 (M l0 8)) ∧ (Int.tmod l1 (M l0 8)) < (ln b3 : Int)) ∧ Wp d 7 26 [vR l0, vI l1] [vI (M b3 (Int.toNat (Int.tmod l1 (M l0 8))))] M K Q) ∧ (¬ ((0 : Int) ≤ l1) → Wp d 7 11 [vR l0, vI l1] [] M K Q))) : Wp d 7 0 [vR l0, vI l1] [] M K Q := by
  refine r_aload_n c7_0 rfl ?_
  obtain ⟨s1, h⟩ := h
  refine r_getI c7_1 s1 ?_
  refine r_ifP (P := (M l0 8) ≤ (0 : Int)) c7_4 rfl (fun hc => ?_) (fun hc => ?_)
  · replace h := h.1 hc
    exact h
  · replace h := h.2 hc
    refine r_iload_n c7_7 rfl ?_
    refine r_ifP (P := (0 : Int) ≤ l1) c7_8 rfl (fun hc => ?_) (fun hc => ?_)
    · replace h := h.1 hc
      refine r_aload_n c7_15 rfl ?_
      obtain ⟨s2, h⟩ := h
      obtain ⟨b3, h⟩ := h
      obtain ⟨s4, h⟩ := h
      obtain ⟨s5, h⟩ := h
      refine r_getR c7_16 s2 s4 s5 ?_
      refine r_iload_n c7_19 rfl ?_
      refine r_aload_n c7_20 rfl ?_
      obtain ⟨s6, h⟩ := h
      refine r_getI c7_21 s6 ?_
      obtain ⟨s7, h⟩ := h
      refine r_irem c7_24 s7 ?_
      obtain ⟨s8, h⟩ := h
      obtain ⟨s9, h⟩ := h
      refine r_ia c7_25 s8 s9 ?_
      exact h
    · replace h := h.2 hc
      exact h
theorem t7_11 {d : Nat} {l0 : Nat} {l1 : Int} {M : Mem} {K : KK} {Q : RR → Mem → KK → Prop} (h : Wp d 7 26 [vR l0, vI l1] [vI (0 : Int)] M K Q) : Wp d 7 11 [vR l0, vI l1] [] M K Q := by
  refine r_iconst c7_11 ?_
  refine r_goto c7_12 ?_
  exact h
theorem t7_26 {d : Nat} {l0 : Nat} {l1 : Int} {t0 : Int} {M : Mem} {K : KK} {Q : RR → Mem → KK → Prop} (h : Q (.inl (some (vI t0))) M K) : Wp d 7 26 [vR l0, vI l1] [vI t0] M K Q := by
  exact r_iret c7_26 (Or.inl rfl) h
theorem t8_0 {d : Nat} {l0 : Nat} {l1 : Int} {l2 : Int} {M : Mem} {K : KK} {Q : RR → Mem → KK → Prop} (h : Wp d 8 5 [vR l0, vI l1, vI l2, vI (0 : Int), vI l1] [] M K Q) : Wp d 8 0 [vR l0, vI l1, vI l2, vU, vU] [] M K Q := by
  refine r_iconst c8_0 ?_
  refine r_istore_n c8_1 (Nat.le_of_ble_eq_true rfl) ?_
  refine r_iload_n c8_2 rfl ?_
  refine r_istore c8_3 (Nat.le_of_ble_eq_true rfl) ?_
  exact h
theorem t8_5 {d : Nat} {l0 : Nat} {l1 : Int} {l2 : Int} {l3 : Int} {l4 : Int} {M : Mem} {K : KK} {Q : RR → Mem → KK → Prop} (h : (l4 < (0 : Int) → Wp d 8 43 [vR l0, vI l1, vI l2, vI l3, vI l4] [] M K Q) ∧ (¬ (l4 < (0 : Int)) → ((w32 (l1 + l2)) ≤ l4 → Wp d 8 43 [vR l0, vI l1, vI l2, vI l3, vI l4] [] M K Q) ∧ (¬ ((w32 (l1 + l2)) ≤ l4) → isO K.1 l0 0 = true ∧ ((M l0 5) ≤ l4 → Wp d 8 43 [vR l0, vI l1, vI l2, vI l3, vI l4] [] M K Q) ∧ (¬ ((M l0 5) ≤ l4) → isO K.1 l0 0 = true ∧ ∃ b3 : Nat, (M l0 0) = (b3 : Int) ∧ 0 < b3 ∧ isO K.1 b3 20 = true ∧ (0 ≤ l4 ∧ l4 < (ln b3 : Int)) ∧ Wp d 8 5 [vR l0, vI l1, vI l2, vI (w32 (l3 + (M b3 (Int.toNat l4)))), vI (w32 (l4 + 1))] [] M K Q)))) : Wp d 8 5 [vR l0, vI l1, vI l2, vI l3, vI l4] [] M K Q := by
  refine r_iload c8_5 rfl ?_
  refine r_ifP (P := l4 < (0 : Int)) c8_7 rfl (fun hc => ?_) (fun hc => ?_)
  · replace h := h.1 hc
    exact h
  · replace h := h.2 hc
    refine r_iload c8_10 rfl ?_
    refine r_iload_n c8_12 rfl ?_
    refine r_iload_n c8_13 rfl ?_
    refine r_iadd c8_14 ?_
    refine r_icmpP (P := (w32 (l1 + l2)) ≤ l4) c8_15 rfl (fun hc => ?_) (fun hc => ?_)
    · replace h := h.1 hc
      exact h
    · replace h := h.2 hc
      refine r_iload c8_18 rfl ?_
      refine r_aload_n c8_20 rfl ?_
      obtain ⟨s1, h⟩ := h
      refine r_getI c8_21 s1 ?_
      refine r_icmpP (P := (M l0 5) ≤ l4) c8_24 rfl (fun hc => ?_) (fun hc => ?_)
      · replace h := h.1 hc
        exact h
      · replace h := h.2 hc
        refine r_iload_n c8_27 rfl ?_
        refine r_aload_n c8_28 rfl ?_
        obtain ⟨s2, h⟩ := h
        obtain ⟨b3, h⟩ := h
        obtain ⟨s4, h⟩ := h
        obtain ⟨s5, h⟩ := h
        refine r_getR c8_29 s2 s4 s5 ?_
        refine r_iload c8_32 rfl ?_
        obtain ⟨s6, h⟩ := h
        obtain ⟨s7, h⟩ := h
        refine r_ia c8_34 s6 s7 ?_
        refine r_iadd c8_35 ?_
        refine r_istore_n c8_36 (Nat.le_of_ble_eq_true rfl) ?_
        refine r_iinc c8_37 rfl ?_
        refine r_goto c8_40 ?_
        exact h
theorem t8_43 {d : Nat} {l0 : Nat} {l1 : Int} {l2 : Int} {l3 : Int} {l4 : Int} {M : Mem} {K : KK} {Q : RR → Mem → KK → Prop} (h : Q (.inl (some (vI l3))) M K) : Wp d 8 43 [vR l0, vI l1, vI l2, vI l3, vI l4] [] M K Q := by
  refine r_iload_n c8_43 rfl ?_
  exact r_iret c8_44 (Or.inl rfl) h
theorem t9_0 {d : Nat} {l0 : Nat} {l1 : Int} {M : Mem} {K : KK} {Q : RR → Mem → KK → Prop} (h : Wp d 9 4 [vR l0, vI l1, vI (0 : Int), vI (0 : Int)] [] M K Q) : Wp d 9 0 [vR l0, vI l1, vU, vU] [] M K Q := by
  refine r_iconst c9_0 ?_
  refine r_istore_n c9_1 (Nat.le_of_ble_eq_true rfl) ?_
  refine r_iconst c9_2 ?_
  refine r_istore_n c9_3 (Nat.le_of_ble_eq_true rfl) ?_
  exact h
theorem t9_4 {d : Nat} {l0 : Nat} {l1 : Int} {l2 : Int} {l3 : Int} {M : Mem} {K : KK} {Q : RR → Mem → KK → Prop} (h : isO K.1 l0 0 = true ∧ ((M l0 6) ≤ l3 → Q (.inl (some (vI l2))) M K) ∧ (¬ ((M l0 6) ≤ l3) → isO K.1 l0 0 = true ∧ ∃ b3 : Nat, (M l0 1) = (b3 : Int) ∧ 0 < b3 ∧ isO K.1 b3 20 = true ∧ (0 ≤ l3 ∧ l3 < (ln b3 : Int)) ∧ Wp d 9 4 [vR l0, vI l1, vI (w32 (l2 + (w32 ((jand (jshr l1 l3) (1 : Int)) * (M b3 (Int.toNat l3)))))), vI (w32 (l3 + 1))] [] M K Q)) : Wp d 9 4 [vR l0, vI l1, vI l2, vI l3] [] M K Q := by
  refine r_iload_n c9_4 rfl ?_
  refine r_aload_n c9_5 rfl ?_
  obtain ⟨s1, h⟩ := h
  refine r_getI c9_6 s1 ?_
  refine r_icmpP (P := (M l0 6) ≤ l3) c9_9 rfl (fun hc => ?_) (fun hc => ?_)
  · replace h := h.1 hc
    refine r_iload_n c9_33 rfl ?_
    exact r_iret c9_34 (Or.inl rfl) h
  · replace h := h.2 hc
    refine r_iload_n c9_12 rfl ?_
    refine r_iload_n c9_13 rfl ?_
    refine r_iload_n c9_14 rfl ?_
    refine r_ishr c9_15 ?_
    refine r_iconst c9_16 ?_
    refine r_iand c9_17 ?_
    refine r_aload_n c9_18 rfl ?_
    obtain ⟨s2, h⟩ := h
    obtain ⟨b3, h⟩ := h
    obtain ⟨s4, h⟩ := h
    obtain ⟨s5, h⟩ := h
    refine r_getR c9_19 s2 s4 s5 ?_
    refine r_iload_n c9_22 rfl ?_
    obtain ⟨s6, h⟩ := h
    obtain ⟨s7, h⟩ := h
    refine r_ia c9_23 s6 s7 ?_
    refine r_imul c9_24 ?_
    refine r_iadd c9_25 ?_
    refine r_istore_n c9_26 (Nat.le_of_ble_eq_true rfl) ?_
    refine r_iinc c9_27 rfl ?_
    refine r_goto c9_30 ?_
    exact h
theorem t10_0 {d : Nat} {l0 : Nat} {l1 : Int} {M : Mem} {K : KK} {Q : RR → Mem → KK → Prop} (h : Wp d 10 4 [vR l0, vI l1, vI (0 : Int), vI (0 : Int)] [] M K Q) : Wp d 10 0 [vR l0, vI l1, vU, vU] [] M K Q := by
  refine r_iconst c10_0 ?_
  refine r_istore_n c10_1 (Nat.le_of_ble_eq_true rfl) ?_
  refine r_iconst c10_2 ?_
  refine r_istore_n c10_3 (Nat.le_of_ble_eq_true rfl) ?_
  exact h
theorem t10_4 {d : Nat} {l0 : Nat} {l1 : Int} {l2 : Int} {l3 : Int} {M : Mem} {K : KK} {Q : RR → Mem → KK → Prop} (h : isO K.1 l0 0 = true ∧ ((M l0 7) ≤ l3 → Q (.inl (some (vI l2))) M K) ∧ (¬ ((M l0 7) ≤ l3) → isO K.1 l0 0 = true ∧ ∃ b3 : Nat, (M l0 3) = (b3 : Int) ∧ 0 < b3 ∧ isO K.1 b3 20 = true ∧ (0 ≤ l3 ∧ l3 < (ln b3 : Int)) ∧ Wp d 10 4 [vR l0, vI l1, vI (w32 (l2 + (w32 ((jand (jshr l1 l3) (1 : Int)) * (M b3 (Int.toNat l3)))))), vI (w32 (l3 + 1))] [] M K Q)) : Wp d 10 4 [vR l0, vI l1, vI l2, vI l3] [] M K Q := by
  refine r_iload_n c10_4 rfl ?_
  refine r_aload_n c10_5 rfl ?_
  obtain ⟨s1, h⟩ := h
  refine r_getI c10_6 s1 ?_
  refine r_icmpP (P := (M l0 7) ≤ l3) c10_9 rfl (fun hc => ?_) (fun hc => ?_)
  · replace h := h.1 hc
    refine r_iload_n c10_33 rfl ?_
    exact r_iret c10_34 (Or.inl rfl) h
  · replace h := h.2 hc
    refine r_iload_n c10_12 rfl ?_
    refine r_iload_n c10_13 rfl ?_
    refine r_iload_n c10_14 rfl ?_
    refine r_ishr c10_15 ?_
    refine r_iconst c10_16 ?_
    refine r_iand c10_17 ?_
    refine r_aload_n c10_18 rfl ?_
    obtain ⟨s2, h⟩ := h
    obtain ⟨b3, h⟩ := h
    obtain ⟨s4, h⟩ := h
    obtain ⟨s5, h⟩ := h
    refine r_getR c10_19 s2 s4 s5 ?_
    refine r_iload_n c10_22 rfl ?_
    obtain ⟨s6, h⟩ := h
    obtain ⟨s7, h⟩ := h
    refine r_ia c10_23 s6 s7 ?_
    refine r_imul c10_24 ?_
    refine r_iadd c10_25 ?_
    refine r_istore_n c10_26 (Nat.le_of_ble_eq_true rfl) ?_
    refine r_iinc c10_27 rfl ?_
    refine r_goto c10_30 ?_
    exact h
theorem t11_0 {d : Nat} {l0 : Nat} {l1 : Int} {l2 : Int} {M : Mem} {K : KK} {Q : RR → Mem → KK → Prop} (h : isO K.1 l0 0 = true ∧ ((M l0 10) < (if 0 ≤ (w32 (l1 - l2)) then (w32 (l1 - l2)) else w32 (-(w32 (l1 - l2)))) → Wp d 11 18 [vR l0, vI l1, vI l2] [vI (0 : Int)] M K Q) ∧ (¬ ((M l0 10) < (if 0 ≤ (w32 (l1 - l2)) then (w32 (l1 - l2)) else w32 (-(w32 (l1 - l2))))) → Wp d 11 18 [vR l0, vI l1, vI l2] [vI (1 : Int)] M K Q)) : Wp d 11 0 [vR l0, vI l1, vI l2] [] M K Q := by
  refine r_iload_n c11_0 rfl ?_
  refine r_iload_n c11_1 rfl ?_
  refine r_isub c11_2 ?_
  refine r_abs c11_3 (Nat.le_of_ble_eq_true rfl) ?_
  refine r_aload_n c11_6 rfl ?_
  obtain ⟨s1, h⟩ := h
  refine r_getI c11_7 s1 ?_
  refine r_icmpP (P := (M l0 10) < (if 0 ≤ (w32 (l1 - l2)) then (w32 (l1 - l2)) else w32 (-(w32 (l1 - l2))))) c11_10 rfl (fun hc => ?_) (fun hc => ?_)
  · replace h := h.1 hc
    refine r_iconst c11_17 ?_
    exact h
  · replace h := h.2 hc
    refine r_iconst c11_13 ?_
    refine r_goto c11_14 ?_
    exact h
theorem t11_18 {d : Nat} {l0 : Nat} {l1 : Int} {l2 : Int} {t0 : Int} {M : Mem} {K : KK} {Q : RR → Mem → KK → Prop} (h : (t0 = 0 ∨ t0 = 1) ∧ Q (.inl (some (vI t0))) M K) : Wp d 11 18 [vR l0, vI l1, vI l2] [vI t0] M K Q := by
  obtain ⟨s1, h⟩ := h
  exact r_iret c11_18 (Or.inr s1) h
theorem t12_0 {d : Nat} {l0 : Nat} {l1 : Int} {M : Mem} {K : KK} {Q : RR → Mem → KK → Prop} (h : Wp d 12 4 [vR l0, vI l1, vI (0 : Int), vI (0 : Int), vU, vU] [] M K Q) : Wp d 12 0 [vR l0, vI l1, vU, vU, vU, vU] [] M K Q := by
  refine r_iconst c12_0 ?_
  refine r_istore_n c12_1 (Nat.le_of_ble_eq_true rfl) ?_
  refine r_iconst c12_2 ?_
  refine r_istore_n c12_3 (Nat.le_of_ble_eq_true rfl) ?_
  exact h
theorem t12_4 {d : Nat} {l0 : Nat} {l1 : Int} {l2 : Int} {l3 : Int} {l4 : PV} {l5 : PV} {M : Mem} {K : KK} {Q : RR → Mem → KK → Prop} (h : isO K.1 l0 0 = true ∧ ((M l0 5) ≤ l3 → Q (.inl (some (vI l2))) M K) ∧ (¬ ((M l0 5) ≤ l3) → (¬ (jand (jshr l1 l3) (1 : Int)) = (1 : Int) → Wp (d + 1) 12 65 [vR l0, vI l1, vI l2, vI l3, l4, l5] [] M K Q) ∧ (¬ (¬ (jand (jshr l1 l3) (1 : Int)) = (1 : Int)) → isO K.1 l0 0 = true ∧ isO K.1 l0 0 = true ∧ isO K.1 l0 0 = true ∧ Wm d 144 [vI (if (0 : Int) < (w32 (l3 - (M l0 10))) then (w32 (l3 - (M l0 10))) else (0 : Int)), vI (w32 ((w32 ((if (w32 (l3 + (M l0 10))) < (w32 ((M l0 5) - (1 : Int))) then (w32 (l3 + (M l0 10))) else (w32 ((M l0 5) - (1 : Int)))) - (if (0 : Int) < (w32 (l3 - (M l0 10))) then (w32 (l3 - (M l0 10))) else (0 : Int)))) + (1 : Int)))] M K (Bk d 12 60 63 144 [vR l0, vI l1, vI l2, vI l3, vI (if (0 : Int) < (w32 (l3 - (M l0 10))) then (w32 (l3 - (M l0 10))) else (0 : Int)), vI (if (w32 (l3 + (M l0 10))) < (w32 ((M l0 5) - (1 : Int))) then (w32 (l3 + (M l0 10))) else (w32 ((M l0 5) - (1 : Int))))] [vI l2] Q)))) : Wp (d + 1) 12 4 [vR l0, vI l1, vI l2, vI l3, l4, l5] [] M K Q := by
  refine r_iload_n c12_4 rfl ?_
  refine r_aload_n c12_5 rfl ?_
  obtain ⟨s1, h⟩ := h
  refine r_getI c12_6 s1 ?_
  refine r_icmpP (P := (M l0 5) ≤ l3) c12_9 rfl (fun hc => ?_) (fun hc => ?_)
  · replace h := h.1 hc
    refine r_iload_n c12_71 rfl ?_
    exact r_iret c12_72 (Or.inl rfl) h
  · replace h := h.2 hc
    refine r_iload_n c12_12 rfl ?_
    refine r_iload_n c12_13 rfl ?_
    refine r_ishr c12_14 ?_
    refine r_iconst c12_15 ?_
    refine r_iand c12_16 ?_
    refine r_iconst c12_17 ?_
    refine r_icmpP (P := ¬ (jand (jshr l1 l3) (1 : Int)) = (1 : Int)) c12_18 rfl (fun hc => ?_) (fun hc => ?_)
    · replace h := h.1 hc
      exact h
    · replace h := h.2 hc
      refine r_iconst c12_21 ?_
      refine r_iload_n c12_22 rfl ?_
      refine r_aload_n c12_23 rfl ?_
      obtain ⟨s2, h⟩ := h
      refine r_getI c12_24 s2 ?_
      refine r_isub c12_27 ?_
      refine r_max c12_28 (Nat.le_of_ble_eq_true rfl) ?_
      refine r_istore c12_31 (Nat.le_of_ble_eq_true rfl) ?_
      refine r_aload_n c12_33 rfl ?_
      obtain ⟨s3, h⟩ := h
      refine r_getI c12_34 s3 ?_
      refine r_iconst c12_37 ?_
      refine r_isub c12_38 ?_
      refine r_iload_n c12_39 rfl ?_
      refine r_aload_n c12_40 rfl ?_
      obtain ⟨s4, h⟩ := h
      refine r_getI c12_41 s4 ?_
      refine r_iadd c12_44 ?_
      refine r_min c12_45 (Nat.le_of_ble_eq_true rfl) ?_
      refine r_istore c12_48 (Nat.le_of_ble_eq_true rfl) ?_
      refine r_iload_n c12_50 rfl ?_
      refine r_iload c12_51 rfl ?_
      refine r_iload c12_53 rfl ?_
      refine r_iload c12_55 rfl ?_
      refine r_isub c12_57 ?_
      refine r_iconst c12_58 ?_
      refine r_iadd c12_59 ?_
      exact r_call c12_60 rfl rfl (Nat.le_of_ble_eq_true rfl) (okc_s rfl rfl rfl) h
theorem t12_63 {d : Nat} {l0 : Nat} {l1 : Int} {l2 : Int} {l3 : Int} {l4 : Int} {l5 : Int} {t0 : Int} {t1 : Int} {M : Mem} {K : KK} {Q : RR → Mem → KK → Prop} (h : Wp d 12 65 [vR l0, vI l1, vI (jor t0 t1), vI l3, vI l4, vI l5] [] M K Q) : Wp d 12 63 [vR l0, vI l1, vI l2, vI l3, vI l4, vI l5] [vI t1, vI t0] M K Q := by
  refine r_ior c12_63 ?_
  refine r_istore_n c12_64 (Nat.le_of_ble_eq_true rfl) ?_
  exact h
theorem t12_65 {d : Nat} {l0 : Nat} {l1 : Int} {l2 : Int} {l3 : Int} {l4 : PV} {l5 : PV} {M : Mem} {K : KK} {Q : RR → Mem → KK → Prop} (h : Wp d 12 4 [vR l0, vI l1, vI l2, vI (w32 (l3 + 1)), l4, l5] [] M K Q) : Wp d 12 65 [vR l0, vI l1, vI l2, vI l3, l4, l5] [] M K Q := by
  refine r_iinc c12_65 rfl ?_
  refine r_goto c12_68 ?_
  exact h
theorem t13_0 {d : Nat} {l0 : Nat} {M : Mem} {K : KK} {Q : RR → Mem → KK → Prop} (h : (tg K.1 = 20 ∧ (147 : Int) = (ln K.1 : Int)) ∧ isO (K.1 + 1) l0 1 = true ∧ 0 < K.1 ∧ (tg (K.1 + 1) = 20 ∧ (126 : Int) = (ln (K.1 + 1) : Int)) ∧ isO ((K.1 + 1) + 1) l0 1 = true ∧ 0 < (K.1 + 1) ∧ (tg ((K.1 + 1) + 1) = 20 ∧ (10 : Int) = (ln ((K.1 + 1) + 1) : Int)) ∧ isO (((K.1 + 1) + 1) + 1) l0 1 = true ∧ 0 < ((K.1 + 1) + 1) ∧ (tg (((K.1 + 1) + 1) + 1) = 20 ∧ (6 : Int) = (ln (((K.1 + 1) + 1) + 1) : Int)) ∧ isO ((((K.1 + 1) + 1) + 1) + 1) l0 1 = true ∧ 0 < (((K.1 + 1) + 1) + 1) ∧ Q (.inl none) (mset (mset (mset (mset M l0 0 (K.1 : Nat)) l0 1 ((K.1 + 1) : Nat)) l0 2 (((K.1 + 1) + 1) : Nat)) l0 3 ((((K.1 + 1) + 1) + 1) : Nat)) (((((K.1 + 1) + 1) + 1) + 1), ((((K.2.1 + 1) + 1) + 1) + 1), ((((K.2.2 + ln K.1) + ln (K.1 + 1)) + ln ((K.1 + 1) + 1)) + ln (((K.1 + 1) + 1) + 1)))) : Wp d 13 0 [vR l0] [] M K Q := by
  refine r_aload_n c13_0 rfl ?_
  refine r_obj c13_1 (Nat.le_of_ble_eq_true rfl) ?_
  refine r_aload_n c13_4 rfl ?_
  refine r_sipush c13_5 ?_
  obtain ⟨s1, h⟩ := h
  refine r_newarray c13_8 s1 ?_
  obtain ⟨s2, h⟩ := h
  obtain ⟨s3, h⟩ := h
  refine r_putR c13_10 s2 s3 ?_
  refine r_aload_n c13_13 rfl ?_
  refine r_bipush c13_14 ?_
  obtain ⟨s4, h⟩ := h
  refine r_newarray c13_16 s4 ?_
  obtain ⟨s5, h⟩ := h
  obtain ⟨s6, h⟩ := h
  refine r_putR c13_18 s5 s6 ?_
  refine r_aload_n c13_21 rfl ?_
  refine r_bipush c13_22 ?_
  obtain ⟨s7, h⟩ := h
  refine r_newarray c13_24 s7 ?_
  obtain ⟨s8, h⟩ := h
  obtain ⟨s9, h⟩ := h
  refine r_putR c13_26 s8 s9 ?_
  refine r_aload_n c13_29 rfl ?_
  refine r_bipush c13_30 ?_
  obtain ⟨s10, h⟩ := h
  refine r_newarray c13_32 s10 ?_
  obtain ⟨s11, h⟩ := h
  obtain ⟨s12, h⟩ := h
  refine r_putR c13_34 s11 s12 ?_
  exact r_ret c13_37 h
theorem t14_0 {d : Nat} {l0 : Nat} {l1 : Nat} {l2 : Nat} {l3 : Int} {M : Mem} {K : KK} {Q : RR → Mem → KK → Prop} (h : Wp d 14 3 [vR l0, vR l1, vR l2, vI l3, vI (0 : Int), vU, vU] [] M K Q) : Wp d 14 0 [vR l0, vR l1, vR l2, vI l3, vU, vU, vU] [] M K Q := by
  refine r_iconst c14_0 ?_
  refine r_istore c14_1 (Nat.le_of_ble_eq_true rfl) ?_
  exact h
theorem t14_3 {d : Nat} {l0 : Nat} {l1 : Nat} {l2 : Nat} {l3 : Int} {l4 : Int} {M : Mem} {K : KK} {Q : RR → Mem → KK → Prop} (h : ((21 : Int) ≤ l4 → isO K.1 l1 0 = true ∧ Wp d 14 49 [vR l0, vR l1, vR l2, vI l3, vI (w32 ((M l1 6) - (1 : Int))), vU, vU] [] M K Q) ∧ (¬ ((21 : Int) ≤ l4) → isO K.1 l0 1 = true ∧ ∃ b3 : Nat, (M l0 0) = (b3 : Int) ∧ 0 < b3 ∧ isO K.1 l1 0 = true ∧ (¬ l4 = (0 : Int) → Wp d 14 34 [vR l0, vR l1, vR l2, vI l3, vI l4, vU, vU] [vI (-1 : Int), vI (w32 ((w32 ((M l1 6) * (21 : Int))) + l4)), vR b3] M K Q) ∧ (¬ (¬ l4 = (0 : Int)) → Wp d 14 34 [vR l0, vR l1, vR l2, vI l3, vI l4, vU, vU] [vI (0 : Int), vI (w32 ((w32 ((M l1 6) * (21 : Int))) + l4)), vR b3] M K Q))) : Wp d 14 3 [vR l0, vR l1, vR l2, vI l3, vI l4, vU, vU] [] M K Q := by
  refine r_iload c14_3 rfl ?_
  refine r_bipush c14_5 ?_
  refine r_icmpP (P := (21 : Int) ≤ l4) c14_7 rfl (fun hc => ?_) (fun hc => ?_)
  · replace h := h.1 hc
    refine r_aload_n c14_41 rfl ?_
    obtain ⟨s1, h⟩ := h
    refine r_getI c14_42 s1 ?_
    refine r_iconst c14_45 ?_
    refine r_isub c14_46 ?_
    refine r_istore c14_47 (Nat.le_of_ble_eq_true rfl) ?_
    exact h
  · replace h := h.2 hc
    refine r_aload_n c14_10 rfl ?_
    obtain ⟨s2, h⟩ := h
    obtain ⟨b3, h⟩ := h
    obtain ⟨s4, h⟩ := h
    obtain ⟨s5, h⟩ := h
    refine r_getR c14_11 s2 s4 s5 ?_
    refine r_aload_n c14_14 rfl ?_
    obtain ⟨s6, h⟩ := h
    refine r_getI c14_15 s6 ?_
    refine r_bipush c14_18 ?_
    refine r_imul c14_20 ?_
    refine r_iload c14_21 rfl ?_
    refine r_iadd c14_23 ?_
    refine r_iload c14_24 rfl ?_
    refine r_ifP (P := ¬ l4 = (0 : Int)) c14_26 rfl (fun hc => ?_) (fun hc => ?_)
    · replace h := h.1 hc
      refine r_iconst c14_33 ?_
      exact h
    · replace h := h.2 hc
      refine r_iconst c14_29 ?_
      refine r_goto c14_30 ?_
      exact h
theorem t14_34 {d : Nat} {l0 : Nat} {l1 : Nat} {l2 : Nat} {l3 : Int} {l4 : Int} {t0 : Nat} {t1 : Int} {t2 : Int} {M : Mem} {K : KK} {Q : RR → Mem → KK → Prop} (h : isO K.1 t0 20 = true ∧ (0 ≤ t1 ∧ t1 < (ln t0 : Int)) ∧ Wp d 14 3 [vR l0, vR l1, vR l2, vI l3, vI (w32 (l4 + 1)), vU, vU] [] (mset M t0 (Int.toNat t1) t2) K Q) : Wp d 14 34 [vR l0, vR l1, vR l2, vI l3, vI l4, vU, vU] [vI t2, vI t1, vR t0] M K Q := by
  obtain ⟨s1, h⟩ := h
  obtain ⟨s2, h⟩ := h
  refine r_ias c14_34 s1 s2 ?_
  refine r_iinc c14_35 rfl ?_
  refine r_goto c14_38 ?_
  exact h
theorem t14_49 {d : Nat} {l0 : Nat} {l1 : Nat} {l2 : Nat} {l3 : Int} {l4 : Int} {l5 : PV} {l6 : PV} {M : Mem} {K : KK} {Q : RR → Mem → KK → Prop} (h : (l4 < (0 : Int) → Wp (d + 1) 14 106 [vR l0, vR l1, vR l2, vI l3, vI l3, vI (0 : Int), l6] [] M K Q) ∧ (¬ (l4 < (0 : Int)) → isO K.1 l0 1 = true ∧ Wm d 15 [vR l0, vR l1, vR l2, vI l4] M K (Bk d 14 59 62 15 [vR l0, vR l1, vR l2, vI l3, vI l4, l5, l6] [] Q))) : Wp (d + 1) 14 49 [vR l0, vR l1, vR l2, vI l3, vI l4, l5, l6] [] M K Q := by
  refine r_iload c14_49 rfl ?_
  refine r_ifP (P := l4 < (0 : Int)) c14_51 rfl (fun hc => ?_) (fun hc => ?_)
  · replace h := h.1 hc
    refine r_iload_n c14_100 rfl ?_
    refine r_istore c14_101 (Nat.le_of_ble_eq_true rfl) ?_
    refine r_iconst c14_103 ?_
    refine r_istore c14_104 (Nat.le_of_ble_eq_true rfl) ?_
    exact h
  · replace h := h.2 hc
    refine r_aload_n c14_54 rfl ?_
    refine r_aload_n c14_55 rfl ?_
    refine r_aload_n c14_56 rfl ?_
    refine r_iload c14_57 rfl ?_
    obtain ⟨s1, h⟩ := h
    exact r_call c14_59 rfl rfl (Nat.le_of_ble_eq_true rfl) (okc_r rfl rfl s1) h
theorem t14_62 {d : Nat} {l0 : Nat} {l1 : Nat} {l2 : Nat} {l3 : Int} {l4 : Int} {l5 : PV} {l6 : PV} {t0 : Int} {M : Mem} {K : KK} {Q : RR → Mem → KK → Prop} (h : Wp d 14 67 [vR l0, vR l1, vR l2, vI l3, vI l4, vI t0, vI (0 : Int)] [] M K Q) : Wp d 14 62 [vR l0, vR l1, vR l2, vI l3, vI l4, l5, l6] [vI t0] M K Q := by
  refine r_istore c14_62 (Nat.le_of_ble_eq_true rfl) ?_
  refine r_iconst c14_64 ?_
  refine r_istore c14_65 (Nat.le_of_ble_eq_true rfl) ?_
  exact h
theorem t14_67 {d : Nat} {l0 : Nat} {l1 : Nat} {l2 : Nat} {l3 : Int} {l4 : Int} {l5 : Int} {l6 : Int} {M : Mem} {K : KK} {Q : RR → Mem → KK → Prop} (h : (l3 < l6 → Wp (d + 1) 14 49 [vR l0, vR l1, vR l2, vI l3, vI (w32 (l4 + (-1))), vI l5, vI l6] [] M K Q) ∧ (¬ (l3 < l6) → isO K.1 l0 1 = true ∧ Wm d 16 [vR l0, vI l4, vI l6, vI (if l6 < l5 then l6 else l5)] M K (Bk d 14 85 88 16 [vR l0, vR l1, vR l2, vI l3, vI l4, vI l5, vI l6] [] Q))) : Wp (d + 1) 14 67 [vR l0, vR l1, vR l2, vI l3, vI l4, vI l5, vI l6] [] M K Q := by
  refine r_iload c14_67 rfl ?_
  refine r_iload_n c14_69 rfl ?_
  refine r_icmpP (P := l3 < l6) c14_70 rfl (fun hc => ?_) (fun hc => ?_)
  · replace h := h.1 hc
    refine r_iinc c14_94 rfl ?_
    refine r_goto c14_97 ?_
    exact h
  · replace h := h.2 hc
    refine r_aload_n c14_73 rfl ?_
    refine r_iload c14_74 rfl ?_
    refine r_iload c14_76 rfl ?_
    refine r_iload c14_78 rfl ?_
    refine r_iload c14_80 rfl ?_
    refine r_min c14_82 (Nat.le_of_ble_eq_true rfl) ?_
    obtain ⟨s1, h⟩ := h
    exact r_call c14_85 rfl rfl (Nat.le_of_ble_eq_true rfl) (okc_r rfl rfl s1) h
theorem t14_88 {d : Nat} {l0 : Nat} {l1 : Nat} {l2 : Nat} {l3 : Int} {l4 : Int} {l5 : Int} {l6 : Int} {M : Mem} {K : KK} {Q : RR → Mem → KK → Prop} (h : Wp d 14 67 [vR l0, vR l1, vR l2, vI l3, vI l4, vI l5, vI (w32 (l6 + 1))] [] M K Q) : Wp d 14 88 [vR l0, vR l1, vR l2, vI l3, vI l4, vI l5, vI l6] [] M K Q := by
  refine r_iinc c14_88 rfl ?_
  refine r_goto c14_91 ?_
  exact h
theorem t14_106 {d : Nat} {l0 : Nat} {l1 : Nat} {l2 : Nat} {l3 : Int} {l4 : Int} {l5 : Int} {l6 : PV} {M : Mem} {K : KK} {Q : RR → Mem → KK → Prop} (h : isO K.1 l1 0 = true ∧ ((M l1 6) ≤ l5 → isO K.1 l0 1 = true ∧ ∃ b3 : Nat, (M l0 0) = (b3 : Int) ∧ 0 < b3 ∧ isO K.1 b3 20 = true ∧ (0 ≤ l3 ∧ l3 < (ln b3 : Int)) ∧ Q (.inl (some (vI (M b3 (Int.toNat l3))))) M K) ∧ (¬ ((M l1 6) ≤ l5) → isO K.1 l0 1 = true ∧ ∃ b9 : Nat, (M l0 3) = (b9 : Int) ∧ 0 < b9 ∧ isO K.1 l0 1 = true ∧ ∃ b13 : Nat, (M l0 1) = (b13 : Int) ∧ 0 < b13 ∧ isO K.1 b13 20 = true ∧ (0 ≤ (w32 ((w32 (l5 * (21 : Int))) + l4)) ∧ (w32 ((w32 (l5 * (21 : Int))) + l4)) < (ln b13 : Int)) ∧ isO K.1 b9 20 = true ∧ (0 ≤ l5 ∧ l5 < (ln b9 : Int)) ∧ isO K.1 l0 1 = true ∧ ∃ b21 : Nat, ((mset M b9 (Int.toNat l5) (M b13 (Int.toNat (w32 ((w32 (l5 * (21 : Int))) + l4))))) l0 3) = (b21 : Int) ∧ 0 < b21 ∧ isO K.1 b21 20 = true ∧ (0 ≤ l5 ∧ l5 < (ln b21 : Int)) ∧ Wp d 14 106 [vR l0, vR l1, vR l2, vI l3, vI (w32 (l4 - ((mset M b9 (Int.toNat l5) (M b13 (Int.toNat (w32 ((w32 (l5 * (21 : Int))) + l4))))) b21 (Int.toNat l5)))), vI (w32 (l5 + 1)), l6] [] (mset M b9 (Int.toNat l5) (M b13 (Int.toNat (w32 ((w32 (l5 * (21 : Int))) + l4))))) K Q)) : Wp d 14 106 [vR l0, vR l1, vR l2, vI l3, vI l4, vI l5, l6] [] M K Q := by
  refine r_iload c14_106 rfl ?_
  refine r_aload_n c14_108 rfl ?_
  obtain ⟨s1, h⟩ := h
  refine r_getI c14_109 s1 ?_
  refine r_icmpP (P := (M l1 6) ≤ l5) c14_112 rfl (fun hc => ?_) (fun hc => ?_)
  · replace h := h.1 hc
    refine r_aload_n c14_153 rfl ?_
    obtain ⟨s2, h⟩ := h
    obtain ⟨b3, h⟩ := h
    obtain ⟨s4, h⟩ := h
    obtain ⟨s5, h⟩ := h
    refine r_getR c14_154 s2 s4 s5 ?_
    refine r_iload_n c14_157 rfl ?_
    obtain ⟨s6, h⟩ := h
    obtain ⟨s7, h⟩ := h
    refine r_ia c14_158 s6 s7 ?_
    exact r_iret c14_159 (Or.inl rfl) h
  · replace h := h.2 hc
    refine r_aload_n c14_115 rfl ?_
    obtain ⟨s8, h⟩ := h
    obtain ⟨b9, h⟩ := h
    obtain ⟨s10, h⟩ := h
    obtain ⟨s11, h⟩ := h
    refine r_getR c14_116 s8 s10 s11 ?_
    refine r_iload c14_119 rfl ?_
    refine r_aload_n c14_121 rfl ?_
    obtain ⟨s12, h⟩ := h
    obtain ⟨b13, h⟩ := h
    obtain ⟨s14, h⟩ := h
    obtain ⟨s15, h⟩ := h
    refine r_getR c14_122 s12 s14 s15 ?_
    refine r_iload c14_125 rfl ?_
    refine r_bipush c14_127 ?_
    refine r_imul c14_129 ?_
    refine r_iload c14_130 rfl ?_
    refine r_iadd c14_132 ?_
    obtain ⟨s16, h⟩ := h
    obtain ⟨s17, h⟩ := h
    refine r_ia c14_133 s16 s17 ?_
    obtain ⟨s18, h⟩ := h
    obtain ⟨s19, h⟩ := h
    refine r_ias c14_134 s18 s19 ?_
    refine r_iload c14_135 rfl ?_
    refine r_aload_n c14_137 rfl ?_
    obtain ⟨s20, h⟩ := h
    obtain ⟨b21, h⟩ := h
    obtain ⟨s22, h⟩ := h
    obtain ⟨s23, h⟩ := h
    refine r_getR c14_138 s20 s22 s23 ?_
    refine r_iload c14_141 rfl ?_
    obtain ⟨s24, h⟩ := h
    obtain ⟨s25, h⟩ := h
    refine r_ia c14_143 s24 s25 ?_
    refine r_isub c14_144 ?_
    refine r_istore c14_145 (Nat.le_of_ble_eq_true rfl) ?_
    refine r_iinc c14_147 rfl ?_
    refine r_goto c14_150 ?_
    exact h
theorem t15_0 {d : Nat} {l0 : Nat} {l1 : Nat} {l2 : Nat} {l3 : Int} {M : Mem} {K : KK} {Q : RR → Mem → KK → Prop} (h : isO K.1 l0 1 = true ∧ ∃ b2 : Nat, (M l0 2) = (b2 : Int) ∧ 0 < b2 ∧ isO K.1 b2 20 = true ∧ (0 ≤ (0 : Int) ∧ (0 : Int) < (ln b2 : Int)) ∧ isO K.1 l2 3 = true ∧ ∃ b8 : Nat, ((mset M b2 (Int.toNat (0 : Int)) (0 : Int)) l2 1) = (b8 : Int) ∧ 0 < b8 ∧ isO K.1 b8 20 = true ∧ (0 ≤ l3 ∧ l3 < (ln b8 : Int)) ∧ (¬ ((mset M b2 (Int.toNat (0 : Int)) (0 : Int)) b8 (Int.toNat l3)) = (-1 : Int) → isO K.1 l2 3 = true ∧ ∃ b14 : Nat, ((mset M b2 (Int.toNat (0 : Int)) (0 : Int)) l2 1) = (b14 : Int) ∧ 0 < b14 ∧ isO K.1 b14 20 = true ∧ (0 ≤ l3 ∧ l3 < (ln b14 : Int)) ∧ isO K.1 l2 3 = true ∧ Wm d 46 [vR l2, vR l1, vI l3, vI ((mset M b2 (Int.toNat (0 : Int)) (0 : Int)) b14 (Int.toNat l3))] (mset M b2 (Int.toNat (0 : Int)) (0 : Int)) K (Bk d 15 28 31 46 [vR l0, vR l1, vR l2, vI l3, vU, vU, vU] [] Q)) ∧ (¬ (¬ ((mset M b2 (Int.toNat (0 : Int)) (0 : Int)) b8 (Int.toNat l3)) = (-1 : Int)) → Q (.inl (some (vI (0 : Int)))) (mset M b2 (Int.toNat (0 : Int)) (0 : Int)) K)) : Wp (d + 1) 15 0 [vR l0, vR l1, vR l2, vI l3, vU, vU, vU] [] M K Q := by
  refine r_aload_n c15_0 rfl ?_
  obtain ⟨s1, h⟩ := h
  obtain ⟨b2, h⟩ := h
  obtain ⟨s3, h⟩ := h
  obtain ⟨s4, h⟩ := h
  refine r_getR c15_1 s1 s3 s4 ?_
  refine r_iconst c15_4 ?_
  refine r_iconst c15_5 ?_
  obtain ⟨s5, h⟩ := h
  obtain ⟨s6, h⟩ := h
  refine r_ias c15_6 s5 s6 ?_
  refine r_aload_n c15_7 rfl ?_
  obtain ⟨s7, h⟩ := h
  obtain ⟨b8, h⟩ := h
  obtain ⟨s9, h⟩ := h
  obtain ⟨s10, h⟩ := h
  refine r_getR c15_8 s7 s9 s10 ?_
  refine r_iload_n c15_11 rfl ?_
  obtain ⟨s11, h⟩ := h
  obtain ⟨s12, h⟩ := h
  refine r_ia c15_12 s11 s12 ?_
  refine r_iconst c15_13 ?_
  refine r_icmpP (P := ¬ ((mset M b2 (Int.toNat (0 : Int)) (0 : Int)) b8 (Int.toNat l3)) = (-1 : Int)) c15_14 rfl (fun hc => ?_) (fun hc => ?_)
  · replace h := h.1 hc
    refine r_aload_n c15_19 rfl ?_
    refine r_aload_n c15_20 rfl ?_
    refine r_iload_n c15_21 rfl ?_
    refine r_aload_n c15_22 rfl ?_
    obtain ⟨s13, h⟩ := h
    obtain ⟨b14, h⟩ := h
    obtain ⟨s15, h⟩ := h
    obtain ⟨s16, h⟩ := h
    refine r_getR c15_23 s13 s15 s16 ?_
    refine r_iload_n c15_26 rfl ?_
    obtain ⟨s17, h⟩ := h
    obtain ⟨s18, h⟩ := h
    refine r_ia c15_27 s17 s18 ?_
    obtain ⟨s19, h⟩ := h
    exact r_call c15_28 rfl rfl (Nat.le_of_ble_eq_true rfl) (okc_r rfl rfl s19) h
  · replace h := h.2 hc
    refine r_iconst c15_17 ?_
    exact r_iret c15_18 (Or.inl rfl) h
theorem t15_31 {d : Nat} {l0 : Nat} {l1 : Nat} {l2 : Nat} {l3 : Int} {t0 : Nat} {M : Mem} {K : KK} {Q : RR → Mem → KK → Prop} (h : isO K.1 l2 3 = true ∧ ∃ b2 : Nat, (M l2 3) = (b2 : Int) ∧ 0 < b2 ∧ isO K.1 b2 20 = true ∧ (0 ≤ l3 ∧ l3 < (ln b2 : Int)) ∧ isO K.1 t0 20 = true ∧ (0 ≤ (5 : Int) ∧ (5 : Int) < (ln t0 : Int)) ∧ isO K.1 l2 3 = true ∧ ∃ b10 : Nat, ((mset M t0 (Int.toNat (5 : Int)) (M b2 (Int.toNat l3))) l2 2) = (b10 : Int) ∧ 0 < b10 ∧ isO K.1 b10 20 = true ∧ (0 ≤ l3 ∧ l3 < (ln b10 : Int)) ∧ Wp d 15 57 [vR l0, vR l1, vR l2, vI l3, vR t0, vI (w32 ((9 : Int) - ((mset M t0 (Int.toNat (5 : Int)) (M b2 (Int.toNat l3))) b10 (Int.toNat l3)))), vI (0 : Int)] [] (mset M t0 (Int.toNat (5 : Int)) (M b2 (Int.toNat l3))) K Q) : Wp d 15 31 [vR l0, vR l1, vR l2, vI l3, vU, vU, vU] [vR t0] M K Q := by
  refine r_astore c15_31 (Nat.le_of_ble_eq_true rfl) ?_
  refine r_aload c15_33 rfl ?_
  refine r_iconst c15_35 ?_
  refine r_aload_n c15_36 rfl ?_
  obtain ⟨s1, h⟩ := h
  obtain ⟨b2, h⟩ := h
  obtain ⟨s3, h⟩ := h
  obtain ⟨s4, h⟩ := h
  refine r_getR c15_37 s1 s3 s4 ?_
  refine r_iload_n c15_40 rfl ?_
  obtain ⟨s5, h⟩ := h
  obtain ⟨s6, h⟩ := h
  refine r_ia c15_41 s5 s6 ?_
  obtain ⟨s7, h⟩ := h
  obtain ⟨s8, h⟩ := h
  refine r_ias c15_42 s7 s8 ?_
  refine r_bipush c15_43 ?_
  refine r_aload_n c15_45 rfl ?_
  obtain ⟨s9, h⟩ := h
  obtain ⟨b10, h⟩ := h
  obtain ⟨s11, h⟩ := h
  obtain ⟨s12, h⟩ := h
  refine r_getR c15_46 s9 s11 s12 ?_
  refine r_iload_n c15_49 rfl ?_
  obtain ⟨s13, h⟩ := h
  obtain ⟨s14, h⟩ := h
  refine r_ia c15_50 s13 s14 ?_
  refine r_isub c15_51 ?_
  refine r_istore c15_52 (Nat.le_of_ble_eq_true rfl) ?_
  refine r_iconst c15_54 ?_
  refine r_istore c15_55 (Nat.le_of_ble_eq_true rfl) ?_
  exact h
theorem t15_57 {d : Nat} {l0 : Nat} {l1 : Nat} {l2 : Nat} {l3 : Int} {l4 : Nat} {l5 : Int} {l6 : Int} {M : Mem} {K : KK} {Q : RR → Mem → KK → Prop} (h : (l5 < l6 → Q (.inl (some (vI l5))) M K) ∧ (¬ (l5 < l6) → isO K.1 l2 3 = true ∧ ∃ b2 : Nat, (M l2 2) = (b2 : Int) ∧ 0 < b2 ∧ isO K.1 b2 20 = true ∧ (0 ≤ l3 ∧ l3 < (ln b2 : Int)) ∧ isO K.1 l4 20 = true ∧ (0 ≤ (4 : Int) ∧ (4 : Int) < (ln l4 : Int)) ∧ isO K.1 l0 1 = true ∧ ∃ b10 : Nat, ((mset M l4 (Int.toNat (4 : Int)) (w32 ((M b2 (Int.toNat l3)) + l6))) l0 2) = (b10 : Int) ∧ 0 < b10 ∧ isO K.1 l1 0 = true ∧ ∃ b14 : Nat, ((mset M l4 (Int.toNat (4 : Int)) (w32 ((M b2 (Int.toNat l3)) + l6))) l1 11) = (b14 : Int) ∧ 0 < b14 ∧ isO K.1 b14 2 = true ∧ Wm d 26 [vR b14] (mset M l4 (Int.toNat (4 : Int)) (w32 ((M b2 (Int.toNat l3)) + l6))) K (Bk d 15 87 90 26 [vR l0, vR l1, vR l2, vI l3, vR l4, vI l5, vI l6] [vI l6, vR b10] Q))) : Wp (d + 1) 15 57 [vR l0, vR l1, vR l2, vI l3, vR l4, vI l5, vI l6] [] M K Q := by
  refine r_iload c15_57 rfl ?_
  refine r_iload c15_59 rfl ?_
  refine r_icmpP (P := l5 < l6) c15_61 rfl (fun hc => ?_) (fun hc => ?_)
  · replace h := h.1 hc
    refine r_iload c15_106 rfl ?_
    exact r_iret c15_108 (Or.inl rfl) h
  · replace h := h.2 hc
    refine r_aload c15_64 rfl ?_
    refine r_iconst c15_66 ?_
    refine r_aload_n c15_67 rfl ?_
    obtain ⟨s1, h⟩ := h
    obtain ⟨b2, h⟩ := h
    obtain ⟨s3, h⟩ := h
    obtain ⟨s4, h⟩ := h
    refine r_getR c15_68 s1 s3 s4 ?_
    refine r_iload_n c15_71 rfl ?_
    obtain ⟨s5, h⟩ := h
    obtain ⟨s6, h⟩ := h
    refine r_ia c15_72 s5 s6 ?_
    refine r_iload c15_73 rfl ?_
    refine r_iadd c15_75 ?_
    obtain ⟨s7, h⟩ := h
    obtain ⟨s8, h⟩ := h
    refine r_ias c15_76 s7 s8 ?_
    refine r_aload_n c15_77 rfl ?_
    obtain ⟨s9, h⟩ := h
    obtain ⟨b10, h⟩ := h
    obtain ⟨s11, h⟩ := h
    obtain ⟨s12, h⟩ := h
    refine r_getR c15_78 s9 s11 s12 ?_
    refine r_iload c15_81 rfl ?_
    refine r_aload_n c15_83 rfl ?_
    obtain ⟨s13, h⟩ := h
    obtain ⟨b14, h⟩ := h
    obtain ⟨s15, h⟩ := h
    obtain ⟨s16, h⟩ := h
    refine r_getR c15_84 s13 s15 s16 ?_
    obtain ⟨s17, h⟩ := h
    exact r_call c15_87 rfl rfl (Nat.le_of_ble_eq_true rfl) (okc_r rfl rfl s17) h
theorem t15_90 {d : Nat} {l0 : Nat} {l1 : Nat} {l2 : Nat} {l3 : Int} {l4 : Nat} {l5 : Int} {l6 : Int} {t0 : Nat} {t1 : Int} {t2 : Int} {M : Mem} {K : KK} {Q : RR → Mem → KK → Prop} (h : isO K.1 l2 3 = true ∧ ∃ b2 : Nat, (M l2 0) = (b2 : Int) ∧ 0 < b2 ∧ isO K.1 b2 20 = true ∧ (0 ≤ l3 ∧ l3 < (ln b2 : Int)) ∧ isO K.1 t0 20 = true ∧ (0 ≤ t1 ∧ t1 < (ln t0 : Int)) ∧ Wp d 15 57 [vR l0, vR l1, vR l2, vI l3, vR l4, vI l5, vI (w32 (l6 + 1))] [] (mset M t0 (Int.toNat t1) (if (M b2 (Int.toNat l3)) < t2 then (M b2 (Int.toNat l3)) else t2)) K Q) : Wp d 15 90 [vR l0, vR l1, vR l2, vI l3, vR l4, vI l5, vI l6] [vI t2, vI t1, vR t0] M K Q := by
  refine r_aload_n c15_90 rfl ?_
  obtain ⟨s1, h⟩ := h
  obtain ⟨b2, h⟩ := h
  obtain ⟨s3, h⟩ := h
  obtain ⟨s4, h⟩ := h
  refine r_getR c15_91 s1 s3 s4 ?_
  refine r_iload_n c15_94 rfl ?_
  obtain ⟨s5, h⟩ := h
  obtain ⟨s6, h⟩ := h
  refine r_ia c15_95 s5 s6 ?_
  refine r_min c15_96 (Nat.le_of_ble_eq_true rfl) ?_
  obtain ⟨s7, h⟩ := h
  obtain ⟨s8, h⟩ := h
  refine r_ias c15_99 s7 s8 ?_
  refine r_iinc c15_100 rfl ?_
  refine r_goto c15_103 ?_
  exact h
theorem t16_0 {d : Nat} {l0 : Nat} {l1 : Int} {l2 : Int} {l3 : Int} {M : Mem} {K : KK} {Q : RR → Mem → KK → Prop} (h : Wp d 16 9 [vR l0, vI l1, vI l2, vI l3, vI (-1 : Int), vI (0 : Int), vI (0 : Int), vU] [] M K Q) : Wp d 16 0 [vR l0, vI l1, vI l2, vI l3, vU, vU, vU, vU] [] M K Q := by
  refine r_iconst c16_0 ?_
  refine r_istore c16_1 (Nat.le_of_ble_eq_true rfl) ?_
  refine r_iconst c16_3 ?_
  refine r_istore c16_4 (Nat.le_of_ble_eq_true rfl) ?_
  refine r_iconst c16_6 ?_
  refine r_istore c16_7 (Nat.le_of_ble_eq_true rfl) ?_
  exact h
theorem t16_9 {d : Nat} {l0 : Nat} {l1 : Int} {l2 : Int} {l3 : Int} {l4 : Int} {l5 : Int} {l6 : Int} {l7 : PV} {M : Mem} {K : KK} {Q : RR → Mem → KK → Prop} (h : (l3 < l6 → isO K.1 l0 1 = true ∧ ∃ b2 : Nat, (M l0 0) = (b2 : Int) ∧ 0 < b2 ∧ isO K.1 b2 20 = true ∧ (0 ≤ (w32 ((w32 (l1 * (21 : Int))) + l2)) ∧ (w32 ((w32 (l1 * (21 : Int))) + l2)) < (ln b2 : Int)) ∧ isO K.1 l0 1 = true ∧ ∃ b8 : Nat, ((mset M b2 (Int.toNat (w32 ((w32 (l1 * (21 : Int))) + l2))) l4) l0 1) = (b8 : Int) ∧ 0 < b8 ∧ isO K.1 b8 20 = true ∧ (0 ≤ (w32 ((w32 (l1 * (21 : Int))) + l2)) ∧ (w32 ((w32 (l1 * (21 : Int))) + l2)) < (ln b8 : Int)) ∧ Q (.inl none) (mset (mset M b2 (Int.toNat (w32 ((w32 (l1 * (21 : Int))) + l2))) l4) b8 (Int.toNat (w32 ((w32 (l1 * (21 : Int))) + l2))) l5) K) ∧ (¬ (l3 < l6) → isO K.1 l0 1 = true ∧ ∃ b14 : Nat, (M l0 0) = (b14 : Int) ∧ 0 < b14 ∧ isO K.1 b14 20 = true ∧ (0 ≤ (w32 ((w32 ((w32 ((w32 (l1 + (1 : Int))) * (21 : Int))) + l2)) - l6)) ∧ (w32 ((w32 ((w32 ((w32 (l1 + (1 : Int))) * (21 : Int))) + l2)) - l6)) < (ln b14 : Int)) ∧ ((M b14 (Int.toNat (w32 ((w32 ((w32 ((w32 (l1 + (1 : Int))) * (21 : Int))) + l2)) - l6)))) = (-1 : Int) → Wp d 16 70 [vR l0, vI l1, vI l2, vI l3, vI l4, vI l5, vI l6, vI (M b14 (Int.toNat (w32 ((w32 ((w32 ((w32 (l1 + (1 : Int))) * (21 : Int))) + l2)) - l6))))] [] M K Q) ∧ (¬ ((M b14 (Int.toNat (w32 ((w32 ((w32 ((w32 (l1 + (1 : Int))) * (21 : Int))) + l2)) - l6)))) = (-1 : Int)) → isO K.1 l0 1 = true ∧ ∃ b20 : Nat, (M l0 2) = (b20 : Int) ∧ 0 < b20 ∧ isO K.1 b20 20 = true ∧ (0 ≤ l6 ∧ l6 < (ln b20 : Int)) ∧ ((w32 ((M b20 (Int.toNat l6)) + (M b14 (Int.toNat (w32 ((w32 ((w32 ((w32 (l1 + (1 : Int))) * (21 : Int))) + l2)) - l6)))))) ≤ l4 → Wp d 16 70 [vR l0, vI l1, vI l2, vI l3, vI l4, vI l5, vI l6, vI (M b14 (Int.toNat (w32 ((w32 ((w32 ((w32 (l1 + (1 : Int))) * (21 : Int))) + l2)) - l6))))] [] M K Q) ∧ (¬ ((w32 ((M b20 (Int.toNat l6)) + (M b14 (Int.toNat (w32 ((w32 ((w32 ((w32 (l1 + (1 : Int))) * (21 : Int))) + l2)) - l6)))))) ≤ l4) → isO K.1 l0 1 = true ∧ ∃ b26 : Nat, (M l0 2) = (b26 : Int) ∧ 0 < b26 ∧ isO K.1 b26 20 = true ∧ (0 ≤ l6 ∧ l6 < (ln b26 : Int)) ∧ Wp d 16 70 [vR l0, vI l1, vI l2, vI l3, vI (w32 ((M b26 (Int.toNat l6)) + (M b14 (Int.toNat (w32 ((w32 ((w32 ((w32 (l1 + (1 : Int))) * (21 : Int))) + l2)) - l6)))))), vI l6, vI l6, vI (M b14 (Int.toNat (w32 ((w32 ((w32 ((w32 (l1 + (1 : Int))) * (21 : Int))) + l2)) - l6))))] [] M K Q)))) : Wp d 16 9 [vR l0, vI l1, vI l2, vI l3, vI l4, vI l5, vI l6, l7] [] M K Q := by
  refine r_iload c16_9 rfl ?_
  refine r_iload_n c16_11 rfl ?_
  refine r_icmpP (P := l3 < l6) c16_12 rfl (fun hc => ?_) (fun hc => ?_)
  · replace h := h.1 hc
    refine r_aload_n c16_76 rfl ?_
    obtain ⟨s1, h⟩ := h
    obtain ⟨b2, h⟩ := h
    obtain ⟨s3, h⟩ := h
    obtain ⟨s4, h⟩ := h
    refine r_getR c16_77 s1 s3 s4 ?_
    refine r_iload_n c16_80 rfl ?_
    refine r_bipush c16_81 ?_
    refine r_imul c16_83 ?_
    refine r_iload_n c16_84 rfl ?_
    refine r_iadd c16_85 ?_
    refine r_iload c16_86 rfl ?_
    obtain ⟨s5, h⟩ := h
    obtain ⟨s6, h⟩ := h
    refine r_ias c16_88 s5 s6 ?_
    refine r_aload_n c16_89 rfl ?_
    obtain ⟨s7, h⟩ := h
    obtain ⟨b8, h⟩ := h
    obtain ⟨s9, h⟩ := h
    obtain ⟨s10, h⟩ := h
    refine r_getR c16_90 s7 s9 s10 ?_
    refine r_iload_n c16_93 rfl ?_
    refine r_bipush c16_94 ?_
    refine r_imul c16_96 ?_
    refine r_iload_n c16_97 rfl ?_
    refine r_iadd c16_98 ?_
    refine r_iload c16_99 rfl ?_
    obtain ⟨s11, h⟩ := h
    obtain ⟨s12, h⟩ := h
    refine r_ias c16_101 s11 s12 ?_
    exact r_ret c16_102 h
  · replace h := h.2 hc
    refine r_aload_n c16_15 rfl ?_
    obtain ⟨s13, h⟩ := h
    obtain ⟨b14, h⟩ := h
    obtain ⟨s15, h⟩ := h
    obtain ⟨s16, h⟩ := h
    refine r_getR c16_16 s13 s15 s16 ?_
    refine r_iload_n c16_19 rfl ?_
    refine r_iconst c16_20 ?_
    refine r_iadd c16_21 ?_
    refine r_bipush c16_22 ?_
    refine r_imul c16_24 ?_
    refine r_iload_n c16_25 rfl ?_
    refine r_iadd c16_26 ?_
    refine r_iload c16_27 rfl ?_
    refine r_isub c16_29 ?_
    obtain ⟨s17, h⟩ := h
    obtain ⟨s18, h⟩ := h
    refine r_ia c16_30 s17 s18 ?_
    refine r_istore c16_31 (Nat.le_of_ble_eq_true rfl) ?_
    refine r_iload c16_33 rfl ?_
    refine r_iconst c16_35 ?_
    refine r_icmpP (P := (M b14 (Int.toNat (w32 ((w32 ((w32 ((w32 (l1 + (1 : Int))) * (21 : Int))) + l2)) - l6)))) = (-1 : Int)) c16_36 rfl (fun hc => ?_) (fun hc => ?_)
    · replace h := h.1 hc
      exact h
    · replace h := h.2 hc
      refine r_aload_n c16_39 rfl ?_
      obtain ⟨s19, h⟩ := h
      obtain ⟨b20, h⟩ := h
      obtain ⟨s21, h⟩ := h
      obtain ⟨s22, h⟩ := h
      refine r_getR c16_40 s19 s21 s22 ?_
      refine r_iload c16_43 rfl ?_
      obtain ⟨s23, h⟩ := h
      obtain ⟨s24, h⟩ := h
      refine r_ia c16_45 s23 s24 ?_
      refine r_iload c16_46 rfl ?_
      refine r_iadd c16_48 ?_
      refine r_iload c16_49 rfl ?_
      refine r_icmpP (P := (w32 ((M b20 (Int.toNat l6)) + (M b14 (Int.toNat (w32 ((w32 ((w32 ((w32 (l1 + (1 : Int))) * (21 : Int))) + l2)) - l6)))))) ≤ l4) c16_51 rfl (fun hc => ?_) (fun hc => ?_)
      · replace h := h.1 hc
        exact h
      · replace h := h.2 hc
        refine r_aload_n c16_54 rfl ?_
        obtain ⟨s25, h⟩ := h
        obtain ⟨b26, h⟩ := h
        obtain ⟨s27, h⟩ := h
        obtain ⟨s28, h⟩ := h
        refine r_getR c16_55 s25 s27 s28 ?_
        refine r_iload c16_58 rfl ?_
        obtain ⟨s29, h⟩ := h
        obtain ⟨s30, h⟩ := h
        refine r_ia c16_60 s29 s30 ?_
        refine r_iload c16_61 rfl ?_
        refine r_iadd c16_63 ?_
        refine r_istore c16_64 (Nat.le_of_ble_eq_true rfl) ?_
        refine r_iload c16_66 rfl ?_
        refine r_istore c16_68 (Nat.le_of_ble_eq_true rfl) ?_
        exact h
theorem t16_70 {d : Nat} {l0 : Nat} {l1 : Int} {l2 : Int} {l3 : Int} {l4 : Int} {l5 : Int} {l6 : Int} {l7 : Int} {M : Mem} {K : KK} {Q : RR → Mem → KK → Prop} (h : Wp d 16 9 [vR l0, vI l1, vI l2, vI l3, vI l4, vI l5, vI (w32 (l6 + 1)), vI l7] [] M K Q) : Wp d 16 70 [vR l0, vI l1, vI l2, vI l3, vI l4, vI l5, vI l6, vI l7] [] M K Q := by
  refine r_iinc c16_70 rfl ?_
  refine r_goto c16_73 ?_
  exact h
theorem t17_0 {d : Nat} {l0 : Nat} {M : Mem} {K : KK} {Q : RR → Mem → KK → Prop} (h : (tg K.1 = 20 ∧ (8 : Int) = (ln K.1 : Int)) ∧ isO (K.1 + 1) l0 2 = true ∧ 0 < K.1 ∧ (tg (K.1 + 1) = 20 ∧ (150 : Int) = (ln (K.1 + 1) : Int)) ∧ isO ((K.1 + 1) + 1) l0 2 = true ∧ 0 < (K.1 + 1) ∧ (tg ((K.1 + 1) + 1) = 20 ∧ (150 : Int) = (ln ((K.1 + 1) + 1) : Int)) ∧ isO (((K.1 + 1) + 1) + 1) l0 2 = true ∧ 0 < ((K.1 + 1) + 1) ∧ isO (((K.1 + 1) + 1) + 1) l0 2 = true ∧ Wm d 18 [vR l0] (mset (mset (mset M l0 0 (K.1 : Nat)) l0 1 ((K.1 + 1) : Nat)) l0 2 (((K.1 + 1) + 1) : Nat)) ((((K.1 + 1) + 1) + 1), (((K.2.1 + 1) + 1) + 1), (((K.2.2 + ln K.1) + ln (K.1 + 1)) + ln ((K.1 + 1) + 1))) (Bk d 17 31 34 18 [vR l0] [] Q)) : Wp (d + 1) 17 0 [vR l0] [] M K Q := by
  refine r_aload_n c17_0 rfl ?_
  refine r_obj c17_1 (Nat.le_of_ble_eq_true rfl) ?_
  refine r_aload_n c17_4 rfl ?_
  refine r_bipush c17_5 ?_
  obtain ⟨s1, h⟩ := h
  refine r_newarray c17_7 s1 ?_
  obtain ⟨s2, h⟩ := h
  obtain ⟨s3, h⟩ := h
  refine r_putR c17_9 s2 s3 ?_
  refine r_aload_n c17_12 rfl ?_
  refine r_sipush c17_13 ?_
  obtain ⟨s4, h⟩ := h
  refine r_newarray c17_16 s4 ?_
  obtain ⟨s5, h⟩ := h
  obtain ⟨s6, h⟩ := h
  refine r_putR c17_18 s5 s6 ?_
  refine r_aload_n c17_21 rfl ?_
  refine r_sipush c17_22 ?_
  obtain ⟨s7, h⟩ := h
  refine r_newarray c17_25 s7 ?_
  obtain ⟨s8, h⟩ := h
  obtain ⟨s9, h⟩ := h
  refine r_putR c17_27 s8 s9 ?_
  refine r_aload_n c17_30 rfl ?_
  obtain ⟨s10, h⟩ := h
  exact r_call c17_31 rfl rfl (Nat.le_of_ble_eq_true rfl) (okc_r rfl rfl s10) h
theorem t17_34 {d : Nat} {l0 : Nat} {M : Mem} {K : KK} {Q : RR → Mem → KK → Prop} (h : Q (.inl none) M K) : Wp d 17 34 [vR l0] [] M K Q := by
  exact r_ret c17_34 h
theorem t18_0 {d : Nat} {l0 : Nat} {M : Mem} {K : KK} {Q : RR → Mem → KK → Prop} (h : isO K.1 l0 2 = true ∧ isO K.1 l0 2 = true ∧ Wm d 20 [vR l0, vI (1000 : Int)] (mset M l0 3 (0 : Int)) K (Bk d 18 9 12 20 [vR l0] [] Q)) : Wp (d + 1) 18 0 [vR l0] [] M K Q := by
  refine r_aload_n c18_0 rfl ?_
  refine r_iconst c18_1 ?_
  obtain ⟨s1, h⟩ := h
  refine r_putI c18_2 s1 ?_
  refine r_aload_n c18_5 rfl ?_
  refine r_sipush c18_6 ?_
  obtain ⟨s2, h⟩ := h
  exact r_call c18_9 rfl rfl (Nat.le_of_ble_eq_true rfl) (okc_r rfl rfl s2) h
theorem t18_12 {d : Nat} {l0 : Nat} {M : Mem} {K : KK} {Q : RR → Mem → KK → Prop} (h : isO K.1 l0 2 = true ∧ Wm d 20 [vR l0, vI (1001 : Int)] M K (Bk d 18 16 19 20 [vR l0] [] Q)) : Wp (d + 1) 18 12 [vR l0] [] M K Q := by
  refine r_aload_n c18_12 rfl ?_
  refine r_sipush c18_13 ?_
  obtain ⟨s1, h⟩ := h
  exact r_call c18_16 rfl rfl (Nat.le_of_ble_eq_true rfl) (okc_r rfl rfl s1) h
theorem t18_19 {d : Nat} {l0 : Nat} {M : Mem} {K : KK} {Q : RR → Mem → KK → Prop} (h : isO K.1 l0 2 = true ∧ Wm d 20 [vR l0, vI (2003 : Int)] M K (Bk d 18 23 26 20 [vR l0] [] Q)) : Wp (d + 1) 18 19 [vR l0] [] M K Q := by
  refine r_aload_n c18_19 rfl ?_
  refine r_sipush c18_20 ?_
  obtain ⟨s1, h⟩ := h
  exact r_call c18_23 rfl rfl (Nat.le_of_ble_eq_true rfl) (okc_r rfl rfl s1) h
theorem t18_26 {d : Nat} {l0 : Nat} {M : Mem} {K : KK} {Q : RR → Mem → KK → Prop} (h : isO K.1 l0 2 = true ∧ Wm d 20 [vR l0, vI (1003 : Int)] M K (Bk d 18 30 33 20 [vR l0] [] Q)) : Wp (d + 1) 18 26 [vR l0] [] M K Q := by
  refine r_aload_n c18_26 rfl ?_
  refine r_sipush c18_27 ?_
  obtain ⟨s1, h⟩ := h
  exact r_call c18_30 rfl rfl (Nat.le_of_ble_eq_true rfl) (okc_r rfl rfl s1) h
theorem t18_33 {d : Nat} {l0 : Nat} {M : Mem} {K : KK} {Q : RR → Mem → KK → Prop} (h : isO K.1 l0 2 = true ∧ Wm d 20 [vR l0, vI (2000 : Int)] M K (Bk d 18 37 40 20 [vR l0] [] Q)) : Wp (d + 1) 18 33 [vR l0] [] M K Q := by
  refine r_aload_n c18_33 rfl ?_
  refine r_sipush c18_34 ?_
  obtain ⟨s1, h⟩ := h
  exact r_call c18_37 rfl rfl (Nat.le_of_ble_eq_true rfl) (okc_r rfl rfl s1) h
theorem t18_40 {d : Nat} {l0 : Nat} {M : Mem} {K : KK} {Q : RR → Mem → KK → Prop} (h : isO K.1 l0 2 = true ∧ Wm d 20 [vR l0, vI (1004 : Int)] M K (Bk d 18 44 47 20 [vR l0] [] Q)) : Wp (d + 1) 18 40 [vR l0] [] M K Q := by
  refine r_aload_n c18_40 rfl ?_
  refine r_sipush c18_41 ?_
  obtain ⟨s1, h⟩ := h
  exact r_call c18_44 rfl rfl (Nat.le_of_ble_eq_true rfl) (okc_r rfl rfl s1) h
theorem t18_47 {d : Nat} {l0 : Nat} {M : Mem} {K : KK} {Q : RR → Mem → KK → Prop} (h : isO K.1 l0 2 = true ∧ Wm d 20 [vR l0, vI (2 : Int)] M K (Bk d 18 49 52 20 [vR l0] [] Q)) : Wp (d + 1) 18 47 [vR l0] [] M K Q := by
  refine r_aload_n c18_47 rfl ?_
  refine r_iconst c18_48 ?_
  obtain ⟨s1, h⟩ := h
  exact r_call c18_49 rfl rfl (Nat.le_of_ble_eq_true rfl) (okc_r rfl rfl s1) h
theorem t18_52 {d : Nat} {l0 : Nat} {M : Mem} {K : KK} {Q : RR → Mem → KK → Prop} (h : isO K.1 l0 2 = true ∧ Wm d 20 [vR l0, vI (2002 : Int)] M K (Bk d 18 56 59 20 [vR l0] [] Q)) : Wp (d + 1) 18 52 [vR l0] [] M K Q := by
  refine r_aload_n c18_52 rfl ?_
  refine r_sipush c18_53 ?_
  obtain ⟨s1, h⟩ := h
  exact r_call c18_56 rfl rfl (Nat.le_of_ble_eq_true rfl) (okc_r rfl rfl s1) h
theorem t18_59 {d : Nat} {l0 : Nat} {M : Mem} {K : KK} {Q : RR → Mem → KK → Prop} (h : isO K.1 l0 2 = true ∧ Wm d 20 [vR l0, vI (2000 : Int)] M K (Bk d 18 63 66 20 [vR l0] [] Q)) : Wp (d + 1) 18 59 [vR l0] [] M K Q := by
  refine r_aload_n c18_59 rfl ?_
  refine r_sipush c18_60 ?_
  obtain ⟨s1, h⟩ := h
  exact r_call c18_63 rfl rfl (Nat.le_of_ble_eq_true rfl) (okc_r rfl rfl s1) h
theorem t18_66 {d : Nat} {l0 : Nat} {M : Mem} {K : KK} {Q : RR → Mem → KK → Prop} (h : Q (.inl none) M K) : Wp d 18 66 [vR l0] [] M K Q := by
  exact r_ret c18_66 h
theorem t19_0 {d : Nat} {l0 : Nat} {l1 : Nat} {M : Mem} {K : KK} {Q : RR → Mem → KK → Prop} (h : isO K.1 l0 2 = true ∧ isO K.1 l0 2 = true ∧ Wm d 21 [vR l0, vR l1, vI (0 : Int)] (mset M l0 3 (0 : Int)) K (Bk d 19 8 11 21 [vR l0, vR l1] [] Q)) : Wp (d + 1) 19 0 [vR l0, vR l1] [] M K Q := by
  refine r_aload_n c19_0 rfl ?_
  refine r_iconst c19_1 ?_
  obtain ⟨s1, h⟩ := h
  refine r_putI c19_2 s1 ?_
  refine r_aload_n c19_5 rfl ?_
  refine r_aload_n c19_6 rfl ?_
  refine r_iconst c19_7 ?_
  obtain ⟨s2, h⟩ := h
  exact r_call c19_8 rfl rfl (Nat.le_of_ble_eq_true rfl) (okc_r rfl rfl s2) h
theorem t19_11 {d : Nat} {l0 : Nat} {l1 : Nat} {M : Mem} {K : KK} {Q : RR → Mem → KK → Prop} (h : isO K.1 l1 10 = true ∧ Wm d 96 [vR l1] M K (Bk d 19 12 15 96 [vR l0, vR l1] [] Q)) : Wp (d + 1) 19 11 [vR l0, vR l1] [] M K Q := by
  refine r_aload_n c19_11 rfl ?_
  obtain ⟨s1, h⟩ := h
  exact r_call c19_12 rfl rfl (Nat.le_of_ble_eq_true rfl) (okc_r rfl rfl s1) h
theorem t19_15 {d : Nat} {l0 : Nat} {l1 : Nat} {M : Mem} {K : KK} {Q : RR → Mem → KK → Prop} (h : Q (.inl none) M K) : Wp d 19 15 [vR l0, vR l1] [] M K Q := by
  exact r_ret c19_15 h
theorem t20_0 {d : Nat} {l0 : Nat} {l1 : Int} {M : Mem} {K : KK} {Q : RR → Mem → KK → Prop} (h : isO K.1 l0 2 = true ∧ isO K.1 l0 2 = true ∧ ∃ b3 : Nat, (M l0 1) = (b3 : Int) ∧ 0 < b3 ∧ (Nat.ble 20 (tg b3) = true ∧ isO K.1 b3 (tg b3) = true) ∧ ((ln b3 : Int) ≤ (M l0 3) → Wp d 20 32 [vR l0, vI l1] [] M K Q) ∧ (¬ ((ln b3 : Int) ≤ (M l0 3)) → isO K.1 l0 2 = true ∧ ∃ b8 : Nat, (M l0 1) = (b8 : Int) ∧ 0 < b8 ∧ isO K.1 l0 2 = true ∧ isO K.1 b8 20 = true ∧ (0 ≤ (M l0 3) ∧ (M l0 3) < (ln b8 : Int)) ∧ isO K.1 l0 2 = true ∧ isO K.1 l0 2 = true ∧ Wp d 20 32 [vR l0, vI l1] [] (mset (mset M b8 (Int.toNat (M l0 3)) l1) l0 3 (w32 (((mset M b8 (Int.toNat (M l0 3)) l1) l0 3) + (1 : Int)))) K Q)) : Wp d 20 0 [vR l0, vI l1] [] M K Q := by
  refine r_aload_n c20_0 rfl ?_
  obtain ⟨s1, h⟩ := h
  refine r_getI c20_1 s1 ?_
  refine r_aload_n c20_4 rfl ?_
  obtain ⟨s2, h⟩ := h
  obtain ⟨b3, h⟩ := h
  obtain ⟨s4, h⟩ := h
  obtain ⟨s5, h⟩ := h
  refine r_getR c20_5 s2 s4 s5 ?_
  obtain ⟨s6, h⟩ := h
  refine r_alen c20_8 s6 ?_
  refine r_icmpP (P := (ln b3 : Int) ≤ (M l0 3)) c20_9 rfl (fun hc => ?_) (fun hc => ?_)
  · replace h := h.1 hc
    exact h
  · replace h := h.2 hc
    refine r_aload_n c20_12 rfl ?_
    obtain ⟨s7, h⟩ := h
    obtain ⟨b8, h⟩ := h
    obtain ⟨s9, h⟩ := h
    obtain ⟨s10, h⟩ := h
    refine r_getR c20_13 s7 s9 s10 ?_
    refine r_aload_n c20_16 rfl ?_
    obtain ⟨s11, h⟩ := h
    refine r_getI c20_17 s11 ?_
    refine r_iload_n c20_20 rfl ?_
    obtain ⟨s12, h⟩ := h
    obtain ⟨s13, h⟩ := h
    refine r_ias c20_21 s12 s13 ?_
    refine r_aload_n c20_22 rfl ?_
    refine r_dupr c20_23 ?_
    obtain ⟨s14, h⟩ := h
    refine r_getI c20_24 s14 ?_
    refine r_iconst c20_27 ?_
    refine r_iadd c20_28 ?_
    obtain ⟨s15, h⟩ := h
    refine r_putI c20_29 s15 ?_
    exact h
theorem t20_32 {d : Nat} {l0 : Nat} {l1 : Int} {M : Mem} {K : KK} {Q : RR → Mem → KK → Prop} (h : Q (.inl none) M K) : Wp d 20 32 [vR l0, vI l1] [] M K Q := by
  exact r_ret c20_32 h
theorem t21_0 {d : Nat} {l0 : Nat} {l1 : Nat} {l2 : Int} {M : Mem} {K : KK} {Q : RR → Mem → KK → Prop} (h : isO K.1 l0 2 = true ∧ Wm d 22 [vR l0, vR l1, vI l2] M K (Bk d 21 3 6 22 [vR l0, vR l1, vI l2, vU, vU] [] Q)) : Wp (d + 1) 21 0 [vR l0, vR l1, vI l2, vU, vU] [] M K Q := by
  refine r_aload_n c21_0 rfl ?_
  refine r_aload_n c21_1 rfl ?_
  refine r_iload_n c21_2 rfl ?_
  obtain ⟨s1, h⟩ := h
  exact r_call c21_3 rfl rfl (Nat.le_of_ble_eq_true rfl) (okc_r rfl rfl s1) h
theorem t21_6 {d : Nat} {l0 : Nat} {l1 : Nat} {l2 : Int} {M : Mem} {K : KK} {Q : RR → Mem → KK → Prop} (h : Wp d 21 8 [vR l0, vR l1, vI l2, vI (0 : Int), vU] [] M K Q) : Wp d 21 6 [vR l0, vR l1, vI l2, vU, vU] [] M K Q := by
  refine r_iconst c21_6 ?_
  refine r_istore_n c21_7 (Nat.le_of_ble_eq_true rfl) ?_
  exact h
theorem t21_8 {d : Nat} {l0 : Nat} {l1 : Nat} {l2 : Int} {l3 : Int} {l4 : PV} {M : Mem} {K : KK} {Q : RR → Mem → KK → Prop} (h : ((150 : Int) ≤ l3 → Q (.inl none) M K) ∧ (¬ ((150 : Int) ≤ l3) → isO K.1 l1 10 = true ∧ Wm d 88 [vR l1] M K (Bk d 21 16 19 88 [vR l0, vR l1, vI l2, vI l3, l4] [] Q))) : Wp (d + 1) 21 8 [vR l0, vR l1, vI l2, vI l3, l4] [] M K Q := by
  refine r_iload_n c21_8 rfl ?_
  refine r_sipush c21_9 ?_
  refine r_icmpP (P := (150 : Int) ≤ l3) c21_12 rfl (fun hc => ?_) (fun hc => ?_)
  · replace h := h.1 hc
    exact r_ret c21_72 h
  · replace h := h.2 hc
    refine r_aload_n c21_15 rfl ?_
    obtain ⟨s1, h⟩ := h
    exact r_call c21_16 rfl rfl (Nat.le_of_ble_eq_true rfl) (okc_r rfl rfl s1) h
theorem t21_19 {d : Nat} {l0 : Nat} {l1 : Nat} {l2 : Int} {l3 : Int} {l4 : PV} {t0 : Int} {M : Mem} {K : KK} {Q : RR → Mem → KK → Prop} (h : (t0 = (43 : Int) → Wp d 21 36 [vR l0, vR l1, vI l2, vI l3, vI t0] [] M K Q) ∧ (¬ (t0 = (43 : Int)) → (t0 = (45 : Int) → Wp d 21 36 [vR l0, vR l1, vI l2, vI l3, vI t0] [] M K Q) ∧ (¬ (t0 = (45 : Int)) → Q (.inl none) M K))) : Wp d 21 19 [vR l0, vR l1, vI l2, vI l3, l4] [vI t0] M K Q := by
  refine r_istore c21_19 (Nat.le_of_ble_eq_true rfl) ?_
  refine r_iload c21_21 rfl ?_
  refine r_bipush c21_23 ?_
  refine r_icmpP (P := t0 = (43 : Int)) c21_25 rfl (fun hc => ?_) (fun hc => ?_)
  · replace h := h.1 hc
    exact h
  · replace h := h.2 hc
    refine r_iload c21_28 rfl ?_
    refine r_bipush c21_30 ?_
    refine r_icmpP (P := t0 = (45 : Int)) c21_32 rfl (fun hc => ?_) (fun hc => ?_)
    · replace h := h.1 hc
      exact h
    · replace h := h.2 hc
      exact r_ret c21_35 h
theorem t21_36 {d : Nat} {l0 : Nat} {l1 : Nat} {l2 : Int} {l3 : Int} {l4 : Int} {M : Mem} {K : KK} {Q : RR → Mem → KK → Prop} (h : isO K.1 l1 10 = true ∧ Wm d 90 [vR l1] M K (Bk d 21 37 40 90 [vR l0, vR l1, vI l2, vI l3, vI l4] [] Q)) : Wp (d + 1) 21 36 [vR l0, vR l1, vI l2, vI l3, vI l4] [] M K Q := by
  refine r_aload_n c21_36 rfl ?_
  obtain ⟨s1, h⟩ := h
  exact r_call c21_37 rfl rfl (Nat.le_of_ble_eq_true rfl) (okc_r rfl rfl s1) h
theorem t21_40 {d : Nat} {l0 : Nat} {l1 : Nat} {l2 : Int} {l3 : Int} {l4 : Int} {M : Mem} {K : KK} {Q : RR → Mem → KK → Prop} (h : isO K.1 l0 2 = true ∧ Wm d 22 [vR l0, vR l1, vI l2] M K (Bk d 21 43 46 22 [vR l0, vR l1, vI l2, vI l3, vI l4] [] Q)) : Wp (d + 1) 21 40 [vR l0, vR l1, vI l2, vI l3, vI l4] [] M K Q := by
  refine r_aload_n c21_40 rfl ?_
  refine r_aload_n c21_41 rfl ?_
  refine r_iload_n c21_42 rfl ?_
  obtain ⟨s1, h⟩ := h
  exact r_call c21_43 rfl rfl (Nat.le_of_ble_eq_true rfl) (okc_r rfl rfl s1) h
theorem t21_46 {d : Nat} {l0 : Nat} {l1 : Nat} {l2 : Int} {l3 : Int} {l4 : Int} {M : Mem} {K : KK} {Q : RR → Mem → KK → Prop} (h : (¬ l4 = (43 : Int) → Wp d 21 63 [vR l0, vR l1, vI l2, vI l3, vI l4] [vI (2001 : Int), vR l0] M K Q) ∧ (¬ (¬ l4 = (43 : Int)) → Wp d 21 63 [vR l0, vR l1, vI l2, vI l3, vI l4] [vI (2000 : Int), vR l0] M K Q)) : Wp d 21 46 [vR l0, vR l1, vI l2, vI l3, vI l4] [] M K Q := by
  refine r_aload_n c21_46 rfl ?_
  refine r_iload c21_47 rfl ?_
  refine r_bipush c21_49 ?_
  refine r_icmpP (P := ¬ l4 = (43 : Int)) c21_51 rfl (fun hc => ?_) (fun hc => ?_)
  · replace h := h.1 hc
    refine r_sipush c21_60 ?_
    exact h
  · replace h := h.2 hc
    refine r_sipush c21_54 ?_
    refine r_goto c21_57 ?_
    exact h
theorem t21_63 {d : Nat} {l0 : Nat} {l1 : Nat} {l2 : Int} {l3 : Int} {l4 : Int} {t0 : Nat} {t1 : Int} {M : Mem} {K : KK} {Q : RR → Mem → KK → Prop} (h : isO K.1 t0 2 = true ∧ Wm d 20 [vR t0, vI t1] M K (Bk d 21 63 66 20 [vR l0, vR l1, vI l2, vI l3, vI l4] [] Q)) : Wp (d + 1) 21 63 [vR l0, vR l1, vI l2, vI l3, vI l4] [vI t1, vR t0] M K Q := by
  obtain ⟨s1, h⟩ := h
  exact r_call c21_63 rfl rfl (Nat.le_of_ble_eq_true rfl) (okc_r rfl rfl s1) h
theorem t21_66 {d : Nat} {l0 : Nat} {l1 : Nat} {l2 : Int} {l3 : Int} {l4 : Int} {M : Mem} {K : KK} {Q : RR → Mem → KK → Prop} (h : Wp d 21 8 [vR l0, vR l1, vI l2, vI (w32 (l3 + 1)), vI l4] [] M K Q) : Wp d 21 66 [vR l0, vR l1, vI l2, vI l3, vI l4] [] M K Q := by
  refine r_iinc c21_66 rfl ?_
  refine r_goto c21_69 ?_
  exact h
theorem t22_0 {d : Nat} {l0 : Nat} {l1 : Nat} {l2 : Int} {M : Mem} {K : KK} {Q : RR → Mem → KK → Prop} (h : isO K.1 l0 2 = true ∧ Wm d 23 [vR l0, vR l1, vI l2] M K (Bk d 22 3 6 23 [vR l0, vR l1, vI l2, vU, vU] [] Q)) : Wp (d + 1) 22 0 [vR l0, vR l1, vI l2, vU, vU] [] M K Q := by
  refine r_aload_n c22_0 rfl ?_
  refine r_aload_n c22_1 rfl ?_
  refine r_iload_n c22_2 rfl ?_
  obtain ⟨s1, h⟩ := h
  exact r_call c22_3 rfl rfl (Nat.le_of_ble_eq_true rfl) (okc_r rfl rfl s1) h
theorem t22_6 {d : Nat} {l0 : Nat} {l1 : Nat} {l2 : Int} {M : Mem} {K : KK} {Q : RR → Mem → KK → Prop} (h : Wp d 22 8 [vR l0, vR l1, vI l2, vI (0 : Int), vU] [] M K Q) : Wp d 22 6 [vR l0, vR l1, vI l2, vU, vU] [] M K Q := by
  refine r_iconst c22_6 ?_
  refine r_istore_n c22_7 (Nat.le_of_ble_eq_true rfl) ?_
  exact h
theorem t22_8 {d : Nat} {l0 : Nat} {l1 : Nat} {l2 : Int} {l3 : Int} {l4 : PV} {M : Mem} {K : KK} {Q : RR → Mem → KK → Prop} (h : ((150 : Int) ≤ l3 → Q (.inl none) M K) ∧ (¬ ((150 : Int) ≤ l3) → isO K.1 l1 10 = true ∧ Wm d 88 [vR l1] M K (Bk d 22 16 19 88 [vR l0, vR l1, vI l2, vI l3, l4] [] Q))) : Wp (d + 1) 22 8 [vR l0, vR l1, vI l2, vI l3, l4] [] M K Q := by
  refine r_iload_n c22_8 rfl ?_
  refine r_sipush c22_9 ?_
  refine r_icmpP (P := (150 : Int) ≤ l3) c22_12 rfl (fun hc => ?_) (fun hc => ?_)
  · replace h := h.1 hc
    exact r_ret c22_92 h
  · replace h := h.2 hc
    refine r_aload_n c22_15 rfl ?_
    obtain ⟨s1, h⟩ := h
    exact r_call c22_16 rfl rfl (Nat.le_of_ble_eq_true rfl) (okc_r rfl rfl s1) h
theorem t22_19 {d : Nat} {l0 : Nat} {l1 : Nat} {l2 : Int} {l3 : Int} {l4 : PV} {t0 : Int} {M : Mem} {K : KK} {Q : RR → Mem → KK → Prop} (h : (t0 = (42 : Int) → Wp d 22 43 [vR l0, vR l1, vI l2, vI l3, vI t0] [] M K Q) ∧ (¬ (t0 = (42 : Int)) → (t0 = (47 : Int) → Wp d 22 43 [vR l0, vR l1, vI l2, vI l3, vI t0] [] M K Q) ∧ (¬ (t0 = (47 : Int)) → (t0 = (37 : Int) → Wp d 22 43 [vR l0, vR l1, vI l2, vI l3, vI t0] [] M K Q) ∧ (¬ (t0 = (37 : Int)) → Q (.inl none) M K)))) : Wp d 22 19 [vR l0, vR l1, vI l2, vI l3, l4] [vI t0] M K Q := by
  refine r_istore c22_19 (Nat.le_of_ble_eq_true rfl) ?_
  refine r_iload c22_21 rfl ?_
  refine r_bipush c22_23 ?_
  refine r_icmpP (P := t0 = (42 : Int)) c22_25 rfl (fun hc => ?_) (fun hc => ?_)
  · replace h := h.1 hc
    exact h
  · replace h := h.2 hc
    refine r_iload c22_28 rfl ?_
    refine r_bipush c22_30 ?_
    refine r_icmpP (P := t0 = (47 : Int)) c22_32 rfl (fun hc => ?_) (fun hc => ?_)
    · replace h := h.1 hc
      exact h
    · replace h := h.2 hc
      refine r_iload c22_35 rfl ?_
      refine r_bipush c22_37 ?_
      refine r_icmpP (P := t0 = (37 : Int)) c22_39 rfl (fun hc => ?_) (fun hc => ?_)
      · replace h := h.1 hc
        exact h
      · replace h := h.2 hc
        exact r_ret c22_42 h
theorem t22_43 {d : Nat} {l0 : Nat} {l1 : Nat} {l2 : Int} {l3 : Int} {l4 : Int} {M : Mem} {K : KK} {Q : RR → Mem → KK → Prop} (h : isO K.1 l1 10 = true ∧ Wm d 90 [vR l1] M K (Bk d 22 44 47 90 [vR l0, vR l1, vI l2, vI l3, vI l4] [] Q)) : Wp (d + 1) 22 43 [vR l0, vR l1, vI l2, vI l3, vI l4] [] M K Q := by
  refine r_aload_n c22_43 rfl ?_
  obtain ⟨s1, h⟩ := h
  exact r_call c22_44 rfl rfl (Nat.le_of_ble_eq_true rfl) (okc_r rfl rfl s1) h
theorem t22_47 {d : Nat} {l0 : Nat} {l1 : Nat} {l2 : Int} {l3 : Int} {l4 : Int} {M : Mem} {K : KK} {Q : RR → Mem → KK → Prop} (h : isO K.1 l0 2 = true ∧ Wm d 23 [vR l0, vR l1, vI l2] M K (Bk d 22 50 53 23 [vR l0, vR l1, vI l2, vI l3, vI l4] [] Q)) : Wp (d + 1) 22 47 [vR l0, vR l1, vI l2, vI l3, vI l4] [] M K Q := by
  refine r_aload_n c22_47 rfl ?_
  refine r_aload_n c22_48 rfl ?_
  refine r_iload_n c22_49 rfl ?_
  obtain ⟨s1, h⟩ := h
  exact r_call c22_50 rfl rfl (Nat.le_of_ble_eq_true rfl) (okc_r rfl rfl s1) h
theorem t22_53 {d : Nat} {l0 : Nat} {l1 : Nat} {l2 : Int} {l3 : Int} {l4 : Int} {M : Mem} {K : KK} {Q : RR → Mem → KK → Prop} (h : (¬ l4 = (42 : Int) → (¬ l4 = (47 : Int) → Wp d 22 83 [vR l0, vR l1, vI l2, vI l3, vI l4] [vI (2004 : Int), vR l0] M K Q) ∧ (¬ (¬ l4 = (47 : Int)) → Wp d 22 83 [vR l0, vR l1, vI l2, vI l3, vI l4] [vI (2003 : Int), vR l0] M K Q)) ∧ (¬ (¬ l4 = (42 : Int)) → Wp d 22 83 [vR l0, vR l1, vI l2, vI l3, vI l4] [vI (2002 : Int), vR l0] M K Q)) : Wp d 22 53 [vR l0, vR l1, vI l2, vI l3, vI l4] [] M K Q := by
  refine r_aload_n c22_53 rfl ?_
  refine r_iload c22_54 rfl ?_
  refine r_bipush c22_56 ?_
  refine r_icmpP (P := ¬ l4 = (42 : Int)) c22_58 rfl (fun hc => ?_) (fun hc => ?_)
  · replace h := h.1 hc
    refine r_iload c22_67 rfl ?_
    refine r_bipush c22_69 ?_
    refine r_icmpP (P := ¬ l4 = (47 : Int)) c22_71 rfl (fun hc => ?_) (fun hc => ?_)
    · replace h := h.1 hc
      refine r_sipush c22_80 ?_
      exact h
    · replace h := h.2 hc
      refine r_sipush c22_74 ?_
      refine r_goto c22_77 ?_
      exact h
  · replace h := h.2 hc
    refine r_sipush c22_61 ?_
    refine r_goto c22_64 ?_
    exact h
theorem t22_83 {d : Nat} {l0 : Nat} {l1 : Nat} {l2 : Int} {l3 : Int} {l4 : Int} {t0 : Nat} {t1 : Int} {M : Mem} {K : KK} {Q : RR → Mem → KK → Prop} (h : isO K.1 t0 2 = true ∧ Wm d 20 [vR t0, vI t1] M K (Bk d 22 83 86 20 [vR l0, vR l1, vI l2, vI l3, vI l4] [] Q)) : Wp (d + 1) 22 83 [vR l0, vR l1, vI l2, vI l3, vI l4] [vI t1, vR t0] M K Q := by
  obtain ⟨s1, h⟩ := h
  exact r_call c22_83 rfl rfl (Nat.le_of_ble_eq_true rfl) (okc_r rfl rfl s1) h
theorem t22_86 {d : Nat} {l0 : Nat} {l1 : Nat} {l2 : Int} {l3 : Int} {l4 : Int} {M : Mem} {K : KK} {Q : RR → Mem → KK → Prop} (h : Wp d 22 8 [vR l0, vR l1, vI l2, vI (w32 (l3 + 1)), vI l4] [] M K Q) : Wp d 22 86 [vR l0, vR l1, vI l2, vI l3, vI l4] [] M K Q := by
  refine r_iinc c22_86 rfl ?_
  refine r_goto c22_89 ?_
  exact h
theorem t23_0 {d : Nat} {l0 : Nat} {l1 : Nat} {l2 : Int} {M : Mem} {K : KK} {Q : RR → Mem → KK → Prop} (h : isO K.1 l1 10 = true ∧ Wm d 89 [vR l1] M K (Bk d 23 1 4 89 [vR l0, vR l1, vI l2, vU, vU, vU] [] Q)) : Wp (d + 1) 23 0 [vR l0, vR l1, vI l2, vU, vU, vU] [] M K Q := by
  refine r_aload_n c23_0 rfl ?_
  obtain ⟨s1, h⟩ := h
  exact r_call c23_1 rfl rfl (Nat.le_of_ble_eq_true rfl) (okc_r rfl rfl s1) h
theorem t23_4 {d : Nat} {l0 : Nat} {l1 : Nat} {l2 : Int} {t0 : Int} {M : Mem} {K : KK} {Q : RR → Mem → KK → Prop} (h : (t0 = (0 : Int) → isO K.1 l1 10 = true ∧ Wm d 88 [vR l1] M K (Bk d 23 21 24 88 [vR l0, vR l1, vI l2, vU, vU, vU] [] Q)) ∧ (¬ (t0 = (0 : Int)) → isO K.1 l1 10 = true ∧ Wm d 92 [vR l1, vI (0 : Int), vI (999 : Int)] M K (Bk d 23 13 16 92 [vR l0, vR l1, vI l2, vU, vU, vU] [vR l0] Q))) : Wp (d + 1) 23 4 [vR l0, vR l1, vI l2, vU, vU, vU] [vI t0] M K Q := by
  refine r_ifP (P := t0 = (0 : Int)) c23_4 rfl (fun hc => ?_) (fun hc => ?_)
  · replace h := h.1 hc
    refine r_aload_n c23_20 rfl ?_
    obtain ⟨s1, h⟩ := h
    exact r_call c23_21 rfl rfl (Nat.le_of_ble_eq_true rfl) (okc_r rfl rfl s1) h
  · replace h := h.2 hc
    refine r_aload_n c23_7 rfl ?_
    refine r_aload_n c23_8 rfl ?_
    refine r_iconst c23_9 ?_
    refine r_sipush c23_10 ?_
    obtain ⟨s2, h⟩ := h
    exact r_call c23_13 rfl rfl (Nat.le_of_ble_eq_true rfl) (okc_r rfl rfl s2) h
theorem t23_16 {d : Nat} {l0 : Nat} {l1 : Nat} {l2 : Int} {t0 : Nat} {t1 : Int} {M : Mem} {K : KK} {Q : RR → Mem → KK → Prop} (h : isO K.1 t0 2 = true ∧ Wm d 20 [vR t0, vI t1] M K (Bk d 23 16 19 20 [vR l0, vR l1, vI l2, vU, vU, vU] [] Q)) : Wp (d + 1) 23 16 [vR l0, vR l1, vI l2, vU, vU, vU] [vI t1, vR t0] M K Q := by
  obtain ⟨s1, h⟩ := h
  exact r_call c23_16 rfl rfl (Nat.le_of_ble_eq_true rfl) (okc_r rfl rfl s1) h
theorem t23_19 {d : Nat} {l0 : Nat} {l1 : Nat} {l2 : Int} {M : Mem} {K : KK} {Q : RR → Mem → KK → Prop} (h : Q (.inl none) M K) : Wp d 23 19 [vR l0, vR l1, vI l2, vU, vU, vU] [] M K Q := by
  exact r_ret c23_19 h
theorem t23_24 {d : Nat} {l0 : Nat} {l1 : Nat} {l2 : Int} {t0 : Int} {M : Mem} {K : KK} {Q : RR → Mem → KK → Prop} (h : (¬ t0 = (40 : Int) → Wp d 23 34 [vR l0, vR l1, vI l2, vU, vU, vU] [vI (0 : Int)] M K Q) ∧ (¬ (¬ t0 = (40 : Int)) → Wp d 23 34 [vR l0, vR l1, vI l2, vU, vU, vU] [vI (1 : Int)] M K Q)) : Wp d 23 24 [vR l0, vR l1, vI l2, vU, vU, vU] [vI t0] M K Q := by
  refine r_bipush c23_24 ?_
  refine r_icmpP (P := ¬ t0 = (40 : Int)) c23_26 rfl (fun hc => ?_) (fun hc => ?_)
  · replace h := h.1 hc
    refine r_iconst c23_33 ?_
    exact h
  · replace h := h.2 hc
    refine r_iconst c23_29 ?_
    refine r_goto c23_30 ?_
    exact h
theorem t23_34 {d : Nat} {l0 : Nat} {l1 : Nat} {l2 : Int} {t0 : Int} {M : Mem} {K : KK} {Q : RR → Mem → KK → Prop} (h : isO K.1 l1 10 = true ∧ Wm d 93 [vR l1] M K (Bk d 23 36 39 93 [vR l0, vR l1, vI l2, vI t0, vU, vU] [] Q)) : Wp (d + 1) 23 34 [vR l0, vR l1, vI l2, vU, vU, vU] [vI t0] M K Q := by
  refine r_istore_n c23_34 (Nat.le_of_ble_eq_true rfl) ?_
  refine r_aload_n c23_35 rfl ?_
  obtain ⟨s1, h⟩ := h
  exact r_call c23_36 rfl rfl (Nat.le_of_ble_eq_true rfl) (okc_r rfl rfl s1) h
theorem t23_39 {d : Nat} {l0 : Nat} {l1 : Nat} {l2 : Int} {l3 : Int} {M : Mem} {K : KK} {Q : RR → Mem → KK → Prop} (h : Wm d 25 [vR l1] M K (Bk d 23 40 43 25 [vR l0, vR l1, vI l2, vI l3, vU, vU] [] Q)) : Wp (d + 1) 23 39 [vR l0, vR l1, vI l2, vI l3, vU, vU] [] M K Q := by
  refine r_aload_n c23_39 rfl ?_
  exact r_call c23_40 rfl rfl (Nat.le_of_ble_eq_true rfl) (okc_s rfl rfl rfl) h
theorem t23_43 {d : Nat} {l0 : Nat} {l1 : Nat} {l2 : Int} {l3 : Int} {t0 : Int} {M : Mem} {K : KK} {Q : RR → Mem → KK → Prop} (h : isO K.1 l1 10 = true ∧ Wm d 94 [vR l1, vR 8] M K (Bk d 23 48 51 94 [vR l0, vR l1, vI l2, vI l3, vI t0, vU] [] Q)) : Wp (d + 1) 23 43 [vR l0, vR l1, vI l2, vI l3, vU, vU] [vI t0] M K Q := by
  refine r_istore c23_43 (Nat.le_of_ble_eq_true rfl) ?_
  refine r_aload_n c23_45 rfl ?_
  refine r_ldcs c23_46 ?_
  obtain ⟨s1, h⟩ := h
  exact r_call c23_48 rfl rfl (Nat.le_of_ble_eq_true rfl) (okc_r rfl rfl s1) h
theorem t23_51 {d : Nat} {l0 : Nat} {l1 : Nat} {l2 : Int} {l3 : Int} {l4 : Int} {t0 : Int} {M : Mem} {K : KK} {Q : RR → Mem → KK → Prop} (h : (¬ t0 = (0 : Int) → Wp (d + 1) 23 63 [vR l0, vR l1, vI l2, vI l3, vI l4, vU] [] M K Q) ∧ (¬ (¬ t0 = (0 : Int)) → isO K.1 l1 10 = true ∧ Wm d 94 [vR l1, vR 9] M K (Bk d 23 57 60 94 [vR l0, vR l1, vI l2, vI l3, vI l4, vU] [] Q))) : Wp (d + 1) 23 51 [vR l0, vR l1, vI l2, vI l3, vI l4, vU] [vI t0] M K Q := by
  refine r_ifP (P := ¬ t0 = (0 : Int)) c23_51 rfl (fun hc => ?_) (fun hc => ?_)
  · replace h := h.1 hc
    exact h
  · replace h := h.2 hc
    refine r_aload_n c23_54 rfl ?_
    refine r_ldcs c23_55 ?_
    obtain ⟨s1, h⟩ := h
    exact r_call c23_57 rfl rfl (Nat.le_of_ble_eq_true rfl) (okc_r rfl rfl s1) h
theorem t23_60 {d : Nat} {l0 : Nat} {l1 : Nat} {l2 : Int} {l3 : Int} {l4 : Int} {t0 : Int} {M : Mem} {K : KK} {Q : RR → Mem → KK → Prop} (h : (t0 = (0 : Int) → Wp d 23 68 [vR l0, vR l1, vI l2, vI l3, vI l4, vU] [vI (0 : Int)] M K Q) ∧ (¬ (t0 = (0 : Int)) → Wp d 23 63 [vR l0, vR l1, vI l2, vI l3, vI l4, vU] [] M K Q)) : Wp d 23 60 [vR l0, vR l1, vI l2, vI l3, vI l4, vU] [vI t0] M K Q := by
  refine r_ifP (P := t0 = (0 : Int)) c23_60 rfl (fun hc => ?_) (fun hc => ?_)
  · replace h := h.1 hc
    refine r_iconst c23_67 ?_
    exact h
  · replace h := h.2 hc
    exact h
theorem t23_63 {d : Nat} {l0 : Nat} {l1 : Nat} {l2 : Int} {l3 : Int} {l4 : Int} {M : Mem} {K : KK} {Q : RR → Mem → KK → Prop} (h : Wp d 23 68 [vR l0, vR l1, vI l2, vI l3, vI l4, vU] [vI (1 : Int)] M K Q) : Wp d 23 63 [vR l0, vR l1, vI l2, vI l3, vI l4, vU] [] M K Q := by
  refine r_iconst c23_63 ?_
  refine r_goto c23_64 ?_
  exact h
theorem t23_68 {d : Nat} {l0 : Nat} {l1 : Nat} {l2 : Int} {l3 : Int} {l4 : Int} {t0 : Int} {M : Mem} {K : KK} {Q : RR → Mem → KK → Prop} (h : (l4 = (-1 : Int) → (¬ l3 = (0 : Int) → Wp (d + 1) 23 106 [vR l0, vR l1, vI l2, vI l3, vI l4, vI t0] [] M K Q) ∧ (¬ (¬ l3 = (0 : Int)) → (¬ t0 = (0 : Int) → Wp (d + 1) 23 106 [vR l0, vR l1, vI l2, vI l3, vI l4, vI t0] [] M K Q) ∧ (¬ (¬ t0 = (0 : Int)) → isO K.1 l1 10 = true ∧ Wm d 95 [vR l1, vI (1 : Int)] M K (Bk d 23 100 103 95 [vR l0, vR l1, vI l2, vI l3, vI l4, vI t0] [] Q)))) ∧ (¬ (l4 = (-1 : Int)) → isO K.1 l0 2 = true ∧ Wm d 20 [vR l0, vI (w32 ((1000 : Int) + l4))] M K (Bk d 23 83 86 20 [vR l0, vR l1, vI l2, vI l3, vI l4, vI t0] [] Q))) : Wp (d + 1) 23 68 [vR l0, vR l1, vI l2, vI l3, vI l4, vU] [vI t0] M K Q := by
  refine r_istore c23_68 (Nat.le_of_ble_eq_true rfl) ?_
  refine r_iload c23_70 rfl ?_
  refine r_iconst c23_72 ?_
  refine r_icmpP (P := l4 = (-1 : Int)) c23_73 rfl (fun hc => ?_) (fun hc => ?_)
  · replace h := h.1 hc
    refine r_iload_n c23_89 rfl ?_
    refine r_ifP (P := ¬ l3 = (0 : Int)) c23_90 rfl (fun hc => ?_) (fun hc => ?_)
    · replace h := h.1 hc
      exact h
    · replace h := h.2 hc
      refine r_iload c23_93 rfl ?_
      refine r_ifP (P := ¬ t0 = (0 : Int)) c23_95 rfl (fun hc => ?_) (fun hc => ?_)
      · replace h := h.1 hc
        exact h
      · replace h := h.2 hc
        refine r_aload_n c23_98 rfl ?_
        refine r_iconst c23_99 ?_
        obtain ⟨s1, h⟩ := h
        exact r_call c23_100 rfl rfl (Nat.le_of_ble_eq_true rfl) (okc_r rfl rfl s1) h
  · replace h := h.2 hc
    refine r_aload_n c23_76 rfl ?_
    refine r_sipush c23_77 ?_
    refine r_iload c23_80 rfl ?_
    refine r_iadd c23_82 ?_
    obtain ⟨s2, h⟩ := h
    exact r_call c23_83 rfl rfl (Nat.le_of_ble_eq_true rfl) (okc_r rfl rfl s2) h
theorem t23_86 {d : Nat} {l0 : Nat} {l1 : Nat} {l2 : Int} {l3 : Int} {l4 : Int} {l5 : Int} {M : Mem} {K : KK} {Q : RR → Mem → KK → Prop} (h : Wp d 23 173 [vR l0, vR l1, vI l2, vI l3, vI l4, vI l5] [] M K Q) : Wp d 23 86 [vR l0, vR l1, vI l2, vI l3, vI l4, vI l5] [] M K Q := by
  refine r_goto c23_86 ?_
  exact h
theorem t23_103 {d : Nat} {l0 : Nat} {l1 : Nat} {l2 : Int} {l3 : Int} {l4 : Int} {l5 : Int} {M : Mem} {K : KK} {Q : RR → Mem → KK → Prop} (h : Wp d 23 173 [vR l0, vR l1, vI l2, vI l3, vI l4, vI l5] [] M K Q) : Wp d 23 103 [vR l0, vR l1, vI l2, vI l3, vI l4, vI l5] [] M K Q := by
  refine r_goto c23_103 ?_
  exact h
theorem t23_106 {d : Nat} {l0 : Nat} {l1 : Nat} {l2 : Int} {l3 : Int} {l4 : Int} {l5 : Int} {M : Mem} {K : KK} {Q : RR → Mem → KK → Prop} (h : (l2 < (6 : Int) → (l3 = (0 : Int) → isO K.1 l1 10 = true ∧ Wm d 94 [vR l1, vR 8] M K (Bk d 23 155 158 94 [vR l0, vR l1, vI l2, vI l3, vI l4, vI l5] [vI (w32 (l2 + (1 : Int))), vR l1, vR l0] Q)) ∧ (¬ (l3 = (0 : Int)) → isO K.1 l1 10 = true ∧ Wm d 91 [vR l1, vI (40 : Int)] M K (Bk d 23 127 130 91 [vR l0, vR l1, vI l2, vI l3, vI l4, vI l5] [] Q))) ∧ (¬ (l2 < (6 : Int)) → isO K.1 l1 10 = true ∧ Wm d 95 [vR l1, vI (3 : Int)] M K (Bk d 23 114 117 95 [vR l0, vR l1, vI l2, vI l3, vI l4, vI l5] [] Q))) : Wp (d + 1) 23 106 [vR l0, vR l1, vI l2, vI l3, vI l4, vI l5] [] M K Q := by
  refine r_iload_n c23_106 rfl ?_
  refine r_bipush c23_107 ?_
  refine r_icmpP (P := l2 < (6 : Int)) c23_109 rfl (fun hc => ?_) (fun hc => ?_)
  · replace h := h.1 hc
    refine r_iload_n c23_120 rfl ?_
    refine r_ifP (P := l3 = (0 : Int)) c23_121 rfl (fun hc => ?_) (fun hc => ?_)
    · replace h := h.1 hc
      refine r_aload_n c23_147 rfl ?_
      refine r_aload_n c23_148 rfl ?_
      refine r_iload_n c23_149 rfl ?_
      refine r_iconst c23_150 ?_
      refine r_iadd c23_151 ?_
      refine r_aload_n c23_152 rfl ?_
      refine r_ldcs c23_153 ?_
      obtain ⟨s1, h⟩ := h
      exact r_call c23_155 rfl rfl (Nat.le_of_ble_eq_true rfl) (okc_r rfl rfl s1) h
    · replace h := h.2 hc
      refine r_aload_n c23_124 rfl ?_
      refine r_bipush c23_125 ?_
      obtain ⟨s2, h⟩ := h
      exact r_call c23_127 rfl rfl (Nat.le_of_ble_eq_true rfl) (okc_r rfl rfl s2) h
  · replace h := h.2 hc
    refine r_aload_n c23_112 rfl ?_
    refine r_iconst c23_113 ?_
    obtain ⟨s3, h⟩ := h
    exact r_call c23_114 rfl rfl (Nat.le_of_ble_eq_true rfl) (okc_r rfl rfl s3) h
theorem t23_117 {d : Nat} {l0 : Nat} {l1 : Nat} {l2 : Int} {l3 : Int} {l4 : Int} {l5 : Int} {M : Mem} {K : KK} {Q : RR → Mem → KK → Prop} (h : Wp d 23 173 [vR l0, vR l1, vI l2, vI l3, vI l4, vI l5] [] M K Q) : Wp d 23 117 [vR l0, vR l1, vI l2, vI l3, vI l4, vI l5] [] M K Q := by
  refine r_goto c23_117 ?_
  exact h
theorem t23_130 {d : Nat} {l0 : Nat} {l1 : Nat} {l2 : Int} {l3 : Int} {l4 : Int} {l5 : Int} {M : Mem} {K : KK} {Q : RR → Mem → KK → Prop} (h : isO K.1 l0 2 = true ∧ Wm d 21 [vR l0, vR l1, vI (w32 (l2 + (1 : Int)))] M K (Bk d 23 135 138 21 [vR l0, vR l1, vI l2, vI l3, vI l4, vI l5] [] Q)) : Wp (d + 1) 23 130 [vR l0, vR l1, vI l2, vI l3, vI l4, vI l5] [] M K Q := by
  refine r_aload_n c23_130 rfl ?_
  refine r_aload_n c23_131 rfl ?_
  refine r_iload_n c23_132 rfl ?_
  refine r_iconst c23_133 ?_
  refine r_iadd c23_134 ?_
  obtain ⟨s1, h⟩ := h
  exact r_call c23_135 rfl rfl (Nat.le_of_ble_eq_true rfl) (okc_r rfl rfl s1) h
theorem t23_138 {d : Nat} {l0 : Nat} {l1 : Nat} {l2 : Int} {l3 : Int} {l4 : Int} {l5 : Int} {M : Mem} {K : KK} {Q : RR → Mem → KK → Prop} (h : isO K.1 l1 10 = true ∧ Wm d 91 [vR l1, vI (41 : Int)] M K (Bk d 23 141 144 91 [vR l0, vR l1, vI l2, vI l3, vI l4, vI l5] [] Q)) : Wp (d + 1) 23 138 [vR l0, vR l1, vI l2, vI l3, vI l4, vI l5] [] M K Q := by
  refine r_aload_n c23_138 rfl ?_
  refine r_bipush c23_139 ?_
  obtain ⟨s1, h⟩ := h
  exact r_call c23_141 rfl rfl (Nat.le_of_ble_eq_true rfl) (okc_r rfl rfl s1) h
theorem t23_144 {d : Nat} {l0 : Nat} {l1 : Nat} {l2 : Int} {l3 : Int} {l4 : Int} {l5 : Int} {M : Mem} {K : KK} {Q : RR → Mem → KK → Prop} (h : Wp d 23 173 [vR l0, vR l1, vI l2, vI l3, vI l4, vI l5] [] M K Q) : Wp d 23 144 [vR l0, vR l1, vI l2, vI l3, vI l4, vI l5] [] M K Q := by
  refine r_goto c23_144 ?_
  exact h
theorem t23_158 {d : Nat} {l0 : Nat} {l1 : Nat} {l2 : Int} {l3 : Int} {l4 : Int} {l5 : Int} {t0 : Nat} {t1 : Nat} {t2 : Int} {t3 : Int} {M : Mem} {K : KK} {Q : RR → Mem → KK → Prop} (h : (t3 = (0 : Int) → Wp d 23 170 [vR l0, vR l1, vI l2, vI l3, vI l4, vI l5] [vI (2006 : Int), vI t2, vR t1, vR t0] M K Q) ∧ (¬ (t3 = (0 : Int)) → Wp d 23 170 [vR l0, vR l1, vI l2, vI l3, vI l4, vI l5] [vI (2005 : Int), vI t2, vR t1, vR t0] M K Q)) : Wp d 23 158 [vR l0, vR l1, vI l2, vI l3, vI l4, vI l5] [vI t3, vI t2, vR t1, vR t0] M K Q := by
  refine r_ifP (P := t3 = (0 : Int)) c23_158 rfl (fun hc => ?_) (fun hc => ?_)
  · replace h := h.1 hc
    refine r_sipush c23_167 ?_
    exact h
  · replace h := h.2 hc
    refine r_sipush c23_161 ?_
    refine r_goto c23_164 ?_
    exact h
theorem t23_170 {d : Nat} {l0 : Nat} {l1 : Nat} {l2 : Int} {l3 : Int} {l4 : Int} {l5 : Int} {t0 : Nat} {t1 : Nat} {t2 : Int} {t3 : Int} {M : Mem} {K : KK} {Q : RR → Mem → KK → Prop} (h : isO K.1 t0 2 = true ∧ Wm d 24 [vR t0, vR t1, vI t2, vI t3] M K (Bk d 23 170 173 24 [vR l0, vR l1, vI l2, vI l3, vI l4, vI l5] [] Q)) : Wp (d + 1) 23 170 [vR l0, vR l1, vI l2, vI l3, vI l4, vI l5] [vI t3, vI t2, vR t1, vR t0] M K Q := by
  obtain ⟨s1, h⟩ := h
  exact r_call c23_170 rfl rfl (Nat.le_of_ble_eq_true rfl) (okc_r rfl rfl s1) h
theorem t23_173 {d : Nat} {l0 : Nat} {l1 : Nat} {l2 : Int} {l3 : Int} {l4 : Int} {l5 : Int} {M : Mem} {K : KK} {Q : RR → Mem → KK → Prop} (h : Q (.inl none) M K) : Wp d 23 173 [vR l0, vR l1, vI l2, vI l3, vI l4, vI l5] [] M K Q := by
  exact r_ret c23_173 h
theorem t24_0 {d : Nat} {l0 : Nat} {l1 : Nat} {l2 : Int} {l3 : Int} {M : Mem} {K : KK} {Q : RR → Mem → KK → Prop} (h : isO K.1 l1 10 = true ∧ Wm d 91 [vR l1, vI (91 : Int)] M K (Bk d 24 3 6 91 [vR l0, vR l1, vI l2, vI l3] [] Q)) : Wp (d + 1) 24 0 [vR l0, vR l1, vI l2, vI l3] [] M K Q := by
  refine r_aload_n c24_0 rfl ?_
  refine r_bipush c24_1 ?_
  obtain ⟨s1, h⟩ := h
  exact r_call c24_3 rfl rfl (Nat.le_of_ble_eq_true rfl) (okc_r rfl rfl s1) h
theorem t24_6 {d : Nat} {l0 : Nat} {l1 : Nat} {l2 : Int} {l3 : Int} {M : Mem} {K : KK} {Q : RR → Mem → KK → Prop} (h : isO K.1 l0 2 = true ∧ Wm d 21 [vR l0, vR l1, vI l2] M K (Bk d 24 9 12 21 [vR l0, vR l1, vI l2, vI l3] [] Q)) : Wp (d + 1) 24 6 [vR l0, vR l1, vI l2, vI l3] [] M K Q := by
  refine r_aload_n c24_6 rfl ?_
  refine r_aload_n c24_7 rfl ?_
  refine r_iload_n c24_8 rfl ?_
  obtain ⟨s1, h⟩ := h
  exact r_call c24_9 rfl rfl (Nat.le_of_ble_eq_true rfl) (okc_r rfl rfl s1) h
theorem t24_12 {d : Nat} {l0 : Nat} {l1 : Nat} {l2 : Int} {l3 : Int} {M : Mem} {K : KK} {Q : RR → Mem → KK → Prop} (h : isO K.1 l1 10 = true ∧ Wm d 91 [vR l1, vI (44 : Int)] M K (Bk d 24 15 18 91 [vR l0, vR l1, vI l2, vI l3] [] Q)) : Wp (d + 1) 24 12 [vR l0, vR l1, vI l2, vI l3] [] M K Q := by
  refine r_aload_n c24_12 rfl ?_
  refine r_bipush c24_13 ?_
  obtain ⟨s1, h⟩ := h
  exact r_call c24_15 rfl rfl (Nat.le_of_ble_eq_true rfl) (okc_r rfl rfl s1) h
theorem t24_18 {d : Nat} {l0 : Nat} {l1 : Nat} {l2 : Int} {l3 : Int} {M : Mem} {K : KK} {Q : RR → Mem → KK → Prop} (h : isO K.1 l0 2 = true ∧ Wm d 21 [vR l0, vR l1, vI l2] M K (Bk d 24 21 24 21 [vR l0, vR l1, vI l2, vI l3] [] Q)) : Wp (d + 1) 24 18 [vR l0, vR l1, vI l2, vI l3] [] M K Q := by
  refine r_aload_n c24_18 rfl ?_
  refine r_aload_n c24_19 rfl ?_
  refine r_iload_n c24_20 rfl ?_
  obtain ⟨s1, h⟩ := h
  exact r_call c24_21 rfl rfl (Nat.le_of_ble_eq_true rfl) (okc_r rfl rfl s1) h
theorem t24_24 {d : Nat} {l0 : Nat} {l1 : Nat} {l2 : Int} {l3 : Int} {M : Mem} {K : KK} {Q : RR → Mem → KK → Prop} (h : isO K.1 l1 10 = true ∧ Wm d 91 [vR l1, vI (93 : Int)] M K (Bk d 24 27 30 91 [vR l0, vR l1, vI l2, vI l3] [] Q)) : Wp (d + 1) 24 24 [vR l0, vR l1, vI l2, vI l3] [] M K Q := by
  refine r_aload_n c24_24 rfl ?_
  refine r_bipush c24_25 ?_
  obtain ⟨s1, h⟩ := h
  exact r_call c24_27 rfl rfl (Nat.le_of_ble_eq_true rfl) (okc_r rfl rfl s1) h
theorem t24_30 {d : Nat} {l0 : Nat} {l1 : Nat} {l2 : Int} {l3 : Int} {M : Mem} {K : KK} {Q : RR → Mem → KK → Prop} (h : isO K.1 l0 2 = true ∧ Wm d 20 [vR l0, vI l3] M K (Bk d 24 32 35 20 [vR l0, vR l1, vI l2, vI l3] [] Q)) : Wp (d + 1) 24 30 [vR l0, vR l1, vI l2, vI l3] [] M K Q := by
  refine r_aload_n c24_30 rfl ?_
  refine r_iload_n c24_31 rfl ?_
  obtain ⟨s1, h⟩ := h
  exact r_call c24_32 rfl rfl (Nat.le_of_ble_eq_true rfl) (okc_r rfl rfl s1) h
theorem t24_35 {d : Nat} {l0 : Nat} {l1 : Nat} {l2 : Int} {l3 : Int} {M : Mem} {K : KK} {Q : RR → Mem → KK → Prop} (h : Q (.inl none) M K) : Wp d 24 35 [vR l0, vR l1, vI l2, vI l3] [] M K Q := by
  exact r_ret c24_35 h
theorem t25_0 {d : Nat} {l0 : Nat} {M : Mem} {K : KK} {Q : RR → Mem → KK → Prop} (h : isO K.1 l0 10 = true ∧ Wm d 94 [vR l0, vR 10] M K (Bk d 25 3 6 94 [vR l0] [] Q)) : Wp (d + 1) 25 0 [vR l0] [] M K Q := by
  refine r_aload_n c25_0 rfl ?_
  refine r_ldcs c25_1 ?_
  obtain ⟨s1, h⟩ := h
  exact r_call c25_3 rfl rfl (Nat.le_of_ble_eq_true rfl) (okc_r rfl rfl s1) h
theorem t25_6 {d : Nat} {l0 : Nat} {t0 : Int} {M : Mem} {K : KK} {Q : RR → Mem → KK → Prop} (h : (t0 = (0 : Int) → isO K.1 l0 10 = true ∧ Wm d 94 [vR l0, vR 11] M K (Bk d 25 16 19 94 [vR l0] [] Q)) ∧ (¬ (t0 = (0 : Int)) → Wp (d + 1) 25 107 [vR l0] [vI (0 : Int)] M K Q)) : Wp (d + 1) 25 6 [vR l0] [vI t0] M K Q := by
  refine r_ifP (P := t0 = (0 : Int)) c25_6 rfl (fun hc => ?_) (fun hc => ?_)
  · replace h := h.1 hc
    refine r_aload_n c25_13 rfl ?_
    refine r_ldcs c25_14 ?_
    obtain ⟨s1, h⟩ := h
    exact r_call c25_16 rfl rfl (Nat.le_of_ble_eq_true rfl) (okc_r rfl rfl s1) h
  · replace h := h.2 hc
    refine r_iconst c25_9 ?_
    refine r_goto c25_10 ?_
    exact h
theorem t25_19 {d : Nat} {l0 : Nat} {t0 : Int} {M : Mem} {K : KK} {Q : RR → Mem → KK → Prop} (h : (t0 = (0 : Int) → isO K.1 l0 10 = true ∧ Wm d 94 [vR l0, vR 12] M K (Bk d 25 29 32 94 [vR l0] [] Q)) ∧ (¬ (t0 = (0 : Int)) → Wp (d + 1) 25 107 [vR l0] [vI (1 : Int)] M K Q)) : Wp (d + 1) 25 19 [vR l0] [vI t0] M K Q := by
  refine r_ifP (P := t0 = (0 : Int)) c25_19 rfl (fun hc => ?_) (fun hc => ?_)
  · replace h := h.1 hc
    refine r_aload_n c25_26 rfl ?_
    refine r_ldcs c25_27 ?_
    obtain ⟨s1, h⟩ := h
    exact r_call c25_29 rfl rfl (Nat.le_of_ble_eq_true rfl) (okc_r rfl rfl s1) h
  · replace h := h.2 hc
    refine r_iconst c25_22 ?_
    refine r_goto c25_23 ?_
    exact h
theorem t25_32 {d : Nat} {l0 : Nat} {t0 : Int} {M : Mem} {K : KK} {Q : RR → Mem → KK → Prop} (h : (t0 = (0 : Int) → isO K.1 l0 10 = true ∧ Wm d 94 [vR l0, vR 13] M K (Bk d 25 42 45 94 [vR l0] [] Q)) ∧ (¬ (t0 = (0 : Int)) → Wp (d + 1) 25 107 [vR l0] [vI (2 : Int)] M K Q)) : Wp (d + 1) 25 32 [vR l0] [vI t0] M K Q := by
  refine r_ifP (P := t0 = (0 : Int)) c25_32 rfl (fun hc => ?_) (fun hc => ?_)
  · replace h := h.1 hc
    refine r_aload_n c25_39 rfl ?_
    refine r_ldcs c25_40 ?_
    obtain ⟨s1, h⟩ := h
    exact r_call c25_42 rfl rfl (Nat.le_of_ble_eq_true rfl) (okc_r rfl rfl s1) h
  · replace h := h.2 hc
    refine r_iconst c25_35 ?_
    refine r_goto c25_36 ?_
    exact h
theorem t25_45 {d : Nat} {l0 : Nat} {t0 : Int} {M : Mem} {K : KK} {Q : RR → Mem → KK → Prop} (h : (t0 = (0 : Int) → isO K.1 l0 10 = true ∧ Wm d 94 [vR l0, vR 14] M K (Bk d 25 55 58 94 [vR l0] [] Q)) ∧ (¬ (t0 = (0 : Int)) → Wp (d + 1) 25 107 [vR l0] [vI (3 : Int)] M K Q)) : Wp (d + 1) 25 45 [vR l0] [vI t0] M K Q := by
  refine r_ifP (P := t0 = (0 : Int)) c25_45 rfl (fun hc => ?_) (fun hc => ?_)
  · replace h := h.1 hc
    refine r_aload_n c25_52 rfl ?_
    refine r_ldcs c25_53 ?_
    obtain ⟨s1, h⟩ := h
    exact r_call c25_55 rfl rfl (Nat.le_of_ble_eq_true rfl) (okc_r rfl rfl s1) h
  · replace h := h.2 hc
    refine r_iconst c25_48 ?_
    refine r_goto c25_49 ?_
    exact h
theorem t25_58 {d : Nat} {l0 : Nat} {t0 : Int} {M : Mem} {K : KK} {Q : RR → Mem → KK → Prop} (h : (t0 = (0 : Int) → isO K.1 l0 10 = true ∧ Wm d 94 [vR l0, vR 15] M K (Bk d 25 68 71 94 [vR l0] [] Q)) ∧ (¬ (t0 = (0 : Int)) → Wp (d + 1) 25 107 [vR l0] [vI (4 : Int)] M K Q)) : Wp (d + 1) 25 58 [vR l0] [vI t0] M K Q := by
  refine r_ifP (P := t0 = (0 : Int)) c25_58 rfl (fun hc => ?_) (fun hc => ?_)
  · replace h := h.1 hc
    refine r_aload_n c25_65 rfl ?_
    refine r_ldcs c25_66 ?_
    obtain ⟨s1, h⟩ := h
    exact r_call c25_68 rfl rfl (Nat.le_of_ble_eq_true rfl) (okc_r rfl rfl s1) h
  · replace h := h.2 hc
    refine r_iconst c25_61 ?_
    refine r_goto c25_62 ?_
    exact h
theorem t25_71 {d : Nat} {l0 : Nat} {t0 : Int} {M : Mem} {K : KK} {Q : RR → Mem → KK → Prop} (h : (t0 = (0 : Int) → isO K.1 l0 10 = true ∧ Wm d 94 [vR l0, vR 16] M K (Bk d 25 81 84 94 [vR l0] [] Q)) ∧ (¬ (t0 = (0 : Int)) → Wp (d + 1) 25 107 [vR l0] [vI (5 : Int)] M K Q)) : Wp (d + 1) 25 71 [vR l0] [vI t0] M K Q := by
  refine r_ifP (P := t0 = (0 : Int)) c25_71 rfl (fun hc => ?_) (fun hc => ?_)
  · replace h := h.1 hc
    refine r_aload_n c25_78 rfl ?_
    refine r_ldcs c25_79 ?_
    obtain ⟨s1, h⟩ := h
    exact r_call c25_81 rfl rfl (Nat.le_of_ble_eq_true rfl) (okc_r rfl rfl s1) h
  · replace h := h.2 hc
    refine r_iconst c25_74 ?_
    refine r_goto c25_75 ?_
    exact h
theorem t25_84 {d : Nat} {l0 : Nat} {t0 : Int} {M : Mem} {K : KK} {Q : RR → Mem → KK → Prop} (h : (t0 = (0 : Int) → isO K.1 l0 10 = true ∧ Wm d 94 [vR l0, vR 17] M K (Bk d 25 95 98 94 [vR l0] [] Q)) ∧ (¬ (t0 = (0 : Int)) → Wp (d + 1) 25 107 [vR l0] [vI (6 : Int)] M K Q)) : Wp (d + 1) 25 84 [vR l0] [vI t0] M K Q := by
  refine r_ifP (P := t0 = (0 : Int)) c25_84 rfl (fun hc => ?_) (fun hc => ?_)
  · replace h := h.1 hc
    refine r_aload_n c25_92 rfl ?_
    refine r_ldcs c25_93 ?_
    obtain ⟨s1, h⟩ := h
    exact r_call c25_95 rfl rfl (Nat.le_of_ble_eq_true rfl) (okc_r rfl rfl s1) h
  · replace h := h.2 hc
    refine r_bipush c25_87 ?_
    refine r_goto c25_89 ?_
    exact h
theorem t25_98 {d : Nat} {l0 : Nat} {t0 : Int} {M : Mem} {K : KK} {Q : RR → Mem → KK → Prop} (h : (t0 = (0 : Int) → Wp d 25 107 [vR l0] [vI (-1 : Int)] M K Q) ∧ (¬ (t0 = (0 : Int)) → Wp d 25 107 [vR l0] [vI (7 : Int)] M K Q)) : Wp d 25 98 [vR l0] [vI t0] M K Q := by
  refine r_ifP (P := t0 = (0 : Int)) c25_98 rfl (fun hc => ?_) (fun hc => ?_)
  · replace h := h.1 hc
    refine r_iconst c25_106 ?_
    exact h
  · replace h := h.2 hc
    refine r_bipush c25_101 ?_
    refine r_goto c25_103 ?_
    exact h
theorem t25_107 {d : Nat} {l0 : Nat} {t0 : Int} {M : Mem} {K : KK} {Q : RR → Mem → KK → Prop} (h : Q (.inl (some (vI t0))) M K) : Wp d 25 107 [vR l0] [vI t0] M K Q := by
  exact r_iret c25_107 (Or.inl rfl) h
theorem t26_0 {d : Nat} {l0 : Nat} {M : Mem} {K : KK} {Q : RR → Mem → KK → Prop} (h : Wp d 26 4 [vR l0, vI (0 : Int), vI (0 : Int), vU] [] M K Q) : Wp d 26 0 [vR l0, vU, vU, vU] [] M K Q := by
  refine r_iconst c26_0 ?_
  refine r_istore_n c26_1 (Nat.le_of_ble_eq_true rfl) ?_
  refine r_iconst c26_2 ?_
  refine r_istore_n c26_3 (Nat.le_of_ble_eq_true rfl) ?_
  exact h
theorem t26_4 {d : Nat} {l0 : Nat} {l1 : Int} {l2 : Int} {l3 : PV} {M : Mem} {K : KK} {Q : RR → Mem → KK → Prop} (h : isO K.1 l0 2 = true ∧ ((M l0 3) ≤ l2 → (¬ l1 = (0 : Int) → isO K.1 l0 2 = true ∧ ∃ b3 : Nat, (M l0 2) = (b3 : Int) ∧ 0 < b3 ∧ isO K.1 b3 20 = true ∧ (0 ≤ (0 : Int) ∧ (0 : Int) < (ln b3 : Int)) ∧ Wp (d + 1) 26 133 [vR l0, vI l1, vI l2, l3] [vI (if (0 : Int) < (if (M b3 (Int.toNat (0 : Int))) < (99 : Int) then (M b3 (Int.toNat (0 : Int))) else (99 : Int)) then (if (M b3 (Int.toNat (0 : Int))) < (99 : Int) then (M b3 (Int.toNat (0 : Int))) else (99 : Int)) else (0 : Int))] M K Q) ∧ (¬ (¬ l1 = (0 : Int)) → Wp (d + 1) 26 133 [vR l0, vI l1, vI l2, l3] [vI (0 : Int)] M K Q)) ∧ (¬ ((M l0 3) ≤ l2) → isO K.1 l0 2 = true ∧ ∃ b9 : Nat, (M l0 1) = (b9 : Int) ∧ 0 < b9 ∧ isO K.1 b9 20 = true ∧ (0 ≤ l2 ∧ l2 < (ln b9 : Int)) ∧ ((M b9 (Int.toNat l2)) < (2000 : Int) → isO K.1 l0 2 = true ∧ ∃ b15 : Nat, (M l0 2) = (b15 : Int) ∧ 0 < b15 ∧ (Nat.ble 20 (tg b15) = true ∧ isO K.1 b15 (tg b15) = true) ∧ ((ln b15 : Int) ≤ l1 → Wp (d + 1) 26 104 [vR l0, vI l1, vI l2, vI (M b9 (Int.toNat l2))] [] M K Q) ∧ (¬ ((ln b15 : Int) ≤ l1) → isO K.1 l0 2 = true ∧ ∃ b20 : Nat, (M l0 2) = (b20 : Int) ∧ 0 < b20 ∧ ((1000 : Int) ≤ (M b9 (Int.toNat l2)) → isO K.1 l0 2 = true ∧ ∃ b24 : Nat, (M l0 0) = (b24 : Int) ∧ 0 < b24 ∧ isO K.1 b24 20 = true ∧ (0 ≤ (w32 ((M b9 (Int.toNat l2)) - (1000 : Int))) ∧ (w32 ((M b9 (Int.toNat l2)) - (1000 : Int))) < (ln b24 : Int)) ∧ Wp (d + 1) 26 100 [vR l0, vI l1, vI l2, vI (M b9 (Int.toNat l2))] [vI (M b24 (Int.toNat (w32 ((M b9 (Int.toNat l2)) - (1000 : Int))))), vI l1, vR b20] M K Q) ∧ (¬ ((1000 : Int) ≤ (M b9 (Int.toNat l2))) → Wp (d + 1) 26 100 [vR l0, vI l1, vI l2, vI (M b9 (Int.toNat l2))] [vI (M b9 (Int.toNat l2)), vI l1, vR b20] M K Q))) ∧ (¬ ((M b9 (Int.toNat l2)) < (2000 : Int)) → ((2 : Int) ≤ l1 → isO K.1 l0 2 = true ∧ ∃ b30 : Nat, (M l0 2) = (b30 : Int) ∧ 0 < b30 ∧ isO K.1 l0 2 = true ∧ ∃ b34 : Nat, (M l0 2) = (b34 : Int) ∧ 0 < b34 ∧ isO K.1 b34 20 = true ∧ (0 ≤ (w32 ((w32 (l1 + (-1))) - (1 : Int))) ∧ (w32 ((w32 (l1 + (-1))) - (1 : Int))) < (ln b34 : Int)) ∧ isO K.1 l0 2 = true ∧ ∃ b40 : Nat, (M l0 2) = (b40 : Int) ∧ 0 < b40 ∧ isO K.1 b40 20 = true ∧ (0 ≤ (w32 (l1 + (-1))) ∧ (w32 (l1 + (-1))) < (ln b40 : Int)) ∧ Wm d 27 [vI (M b9 (Int.toNat l2)), vI (M b34 (Int.toNat (w32 ((w32 (l1 + (-1))) - (1 : Int))))), vI (M b40 (Int.toNat (w32 (l1 + (-1)))))] M K (Bk d 26 58 61 27 [vR l0, vI (w32 (l1 + (-1))), vI l2, vI (M b9 (Int.toNat l2))] [vI (w32 ((w32 (l1 + (-1))) - (1 : Int))), vR b30] Q)) ∧ (¬ ((2 : Int) ≤ l1) → Q (.inl (some (vI (0 : Int)))) M K)))) : Wp (d + 1) 26 4 [vR l0, vI l1, vI l2, l3] [] M K Q := by
  refine r_iload_n c26_4 rfl ?_
  refine r_aload_n c26_5 rfl ?_
  obtain ⟨s1, h⟩ := h
  refine r_getI c26_6 s1 ?_
  refine r_icmpP (P := (M l0 3) ≤ l2) c26_9 rfl (fun hc => ?_) (fun hc => ?_)
  · replace h := h.1 hc
    refine r_iload_n c26_110 rfl ?_
    refine r_ifP (P := ¬ l1 = (0 : Int)) c26_111 rfl (fun hc => ?_) (fun hc => ?_)
    · replace h := h.1 hc
      refine r_iconst c26_118 ?_
      refine r_bipush c26_119 ?_
      refine r_aload_n c26_121 rfl ?_
      obtain ⟨s2, h⟩ := h
      obtain ⟨b3, h⟩ := h
      obtain ⟨s4, h⟩ := h
      obtain ⟨s5, h⟩ := h
      refine r_getR c26_122 s2 s4 s5 ?_
      refine r_iconst c26_125 ?_
      obtain ⟨s6, h⟩ := h
      obtain ⟨s7, h⟩ := h
      refine r_ia c26_126 s6 s7 ?_
      refine r_min c26_127 (Nat.le_of_ble_eq_true rfl) ?_
      refine r_max c26_130 (Nat.le_of_ble_eq_true rfl) ?_
      exact h
    · replace h := h.2 hc
      refine r_iconst c26_114 ?_
      refine r_goto c26_115 ?_
      exact h
  · replace h := h.2 hc
    refine r_aload_n c26_12 rfl ?_
    obtain ⟨s8, h⟩ := h
    obtain ⟨b9, h⟩ := h
    obtain ⟨s10, h⟩ := h
    obtain ⟨s11, h⟩ := h
    refine r_getR c26_13 s8 s10 s11 ?_
    refine r_iload_n c26_16 rfl ?_
    obtain ⟨s12, h⟩ := h
    obtain ⟨s13, h⟩ := h
    refine r_ia c26_17 s12 s13 ?_
    refine r_istore_n c26_18 (Nat.le_of_ble_eq_true rfl) ?_
    refine r_iload_n c26_19 rfl ?_
    refine r_sipush c26_20 ?_
    refine r_icmpP (P := (M b9 (Int.toNat l2)) < (2000 : Int)) c26_23 rfl (fun hc => ?_) (fun hc => ?_)
    · replace h := h.1 hc
      refine r_iload_n c26_65 rfl ?_
      refine r_aload_n c26_66 rfl ?_
      obtain ⟨s14, h⟩ := h
      obtain ⟨b15, h⟩ := h
      obtain ⟨s16, h⟩ := h
      obtain ⟨s17, h⟩ := h
      refine r_getR c26_67 s14 s16 s17 ?_
      obtain ⟨s18, h⟩ := h
      refine r_alen c26_70 s18 ?_
      refine r_icmpP (P := (ln b15 : Int) ≤ l1) c26_71 rfl (fun hc => ?_) (fun hc => ?_)
      · replace h := h.1 hc
        exact h
      · replace h := h.2 hc
        refine r_aload_n c26_74 rfl ?_
        obtain ⟨s19, h⟩ := h
        obtain ⟨b20, h⟩ := h
        obtain ⟨s21, h⟩ := h
        obtain ⟨s22, h⟩ := h
        refine r_getR c26_75 s19 s21 s22 ?_
        refine r_iload_n c26_78 rfl ?_
        refine r_iload_n c26_79 rfl ?_
        refine r_sipush c26_80 ?_
        refine r_icmpP (P := (1000 : Int) ≤ (M b9 (Int.toNat l2))) c26_83 rfl (fun hc => ?_) (fun hc => ?_)
        · replace h := h.1 hc
          refine r_aload_n c26_90 rfl ?_
          obtain ⟨s23, h⟩ := h
          obtain ⟨b24, h⟩ := h
          obtain ⟨s25, h⟩ := h
          obtain ⟨s26, h⟩ := h
          refine r_getR c26_91 s23 s25 s26 ?_
          refine r_iload_n c26_94 rfl ?_
          refine r_sipush c26_95 ?_
          refine r_isub c26_98 ?_
          obtain ⟨s27, h⟩ := h
          obtain ⟨s28, h⟩ := h
          refine r_ia c26_99 s27 s28 ?_
          exact h
        · replace h := h.2 hc
          refine r_iload_n c26_86 rfl ?_
          refine r_goto c26_87 ?_
          exact h
    · replace h := h.2 hc
      refine r_iload_n c26_26 rfl ?_
      refine r_iconst c26_27 ?_
      refine r_icmpP (P := (2 : Int) ≤ l1) c26_28 rfl (fun hc => ?_) (fun hc => ?_)
      · replace h := h.1 hc
        refine r_iinc c26_33 rfl ?_
        refine r_aload_n c26_36 rfl ?_
        obtain ⟨s29, h⟩ := h
        obtain ⟨b30, h⟩ := h
        obtain ⟨s31, h⟩ := h
        obtain ⟨s32, h⟩ := h
        refine r_getR c26_37 s29 s31 s32 ?_
        refine r_iload_n c26_40 rfl ?_
        refine r_iconst c26_41 ?_
        refine r_isub c26_42 ?_
        refine r_iload_n c26_43 rfl ?_
        refine r_aload_n c26_44 rfl ?_
        obtain ⟨s33, h⟩ := h
        obtain ⟨b34, h⟩ := h
        obtain ⟨s35, h⟩ := h
        obtain ⟨s36, h⟩ := h
        refine r_getR c26_45 s33 s35 s36 ?_
        refine r_iload_n c26_48 rfl ?_
        refine r_iconst c26_49 ?_
        refine r_isub c26_50 ?_
        obtain ⟨s37, h⟩ := h
        obtain ⟨s38, h⟩ := h
        refine r_ia c26_51 s37 s38 ?_
        refine r_aload_n c26_52 rfl ?_
        obtain ⟨s39, h⟩ := h
        obtain ⟨b40, h⟩ := h
        obtain ⟨s41, h⟩ := h
        obtain ⟨s42, h⟩ := h
        refine r_getR c26_53 s39 s41 s42 ?_
        refine r_iload_n c26_56 rfl ?_
        obtain ⟨s43, h⟩ := h
        obtain ⟨s44, h⟩ := h
        refine r_ia c26_57 s43 s44 ?_
        exact r_call c26_58 rfl rfl (Nat.le_of_ble_eq_true rfl) (okc_s rfl rfl rfl) h
      · replace h := h.2 hc
        refine r_iconst c26_31 ?_
        exact r_iret c26_32 (Or.inl rfl) h
theorem t26_61 {d : Nat} {l0 : Nat} {l1 : Int} {l2 : Int} {l3 : Int} {t0 : Nat} {t1 : Int} {t2 : Int} {M : Mem} {K : KK} {Q : RR → Mem → KK → Prop} (h : isO K.1 t0 20 = true ∧ (0 ≤ t1 ∧ t1 < (ln t0 : Int)) ∧ Wp d 26 104 [vR l0, vI l1, vI l2, vI l3] [] (mset M t0 (Int.toNat t1) t2) K Q) : Wp d 26 61 [vR l0, vI l1, vI l2, vI l3] [vI t2, vI t1, vR t0] M K Q := by
  obtain ⟨s1, h⟩ := h
  obtain ⟨s2, h⟩ := h
  refine r_ias c26_61 s1 s2 ?_
  refine r_goto c26_62 ?_
  exact h
theorem t26_100 {d : Nat} {l0 : Nat} {l1 : Int} {l2 : Int} {l3 : Int} {t0 : Nat} {t1 : Int} {t2 : Int} {M : Mem} {K : KK} {Q : RR → Mem → KK → Prop} (h : isO K.1 t0 20 = true ∧ (0 ≤ t1 ∧ t1 < (ln t0 : Int)) ∧ Wp d 26 104 [vR l0, vI (w32 (l1 + 1)), vI l2, vI l3] [] (mset M t0 (Int.toNat t1) t2) K Q) : Wp d 26 100 [vR l0, vI l1, vI l2, vI l3] [vI t2, vI t1, vR t0] M K Q := by
  obtain ⟨s1, h⟩ := h
  obtain ⟨s2, h⟩ := h
  refine r_ias c26_100 s1 s2 ?_
  refine r_iinc c26_101 rfl ?_
  exact h
theorem t26_104 {d : Nat} {l0 : Nat} {l1 : Int} {l2 : Int} {l3 : Int} {M : Mem} {K : KK} {Q : RR → Mem → KK → Prop} (h : Wp d 26 4 [vR l0, vI l1, vI (w32 (l2 + 1)), vI l3] [] M K Q) : Wp d 26 104 [vR l0, vI l1, vI l2, vI l3] [] M K Q := by
  refine r_iinc c26_104 rfl ?_
  refine r_goto c26_107 ?_
  exact h
theorem t26_133 {d : Nat} {l0 : Nat} {l1 : Int} {l2 : Int} {l3 : PV} {t0 : Int} {M : Mem} {K : KK} {Q : RR → Mem → KK → Prop} (h : Q (.inl (some (vI t0))) M K) : Wp d 26 133 [vR l0, vI l1, vI l2, l3] [vI t0] M K Q := by
  exact r_iret c26_133 (Or.inl rfl) h
theorem t27_0 {d : Nat} {l0 : Int} {l1 : Int} {l2 : Int} {M : Mem} {K : KK} {Q : RR → Mem → KK → Prop} (h : Wp d 27 (tsw 1 86 2000 2005 #[39, 43, 47, 51, 63, 75] l0) [vI l0, vI l1, vI l2] [] M K Q) : Wp d 27 0 [vI l0, vI l1, vI l2] [] M K Q := by
  refine r_iload_n c27_0 rfl ?_
  refine r_tsw c27_1 ?_
  exact h
theorem t27_40 {d : Nat} {l0 : Int} {l1 : Int} {l2 : Int} {M : Mem} {K : KK} {Q : RR → Mem → KK → Prop} (h : Q (.inl (some (vI (w32 (l1 + l2))))) M K) : Wp d 27 40 [vI l0, vI l1, vI l2] [] M K Q := by
  refine r_iload_n c27_40 rfl ?_
  refine r_iload_n c27_41 rfl ?_
  refine r_iadd c27_42 ?_
  exact r_iret c27_43 (Or.inl rfl) h
theorem t27_44 {d : Nat} {l0 : Int} {l1 : Int} {l2 : Int} {M : Mem} {K : KK} {Q : RR → Mem → KK → Prop} (h : Q (.inl (some (vI (w32 (l1 - l2))))) M K) : Wp d 27 44 [vI l0, vI l1, vI l2] [] M K Q := by
  refine r_iload_n c27_44 rfl ?_
  refine r_iload_n c27_45 rfl ?_
  refine r_isub c27_46 ?_
  exact r_iret c27_47 (Or.inl rfl) h
theorem t27_48 {d : Nat} {l0 : Int} {l1 : Int} {l2 : Int} {M : Mem} {K : KK} {Q : RR → Mem → KK → Prop} (h : Q (.inl (some (vI (w32 (l1 * l2))))) M K) : Wp d 27 48 [vI l0, vI l1, vI l2] [] M K Q := by
  refine r_iload_n c27_48 rfl ?_
  refine r_iload_n c27_49 rfl ?_
  refine r_imul c27_50 ?_
  exact r_iret c27_51 (Or.inl rfl) h
theorem t27_52 {d : Nat} {l0 : Int} {l1 : Int} {l2 : Int} {M : Mem} {K : KK} {Q : RR → Mem → KK → Prop} (h : (¬ l2 = (0 : Int) → l2 ≠ 0 ∧ Wp d 27 63 [vI l0, vI l1, vI l2] [vI (w32 (Int.tdiv l1 l2))] M K Q) ∧ (¬ (¬ l2 = (0 : Int)) → Wp d 27 63 [vI l0, vI l1, vI l2] [vI (0 : Int)] M K Q)) : Wp d 27 52 [vI l0, vI l1, vI l2] [] M K Q := by
  refine r_iload_n c27_52 rfl ?_
  refine r_ifP (P := ¬ l2 = (0 : Int)) c27_53 rfl (fun hc => ?_) (fun hc => ?_)
  · replace h := h.1 hc
    refine r_iload_n c27_60 rfl ?_
    refine r_iload_n c27_61 rfl ?_
    obtain ⟨s1, h⟩ := h
    refine r_idiv c27_62 s1 ?_
    exact h
  · replace h := h.2 hc
    refine r_iconst c27_56 ?_
    refine r_goto c27_57 ?_
    exact h
theorem t27_63 {d : Nat} {l0 : Int} {l1 : Int} {l2 : Int} {t0 : Int} {M : Mem} {K : KK} {Q : RR → Mem → KK → Prop} (h : Q (.inl (some (vI t0))) M K) : Wp d 27 63 [vI l0, vI l1, vI l2] [vI t0] M K Q := by
  exact r_iret c27_63 (Or.inl rfl) h
theorem t27_64 {d : Nat} {l0 : Int} {l1 : Int} {l2 : Int} {M : Mem} {K : KK} {Q : RR → Mem → KK → Prop} (h : (¬ l2 = (0 : Int) → l2 ≠ 0 ∧ Wp d 27 75 [vI l0, vI l1, vI l2] [vI (Int.tmod l1 l2)] M K Q) ∧ (¬ (¬ l2 = (0 : Int)) → Wp d 27 75 [vI l0, vI l1, vI l2] [vI (0 : Int)] M K Q)) : Wp d 27 64 [vI l0, vI l1, vI l2] [] M K Q := by
  refine r_iload_n c27_64 rfl ?_
  refine r_ifP (P := ¬ l2 = (0 : Int)) c27_65 rfl (fun hc => ?_) (fun hc => ?_)
  · replace h := h.1 hc
    refine r_iload_n c27_72 rfl ?_
    refine r_iload_n c27_73 rfl ?_
    obtain ⟨s1, h⟩ := h
    refine r_irem c27_74 s1 ?_
    exact h
  · replace h := h.2 hc
    refine r_iconst c27_68 ?_
    refine r_goto c27_69 ?_
    exact h
theorem t27_75 {d : Nat} {l0 : Int} {l1 : Int} {l2 : Int} {t0 : Int} {M : Mem} {K : KK} {Q : RR → Mem → KK → Prop} (h : Q (.inl (some (vI t0))) M K) : Wp d 27 75 [vI l0, vI l1, vI l2] [vI t0] M K Q := by
  exact r_iret c27_75 (Or.inl rfl) h
theorem t27_76 {d : Nat} {l0 : Int} {l1 : Int} {l2 : Int} {M : Mem} {K : KK} {Q : RR → Mem → KK → Prop} (h : (l2 ≤ l1 → Wp d 27 86 [vI l0, vI l1, vI l2] [vI l2] M K Q) ∧ (¬ (l2 ≤ l1) → Wp d 27 86 [vI l0, vI l1, vI l2] [vI l1] M K Q)) : Wp d 27 76 [vI l0, vI l1, vI l2] [] M K Q := by
  refine r_iload_n c27_76 rfl ?_
  refine r_iload_n c27_77 rfl ?_
  refine r_icmpP (P := l2 ≤ l1) c27_78 rfl (fun hc => ?_) (fun hc => ?_)
  · replace h := h.1 hc
    refine r_iload_n c27_85 rfl ?_
    exact h
  · replace h := h.2 hc
    refine r_iload_n c27_81 rfl ?_
    refine r_goto c27_82 ?_
    exact h
theorem t27_86 {d : Nat} {l0 : Int} {l1 : Int} {l2 : Int} {t0 : Int} {M : Mem} {K : KK} {Q : RR → Mem → KK → Prop} (h : Q (.inl (some (vI t0))) M K) : Wp d 27 86 [vI l0, vI l1, vI l2] [vI t0] M K Q := by
  exact r_iret c27_86 (Or.inl rfl) h
theorem t27_87 {d : Nat} {l0 : Int} {l1 : Int} {l2 : Int} {M : Mem} {K : KK} {Q : RR → Mem → KK → Prop} (h : (l1 ≤ l2 → Wp d 27 97 [vI l0, vI l1, vI l2] [vI l2] M K Q) ∧ (¬ (l1 ≤ l2) → Wp d 27 97 [vI l0, vI l1, vI l2] [vI l1] M K Q)) : Wp d 27 87 [vI l0, vI l1, vI l2] [] M K Q := by
  refine r_iload_n c27_87 rfl ?_
  refine r_iload_n c27_88 rfl ?_
  refine r_icmpP (P := l1 ≤ l2) c27_89 rfl (fun hc => ?_) (fun hc => ?_)
  · replace h := h.1 hc
    refine r_iload_n c27_96 rfl ?_
    exact h
  · replace h := h.2 hc
    refine r_iload_n c27_92 rfl ?_
    refine r_goto c27_93 ?_
    exact h
theorem t27_97 {d : Nat} {l0 : Int} {l1 : Int} {l2 : Int} {t0 : Int} {M : Mem} {K : KK} {Q : RR → Mem → KK → Prop} (h : Q (.inl (some (vI t0))) M K) : Wp d 27 97 [vI l0, vI l1, vI l2] [vI t0] M K Q := by
  exact r_iret c27_97 (Or.inl rfl) h
theorem t28_0 {d : Nat} {l0 : Nat} {M : Mem} {K : KK} {Q : RR → Mem → KK → Prop} (h : (tg K.1 = 20 ∧ (6 : Int) = (ln K.1 : Int)) ∧ isO (K.1 + 1) l0 3 = true ∧ 0 < K.1 ∧ (tg (K.1 + 1) = 20 ∧ (6 : Int) = (ln (K.1 + 1) : Int)) ∧ isO ((K.1 + 1) + 1) l0 3 = true ∧ 0 < (K.1 + 1) ∧ (tg ((K.1 + 1) + 1) = 20 ∧ (6 : Int) = (ln ((K.1 + 1) + 1) : Int)) ∧ isO (((K.1 + 1) + 1) + 1) l0 3 = true ∧ 0 < ((K.1 + 1) + 1) ∧ (tg (((K.1 + 1) + 1) + 1) = 20 ∧ (6 : Int) = (ln (((K.1 + 1) + 1) + 1) : Int)) ∧ isO ((((K.1 + 1) + 1) + 1) + 1) l0 3 = true ∧ 0 < (((K.1 + 1) + 1) + 1) ∧ Q (.inl none) (mset (mset (mset (mset M l0 0 (K.1 : Nat)) l0 1 ((K.1 + 1) : Nat)) l0 2 (((K.1 + 1) + 1) : Nat)) l0 3 ((((K.1 + 1) + 1) + 1) : Nat)) (((((K.1 + 1) + 1) + 1) + 1), ((((K.2.1 + 1) + 1) + 1) + 1), ((((K.2.2 + ln K.1) + ln (K.1 + 1)) + ln ((K.1 + 1) + 1)) + ln (((K.1 + 1) + 1) + 1)))) : Wp d 28 0 [vR l0] [] M K Q := by
  refine r_aload_n c28_0 rfl ?_
  refine r_obj c28_1 (Nat.le_of_ble_eq_true rfl) ?_
  refine r_aload_n c28_4 rfl ?_
  refine r_bipush c28_5 ?_
  obtain ⟨s1, h⟩ := h
  refine r_newarray c28_7 s1 ?_
  obtain ⟨s2, h⟩ := h
  obtain ⟨s3, h⟩ := h
  refine r_putR c28_9 s2 s3 ?_
  refine r_aload_n c28_12 rfl ?_
  refine r_bipush c28_13 ?_
  obtain ⟨s4, h⟩ := h
  refine r_newarray c28_15 s4 ?_
  obtain ⟨s5, h⟩ := h
  obtain ⟨s6, h⟩ := h
  refine r_putR c28_17 s5 s6 ?_
  refine r_aload_n c28_20 rfl ?_
  refine r_bipush c28_21 ?_
  obtain ⟨s7, h⟩ := h
  refine r_newarray c28_23 s7 ?_
  obtain ⟨s8, h⟩ := h
  obtain ⟨s9, h⟩ := h
  refine r_putR c28_25 s8 s9 ?_
  refine r_aload_n c28_28 rfl ?_
  refine r_bipush c28_29 ?_
  obtain ⟨s10, h⟩ := h
  refine r_newarray c28_31 s10 ?_
  obtain ⟨s11, h⟩ := h
  obtain ⟨s12, h⟩ := h
  refine r_putR c28_33 s11 s12 ?_
  exact r_ret c28_36 h
theorem t29_0 {d : Nat} {l0 : Nat} {l1 : Nat} {M : Mem} {K : KK} {Q : RR → Mem → KK → Prop} (h : isO K.1 l0 3 = true ∧ isO K.1 l1 0 = true ∧ isO K.1 l0 3 = true ∧ Wp d 29 15 [vR l0, vR l1, vI (0 : Int)] [] (mset (mset M l0 4 (0 : Int)) l0 5 ((mset M l0 4 (0 : Int)) l1 9)) K Q) : Wp d 29 0 [vR l0, vR l1, vU] [] M K Q := by
  refine r_aload_n c29_0 rfl ?_
  refine r_iconst c29_1 ?_
  obtain ⟨s1, h⟩ := h
  refine r_putI c29_2 s1 ?_
  refine r_aload_n c29_5 rfl ?_
  refine r_aload_n c29_6 rfl ?_
  obtain ⟨s2, h⟩ := h
  refine r_getI c29_7 s2 ?_
  obtain ⟨s3, h⟩ := h
  refine r_putI c29_10 s3 ?_
  refine r_iconst c29_13 ?_
  refine r_istore_n c29_14 (Nat.le_of_ble_eq_true rfl) ?_
  exact h
theorem t29_15 {d : Nat} {l0 : Nat} {l1 : Nat} {l2 : Int} {M : Mem} {K : KK} {Q : RR → Mem → KK → Prop} (h : ((6 : Int) ≤ l2 → Q (.inl none) M K) ∧ (¬ ((6 : Int) ≤ l2) → isO K.1 l0 3 = true ∧ ∃ b2 : Nat, (M l0 0) = (b2 : Int) ∧ 0 < b2 ∧ isO K.1 l1 0 = true ∧ ∃ b6 : Nat, (M l1 2) = (b6 : Int) ∧ 0 < b6 ∧ isO K.1 b6 20 = true ∧ (0 ≤ l2 ∧ l2 < (ln b6 : Int)) ∧ isO K.1 b2 20 = true ∧ (0 ≤ l2 ∧ l2 < (ln b2 : Int)) ∧ isO K.1 l0 3 = true ∧ ∃ b14 : Nat, ((mset M b2 (Int.toNat l2) (M b6 (Int.toNat l2))) l0 1) = (b14 : Int) ∧ 0 < b14 ∧ isO K.1 b14 20 = true ∧ (0 ≤ l2 ∧ l2 < (ln b14 : Int)) ∧ isO K.1 l0 3 = true ∧ ∃ b20 : Nat, ((mset (mset M b2 (Int.toNat l2) (M b6 (Int.toNat l2))) b14 (Int.toNat l2) (-1 : Int)) l0 2) = (b20 : Int) ∧ 0 < b20 ∧ isO K.1 b20 20 = true ∧ (0 ≤ l2 ∧ l2 < (ln b20 : Int)) ∧ isO K.1 l0 3 = true ∧ ∃ b26 : Nat, ((mset (mset (mset M b2 (Int.toNat l2) (M b6 (Int.toNat l2))) b14 (Int.toNat l2) (-1 : Int)) b20 (Int.toNat l2) (0 : Int)) l0 3) = (b26 : Int) ∧ 0 < b26 ∧ isO K.1 b26 20 = true ∧ (0 ≤ l2 ∧ l2 < (ln b26 : Int)) ∧ Wp d 29 15 [vR l0, vR l1, vI (w32 (l2 + 1))] [] (mset (mset (mset (mset M b2 (Int.toNat l2) (M b6 (Int.toNat l2))) b14 (Int.toNat l2) (-1 : Int)) b20 (Int.toNat l2) (0 : Int)) b26 (Int.toNat l2) (0 : Int)) K Q)) : Wp d 29 15 [vR l0, vR l1, vI l2] [] M K Q := by
  refine r_iload_n c29_15 rfl ?_
  refine r_bipush c29_16 ?_
  refine r_icmpP (P := (6 : Int) ≤ l2) c29_18 rfl (fun hc => ?_) (fun hc => ?_)
  · replace h := h.1 hc
    exact r_ret c29_60 h
  · replace h := h.2 hc
    refine r_aload_n c29_21 rfl ?_
    obtain ⟨s1, h⟩ := h
    obtain ⟨b2, h⟩ := h
    obtain ⟨s3, h⟩ := h
    obtain ⟨s4, h⟩ := h
    refine r_getR c29_22 s1 s3 s4 ?_
    refine r_iload_n c29_25 rfl ?_
    refine r_aload_n c29_26 rfl ?_
    obtain ⟨s5, h⟩ := h
    obtain ⟨b6, h⟩ := h
    obtain ⟨s7, h⟩ := h
    obtain ⟨s8, h⟩ := h
    refine r_getR c29_27 s5 s7 s8 ?_
    refine r_iload_n c29_30 rfl ?_
    obtain ⟨s9, h⟩ := h
    obtain ⟨s10, h⟩ := h
    refine r_ia c29_31 s9 s10 ?_
    obtain ⟨s11, h⟩ := h
    obtain ⟨s12, h⟩ := h
    refine r_ias c29_32 s11 s12 ?_
    refine r_aload_n c29_33 rfl ?_
    obtain ⟨s13, h⟩ := h
    obtain ⟨b14, h⟩ := h
    obtain ⟨s15, h⟩ := h
    obtain ⟨s16, h⟩ := h
    refine r_getR c29_34 s13 s15 s16 ?_
    refine r_iload_n c29_37 rfl ?_
    refine r_iconst c29_38 ?_
    obtain ⟨s17, h⟩ := h
    obtain ⟨s18, h⟩ := h
    refine r_ias c29_39 s17 s18 ?_
    refine r_aload_n c29_40 rfl ?_
    obtain ⟨s19, h⟩ := h
    obtain ⟨b20, h⟩ := h
    obtain ⟨s21, h⟩ := h
    obtain ⟨s22, h⟩ := h
    refine r_getR c29_41 s19 s21 s22 ?_
    refine r_iload_n c29_44 rfl ?_
    refine r_iconst c29_45 ?_
    obtain ⟨s23, h⟩ := h
    obtain ⟨s24, h⟩ := h
    refine r_ias c29_46 s23 s24 ?_
    refine r_aload_n c29_47 rfl ?_
    obtain ⟨s25, h⟩ := h
    obtain ⟨b26, h⟩ := h
    obtain ⟨s27, h⟩ := h
    obtain ⟨s28, h⟩ := h
    refine r_getR c29_48 s25 s27 s28 ?_
    refine r_iload_n c29_51 rfl ?_
    refine r_iconst c29_52 ?_
    obtain ⟨s29, h⟩ := h
    obtain ⟨s30, h⟩ := h
    refine r_ias c29_53 s29 s30 ?_
    refine r_iinc c29_54 rfl ?_
    refine r_goto c29_57 ?_
    exact h
theorem t30_0 {d : Nat} {l0 : Nat} {l1 : Nat} {M : Mem} {K : KK} {Q : RR → Mem → KK → Prop} (h : isO K.1 l1 3 = true ∧ ∃ b2 : Nat, (M l1 0) = (b2 : Int) ∧ 0 < b2 ∧ isO K.1 l0 3 = true ∧ ∃ b6 : Nat, (M l0 0) = (b6 : Int) ∧ 0 < b6 ∧ (isO K.1 b2 20 = true ∧ isO K.1 b6 20 = true ∧ 0 ≤ (0 : Int) ∧ 0 ≤ (0 : Int) ∧ 0 ≤ (6 : Int) ∧ (0 : Int) + (6 : Int) ≤ (ln b2 : Int) ∧ (0 : Int) + (6 : Int) ≤ (ln b6 : Int)) ∧ isO K.1 l1 3 = true ∧ ∃ b11 : Nat, ((mcpy M b2 (0 : Int) b6 (0 : Int) (6 : Int)) l1 1) = (b11 : Int) ∧ 0 < b11 ∧ isO K.1 l0 3 = true ∧ ∃ b15 : Nat, ((mcpy M b2 (0 : Int) b6 (0 : Int) (6 : Int)) l0 1) = (b15 : Int) ∧ 0 < b15 ∧ (isO K.1 b11 20 = true ∧ isO K.1 b15 20 = true ∧ 0 ≤ (0 : Int) ∧ 0 ≤ (0 : Int) ∧ 0 ≤ (6 : Int) ∧ (0 : Int) + (6 : Int) ≤ (ln b11 : Int) ∧ (0 : Int) + (6 : Int) ≤ (ln b15 : Int)) ∧ isO K.1 l1 3 = true ∧ ∃ b20 : Nat, ((mcpy (mcpy M b2 (0 : Int) b6 (0 : Int) (6 : Int)) b11 (0 : Int) b15 (0 : Int) (6 : Int)) l1 2) = (b20 : Int) ∧ 0 < b20 ∧ isO K.1 l0 3 = true ∧ ∃ b24 : Nat, ((mcpy (mcpy M b2 (0 : Int) b6 (0 : Int) (6 : Int)) b11 (0 : Int) b15 (0 : Int) (6 : Int)) l0 2) = (b24 : Int) ∧ 0 < b24 ∧ (isO K.1 b20 20 = true ∧ isO K.1 b24 20 = true ∧ 0 ≤ (0 : Int) ∧ 0 ≤ (0 : Int) ∧ 0 ≤ (6 : Int) ∧ (0 : Int) + (6 : Int) ≤ (ln b20 : Int) ∧ (0 : Int) + (6 : Int) ≤ (ln b24 : Int)) ∧ isO K.1 l1 3 = true ∧ ∃ b29 : Nat, ((mcpy (mcpy (mcpy M b2 (0 : Int) b6 (0 : Int) (6 : Int)) b11 (0 : Int) b15 (0 : Int) (6 : Int)) b20 (0 : Int) b24 (0 : Int) (6 : Int)) l1 3) = (b29 : Int) ∧ 0 < b29 ∧ isO K.1 l0 3 = true ∧ ∃ b33 : Nat, ((mcpy (mcpy (mcpy M b2 (0 : Int) b6 (0 : Int) (6 : Int)) b11 (0 : Int) b15 (0 : Int) (6 : Int)) b20 (0 : Int) b24 (0 : Int) (6 : Int)) l0 3) = (b33 : Int) ∧ 0 < b33 ∧ (isO K.1 b29 20 = true ∧ isO K.1 b33 20 = true ∧ 0 ≤ (0 : Int) ∧ 0 ≤ (0 : Int) ∧ 0 ≤ (6 : Int) ∧ (0 : Int) + (6 : Int) ≤ (ln b29 : Int) ∧ (0 : Int) + (6 : Int) ≤ (ln b33 : Int)) ∧ isO K.1 l1 3 = true ∧ isO K.1 l0 3 = true ∧ isO K.1 l1 3 = true ∧ isO K.1 l0 3 = true ∧ Q (.inl none) (mset (mset (mcpy (mcpy (mcpy (mcpy M b2 (0 : Int) b6 (0 : Int) (6 : Int)) b11 (0 : Int) b15 (0 : Int) (6 : Int)) b20 (0 : Int) b24 (0 : Int) (6 : Int)) b29 (0 : Int) b33 (0 : Int) (6 : Int)) l0 4 ((mcpy (mcpy (mcpy (mcpy M b2 (0 : Int) b6 (0 : Int) (6 : Int)) b11 (0 : Int) b15 (0 : Int) (6 : Int)) b20 (0 : Int) b24 (0 : Int) (6 : Int)) b29 (0 : Int) b33 (0 : Int) (6 : Int)) l1 4)) l0 5 ((mset (mcpy (mcpy (mcpy (mcpy M b2 (0 : Int) b6 (0 : Int) (6 : Int)) b11 (0 : Int) b15 (0 : Int) (6 : Int)) b20 (0 : Int) b24 (0 : Int) (6 : Int)) b29 (0 : Int) b33 (0 : Int) (6 : Int)) l0 4 ((mcpy (mcpy (mcpy (mcpy M b2 (0 : Int) b6 (0 : Int) (6 : Int)) b11 (0 : Int) b15 (0 : Int) (6 : Int)) b20 (0 : Int) b24 (0 : Int) (6 : Int)) b29 (0 : Int) b33 (0 : Int) (6 : Int)) l1 4)) l1 5)) K) : Wp d 30 0 [vR l0, vR l1] [] M K Q := by
  refine r_aload_n c30_0 rfl ?_
  obtain ⟨s1, h⟩ := h
  obtain ⟨b2, h⟩ := h
  obtain ⟨s3, h⟩ := h
  obtain ⟨s4, h⟩ := h
  refine r_getR c30_1 s1 s3 s4 ?_
  refine r_iconst c30_4 ?_
  refine r_aload_n c30_5 rfl ?_
  obtain ⟨s5, h⟩ := h
  obtain ⟨b6, h⟩ := h
  obtain ⟨s7, h⟩ := h
  obtain ⟨s8, h⟩ := h
  refine r_getR c30_6 s5 s7 s8 ?_
  refine r_iconst c30_9 ?_
  refine r_bipush c30_10 ?_
  obtain ⟨s9, h⟩ := h
  refine r_cpy c30_12 ⟨s9.1, s9.2.1, s9.2.2.1, s9.2.2.2.1, s9.2.2.2.2.1, s9.2.2.2.2.2.1, s9.2.2.2.2.2.2, Nat.le_of_ble_eq_true rfl⟩ ?_
  refine r_aload_n c30_15 rfl ?_
  obtain ⟨s10, h⟩ := h
  obtain ⟨b11, h⟩ := h
  obtain ⟨s12, h⟩ := h
  obtain ⟨s13, h⟩ := h
  refine r_getR c30_16 s10 s12 s13 ?_
  refine r_iconst c30_19 ?_
  refine r_aload_n c30_20 rfl ?_
  obtain ⟨s14, h⟩ := h
  obtain ⟨b15, h⟩ := h
  obtain ⟨s16, h⟩ := h
  obtain ⟨s17, h⟩ := h
  refine r_getR c30_21 s14 s16 s17 ?_
  refine r_iconst c30_24 ?_
  refine r_bipush c30_25 ?_
  obtain ⟨s18, h⟩ := h
  refine r_cpy c30_27 ⟨s18.1, s18.2.1, s18.2.2.1, s18.2.2.2.1, s18.2.2.2.2.1, s18.2.2.2.2.2.1, s18.2.2.2.2.2.2, Nat.le_of_ble_eq_true rfl⟩ ?_
  refine r_aload_n c30_30 rfl ?_
  obtain ⟨s19, h⟩ := h
  obtain ⟨b20, h⟩ := h
  obtain ⟨s21, h⟩ := h
  obtain ⟨s22, h⟩ := h
  refine r_getR c30_31 s19 s21 s22 ?_
  refine r_iconst c30_34 ?_
  refine r_aload_n c30_35 rfl ?_
  obtain ⟨s23, h⟩ := h
  obtain ⟨b24, h⟩ := h
  obtain ⟨s25, h⟩ := h
  obtain ⟨s26, h⟩ := h
  refine r_getR c30_36 s23 s25 s26 ?_
  refine r_iconst c30_39 ?_
  refine r_bipush c30_40 ?_
  obtain ⟨s27, h⟩ := h
  refine r_cpy c30_42 ⟨s27.1, s27.2.1, s27.2.2.1, s27.2.2.2.1, s27.2.2.2.2.1, s27.2.2.2.2.2.1, s27.2.2.2.2.2.2, Nat.le_of_ble_eq_true rfl⟩ ?_
  refine r_aload_n c30_45 rfl ?_
  obtain ⟨s28, h⟩ := h
  obtain ⟨b29, h⟩ := h
  obtain ⟨s30, h⟩ := h
  obtain ⟨s31, h⟩ := h
  refine r_getR c30_46 s28 s30 s31 ?_
  refine r_iconst c30_49 ?_
  refine r_aload_n c30_50 rfl ?_
  obtain ⟨s32, h⟩ := h
  obtain ⟨b33, h⟩ := h
  obtain ⟨s34, h⟩ := h
  obtain ⟨s35, h⟩ := h
  refine r_getR c30_51 s32 s34 s35 ?_
  refine r_iconst c30_54 ?_
  refine r_bipush c30_55 ?_
  obtain ⟨s36, h⟩ := h
  refine r_cpy c30_57 ⟨s36.1, s36.2.1, s36.2.2.1, s36.2.2.2.1, s36.2.2.2.2.1, s36.2.2.2.2.2.1, s36.2.2.2.2.2.2, Nat.le_of_ble_eq_true rfl⟩ ?_
  refine r_aload_n c30_60 rfl ?_
  refine r_aload_n c30_61 rfl ?_
  obtain ⟨s37, h⟩ := h
  refine r_getI c30_62 s37 ?_
  obtain ⟨s38, h⟩ := h
  refine r_putI c30_65 s38 ?_
  refine r_aload_n c30_68 rfl ?_
  refine r_aload_n c30_69 rfl ?_
  obtain ⟨s39, h⟩ := h
  refine r_getI c30_70 s39 ?_
  obtain ⟨s40, h⟩ := h
  refine r_putI c30_73 s40 ?_
  exact r_ret c30_76 h
theorem t31_0 {d : Nat} {l0 : Nat} {l1 : Nat} {l2 : Int} {l3 : Int} {M : Mem} {K : KK} {Q : RR → Mem → KK → Prop} (h : isO K.1 l0 3 = true ∧ ∃ b2 : Nat, (M l0 1) = (b2 : Int) ∧ 0 < b2 ∧ isO K.1 b2 20 = true ∧ (0 ≤ l2 ∧ l2 < (ln b2 : Int)) ∧ (¬ (M b2 (Int.toNat l2)) = (-1 : Int) → Wp (d + 1) 31 20 [vR l0, vR l1, vI l2, vI l3] [] M K Q) ∧ (¬ (¬ (M b2 (Int.toNat l2)) = (-1 : Int)) → isO K.1 l0 3 = true ∧ Wm d 37 [vR l0, vR l1, vI l2, vI l3] M K (Bk d 31 14 17 37 [vR l0, vR l1, vI l2, vI l3] [] Q))) : Wp (d + 1) 31 0 [vR l0, vR l1, vI l2, vI l3] [] M K Q := by
  refine r_aload_n c31_0 rfl ?_
  obtain ⟨s1, h⟩ := h
  obtain ⟨b2, h⟩ := h
  obtain ⟨s3, h⟩ := h
  obtain ⟨s4, h⟩ := h
  refine r_getR c31_1 s1 s3 s4 ?_
  refine r_iload_n c31_4 rfl ?_
  obtain ⟨s5, h⟩ := h
  obtain ⟨s6, h⟩ := h
  refine r_ia c31_5 s5 s6 ?_
  refine r_iconst c31_6 ?_
  refine r_icmpP (P := ¬ (M b2 (Int.toNat l2)) = (-1 : Int)) c31_7 rfl (fun hc => ?_) (fun hc => ?_)
  · replace h := h.1 hc
    exact h
  · replace h := h.2 hc
    refine r_aload_n c31_10 rfl ?_
    refine r_aload_n c31_11 rfl ?_
    refine r_iload_n c31_12 rfl ?_
    refine r_iload_n c31_13 rfl ?_
    obtain ⟨s7, h⟩ := h
    exact r_call c31_14 rfl rfl (Nat.le_of_ble_eq_true rfl) (okc_r rfl rfl s7) h
theorem t31_17 {d : Nat} {l0 : Nat} {l1 : Nat} {l2 : Int} {l3 : Int} {t0 : Int} {M : Mem} {K : KK} {Q : RR → Mem → KK → Prop} (h : (¬ t0 = (0 : Int) → isO K.1 l0 3 = true ∧ ∃ b2 : Nat, (M l0 1) = (b2 : Int) ∧ 0 < b2 ∧ isO K.1 b2 20 = true ∧ (0 ≤ l2 ∧ l2 < (ln b2 : Int)) ∧ Q (.inl (some (vI (1 : Int)))) (mset M b2 (Int.toNat l2) l3) K) ∧ (¬ (¬ t0 = (0 : Int)) → Wp d 31 20 [vR l0, vR l1, vI l2, vI l3] [] M K Q)) : Wp d 31 17 [vR l0, vR l1, vI l2, vI l3] [vI t0] M K Q := by
  refine r_ifP (P := ¬ t0 = (0 : Int)) c31_17 rfl (fun hc => ?_) (fun hc => ?_)
  · replace h := h.1 hc
    refine r_aload_n c31_22 rfl ?_
    obtain ⟨s1, h⟩ := h
    obtain ⟨b2, h⟩ := h
    obtain ⟨s3, h⟩ := h
    obtain ⟨s4, h⟩ := h
    refine r_getR c31_23 s1 s3 s4 ?_
    refine r_iload_n c31_26 rfl ?_
    refine r_iload_n c31_27 rfl ?_
    obtain ⟨s5, h⟩ := h
    obtain ⟨s6, h⟩ := h
    refine r_ias c31_28 s5 s6 ?_
    refine r_iconst c31_29 ?_
    exact r_iret c31_30 (by decide) h
  · replace h := h.2 hc
    exact h
theorem t31_20 {d : Nat} {l0 : Nat} {l1 : Nat} {l2 : Int} {l3 : Int} {M : Mem} {K : KK} {Q : RR → Mem → KK → Prop} (h : Q (.inl (some (vI (0 : Int)))) M K) : Wp d 31 20 [vR l0, vR l1, vI l2, vI l3] [] M K Q := by
  refine r_iconst c31_20 ?_
  exact r_iret c31_21 (by decide) h
theorem t32_0 {d : Nat} {l0 : Nat} {l1 : Int} {M : Mem} {K : KK} {Q : RR → Mem → KK → Prop} (h : isO K.1 l0 3 = true ∧ ∃ b2 : Nat, (M l0 1) = (b2 : Int) ∧ 0 < b2 ∧ isO K.1 b2 20 = true ∧ (0 ≤ l1 ∧ l1 < (ln b2 : Int)) ∧ (¬ (M b2 (Int.toNat l1)) = (-1 : Int) → isO K.1 l0 3 = true ∧ ∃ b8 : Nat, (M l0 1) = (b8 : Int) ∧ 0 < b8 ∧ isO K.1 b8 20 = true ∧ (0 ≤ l1 ∧ l1 < (ln b8 : Int)) ∧ isO K.1 l0 3 = true ∧ ∃ b14 : Nat, ((mset M b8 (Int.toNat l1) (-1 : Int)) l0 2) = (b14 : Int) ∧ 0 < b14 ∧ isO K.1 b14 20 = true ∧ (0 ≤ l1 ∧ l1 < (ln b14 : Int)) ∧ isO K.1 l0 3 = true ∧ ∃ b20 : Nat, ((mset (mset M b8 (Int.toNat l1) (-1 : Int)) b14 (Int.toNat l1) (0 : Int)) l0 3) = (b20 : Int) ∧ 0 < b20 ∧ isO K.1 b20 20 = true ∧ (0 ≤ l1 ∧ l1 < (ln b20 : Int)) ∧ Q (.inl (some (vI (1 : Int)))) (mset (mset (mset M b8 (Int.toNat l1) (-1 : Int)) b14 (Int.toNat l1) (0 : Int)) b20 (Int.toNat l1) (0 : Int)) K) ∧ (¬ (¬ (M b2 (Int.toNat l1)) = (-1 : Int)) → Q (.inl (some (vI (0 : Int)))) M K)) : Wp d 32 0 [vR l0, vI l1] [] M K Q := by
  refine r_aload_n c32_0 rfl ?_
  obtain ⟨s1, h⟩ := h
  obtain ⟨b2, h⟩ := h
  obtain ⟨s3, h⟩ := h
  obtain ⟨s4, h⟩ := h
  refine r_getR c32_1 s1 s3 s4 ?_
  refine r_iload_n c32_4 rfl ?_
  obtain ⟨s5, h⟩ := h
  obtain ⟨s6, h⟩ := h
  refine r_ia c32_5 s5 s6 ?_
  refine r_iconst c32_6 ?_
  refine r_icmpP (P := ¬ (M b2 (Int.toNat l1)) = (-1 : Int)) c32_7 rfl (fun hc => ?_) (fun hc => ?_)
  · replace h := h.1 hc
    refine r_aload_n c32_12 rfl ?_
    obtain ⟨s7, h⟩ := h
    obtain ⟨b8, h⟩ := h
    obtain ⟨s9, h⟩ := h
    obtain ⟨s10, h⟩ := h
    refine r_getR c32_13 s7 s9 s10 ?_
    refine r_iload_n c32_16 rfl ?_
    refine r_iconst c32_17 ?_
    obtain ⟨s11, h⟩ := h
    obtain ⟨s12, h⟩ := h
    refine r_ias c32_18 s11 s12 ?_
    refine r_aload_n c32_19 rfl ?_
    obtain ⟨s13, h⟩ := h
    obtain ⟨b14, h⟩ := h
    obtain ⟨s15, h⟩ := h
    obtain ⟨s16, h⟩ := h
    refine r_getR c32_20 s13 s15 s16 ?_
    refine r_iload_n c32_23 rfl ?_
    refine r_iconst c32_24 ?_
    obtain ⟨s17, h⟩ := h
    obtain ⟨s18, h⟩ := h
    refine r_ias c32_25 s17 s18 ?_
    refine r_aload_n c32_26 rfl ?_
    obtain ⟨s19, h⟩ := h
    obtain ⟨b20, h⟩ := h
    obtain ⟨s21, h⟩ := h
    obtain ⟨s22, h⟩ := h
    refine r_getR c32_27 s19 s21 s22 ?_
    refine r_iload_n c32_30 rfl ?_
    refine r_iconst c32_31 ?_
    obtain ⟨s23, h⟩ := h
    obtain ⟨s24, h⟩ := h
    refine r_ias c32_32 s23 s24 ?_
    refine r_iconst c32_33 ?_
    exact r_iret c32_34 (by decide) h
  · replace h := h.2 hc
    refine r_iconst c32_10 ?_
    exact r_iret c32_11 (by decide) h
theorem t33_0 {d : Nat} {l0 : Nat} {l1 : Int} {M : Mem} {K : KK} {Q : RR → Mem → KK → Prop} (h : isO K.1 l0 3 = true ∧ ∃ b2 : Nat, (M l0 1) = (b2 : Int) ∧ 0 < b2 ∧ isO K.1 b2 20 = true ∧ (0 ≤ l1 ∧ l1 < (ln b2 : Int)) ∧ ((M b2 (Int.toNat l1)) = (-1 : Int) → Wp d 33 21 [vR l0, vI l1] [] M K Q) ∧ (¬ ((M b2 (Int.toNat l1)) = (-1 : Int)) → isO K.1 l0 3 = true ∧ ∃ b8 : Nat, (M l0 2) = (b8 : Int) ∧ 0 < b8 ∧ isO K.1 b8 20 = true ∧ (0 ≤ l1 ∧ l1 < (ln b8 : Int)) ∧ ((M b8 (Int.toNat l1)) < (9 : Int) → isO K.1 l0 3 = true ∧ ∃ b14 : Nat, (M l0 2) = (b14 : Int) ∧ 0 < b14 ∧ isO K.1 b14 20 = true ∧ (0 ≤ l1 ∧ l1 < (ln b14 : Int)) ∧ isO K.1 b14 20 = true ∧ (0 ≤ l1 ∧ l1 < (ln b14 : Int)) ∧ Q (.inl (some (vI (1 : Int)))) (mset M b14 (Int.toNat l1) (w32 ((M b14 (Int.toNat l1)) + (1 : Int)))) K) ∧ (¬ ((M b8 (Int.toNat l1)) < (9 : Int)) → Wp d 33 21 [vR l0, vI l1] [] M K Q))) : Wp d 33 0 [vR l0, vI l1] [] M K Q := by
  refine r_aload_n c33_0 rfl ?_
  obtain ⟨s1, h⟩ := h
  obtain ⟨b2, h⟩ := h
  obtain ⟨s3, h⟩ := h
  obtain ⟨s4, h⟩ := h
  refine r_getR c33_1 s1 s3 s4 ?_
  refine r_iload_n c33_4 rfl ?_
  obtain ⟨s5, h⟩ := h
  obtain ⟨s6, h⟩ := h
  refine r_ia c33_5 s5 s6 ?_
  refine r_iconst c33_6 ?_
  refine r_icmpP (P := (M b2 (Int.toNat l1)) = (-1 : Int)) c33_7 rfl (fun hc => ?_) (fun hc => ?_)
  · replace h := h.1 hc
    exact h
  · replace h := h.2 hc
    refine r_aload_n c33_10 rfl ?_
    obtain ⟨s7, h⟩ := h
    obtain ⟨b8, h⟩ := h
    obtain ⟨s9, h⟩ := h
    obtain ⟨s10, h⟩ := h
    refine r_getR c33_11 s7 s9 s10 ?_
    refine r_iload_n c33_14 rfl ?_
    obtain ⟨s11, h⟩ := h
    obtain ⟨s12, h⟩ := h
    refine r_ia c33_15 s11 s12 ?_
    refine r_bipush c33_16 ?_
    refine r_icmpP (P := (M b8 (Int.toNat l1)) < (9 : Int)) c33_18 rfl (fun hc => ?_) (fun hc => ?_)
    · replace h := h.1 hc
      refine r_aload_n c33_23 rfl ?_
      obtain ⟨s13, h⟩ := h
      obtain ⟨b14, h⟩ := h
      obtain ⟨s15, h⟩ := h
      obtain ⟨s16, h⟩ := h
      refine r_getR c33_24 s13 s15 s16 ?_
      refine r_iload_n c33_27 rfl ?_
      refine r_dup2 c33_28 ?_
      obtain ⟨s17, h⟩ := h
      obtain ⟨s18, h⟩ := h
      refine r_ia c33_29 s17 s18 ?_
      refine r_iconst c33_30 ?_
      refine r_iadd c33_31 ?_
      obtain ⟨s19, h⟩ := h
      obtain ⟨s20, h⟩ := h
      refine r_ias c33_32 s19 s20 ?_
      refine r_iconst c33_33 ?_
      exact r_iret c33_34 (by decide) h
    · replace h := h.2 hc
      exact h
theorem t33_21 {d : Nat} {l0 : Nat} {l1 : Int} {M : Mem} {K : KK} {Q : RR → Mem → KK → Prop} (h : Q (.inl (some (vI (0 : Int)))) M K) : Wp d 33 21 [vR l0, vI l1] [] M K Q := by
  refine r_iconst c33_21 ?_
  exact r_iret c33_22 (by decide) h
theorem t34_0 {d : Nat} {l0 : Nat} {l1 : Int} {M : Mem} {K : KK} {Q : RR → Mem → KK → Prop} (h : isO K.1 l0 3 = true ∧ ∃ b2 : Nat, (M l0 1) = (b2 : Int) ∧ 0 < b2 ∧ isO K.1 b2 20 = true ∧ (0 ≤ l1 ∧ l1 < (ln b2 : Int)) ∧ ((M b2 (Int.toNat l1)) = (-1 : Int) → Wp d 34 27 [vR l0, vI l1] [] M K Q) ∧ (¬ ((M b2 (Int.toNat l1)) = (-1 : Int)) → isO K.1 l0 3 = true ∧ ∃ b8 : Nat, (M l0 3) = (b8 : Int) ∧ 0 < b8 ∧ isO K.1 b8 20 = true ∧ (0 ≤ l1 ∧ l1 < (ln b8 : Int)) ∧ ((M b8 (Int.toNat l1)) = (1 : Int) → Wp d 34 27 [vR l0, vI l1] [] M K Q) ∧ (¬ ((M b8 (Int.toNat l1)) = (1 : Int)) → isO K.1 l0 3 = true ∧ ((0 : Int) < (M l0 5) → isO K.1 l0 3 = true ∧ ∃ b15 : Nat, (M l0 3) = (b15 : Int) ∧ 0 < b15 ∧ isO K.1 b15 20 = true ∧ (0 ≤ l1 ∧ l1 < (ln b15 : Int)) ∧ isO K.1 l0 3 = true ∧ isO K.1 l0 3 = true ∧ Q (.inl (some (vI (1 : Int)))) (mset (mset M b15 (Int.toNat l1) (1 : Int)) l0 5 (w32 (((mset M b15 (Int.toNat l1) (1 : Int)) l0 5) - (1 : Int)))) K) ∧ (¬ ((0 : Int) < (M l0 5)) → Wp d 34 27 [vR l0, vI l1] [] M K Q)))) : Wp d 34 0 [vR l0, vI l1] [] M K Q := by
  refine r_aload_n c34_0 rfl ?_
  obtain ⟨s1, h⟩ := h
  obtain ⟨b2, h⟩ := h
  obtain ⟨s3, h⟩ := h
  obtain ⟨s4, h⟩ := h
  refine r_getR c34_1 s1 s3 s4 ?_
  refine r_iload_n c34_4 rfl ?_
  obtain ⟨s5, h⟩ := h
  obtain ⟨s6, h⟩ := h
  refine r_ia c34_5 s5 s6 ?_
  refine r_iconst c34_6 ?_
  refine r_icmpP (P := (M b2 (Int.toNat l1)) = (-1 : Int)) c34_7 rfl (fun hc => ?_) (fun hc => ?_)
  · replace h := h.1 hc
    exact h
  · replace h := h.2 hc
    refine r_aload_n c34_10 rfl ?_
    obtain ⟨s7, h⟩ := h
    obtain ⟨b8, h⟩ := h
    obtain ⟨s9, h⟩ := h
    obtain ⟨s10, h⟩ := h
    refine r_getR c34_11 s7 s9 s10 ?_
    refine r_iload_n c34_14 rfl ?_
    obtain ⟨s11, h⟩ := h
    obtain ⟨s12, h⟩ := h
    refine r_ia c34_15 s11 s12 ?_
    refine r_iconst c34_16 ?_
    refine r_icmpP (P := (M b8 (Int.toNat l1)) = (1 : Int)) c34_17 rfl (fun hc => ?_) (fun hc => ?_)
    · replace h := h.1 hc
      exact h
    · replace h := h.2 hc
      refine r_aload_n c34_20 rfl ?_
      obtain ⟨s13, h⟩ := h
      refine r_getI c34_21 s13 ?_
      refine r_ifP (P := (0 : Int) < (M l0 5)) c34_24 rfl (fun hc => ?_) (fun hc => ?_)
      · replace h := h.1 hc
        refine r_aload_n c34_29 rfl ?_
        obtain ⟨s14, h⟩ := h
        obtain ⟨b15, h⟩ := h
        obtain ⟨s16, h⟩ := h
        obtain ⟨s17, h⟩ := h
        refine r_getR c34_30 s14 s16 s17 ?_
        refine r_iload_n c34_33 rfl ?_
        refine r_iconst c34_34 ?_
        obtain ⟨s18, h⟩ := h
        obtain ⟨s19, h⟩ := h
        refine r_ias c34_35 s18 s19 ?_
        refine r_aload_n c34_36 rfl ?_
        refine r_dupr c34_37 ?_
        obtain ⟨s20, h⟩ := h
        refine r_getI c34_38 s20 ?_
        refine r_iconst c34_41 ?_
        refine r_isub c34_42 ?_
        obtain ⟨s21, h⟩ := h
        refine r_putI c34_43 s21 ?_
        refine r_iconst c34_46 ?_
        exact r_iret c34_47 (by decide) h
      · replace h := h.2 hc
        exact h
theorem t34_27 {d : Nat} {l0 : Nat} {l1 : Int} {M : Mem} {K : KK} {Q : RR → Mem → KK → Prop} (h : Q (.inl (some (vI (0 : Int)))) M K) : Wp d 34 27 [vR l0, vI l1] [] M K Q := by
  refine r_iconst c34_27 ?_
  exact r_iret c34_28 (by decide) h
theorem t35_0 {d : Nat} {l0 : Nat} {l1 : Nat} {l2 : Int} {M : Mem} {K : KK} {Q : RR → Mem → KK → Prop} (h : isO K.1 l0 3 = true ∧ Wm d 38 [vR l0, vR l1, vI l2] M K (Bk d 35 3 6 38 [vR l0, vR l1, vI l2, vU] [] Q)) : Wp (d + 1) 35 0 [vR l0, vR l1, vI l2, vU] [] M K Q := by
  refine r_aload_n c35_0 rfl ?_
  refine r_aload_n c35_1 rfl ?_
  refine r_iload_n c35_2 rfl ?_
  obtain ⟨s1, h⟩ := h
  exact r_call c35_3 rfl rfl (Nat.le_of_ble_eq_true rfl) (okc_r rfl rfl s1) h
theorem t35_6 {d : Nat} {l0 : Nat} {l1 : Nat} {l2 : Int} {t0 : Int} {M : Mem} {K : KK} {Q : RR → Mem → KK → Prop} (h : (¬ t0 = (-1 : Int) → isO K.1 l0 3 = true ∧ ∃ b2 : Nat, (M l0 0) = (b2 : Int) ∧ 0 < b2 ∧ isO K.1 l0 3 = true ∧ ∃ b6 : Nat, (M l0 0) = (b6 : Int) ∧ 0 < b6 ∧ isO K.1 b6 20 = true ∧ (0 ≤ t0 ∧ t0 < (ln b6 : Int)) ∧ isO K.1 b2 20 = true ∧ (0 ≤ t0 ∧ t0 < (ln b2 : Int)) ∧ Q (.inl (some (vI (1 : Int)))) (mset M b2 (Int.toNat t0) (if (w32 ((M b6 (Int.toNat t0)) + (5 : Int))) < (99 : Int) then (w32 ((M b6 (Int.toNat t0)) + (5 : Int))) else (99 : Int))) K) ∧ (¬ (¬ t0 = (-1 : Int)) → Q (.inl (some (vI (0 : Int)))) M K)) : Wp d 35 6 [vR l0, vR l1, vI l2, vU] [vI t0] M K Q := by
  refine r_istore_n c35_6 (Nat.le_of_ble_eq_true rfl) ?_
  refine r_iload_n c35_7 rfl ?_
  refine r_iconst c35_8 ?_
  refine r_icmpP (P := ¬ t0 = (-1 : Int)) c35_9 rfl (fun hc => ?_) (fun hc => ?_)
  · replace h := h.1 hc
    refine r_aload_n c35_14 rfl ?_
    obtain ⟨s1, h⟩ := h
    obtain ⟨b2, h⟩ := h
    obtain ⟨s3, h⟩ := h
    obtain ⟨s4, h⟩ := h
    refine r_getR c35_15 s1 s3 s4 ?_
    refine r_iload_n c35_18 rfl ?_
    refine r_bipush c35_19 ?_
    refine r_aload_n c35_21 rfl ?_
    obtain ⟨s5, h⟩ := h
    obtain ⟨b6, h⟩ := h
    obtain ⟨s7, h⟩ := h
    obtain ⟨s8, h⟩ := h
    refine r_getR c35_22 s5 s7 s8 ?_
    refine r_iload_n c35_25 rfl ?_
    obtain ⟨s9, h⟩ := h
    obtain ⟨s10, h⟩ := h
    refine r_ia c35_26 s9 s10 ?_
    refine r_iconst c35_27 ?_
    refine r_iadd c35_28 ?_
    refine r_min c35_29 (Nat.le_of_ble_eq_true rfl) ?_
    obtain ⟨s11, h⟩ := h
    obtain ⟨s12, h⟩ := h
    refine r_ias c35_32 s11 s12 ?_
    refine r_iconst c35_33 ?_
    exact r_iret c35_34 (by decide) h
  · replace h := h.2 hc
    refine r_iconst c35_12 ?_
    exact r_iret c35_13 (by decide) h
theorem t36_0 {d : Nat} {l0 : Nat} {l1 : Nat} {l2 : Int} {M : Mem} {K : KK} {Q : RR → Mem → KK → Prop} (h : Wp d 36 2 [vR l0, vR l1, vI l2, vI (0 : Int)] [] M K Q) : Wp d 36 0 [vR l0, vR l1, vI l2, vU] [] M K Q := by
  refine r_iconst c36_0 ?_
  refine r_istore_n c36_1 (Nat.le_of_ble_eq_true rfl) ?_
  exact h
theorem t36_2 {d : Nat} {l0 : Nat} {l1 : Nat} {l2 : Int} {l3 : Int} {M : Mem} {K : KK} {Q : RR → Mem → KK → Prop} (h : isO K.1 l1 0 = true ∧ ((M l1 6) ≤ l3 → isO K.1 l0 3 = true ∧ isO K.1 l0 3 = true ∧ Q (.inl none) (mset M l0 4 (w32 ((M l0 4) + (1 : Int)))) K) ∧ (¬ ((M l1 6) ≤ l3) → isO K.1 l0 3 = true ∧ ∃ b5 : Nat, (M l0 1) = (b5 : Int) ∧ 0 < b5 ∧ isO K.1 b5 20 = true ∧ (0 ≤ l3 ∧ l3 < (ln b5 : Int)) ∧ ((M b5 (Int.toNat l3)) = (-1 : Int) → Wp (d + 1) 36 53 [vR l0, vR l1, vI l2, vI l3] [] M K Q) ∧ (¬ ((M b5 (Int.toNat l3)) = (-1 : Int)) → isO K.1 l0 3 = true ∧ ∃ b11 : Nat, (M l0 0) = (b11 : Int) ∧ 0 < b11 ∧ isO K.1 b11 20 = true ∧ (0 ≤ l3 ∧ l3 < (ln b11 : Int)) ∧ ((M b11 (Int.toNat l3)) ≤ (0 : Int) → Wp (d + 1) 36 53 [vR l0, vR l1, vI l2, vI l3] [] M K Q) ∧ (¬ ((M b11 (Int.toNat l3)) ≤ (0 : Int)) → isO K.1 l0 3 = true ∧ ∃ b17 : Nat, (M l0 0) = (b17 : Int) ∧ 0 < b17 ∧ isO K.1 l0 3 = true ∧ ∃ b21 : Nat, (M l0 0) = (b21 : Int) ∧ 0 < b21 ∧ isO K.1 b21 20 = true ∧ (0 ≤ l3 ∧ l3 < (ln b21 : Int)) ∧ isO K.1 l0 3 = true ∧ Wm d 44 [vR l0, vR l1, vI l3, vI l2] M K (Bk d 36 45 48 44 [vR l0, vR l1, vI l2, vI l3] [vI (M b21 (Int.toNat l3)), vI (0 : Int), vI l3, vR b17] Q))))) : Wp (d + 1) 36 2 [vR l0, vR l1, vI l2, vI l3] [] M K Q := by
  refine r_iload_n c36_2 rfl ?_
  refine r_aload_n c36_3 rfl ?_
  obtain ⟨s1, h⟩ := h
  refine r_getI c36_4 s1 ?_
  refine r_icmpP (P := (M l1 6) ≤ l3) c36_7 rfl (fun hc => ?_) (fun hc => ?_)
  · replace h := h.1 hc
    refine r_aload_n c36_73 rfl ?_
    refine r_dupr c36_74 ?_
    obtain ⟨s2, h⟩ := h
    refine r_getI c36_75 s2 ?_
    refine r_iconst c36_78 ?_
    refine r_iadd c36_79 ?_
    obtain ⟨s3, h⟩ := h
    refine r_putI c36_80 s3 ?_
    exact r_ret c36_83 h
  · replace h := h.2 hc
    refine r_aload_n c36_10 rfl ?_
    obtain ⟨s4, h⟩ := h
    obtain ⟨b5, h⟩ := h
    obtain ⟨s6, h⟩ := h
    obtain ⟨s7, h⟩ := h
    refine r_getR c36_11 s4 s6 s7 ?_
    refine r_iload_n c36_14 rfl ?_
    obtain ⟨s8, h⟩ := h
    obtain ⟨s9, h⟩ := h
    refine r_ia c36_15 s8 s9 ?_
    refine r_iconst c36_16 ?_
    refine r_icmpP (P := (M b5 (Int.toNat l3)) = (-1 : Int)) c36_17 rfl (fun hc => ?_) (fun hc => ?_)
    · replace h := h.1 hc
      exact h
    · replace h := h.2 hc
      refine r_aload_n c36_20 rfl ?_
      obtain ⟨s10, h⟩ := h
      obtain ⟨b11, h⟩ := h
      obtain ⟨s12, h⟩ := h
      obtain ⟨s13, h⟩ := h
      refine r_getR c36_21 s10 s12 s13 ?_
      refine r_iload_n c36_24 rfl ?_
      obtain ⟨s14, h⟩ := h
      obtain ⟨s15, h⟩ := h
      refine r_ia c36_25 s14 s15 ?_
      refine r_ifP (P := (M b11 (Int.toNat l3)) ≤ (0 : Int)) c36_26 rfl (fun hc => ?_) (fun hc => ?_)
      · replace h := h.1 hc
        exact h
      · replace h := h.2 hc
        refine r_aload_n c36_29 rfl ?_
        obtain ⟨s16, h⟩ := h
        obtain ⟨b17, h⟩ := h
        obtain ⟨s18, h⟩ := h
        obtain ⟨s19, h⟩ := h
        refine r_getR c36_30 s16 s18 s19 ?_
        refine r_iload_n c36_33 rfl ?_
        refine r_iconst c36_34 ?_
        refine r_aload_n c36_35 rfl ?_
        obtain ⟨s20, h⟩ := h
        obtain ⟨b21, h⟩ := h
        obtain ⟨s22, h⟩ := h
        obtain ⟨s23, h⟩ := h
        refine r_getR c36_36 s20 s22 s23 ?_
        refine r_iload_n c36_39 rfl ?_
        obtain ⟨s24, h⟩ := h
        obtain ⟨s25, h⟩ := h
        refine r_ia c36_40 s24 s25 ?_
        refine r_aload_n c36_41 rfl ?_
        refine r_aload_n c36_42 rfl ?_
        refine r_iload_n c36_43 rfl ?_
        refine r_iload_n c36_44 rfl ?_
        obtain ⟨s26, h⟩ := h
        exact r_call c36_45 rfl rfl (Nat.le_of_ble_eq_true rfl) (okc_r rfl rfl s26) h
theorem t36_48 {d : Nat} {l0 : Nat} {l1 : Nat} {l2 : Int} {l3 : Int} {t0 : Nat} {t1 : Int} {t2 : Int} {t3 : Int} {t4 : Int} {M : Mem} {K : KK} {Q : RR → Mem → KK → Prop} (h : isO K.1 t0 20 = true ∧ (0 ≤ t1 ∧ t1 < (ln t0 : Int)) ∧ Wp d 36 53 [vR l0, vR l1, vI l2, vI l3] [] (mset M t0 (Int.toNat t1) (if t2 < (w32 (t3 - t4)) then (w32 (t3 - t4)) else t2)) K Q) : Wp d 36 48 [vR l0, vR l1, vI l2, vI l3] [vI t4, vI t3, vI t2, vI t1, vR t0] M K Q := by
  refine r_isub c36_48 ?_
  refine r_max c36_49 (Nat.le_of_ble_eq_true rfl) ?_
  obtain ⟨s1, h⟩ := h
  obtain ⟨s2, h⟩ := h
  refine r_ias c36_52 s1 s2 ?_
  exact h
theorem t36_53 {d : Nat} {l0 : Nat} {l1 : Nat} {l2 : Int} {l3 : Int} {M : Mem} {K : KK} {Q : RR → Mem → KK → Prop} (h : isO K.1 l0 3 = true ∧ ∃ b2 : Nat, (M l0 2) = (b2 : Int) ∧ 0 < b2 ∧ isO K.1 b2 20 = true ∧ (0 ≤ l3 ∧ l3 < (ln b2 : Int)) ∧ isO K.1 l0 3 = true ∧ ∃ b8 : Nat, ((mset M b2 (Int.toNat l3) (0 : Int)) l0 3) = (b8 : Int) ∧ 0 < b8 ∧ isO K.1 b8 20 = true ∧ (0 ≤ l3 ∧ l3 < (ln b8 : Int)) ∧ Wp d 36 2 [vR l0, vR l1, vI l2, vI (w32 (l3 + 1))] [] (mset (mset M b2 (Int.toNat l3) (0 : Int)) b8 (Int.toNat l3) (0 : Int)) K Q) : Wp d 36 53 [vR l0, vR l1, vI l2, vI l3] [] M K Q := by
  refine r_aload_n c36_53 rfl ?_
  obtain ⟨s1, h⟩ := h
  obtain ⟨b2, h⟩ := h
  obtain ⟨s3, h⟩ := h
  obtain ⟨s4, h⟩ := h
  refine r_getR c36_54 s1 s3 s4 ?_
  refine r_iload_n c36_57 rfl ?_
  refine r_iconst c36_58 ?_
  obtain ⟨s5, h⟩ := h
  obtain ⟨s6, h⟩ := h
  refine r_ias c36_59 s5 s6 ?_
  refine r_aload_n c36_60 rfl ?_
  obtain ⟨s7, h⟩ := h
  obtain ⟨b8, h⟩ := h
  obtain ⟨s9, h⟩ := h
  obtain ⟨s10, h⟩ := h
  refine r_getR c36_61 s7 s9 s10 ?_
  refine r_iload_n c36_64 rfl ?_
  refine r_iconst c36_65 ?_
  obtain ⟨s11, h⟩ := h
  obtain ⟨s12, h⟩ := h
  refine r_ias c36_66 s11 s12 ?_
  refine r_iinc c36_67 rfl ?_
  refine r_goto c36_70 ?_
  exact h
theorem t37_0 {d : Nat} {l0 : Nat} {l1 : Nat} {l2 : Int} {l3 : Int} {M : Mem} {K : KK} {Q : RR → Mem → KK → Prop} (h : isO K.1 l1 0 = true ∧ ∃ b2 : Nat, (M l1 1) = (b2 : Int) ∧ 0 < b2 ∧ isO K.1 b2 20 = true ∧ (0 ≤ l2 ∧ l2 < (ln b2 : Int)) ∧ isO K.1 l1 0 = true ∧ ((w32 (l3 + (M b2 (Int.toNat l2)))) ≤ (M l1 5) → Wp d 37 24 [vR l0, vR l1, vI l2, vI l3, vI (w32 (l3 + (M b2 (Int.toNat l2)))), vI (0 : Int), vU] [] M K Q) ∧ (¬ ((w32 (l3 + (M b2 (Int.toNat l2)))) ≤ (M l1 5)) → Q (.inl (some (vI (0 : Int)))) M K)) : Wp d 37 0 [vR l0, vR l1, vI l2, vI l3, vU, vU, vU] [] M K Q := by
  refine r_iload_n c37_0 rfl ?_
  refine r_aload_n c37_1 rfl ?_
  obtain ⟨s1, h⟩ := h
  obtain ⟨b2, h⟩ := h
  obtain ⟨s3, h⟩ := h
  obtain ⟨s4, h⟩ := h
  refine r_getR c37_2 s1 s3 s4 ?_
  refine r_iload_n c37_5 rfl ?_
  obtain ⟨s5, h⟩ := h
  obtain ⟨s6, h⟩ := h
  refine r_ia c37_6 s5 s6 ?_
  refine r_iadd c37_7 ?_
  refine r_istore c37_8 (Nat.le_of_ble_eq_true rfl) ?_
  refine r_iload c37_10 rfl ?_
  refine r_aload_n c37_12 rfl ?_
  obtain ⟨s7, h⟩ := h
  refine r_getI c37_13 s7 ?_
  refine r_icmpP (P := (w32 (l3 + (M b2 (Int.toNat l2)))) ≤ (M l1 5)) c37_16 rfl (fun hc => ?_) (fun hc => ?_)
  · replace h := h.1 hc
    refine r_iconst c37_21 ?_
    refine r_istore c37_22 (Nat.le_of_ble_eq_true rfl) ?_
    exact h
  · replace h := h.2 hc
    refine r_iconst c37_19 ?_
    exact r_iret c37_20 (by decide) h
theorem t37_24 {d : Nat} {l0 : Nat} {l1 : Nat} {l2 : Int} {l3 : Int} {l4 : Int} {l5 : Int} {l6 : PV} {M : Mem} {K : KK} {Q : RR → Mem → KK → Prop} (h : isO K.1 l1 0 = true ∧ ((M l1 6) ≤ l5 → Q (.inl (some (vI (1 : Int)))) M K) ∧ (¬ ((M l1 6) ≤ l5) → isO K.1 l0 3 = true ∧ ∃ b3 : Nat, (M l0 1) = (b3 : Int) ∧ 0 < b3 ∧ isO K.1 b3 20 = true ∧ (0 ≤ l5 ∧ l5 < (ln b3 : Int)) ∧ ((M b3 (Int.toNat l5)) = (-1 : Int) → Wp d 37 75 [vR l0, vR l1, vI l2, vI l3, vI l4, vI l5, l6] [] M K Q) ∧ (¬ ((M b3 (Int.toNat l5)) = (-1 : Int)) → isO K.1 l0 3 = true ∧ ∃ b9 : Nat, (M l0 1) = (b9 : Int) ∧ 0 < b9 ∧ isO K.1 b9 20 = true ∧ (0 ≤ l5 ∧ l5 < (ln b9 : Int)) ∧ (l4 ≤ (M b9 (Int.toNat l5)) → Wp d 37 75 [vR l0, vR l1, vI l2, vI l3, vI l4, vI l5, l6] [] M K Q) ∧ (¬ (l4 ≤ (M b9 (Int.toNat l5))) → isO K.1 l0 3 = true ∧ ∃ b15 : Nat, (M l0 1) = (b15 : Int) ∧ 0 < b15 ∧ isO K.1 b15 20 = true ∧ (0 ≤ l5 ∧ l5 < (ln b15 : Int)) ∧ isO K.1 l1 0 = true ∧ ∃ b21 : Nat, (M l1 1) = (b21 : Int) ∧ 0 < b21 ∧ isO K.1 b21 20 = true ∧ (0 ≤ l5 ∧ l5 < (ln b21 : Int)) ∧ (l3 < (w32 ((M b15 (Int.toNat l5)) + (M b21 (Int.toNat l5)))) → Wp d 37 80 [vR l0, vR l1, vI l2, vI l3, vI l4, vI l5, l6] [vI (0 : Int)] M K Q) ∧ (¬ (l3 < (w32 ((M b15 (Int.toNat l5)) + (M b21 (Int.toNat l5))))) → Wp d 37 75 [vR l0, vR l1, vI l2, vI l3, vI l4, vI l5, l6] [] M K Q))))) : Wp d 37 24 [vR l0, vR l1, vI l2, vI l3, vI l4, vI l5, l6] [] M K Q := by
  refine r_iload c37_24 rfl ?_
  refine r_aload_n c37_26 rfl ?_
  obtain ⟨s1, h⟩ := h
  refine r_getI c37_27 s1 ?_
  refine r_icmpP (P := (M l1 6) ≤ l5) c37_30 rfl (fun hc => ?_) (fun hc => ?_)
  · replace h := h.1 hc
    refine r_iconst c37_101 ?_
    exact r_iret c37_102 (by decide) h
  · replace h := h.2 hc
    refine r_aload_n c37_33 rfl ?_
    obtain ⟨s2, h⟩ := h
    obtain ⟨b3, h⟩ := h
    obtain ⟨s4, h⟩ := h
    obtain ⟨s5, h⟩ := h
    refine r_getR c37_34 s2 s4 s5 ?_
    refine r_iload c37_37 rfl ?_
    obtain ⟨s6, h⟩ := h
    obtain ⟨s7, h⟩ := h
    refine r_ia c37_39 s6 s7 ?_
    refine r_iconst c37_40 ?_
    refine r_icmpP (P := (M b3 (Int.toNat l5)) = (-1 : Int)) c37_41 rfl (fun hc => ?_) (fun hc => ?_)
    · replace h := h.1 hc
      exact h
    · replace h := h.2 hc
      refine r_aload_n c37_44 rfl ?_
      obtain ⟨s8, h⟩ := h
      obtain ⟨b9, h⟩ := h
      obtain ⟨s10, h⟩ := h
      obtain ⟨s11, h⟩ := h
      refine r_getR c37_45 s8 s10 s11 ?_
      refine r_iload c37_48 rfl ?_
      obtain ⟨s12, h⟩ := h
      obtain ⟨s13, h⟩ := h
      refine r_ia c37_50 s12 s13 ?_
      refine r_iload c37_51 rfl ?_
      refine r_icmpP (P := l4 ≤ (M b9 (Int.toNat l5))) c37_53 rfl (fun hc => ?_) (fun hc => ?_)
      · replace h := h.1 hc
        exact h
      · replace h := h.2 hc
        refine r_aload_n c37_56 rfl ?_
        obtain ⟨s14, h⟩ := h
        obtain ⟨b15, h⟩ := h
        obtain ⟨s16, h⟩ := h
        obtain ⟨s17, h⟩ := h
        refine r_getR c37_57 s14 s16 s17 ?_
        refine r_iload c37_60 rfl ?_
        obtain ⟨s18, h⟩ := h
        obtain ⟨s19, h⟩ := h
        refine r_ia c37_62 s18 s19 ?_
        refine r_aload_n c37_63 rfl ?_
        obtain ⟨s20, h⟩ := h
        obtain ⟨b21, h⟩ := h
        obtain ⟨s22, h⟩ := h
        obtain ⟨s23, h⟩ := h
        refine r_getR c37_64 s20 s22 s23 ?_
        refine r_iload c37_67 rfl ?_
        obtain ⟨s24, h⟩ := h
        obtain ⟨s25, h⟩ := h
        refine r_ia c37_69 s24 s25 ?_
        refine r_iadd c37_70 ?_
        refine r_iload_n c37_71 rfl ?_
        refine r_icmpP (P := l3 < (w32 ((M b15 (Int.toNat l5)) + (M b21 (Int.toNat l5))))) c37_72 rfl (fun hc => ?_) (fun hc => ?_)
        · replace h := h.1 hc
          refine r_iconst c37_79 ?_
          exact h
        · replace h := h.2 hc
          exact h
theorem t37_75 {d : Nat} {l0 : Nat} {l1 : Nat} {l2 : Int} {l3 : Int} {l4 : Int} {l5 : Int} {l6 : PV} {M : Mem} {K : KK} {Q : RR → Mem → KK → Prop} (h : Wp d 37 80 [vR l0, vR l1, vI l2, vI l3, vI l4, vI l5, l6] [vI (1 : Int)] M K Q) : Wp d 37 75 [vR l0, vR l1, vI l2, vI l3, vI l4, vI l5, l6] [] M K Q := by
  refine r_iconst c37_75 ?_
  refine r_goto c37_76 ?_
  exact h
theorem t37_80 {d : Nat} {l0 : Nat} {l1 : Nat} {l2 : Int} {l3 : Int} {l4 : Int} {l5 : Int} {l6 : PV} {t0 : Int} {M : Mem} {K : KK} {Q : RR → Mem → KK → Prop} (h : (l5 = l2 → Wp d 37 95 [vR l0, vR l1, vI l2, vI l3, vI l4, vI l5, vI t0] [] M K Q) ∧ (¬ (l5 = l2) → (¬ t0 = (0 : Int) → Wp d 37 95 [vR l0, vR l1, vI l2, vI l3, vI l4, vI l5, vI t0] [] M K Q) ∧ (¬ (¬ t0 = (0 : Int)) → Q (.inl (some (vI (0 : Int)))) M K))) : Wp d 37 80 [vR l0, vR l1, vI l2, vI l3, vI l4, vI l5, l6] [vI t0] M K Q := by
  refine r_istore c37_80 (Nat.le_of_ble_eq_true rfl) ?_
  refine r_iload c37_82 rfl ?_
  refine r_iload_n c37_84 rfl ?_
  refine r_icmpP (P := l5 = l2) c37_85 rfl (fun hc => ?_) (fun hc => ?_)
  · replace h := h.1 hc
    exact h
  · replace h := h.2 hc
    refine r_iload c37_88 rfl ?_
    refine r_ifP (P := ¬ t0 = (0 : Int)) c37_90 rfl (fun hc => ?_) (fun hc => ?_)
    · replace h := h.1 hc
      exact h
    · replace h := h.2 hc
      refine r_iconst c37_93 ?_
      exact r_iret c37_94 (by decide) h
theorem t37_95 {d : Nat} {l0 : Nat} {l1 : Nat} {l2 : Int} {l3 : Int} {l4 : Int} {l5 : Int} {l6 : Int} {M : Mem} {K : KK} {Q : RR → Mem → KK → Prop} (h : Wp d 37 24 [vR l0, vR l1, vI l2, vI l3, vI l4, vI (w32 (l5 + 1)), vI l6] [] M K Q) : Wp d 37 95 [vR l0, vR l1, vI l2, vI l3, vI l4, vI l5, vI l6] [] M K Q := by
  refine r_iinc c37_95 rfl ?_
  refine r_goto c37_98 ?_
  exact h
theorem t38_0 {d : Nat} {l0 : Nat} {l1 : Nat} {l2 : Int} {M : Mem} {K : KK} {Q : RR → Mem → KK → Prop} (h : Wp d 38 2 [vR l0, vR l1, vI l2, vI (0 : Int)] [] M K Q) : Wp d 38 0 [vR l0, vR l1, vI l2, vU] [] M K Q := by
  refine r_iconst c38_0 ?_
  refine r_istore_n c38_1 (Nat.le_of_ble_eq_true rfl) ?_
  exact h
theorem t38_2 {d : Nat} {l0 : Nat} {l1 : Nat} {l2 : Int} {l3 : Int} {M : Mem} {K : KK} {Q : RR → Mem → KK → Prop} (h : isO K.1 l1 0 = true ∧ ((M l1 6) ≤ l3 → Q (.inl (some (vI (-1 : Int)))) M K) ∧ (¬ ((M l1 6) ≤ l3) → isO K.1 l0 3 = true ∧ ∃ b3 : Nat, (M l0 1) = (b3 : Int) ∧ 0 < b3 ∧ isO K.1 b3 20 = true ∧ (0 ≤ l3 ∧ l3 < (ln b3 : Int)) ∧ ((M b3 (Int.toNat l3)) = (-1 : Int) → Wp d 38 49 [vR l0, vR l1, vI l2, vI l3] [] M K Q) ∧ (¬ ((M b3 (Int.toNat l3)) = (-1 : Int)) → isO K.1 l0 3 = true ∧ ∃ b9 : Nat, (M l0 1) = (b9 : Int) ∧ 0 < b9 ∧ isO K.1 b9 20 = true ∧ (0 ≤ l3 ∧ l3 < (ln b9 : Int)) ∧ (l2 < (M b9 (Int.toNat l3)) → Wp d 38 49 [vR l0, vR l1, vI l2, vI l3] [] M K Q) ∧ (¬ (l2 < (M b9 (Int.toNat l3))) → isO K.1 l0 3 = true ∧ ∃ b15 : Nat, (M l0 1) = (b15 : Int) ∧ 0 < b15 ∧ isO K.1 b15 20 = true ∧ (0 ≤ l3 ∧ l3 < (ln b15 : Int)) ∧ isO K.1 l1 0 = true ∧ ∃ b21 : Nat, (M l1 1) = (b21 : Int) ∧ 0 < b21 ∧ isO K.1 b21 20 = true ∧ (0 ≤ l3 ∧ l3 < (ln b21 : Int)) ∧ ((w32 ((M b15 (Int.toNat l3)) + (M b21 (Int.toNat l3)))) ≤ l2 → Wp d 38 49 [vR l0, vR l1, vI l2, vI l3] [] M K Q) ∧ (¬ ((w32 ((M b15 (Int.toNat l3)) + (M b21 (Int.toNat l3)))) ≤ l2) → Q (.inl (some (vI l3))) M K))))) : Wp d 38 2 [vR l0, vR l1, vI l2, vI l3] [] M K Q := by
  refine r_iload_n c38_2 rfl ?_
  refine r_aload_n c38_3 rfl ?_
  obtain ⟨s1, h⟩ := h
  refine r_getI c38_4 s1 ?_
  refine r_icmpP (P := (M l1 6) ≤ l3) c38_7 rfl (fun hc => ?_) (fun hc => ?_)
  · replace h := h.1 hc
    refine r_iconst c38_55 ?_
    exact r_iret c38_56 (Or.inl rfl) h
  · replace h := h.2 hc
    refine r_aload_n c38_10 rfl ?_
    obtain ⟨s2, h⟩ := h
    obtain ⟨b3, h⟩ := h
    obtain ⟨s4, h⟩ := h
    obtain ⟨s5, h⟩ := h
    refine r_getR c38_11 s2 s4 s5 ?_
    refine r_iload_n c38_14 rfl ?_
    obtain ⟨s6, h⟩ := h
    obtain ⟨s7, h⟩ := h
    refine r_ia c38_15 s6 s7 ?_
    refine r_iconst c38_16 ?_
    refine r_icmpP (P := (M b3 (Int.toNat l3)) = (-1 : Int)) c38_17 rfl (fun hc => ?_) (fun hc => ?_)
    · replace h := h.1 hc
      exact h
    · replace h := h.2 hc
      refine r_aload_n c38_20 rfl ?_
      obtain ⟨s8, h⟩ := h
      obtain ⟨b9, h⟩ := h
      obtain ⟨s10, h⟩ := h
      obtain ⟨s11, h⟩ := h
      refine r_getR c38_21 s8 s10 s11 ?_
      refine r_iload_n c38_24 rfl ?_
      obtain ⟨s12, h⟩ := h
      obtain ⟨s13, h⟩ := h
      refine r_ia c38_25 s12 s13 ?_
      refine r_iload_n c38_26 rfl ?_
      refine r_icmpP (P := l2 < (M b9 (Int.toNat l3))) c38_27 rfl (fun hc => ?_) (fun hc => ?_)
      · replace h := h.1 hc
        exact h
      · replace h := h.2 hc
        refine r_iload_n c38_30 rfl ?_
        refine r_aload_n c38_31 rfl ?_
        obtain ⟨s14, h⟩ := h
        obtain ⟨b15, h⟩ := h
        obtain ⟨s16, h⟩ := h
        obtain ⟨s17, h⟩ := h
        refine r_getR c38_32 s14 s16 s17 ?_
        refine r_iload_n c38_35 rfl ?_
        obtain ⟨s18, h⟩ := h
        obtain ⟨s19, h⟩ := h
        refine r_ia c38_36 s18 s19 ?_
        refine r_aload_n c38_37 rfl ?_
        obtain ⟨s20, h⟩ := h
        obtain ⟨b21, h⟩ := h
        obtain ⟨s22, h⟩ := h
        obtain ⟨s23, h⟩ := h
        refine r_getR c38_38 s20 s22 s23 ?_
        refine r_iload_n c38_41 rfl ?_
        obtain ⟨s24, h⟩ := h
        obtain ⟨s25, h⟩ := h
        refine r_ia c38_42 s24 s25 ?_
        refine r_iadd c38_43 ?_
        refine r_icmpP (P := (w32 ((M b15 (Int.toNat l3)) + (M b21 (Int.toNat l3)))) ≤ l2) c38_44 rfl (fun hc => ?_) (fun hc => ?_)
        · replace h := h.1 hc
          exact h
        · replace h := h.2 hc
          refine r_iload_n c38_47 rfl ?_
          exact r_iret c38_48 (Or.inl rfl) h
theorem t38_49 {d : Nat} {l0 : Nat} {l1 : Nat} {l2 : Int} {l3 : Int} {M : Mem} {K : KK} {Q : RR → Mem → KK → Prop} (h : Wp d 38 2 [vR l0, vR l1, vI l2, vI (w32 (l3 + 1))] [] M K Q) : Wp d 38 49 [vR l0, vR l1, vI l2, vI l3] [] M K Q := by
  refine r_iinc c38_49 rfl ?_
  refine r_goto c38_52 ?_
  exact h
theorem t39_0 {d : Nat} {l0 : Nat} {l1 : Nat} {M : Mem} {K : KK} {Q : RR → Mem → KK → Prop} (h : Wp d 39 4 [vR l0, vR l1, vI (0 : Int), vI (0 : Int)] [] M K Q) : Wp d 39 0 [vR l0, vR l1, vU, vU] [] M K Q := by
  refine r_iconst c39_0 ?_
  refine r_istore_n c39_1 (Nat.le_of_ble_eq_true rfl) ?_
  refine r_iconst c39_2 ?_
  refine r_istore_n c39_3 (Nat.le_of_ble_eq_true rfl) ?_
  exact h
theorem t39_4 {d : Nat} {l0 : Nat} {l1 : Nat} {l2 : Int} {l3 : Int} {M : Mem} {K : KK} {Q : RR → Mem → KK → Prop} (h : isO K.1 l1 0 = true ∧ ((M l1 6) ≤ l3 → Q (.inl (some (vI l2))) M K) ∧ (¬ ((M l1 6) ≤ l3) → isO K.1 l0 3 = true ∧ ∃ b3 : Nat, (M l0 1) = (b3 : Int) ∧ 0 < b3 ∧ isO K.1 b3 20 = true ∧ (0 ≤ l3 ∧ l3 < (ln b3 : Int)) ∧ (¬ (M b3 (Int.toNat l3)) = (-1 : Int) → isO K.1 l0 3 = true ∧ ∃ b9 : Nat, (M l0 1) = (b9 : Int) ∧ 0 < b9 ∧ isO K.1 b9 20 = true ∧ (0 ≤ l3 ∧ l3 < (ln b9 : Int)) ∧ isO K.1 l1 0 = true ∧ ∃ b15 : Nat, (M l1 1) = (b15 : Int) ∧ 0 < b15 ∧ isO K.1 b15 20 = true ∧ (0 ≤ l3 ∧ l3 < (ln b15 : Int)) ∧ Wm d 144 [vI (M b9 (Int.toNat l3)), vI (M b15 (Int.toNat l3))] M K (Bk d 39 39 42 144 [vR l0, vR l1, vI l2, vI l3] [vI l2] Q)) ∧ (¬ (¬ (M b3 (Int.toNat l3)) = (-1 : Int)) → Wp (d + 1) 39 42 [vR l0, vR l1, vI l2, vI l3] [vI (0 : Int), vI l2] M K Q))) : Wp (d + 1) 39 4 [vR l0, vR l1, vI l2, vI l3] [] M K Q := by
  refine r_iload_n c39_4 rfl ?_
  refine r_aload_n c39_5 rfl ?_
  obtain ⟨s1, h⟩ := h
  refine r_getI c39_6 s1 ?_
  refine r_icmpP (P := (M l1 6) ≤ l3) c39_9 rfl (fun hc => ?_) (fun hc => ?_)
  · replace h := h.1 hc
    refine r_iload_n c39_50 rfl ?_
    exact r_iret c39_51 (Or.inl rfl) h
  · replace h := h.2 hc
    refine r_iload_n c39_12 rfl ?_
    refine r_aload_n c39_13 rfl ?_
    obtain ⟨s2, h⟩ := h
    obtain ⟨b3, h⟩ := h
    obtain ⟨s4, h⟩ := h
    obtain ⟨s5, h⟩ := h
    refine r_getR c39_14 s2 s4 s5 ?_
    refine r_iload_n c39_17 rfl ?_
    obtain ⟨s6, h⟩ := h
    obtain ⟨s7, h⟩ := h
    refine r_ia c39_18 s6 s7 ?_
    refine r_iconst c39_19 ?_
    refine r_icmpP (P := ¬ (M b3 (Int.toNat l3)) = (-1 : Int)) c39_20 rfl (fun hc => ?_) (fun hc => ?_)
    · replace h := h.1 hc
      refine r_aload_n c39_27 rfl ?_
      obtain ⟨s8, h⟩ := h
      obtain ⟨b9, h⟩ := h
      obtain ⟨s10, h⟩ := h
      obtain ⟨s11, h⟩ := h
      refine r_getR c39_28 s8 s10 s11 ?_
      refine r_iload_n c39_31 rfl ?_
      obtain ⟨s12, h⟩ := h
      obtain ⟨s13, h⟩ := h
      refine r_ia c39_32 s12 s13 ?_
      refine r_aload_n c39_33 rfl ?_
      obtain ⟨s14, h⟩ := h
      obtain ⟨b15, h⟩ := h
      obtain ⟨s16, h⟩ := h
      obtain ⟨s17, h⟩ := h
      refine r_getR c39_34 s14 s16 s17 ?_
      refine r_iload_n c39_37 rfl ?_
      obtain ⟨s18, h⟩ := h
      obtain ⟨s19, h⟩ := h
      refine r_ia c39_38 s18 s19 ?_
      exact r_call c39_39 rfl rfl (Nat.le_of_ble_eq_true rfl) (okc_s rfl rfl rfl) h
    · replace h := h.2 hc
      refine r_iconst c39_23 ?_
      refine r_goto c39_24 ?_
      exact h
theorem t39_42 {d : Nat} {l0 : Nat} {l1 : Nat} {l2 : Int} {l3 : Int} {t0 : Int} {t1 : Int} {M : Mem} {K : KK} {Q : RR → Mem → KK → Prop} (h : Wp d 39 4 [vR l0, vR l1, vI (jor t0 t1), vI (w32 (l3 + 1))] [] M K Q) : Wp d 39 42 [vR l0, vR l1, vI l2, vI l3] [vI t1, vI t0] M K Q := by
  refine r_ior c39_42 ?_
  refine r_istore_n c39_43 (Nat.le_of_ble_eq_true rfl) ?_
  refine r_iinc c39_44 rfl ?_
  refine r_goto c39_47 ?_
  exact h
theorem t40_0 {d : Nat} {l0 : Nat} {l1 : Nat} {M : Mem} {K : KK} {Q : RR → Mem → KK → Prop} (h : Wp d 40 4 [vR l0, vR l1, vI (0 : Int), vI (0 : Int)] [] M K Q) : Wp d 40 0 [vR l0, vR l1, vU, vU] [] M K Q := by
  refine r_iconst c40_0 ?_
  refine r_istore_n c40_1 (Nat.le_of_ble_eq_true rfl) ?_
  refine r_iconst c40_2 ?_
  refine r_istore_n c40_3 (Nat.le_of_ble_eq_true rfl) ?_
  exact h
theorem t40_4 {d : Nat} {l0 : Nat} {l1 : Nat} {l2 : Int} {l3 : Int} {M : Mem} {K : KK} {Q : RR → Mem → KK → Prop} (h : isO K.1 l1 0 = true ∧ ((M l1 6) ≤ l3 → Q (.inl (some (vI l2))) M K) ∧ (¬ ((M l1 6) ≤ l3) → isO K.1 l0 3 = true ∧ ∃ b3 : Nat, (M l0 1) = (b3 : Int) ∧ 0 < b3 ∧ isO K.1 b3 20 = true ∧ (0 ≤ l3 ∧ l3 < (ln b3 : Int)) ∧ (¬ (M b3 (Int.toNat l3)) = (-1 : Int) → Wp d 40 28 [vR l0, vR l1, vI l2, vI l3] [vI (1 : Int), vI l2] M K Q) ∧ (¬ (¬ (M b3 (Int.toNat l3)) = (-1 : Int)) → Wp d 40 28 [vR l0, vR l1, vI l2, vI l3] [vI (0 : Int), vI l2] M K Q))) : Wp d 40 4 [vR l0, vR l1, vI l2, vI l3] [] M K Q := by
  refine r_iload_n c40_4 rfl ?_
  refine r_aload_n c40_5 rfl ?_
  obtain ⟨s1, h⟩ := h
  refine r_getI c40_6 s1 ?_
  refine r_icmpP (P := (M l1 6) ≤ l3) c40_9 rfl (fun hc => ?_) (fun hc => ?_)
  · replace h := h.1 hc
    refine r_iload_n c40_36 rfl ?_
    exact r_iret c40_37 (Or.inl rfl) h
  · replace h := h.2 hc
    refine r_iload_n c40_12 rfl ?_
    refine r_aload_n c40_13 rfl ?_
    obtain ⟨s2, h⟩ := h
    obtain ⟨b3, h⟩ := h
    obtain ⟨s4, h⟩ := h
    obtain ⟨s5, h⟩ := h
    refine r_getR c40_14 s2 s4 s5 ?_
    refine r_iload_n c40_17 rfl ?_
    obtain ⟨s6, h⟩ := h
    obtain ⟨s7, h⟩ := h
    refine r_ia c40_18 s6 s7 ?_
    refine r_iconst c40_19 ?_
    refine r_icmpP (P := ¬ (M b3 (Int.toNat l3)) = (-1 : Int)) c40_20 rfl (fun hc => ?_) (fun hc => ?_)
    · replace h := h.1 hc
      refine r_iconst c40_27 ?_
      exact h
    · replace h := h.2 hc
      refine r_iconst c40_23 ?_
      refine r_goto c40_24 ?_
      exact h
theorem t40_28 {d : Nat} {l0 : Nat} {l1 : Nat} {l2 : Int} {l3 : Int} {t0 : Int} {t1 : Int} {M : Mem} {K : KK} {Q : RR → Mem → KK → Prop} (h : Wp d 40 4 [vR l0, vR l1, vI (w32 (t0 + t1)), vI (w32 (l3 + 1))] [] M K Q) : Wp d 40 28 [vR l0, vR l1, vI l2, vI l3] [vI t1, vI t0] M K Q := by
  refine r_iadd c40_28 ?_
  refine r_istore_n c40_29 (Nat.le_of_ble_eq_true rfl) ?_
  refine r_iinc c40_30 rfl ?_
  refine r_goto c40_33 ?_
  exact h
theorem t41_0 {d : Nat} {l0 : Nat} {l1 : Nat} {M : Mem} {K : KK} {Q : RR → Mem → KK → Prop} (h : Wp d 41 4 [vR l0, vR l1, vI (0 : Int), vI (0 : Int)] [] M K Q) : Wp d 41 0 [vR l0, vR l1, vU, vU] [] M K Q := by
  refine r_iconst c41_0 ?_
  refine r_istore_n c41_1 (Nat.le_of_ble_eq_true rfl) ?_
  refine r_iconst c41_2 ?_
  refine r_istore_n c41_3 (Nat.le_of_ble_eq_true rfl) ?_
  exact h
theorem t41_4 {d : Nat} {l0 : Nat} {l1 : Nat} {l2 : Int} {l3 : Int} {M : Mem} {K : KK} {Q : RR → Mem → KK → Prop} (h : isO K.1 l1 0 = true ∧ ((M l1 6) ≤ l3 → Q (.inl (some (vI l2))) M K) ∧ (¬ ((M l1 6) ≤ l3) → isO K.1 l0 3 = true ∧ ∃ b3 : Nat, (M l0 0) = (b3 : Int) ∧ 0 < b3 ∧ isO K.1 b3 20 = true ∧ (0 ≤ l3 ∧ l3 < (ln b3 : Int)) ∧ (¬ (M b3 (Int.toNat l3)) = (0 : Int) → Wp d 41 29 [vR l0, vR l1, vI l2, vI l3] [vI (0 : Int), vI l2] M K Q) ∧ (¬ (¬ (M b3 (Int.toNat l3)) = (0 : Int)) → Wp d 41 29 [vR l0, vR l1, vI l2, vI l3] [vI (jshl (1 : Int) l3), vI l2] M K Q))) : Wp d 41 4 [vR l0, vR l1, vI l2, vI l3] [] M K Q := by
  refine r_iload_n c41_4 rfl ?_
  refine r_aload_n c41_5 rfl ?_
  obtain ⟨s1, h⟩ := h
  refine r_getI c41_6 s1 ?_
  refine r_icmpP (P := (M l1 6) ≤ l3) c41_9 rfl (fun hc => ?_) (fun hc => ?_)
  · replace h := h.1 hc
    refine r_iload_n c41_37 rfl ?_
    exact r_iret c41_38 (Or.inl rfl) h
  · replace h := h.2 hc
    refine r_iload_n c41_12 rfl ?_
    refine r_aload_n c41_13 rfl ?_
    obtain ⟨s2, h⟩ := h
    obtain ⟨b3, h⟩ := h
    obtain ⟨s4, h⟩ := h
    obtain ⟨s5, h⟩ := h
    refine r_getR c41_14 s2 s4 s5 ?_
    refine r_iload_n c41_17 rfl ?_
    obtain ⟨s6, h⟩ := h
    obtain ⟨s7, h⟩ := h
    refine r_ia c41_18 s6 s7 ?_
    refine r_ifP (P := ¬ (M b3 (Int.toNat l3)) = (0 : Int)) c41_19 rfl (fun hc => ?_) (fun hc => ?_)
    · replace h := h.1 hc
      refine r_iconst c41_28 ?_
      exact h
    · replace h := h.2 hc
      refine r_iconst c41_22 ?_
      refine r_iload_n c41_23 rfl ?_
      refine r_ishl c41_24 ?_
      refine r_goto c41_25 ?_
      exact h
theorem t41_29 {d : Nat} {l0 : Nat} {l1 : Nat} {l2 : Int} {l3 : Int} {t0 : Int} {t1 : Int} {M : Mem} {K : KK} {Q : RR → Mem → KK → Prop} (h : Wp d 41 4 [vR l0, vR l1, vI (jor t0 t1), vI (w32 (l3 + 1))] [] M K Q) : Wp d 41 29 [vR l0, vR l1, vI l2, vI l3] [vI t1, vI t0] M K Q := by
  refine r_ior c41_29 ?_
  refine r_istore_n c41_30 (Nat.le_of_ble_eq_true rfl) ?_
  refine r_iinc c41_31 rfl ?_
  refine r_goto c41_34 ?_
  exact h
theorem t42_0 {d : Nat} {l0 : Nat} {l1 : Nat} {M : Mem} {K : KK} {Q : RR → Mem → KK → Prop} (h : isO K.1 l0 3 = true ∧ Wm d 41 [vR l0, vR l1] M K (Bk d 42 3 6 41 [vR l0, vR l1] [vR l1] Q)) : Wp (d + 1) 42 0 [vR l0, vR l1] [] M K Q := by
  refine r_aload_n c42_0 rfl ?_
  refine r_aload_n c42_1 rfl ?_
  refine r_aload_n c42_2 rfl ?_
  obtain ⟨s1, h⟩ := h
  exact r_call c42_3 rfl rfl (Nat.le_of_ble_eq_true rfl) (okc_r rfl rfl s1) h
theorem t42_6 {d : Nat} {l0 : Nat} {l1 : Nat} {t0 : Nat} {t1 : Int} {M : Mem} {K : KK} {Q : RR → Mem → KK → Prop} (h : isO K.1 t0 0 = true ∧ Wm d 9 [vR t0, vI t1] M K (Bk d 42 6 9 9 [vR l0, vR l1] [] Q)) : Wp (d + 1) 42 6 [vR l0, vR l1] [vI t1, vR t0] M K Q := by
  obtain ⟨s1, h⟩ := h
  exact r_call c42_6 rfl rfl (Nat.le_of_ble_eq_true rfl) (okc_r rfl rfl s1) h
theorem t42_9 {d : Nat} {l0 : Nat} {l1 : Nat} {t0 : Int} {M : Mem} {K : KK} {Q : RR → Mem → KK → Prop} (h : Q (.inl (some (vI t0))) M K) : Wp d 42 9 [vR l0, vR l1] [vI t0] M K Q := by
  exact r_iret c42_9 (Or.inl rfl) h
theorem t43_0 {d : Nat} {l0 : Nat} {l1 : Nat} {M : Mem} {K : KK} {Q : RR → Mem → KK → Prop} (h : Wp d 43 4 [vR l0, vR l1, vI (0 : Int), vI (0 : Int)] [] M K Q) : Wp d 43 0 [vR l0, vR l1, vU, vU] [] M K Q := by
  refine r_iconst c43_0 ?_
  refine r_istore_n c43_1 (Nat.le_of_ble_eq_true rfl) ?_
  refine r_iconst c43_2 ?_
  refine r_istore_n c43_3 (Nat.le_of_ble_eq_true rfl) ?_
  exact h
theorem t43_4 {d : Nat} {l0 : Nat} {l1 : Nat} {l2 : Int} {l3 : Int} {M : Mem} {K : KK} {Q : RR → Mem → KK → Prop} (h : isO K.1 l1 0 = true ∧ ((M l1 6) ≤ l3 → Q (.inl (some (vI l2))) M K) ∧ (¬ ((M l1 6) ≤ l3) → isO K.1 l0 3 = true ∧ ∃ b3 : Nat, (M l0 0) = (b3 : Int) ∧ 0 < b3 ∧ isO K.1 b3 20 = true ∧ (0 ≤ l3 ∧ l3 < (ln b3 : Int)) ∧ Wp d 43 4 [vR l0, vR l1, vI (w32 (l2 + (M b3 (Int.toNat l3)))), vI (w32 (l3 + 1))] [] M K Q)) : Wp d 43 4 [vR l0, vR l1, vI l2, vI l3] [] M K Q := by
  refine r_iload_n c43_4 rfl ?_
  refine r_aload_n c43_5 rfl ?_
  obtain ⟨s1, h⟩ := h
  refine r_getI c43_6 s1 ?_
  refine r_icmpP (P := (M l1 6) ≤ l3) c43_9 rfl (fun hc => ?_) (fun hc => ?_)
  · replace h := h.1 hc
    refine r_iload_n c43_27 rfl ?_
    exact r_iret c43_28 (Or.inl rfl) h
  · replace h := h.2 hc
    refine r_iload_n c43_12 rfl ?_
    refine r_aload_n c43_13 rfl ?_
    obtain ⟨s2, h⟩ := h
    obtain ⟨b3, h⟩ := h
    obtain ⟨s4, h⟩ := h
    obtain ⟨s5, h⟩ := h
    refine r_getR c43_14 s2 s4 s5 ?_
    refine r_iload_n c43_17 rfl ?_
    obtain ⟨s6, h⟩ := h
    obtain ⟨s7, h⟩ := h
    refine r_ia c43_18 s6 s7 ?_
    refine r_iadd c43_19 ?_
    refine r_istore_n c43_20 (Nat.le_of_ble_eq_true rfl) ?_
    refine r_iinc c43_21 rfl ?_
    refine r_goto c43_24 ?_
    exact h
theorem t44_0 {d : Nat} {l0 : Nat} {l1 : Nat} {l2 : Int} {l3 : Int} {M : Mem} {K : KK} {Q : RR → Mem → KK → Prop} (h : isO K.1 l0 3 = true ∧ ∃ b2 : Nat, (M l0 1) = (b2 : Int) ∧ 0 < b2 ∧ isO K.1 b2 20 = true ∧ (0 ≤ l2 ∧ l2 < (ln b2 : Int)) ∧ (¬ (M b2 (Int.toNat l2)) = (-1 : Int) → isO K.1 l0 3 = true ∧ ∃ b8 : Nat, (M l0 1) = (b8 : Int) ∧ 0 < b8 ∧ isO K.1 b8 20 = true ∧ (0 ≤ l2 ∧ l2 < (ln b8 : Int)) ∧ isO K.1 l0 3 = true ∧ Wm d 46 [vR l0, vR l1, vI l2, vI (M b8 (Int.toNat l2))] M K (Bk d 44 21 24 46 [vR l0, vR l1, vI l2, vI l3, vU] [] Q)) ∧ (¬ (¬ (M b2 (Int.toNat l2)) = (-1 : Int)) → Q (.inl (some (vI (0 : Int)))) M K)) : Wp (d + 1) 44 0 [vR l0, vR l1, vI l2, vI l3, vU] [] M K Q := by
  refine r_aload_n c44_0 rfl ?_
  obtain ⟨s1, h⟩ := h
  obtain ⟨b2, h⟩ := h
  obtain ⟨s3, h⟩ := h
  obtain ⟨s4, h⟩ := h
  refine r_getR c44_1 s1 s3 s4 ?_
  refine r_iload_n c44_4 rfl ?_
  obtain ⟨s5, h⟩ := h
  obtain ⟨s6, h⟩ := h
  refine r_ia c44_5 s5 s6 ?_
  refine r_iconst c44_6 ?_
  refine r_icmpP (P := ¬ (M b2 (Int.toNat l2)) = (-1 : Int)) c44_7 rfl (fun hc => ?_) (fun hc => ?_)
  · replace h := h.1 hc
    refine r_aload_n c44_12 rfl ?_
    refine r_aload_n c44_13 rfl ?_
    refine r_iload_n c44_14 rfl ?_
    refine r_aload_n c44_15 rfl ?_
    obtain ⟨s7, h⟩ := h
    obtain ⟨b8, h⟩ := h
    obtain ⟨s9, h⟩ := h
    obtain ⟨s10, h⟩ := h
    refine r_getR c44_16 s7 s9 s10 ?_
    refine r_iload_n c44_19 rfl ?_
    obtain ⟨s11, h⟩ := h
    obtain ⟨s12, h⟩ := h
    refine r_ia c44_20 s11 s12 ?_
    obtain ⟨s13, h⟩ := h
    exact r_call c44_21 rfl rfl (Nat.le_of_ble_eq_true rfl) (okc_r rfl rfl s13) h
  · replace h := h.2 hc
    refine r_iconst c44_10 ?_
    exact r_iret c44_11 (Or.inl rfl) h
theorem t44_24 {d : Nat} {l0 : Nat} {l1 : Nat} {l2 : Int} {l3 : Int} {t0 : Nat} {M : Mem} {K : KK} {Q : RR → Mem → KK → Prop} (h : isO K.1 t0 20 = true ∧ (0 ≤ (3 : Int) ∧ (3 : Int) < (ln t0 : Int)) ∧ isO K.1 l0 3 = true ∧ ∃ b4 : Nat, ((mset M t0 (Int.toNat (3 : Int)) l3) l0 2) = (b4 : Int) ∧ 0 < b4 ∧ isO K.1 b4 20 = true ∧ (0 ≤ l2 ∧ l2 < (ln b4 : Int)) ∧ isO K.1 t0 20 = true ∧ (0 ≤ (4 : Int) ∧ (4 : Int) < (ln t0 : Int)) ∧ isO K.1 l0 3 = true ∧ ∃ b12 : Nat, ((mset (mset M t0 (Int.toNat (3 : Int)) l3) t0 (Int.toNat (4 : Int)) ((mset M t0 (Int.toNat (3 : Int)) l3) b4 (Int.toNat l2))) l0 3) = (b12 : Int) ∧ 0 < b12 ∧ isO K.1 b12 20 = true ∧ (0 ≤ l2 ∧ l2 < (ln b12 : Int)) ∧ isO K.1 t0 20 = true ∧ (0 ≤ (5 : Int) ∧ (5 : Int) < (ln t0 : Int)) ∧ isO K.1 l1 0 = true ∧ ∃ b20 : Nat, ((mset (mset (mset M t0 (Int.toNat (3 : Int)) l3) t0 (Int.toNat (4 : Int)) ((mset M t0 (Int.toNat (3 : Int)) l3) b4 (Int.toNat l2))) t0 (Int.toNat (5 : Int)) ((mset (mset M t0 (Int.toNat (3 : Int)) l3) t0 (Int.toNat (4 : Int)) ((mset M t0 (Int.toNat (3 : Int)) l3) b4 (Int.toNat l2))) b12 (Int.toNat l2))) l1 11) = (b20 : Int) ∧ 0 < b20 ∧ isO K.1 b20 2 = true ∧ Wm d 26 [vR b20] (mset (mset (mset M t0 (Int.toNat (3 : Int)) l3) t0 (Int.toNat (4 : Int)) ((mset M t0 (Int.toNat (3 : Int)) l3) b4 (Int.toNat l2))) t0 (Int.toNat (5 : Int)) ((mset (mset M t0 (Int.toNat (3 : Int)) l3) t0 (Int.toNat (4 : Int)) ((mset M t0 (Int.toNat (3 : Int)) l3) b4 (Int.toNat l2))) b12 (Int.toNat l2))) K (Bk d 44 55 58 26 [vR l0, vR l1, vI l2, vI l3, vR t0] [] Q)) : Wp (d + 1) 44 24 [vR l0, vR l1, vI l2, vI l3, vU] [vR t0] M K Q := by
  refine r_astore c44_24 (Nat.le_of_ble_eq_true rfl) ?_
  refine r_aload c44_26 rfl ?_
  refine r_iconst c44_28 ?_
  refine r_iload_n c44_29 rfl ?_
  obtain ⟨s1, h⟩ := h
  obtain ⟨s2, h⟩ := h
  refine r_ias c44_30 s1 s2 ?_
  refine r_aload c44_31 rfl ?_
  refine r_iconst c44_33 ?_
  refine r_aload_n c44_34 rfl ?_
  obtain ⟨s3, h⟩ := h
  obtain ⟨b4, h⟩ := h
  obtain ⟨s5, h⟩ := h
  obtain ⟨s6, h⟩ := h
  refine r_getR c44_35 s3 s5 s6 ?_
  refine r_iload_n c44_38 rfl ?_
  obtain ⟨s7, h⟩ := h
  obtain ⟨s8, h⟩ := h
  refine r_ia c44_39 s7 s8 ?_
  obtain ⟨s9, h⟩ := h
  obtain ⟨s10, h⟩ := h
  refine r_ias c44_40 s9 s10 ?_
  refine r_aload c44_41 rfl ?_
  refine r_iconst c44_43 ?_
  refine r_aload_n c44_44 rfl ?_
  obtain ⟨s11, h⟩ := h
  obtain ⟨b12, h⟩ := h
  obtain ⟨s13, h⟩ := h
  obtain ⟨s14, h⟩ := h
  refine r_getR c44_45 s11 s13 s14 ?_
  refine r_iload_n c44_48 rfl ?_
  obtain ⟨s15, h⟩ := h
  obtain ⟨s16, h⟩ := h
  refine r_ia c44_49 s15 s16 ?_
  obtain ⟨s17, h⟩ := h
  obtain ⟨s18, h⟩ := h
  refine r_ias c44_50 s17 s18 ?_
  refine r_aload_n c44_51 rfl ?_
  obtain ⟨s19, h⟩ := h
  obtain ⟨b20, h⟩ := h
  obtain ⟨s21, h⟩ := h
  obtain ⟨s22, h⟩ := h
  refine r_getR c44_52 s19 s21 s22 ?_
  obtain ⟨s23, h⟩ := h
  exact r_call c44_55 rfl rfl (Nat.le_of_ble_eq_true rfl) (okc_r rfl rfl s23) h
theorem t44_58 {d : Nat} {l0 : Nat} {l1 : Nat} {l2 : Int} {l3 : Int} {l4 : Nat} {t0 : Int} {M : Mem} {K : KK} {Q : RR → Mem → KK → Prop} (h : Q (.inl (some (vI t0))) M K) : Wp d 44 58 [vR l0, vR l1, vI l2, vI l3, vR l4] [vI t0] M K Q := by
  exact r_iret c44_58 (Or.inl rfl) h
theorem t45_0 {d : Nat} {l0 : Nat} {l1 : Nat} {l2 : Int} {l3 : Int} {M : Mem} {K : KK} {Q : RR → Mem → KK → Prop} (h : isO K.1 l0 3 = true ∧ Wm d 46 [vR l0, vR l1, vI l2, vI l3] M K (Bk d 45 4 7 46 [vR l0, vR l1, vI l2, vI l3] [] Q)) : Wp (d + 1) 45 0 [vR l0, vR l1, vI l2, vI l3] [] M K Q := by
  refine r_aload_n c45_0 rfl ?_
  refine r_aload_n c45_1 rfl ?_
  refine r_iload_n c45_2 rfl ?_
  refine r_iload_n c45_3 rfl ?_
  obtain ⟨s1, h⟩ := h
  exact r_call c45_4 rfl rfl (Nat.le_of_ble_eq_true rfl) (okc_r rfl rfl s1) h
theorem t45_7 {d : Nat} {l0 : Nat} {l1 : Nat} {l2 : Int} {l3 : Int} {t0 : Nat} {M : Mem} {K : KK} {Q : RR → Mem → KK → Prop} (h : isO K.1 l1 0 = true ∧ ∃ b2 : Nat, (M l1 11) = (b2 : Int) ∧ 0 < b2 ∧ isO K.1 b2 2 = true ∧ Wm d 26 [vR b2] M K (Bk d 45 12 15 26 [vR l0, vR l1, vI l2, vI l3] [] Q)) : Wp (d + 1) 45 7 [vR l0, vR l1, vI l2, vI l3] [vR t0] M K Q := by
  refine r_popr c45_7 ?_
  refine r_aload_n c45_8 rfl ?_
  obtain ⟨s1, h⟩ := h
  obtain ⟨b2, h⟩ := h
  obtain ⟨s3, h⟩ := h
  obtain ⟨s4, h⟩ := h
  refine r_getR c45_9 s1 s3 s4 ?_
  obtain ⟨s5, h⟩ := h
  exact r_call c45_12 rfl rfl (Nat.le_of_ble_eq_true rfl) (okc_r rfl rfl s5) h
theorem t45_15 {d : Nat} {l0 : Nat} {l1 : Nat} {l2 : Int} {l3 : Int} {t0 : Int} {M : Mem} {K : KK} {Q : RR → Mem → KK → Prop} (h : Q (.inl (some (vI t0))) M K) : Wp d 45 15 [vR l0, vR l1, vI l2, vI l3] [vI t0] M K Q := by
  exact r_iret c45_15 (Or.inl rfl) h
theorem t46_0 {d : Nat} {l0 : Nat} {l1 : Nat} {l2 : Int} {l3 : Int} {M : Mem} {K : KK} {Q : RR → Mem → KK → Prop} (h : isO K.1 l1 0 = true ∧ ∃ b2 : Nat, (M l1 11) = (b2 : Int) ∧ 0 < b2 ∧ isO K.1 b2 2 = true ∧ ∃ b6 : Nat, (M b2 0) = (b6 : Int) ∧ 0 < b6 ∧ isO K.1 l1 0 = true ∧ ∃ b10 : Nat, (M l1 1) = (b10 : Int) ∧ 0 < b10 ∧ isO K.1 b10 20 = true ∧ (0 ≤ l2 ∧ l2 < (ln b10 : Int)) ∧ isO K.1 l1 0 = true ∧ Wm d 8 [vR l1, vI l3, vI (M b10 (Int.toNat l2))] M K (Bk d 46 20 23 8 [vR l0, vR l1, vI l2, vI l3, vR b6] [vI (0 : Int), vR b6] Q)) : Wp (d + 1) 46 0 [vR l0, vR l1, vI l2, vI l3, vU] [] M K Q := by
  refine r_aload_n c46_0 rfl ?_
  obtain ⟨s1, h⟩ := h
  obtain ⟨b2, h⟩ := h
  obtain ⟨s3, h⟩ := h
  obtain ⟨s4, h⟩ := h
  refine r_getR c46_1 s1 s3 s4 ?_
  obtain ⟨s5, h⟩ := h
  obtain ⟨b6, h⟩ := h
  obtain ⟨s7, h⟩ := h
  obtain ⟨s8, h⟩ := h
  refine r_getR c46_4 s5 s7 s8 ?_
  refine r_astore c46_7 (Nat.le_of_ble_eq_true rfl) ?_
  refine r_aload c46_9 rfl ?_
  refine r_iconst c46_11 ?_
  refine r_aload_n c46_12 rfl ?_
  refine r_iload_n c46_13 rfl ?_
  refine r_aload_n c46_14 rfl ?_
  obtain ⟨s9, h⟩ := h
  obtain ⟨b10, h⟩ := h
  obtain ⟨s11, h⟩ := h
  obtain ⟨s12, h⟩ := h
  refine r_getR c46_15 s9 s11 s12 ?_
  refine r_iload_n c46_18 rfl ?_
  obtain ⟨s13, h⟩ := h
  obtain ⟨s14, h⟩ := h
  refine r_ia c46_19 s13 s14 ?_
  obtain ⟨s15, h⟩ := h
  exact r_call c46_20 rfl rfl (Nat.le_of_ble_eq_true rfl) (okc_r rfl rfl s15) h
theorem t46_23 {d : Nat} {l0 : Nat} {l1 : Nat} {l2 : Int} {l3 : Int} {l4 : Nat} {t0 : Nat} {t1 : Int} {t2 : Int} {M : Mem} {K : KK} {Q : RR → Mem → KK → Prop} (h : isO K.1 t0 20 = true ∧ (0 ≤ t1 ∧ t1 < (ln t0 : Int)) ∧ isO K.1 l1 0 = true ∧ ∃ b4 : Nat, ((mset M t0 (Int.toNat t1) t2) l1 1) = (b4 : Int) ∧ 0 < b4 ∧ isO K.1 b4 20 = true ∧ (0 ≤ l2 ∧ l2 < (ln b4 : Int)) ∧ isO K.1 l4 20 = true ∧ (0 ≤ (1 : Int) ∧ (1 : Int) < (ln l4 : Int)) ∧ isO K.1 l0 3 = true ∧ ∃ b12 : Nat, ((mset (mset M t0 (Int.toNat t1) t2) l4 (Int.toNat (1 : Int)) ((mset M t0 (Int.toNat t1) t2) b4 (Int.toNat l2))) l0 0) = (b12 : Int) ∧ 0 < b12 ∧ isO K.1 b12 20 = true ∧ (0 ≤ l2 ∧ l2 < (ln b12 : Int)) ∧ isO K.1 l4 20 = true ∧ (0 ≤ (2 : Int) ∧ (2 : Int) < (ln l4 : Int)) ∧ isO K.1 l0 3 = true ∧ isO K.1 l1 0 = true ∧ Wm d 7 [vR l1, vI ((mset (mset (mset M t0 (Int.toNat t1) t2) l4 (Int.toNat (1 : Int)) ((mset M t0 (Int.toNat t1) t2) b4 (Int.toNat l2))) l4 (Int.toNat (2 : Int)) ((mset (mset M t0 (Int.toNat t1) t2) l4 (Int.toNat (1 : Int)) ((mset M t0 (Int.toNat t1) t2) b4 (Int.toNat l2))) b12 (Int.toNat l2))) l0 4)] (mset (mset (mset M t0 (Int.toNat t1) t2) l4 (Int.toNat (1 : Int)) ((mset M t0 (Int.toNat t1) t2) b4 (Int.toNat l2))) l4 (Int.toNat (2 : Int)) ((mset (mset M t0 (Int.toNat t1) t2) l4 (Int.toNat (1 : Int)) ((mset M t0 (Int.toNat t1) t2) b4 (Int.toNat l2))) b12 (Int.toNat l2))) K (Bk d 46 52 55 7 [vR l0, vR l1, vI l2, vI l3, vR l4] [vI (3 : Int), vR l4] Q)) : Wp (d + 1) 46 23 [vR l0, vR l1, vI l2, vI l3, vR l4] [vI t2, vI t1, vR t0] M K Q := by
  obtain ⟨s1, h⟩ := h
  obtain ⟨s2, h⟩ := h
  refine r_ias c46_23 s1 s2 ?_
  refine r_aload c46_24 rfl ?_
  refine r_iconst c46_26 ?_
  refine r_aload_n c46_27 rfl ?_
  obtain ⟨s3, h⟩ := h
  obtain ⟨b4, h⟩ := h
  obtain ⟨s5, h⟩ := h
  obtain ⟨s6, h⟩ := h
  refine r_getR c46_28 s3 s5 s6 ?_
  refine r_iload_n c46_31 rfl ?_
  obtain ⟨s7, h⟩ := h
  obtain ⟨s8, h⟩ := h
  refine r_ia c46_32 s7 s8 ?_
  obtain ⟨s9, h⟩ := h
  obtain ⟨s10, h⟩ := h
  refine r_ias c46_33 s9 s10 ?_
  refine r_aload c46_34 rfl ?_
  refine r_iconst c46_36 ?_
  refine r_aload_n c46_37 rfl ?_
  obtain ⟨s11, h⟩ := h
  obtain ⟨b12, h⟩ := h
  obtain ⟨s13, h⟩ := h
  obtain ⟨s14, h⟩ := h
  refine r_getR c46_38 s11 s13 s14 ?_
  refine r_iload_n c46_41 rfl ?_
  obtain ⟨s15, h⟩ := h
  obtain ⟨s16, h⟩ := h
  refine r_ia c46_42 s15 s16 ?_
  obtain ⟨s17, h⟩ := h
  obtain ⟨s18, h⟩ := h
  refine r_ias c46_43 s17 s18 ?_
  refine r_aload c46_44 rfl ?_
  refine r_iconst c46_46 ?_
  refine r_aload_n c46_47 rfl ?_
  refine r_aload_n c46_48 rfl ?_
  obtain ⟨s19, h⟩ := h
  refine r_getI c46_49 s19 ?_
  obtain ⟨s20, h⟩ := h
  exact r_call c46_52 rfl rfl (Nat.le_of_ble_eq_true rfl) (okc_r rfl rfl s20) h
theorem t46_55 {d : Nat} {l0 : Nat} {l1 : Nat} {l2 : Int} {l3 : Int} {l4 : Nat} {t0 : Nat} {t1 : Int} {t2 : Int} {M : Mem} {K : KK} {Q : RR → Mem → KK → Prop} (h : isO K.1 t0 20 = true ∧ (0 ≤ t1 ∧ t1 < (ln t0 : Int)) ∧ isO K.1 l4 20 = true ∧ (0 ≤ (4 : Int) ∧ (4 : Int) < (ln l4 : Int)) ∧ isO K.1 l4 20 = true ∧ (0 ≤ (5 : Int) ∧ (5 : Int) < (ln l4 : Int)) ∧ isO K.1 l0 3 = true ∧ isO K.1 l4 20 = true ∧ (0 ≤ (6 : Int) ∧ (6 : Int) < (ln l4 : Int)) ∧ isO K.1 l4 20 = true ∧ (0 ≤ (7 : Int) ∧ (7 : Int) < (ln l4 : Int)) ∧ Q (.inl (some (vR l4))) (mset (mset (mset (mset (mset M t0 (Int.toNat t1) t2) l4 (Int.toNat (4 : Int)) (0 : Int)) l4 (Int.toNat (5 : Int)) (0 : Int)) l4 (Int.toNat (6 : Int)) ((mset (mset (mset M t0 (Int.toNat t1) t2) l4 (Int.toNat (4 : Int)) (0 : Int)) l4 (Int.toNat (5 : Int)) (0 : Int)) l0 4)) l4 (Int.toNat (7 : Int)) l3) K) : Wp d 46 55 [vR l0, vR l1, vI l2, vI l3, vR l4] [vI t2, vI t1, vR t0] M K Q := by
  obtain ⟨s1, h⟩ := h
  obtain ⟨s2, h⟩ := h
  refine r_ias c46_55 s1 s2 ?_
  refine r_aload c46_56 rfl ?_
  refine r_iconst c46_58 ?_
  refine r_iconst c46_59 ?_
  obtain ⟨s3, h⟩ := h
  obtain ⟨s4, h⟩ := h
  refine r_ias c46_60 s3 s4 ?_
  refine r_aload c46_61 rfl ?_
  refine r_iconst c46_63 ?_
  refine r_iconst c46_64 ?_
  obtain ⟨s5, h⟩ := h
  obtain ⟨s6, h⟩ := h
  refine r_ias c46_65 s5 s6 ?_
  refine r_aload c46_66 rfl ?_
  refine r_bipush c46_68 ?_
  refine r_aload_n c46_70 rfl ?_
  obtain ⟨s7, h⟩ := h
  refine r_getI c46_71 s7 ?_
  obtain ⟨s8, h⟩ := h
  obtain ⟨s9, h⟩ := h
  refine r_ias c46_74 s8 s9 ?_
  refine r_aload c46_75 rfl ?_
  refine r_bipush c46_77 ?_
  refine r_iload_n c46_79 rfl ?_
  obtain ⟨s10, h⟩ := h
  obtain ⟨s11, h⟩ := h
  refine r_ias c46_80 s10 s11 ?_
  refine r_aload c46_81 rfl ?_
  exact r_aret c46_83 h
theorem t47_0 {d : Nat} {l0 : Nat} {M : Mem} {K : KK} {Q : RR → Mem → KK → Prop} (h : (tg K.1 = 22 ∧ (100 : Int) = (ln K.1 : Int)) ∧ isO (K.1 + 1) l0 4 = true ∧ 0 < K.1 ∧ (tg (K.1 + 1) = 22 ∧ (100 : Int) = (ln (K.1 + 1) : Int)) ∧ isO ((K.1 + 1) + 1) l0 4 = true ∧ 0 < (K.1 + 1) ∧ isO ((K.1 + 1) + 1) l0 4 = true ∧ Q (.inl none) (mset (mset (mset M l0 0 (K.1 : Nat)) l0 1 ((K.1 + 1) : Nat)) l0 3 (1 : Int)) (((K.1 + 1) + 1), ((K.2.1 + 1) + 1), ((K.2.2 + ln K.1) + ln (K.1 + 1)))) : Wp d 47 0 [vR l0] [] M K Q := by
  refine r_aload_n c47_0 rfl ?_
  refine r_obj c47_1 (Nat.le_of_ble_eq_true rfl) ?_
  refine r_aload_n c47_4 rfl ?_
  refine r_bipush c47_5 ?_
  obtain ⟨s1, h⟩ := h
  refine r_newarray c47_7 s1 ?_
  obtain ⟨s2, h⟩ := h
  obtain ⟨s3, h⟩ := h
  refine r_putR c47_9 s2 s3 ?_
  refine r_aload_n c47_12 rfl ?_
  refine r_bipush c47_13 ?_
  obtain ⟨s4, h⟩ := h
  refine r_newarray c47_15 s4 ?_
  obtain ⟨s5, h⟩ := h
  obtain ⟨s6, h⟩ := h
  refine r_putR c47_17 s5 s6 ?_
  refine r_aload_n c47_20 rfl ?_
  refine r_lconst c47_21 ?_
  obtain ⟨s7, h⟩ := h
  refine r_putL c47_22 s7 ?_
  exact r_ret c47_25 h
theorem t48_0 {d : Nat} {l0 : Nat} {l1 : Nat} {l2 : Nat} {l3 : Int} {l4 : Int} {l5 : Int} {l6 : Int} {M : Mem} {K : KK} {Q : RR → Mem → KK → Prop} (h : Wp d 48 3 [vR l0, vR l1, vR l2, vI l3, vI l4, vI l5, vI l6, vI (0 : Int)] [] M K Q) : Wp d 48 0 [vR l0, vR l1, vR l2, vI l3, vI l4, vI l5, vI l6, vU] [] M K Q := by
  refine r_iconst c48_0 ?_
  refine r_istore c48_1 (Nat.le_of_ble_eq_true rfl) ?_
  exact h
theorem t48_3 {d : Nat} {l0 : Nat} {l1 : Nat} {l2 : Nat} {l3 : Int} {l4 : Int} {l5 : Int} {l6 : Int} {l7 : Int} {M : Mem} {K : KK} {Q : RR → Mem → KK → Prop} (h : ((99 : Int) < l7 → isO K.1 l0 4 = true ∧ Wp d 48 47 [vR l0, vR l1, vR l2, vI l3, vI l4, vI l5, vI l6, vI (0 : Int)] [] (mset M l0 3 (1 : Int)) K Q) ∧ (¬ ((99 : Int) < l7) → isO K.1 l0 4 = true ∧ ∃ b3 : Nat, (M l0 0) = (b3 : Int) ∧ 0 < b3 ∧ isO K.1 l2 3 = true ∧ ∃ b7 : Nat, (M l2 0) = (b7 : Int) ∧ 0 < b7 ∧ isO K.1 b7 20 = true ∧ (0 ≤ l3 ∧ l3 < (ln b7 : Int)) ∧ (¬ l7 = (M b7 (Int.toNat l3)) → Wp d 48 32 [vR l0, vR l1, vR l2, vI l3, vI l4, vI l5, vI l6, vI l7] [vL (0 : Int), vI l7, vR b3] M K Q) ∧ (¬ (¬ l7 = (M b7 (Int.toNat l3))) → Wp d 48 32 [vR l0, vR l1, vR l2, vI l3, vI l4, vI l5, vI l6, vI l7] [vL (1 : Int), vI l7, vR b3] M K Q))) : Wp d 48 3 [vR l0, vR l1, vR l2, vI l3, vI l4, vI l5, vI l6, vI l7] [] M K Q := by
  refine r_iload c48_3 rfl ?_
  refine r_bipush c48_5 ?_
  refine r_icmpP (P := (99 : Int) < l7) c48_7 rfl (fun hc => ?_) (fun hc => ?_)
  · replace h := h.1 hc
    refine r_aload_n c48_39 rfl ?_
    refine r_lconst c48_40 ?_
    obtain ⟨s1, h⟩ := h
    refine r_putL c48_41 s1 ?_
    refine r_iconst c48_44 ?_
    refine r_istore c48_45 (Nat.le_of_ble_eq_true rfl) ?_
    exact h
  · replace h := h.2 hc
    refine r_aload_n c48_10 rfl ?_
    obtain ⟨s2, h⟩ := h
    obtain ⟨b3, h⟩ := h
    obtain ⟨s4, h⟩ := h
    obtain ⟨s5, h⟩ := h
    refine r_getR c48_11 s2 s4 s5 ?_
    refine r_iload c48_14 rfl ?_
    refine r_iload c48_16 rfl ?_
    refine r_aload_n c48_18 rfl ?_
    obtain ⟨s6, h⟩ := h
    obtain ⟨b7, h⟩ := h
    obtain ⟨s8, h⟩ := h
    obtain ⟨s9, h⟩ := h
    refine r_getR c48_19 s6 s8 s9 ?_
    refine r_iload_n c48_22 rfl ?_
    obtain ⟨s10, h⟩ := h
    obtain ⟨s11, h⟩ := h
    refine r_ia c48_23 s10 s11 ?_
    refine r_icmpP (P := ¬ l7 = (M b7 (Int.toNat l3))) c48_24 rfl (fun hc => ?_) (fun hc => ?_)
    · replace h := h.1 hc
      refine r_lconst c48_31 ?_
      exact h
    · replace h := h.2 hc
      refine r_lconst c48_27 ?_
      refine r_goto c48_28 ?_
      exact h
theorem t48_32 {d : Nat} {l0 : Nat} {l1 : Nat} {l2 : Nat} {l3 : Int} {l4 : Int} {l5 : Int} {l6 : Int} {l7 : Int} {t0 : Nat} {t1 : Int} {t2 : Int} {M : Mem} {K : KK} {Q : RR → Mem → KK → Prop} (h : isO K.1 t0 22 = true ∧ (0 ≤ t1 ∧ t1 < (ln t0 : Int)) ∧ Wp d 48 3 [vR l0, vR l1, vR l2, vI l3, vI l4, vI l5, vI l6, vI (w32 (l7 + 1))] [] (mset M t0 (Int.toNat t1) t2) K Q) : Wp d 48 32 [vR l0, vR l1, vR l2, vI l3, vI l4, vI l5, vI l6, vI l7] [vL t2, vI t1, vR t0] M K Q := by
  obtain ⟨s1, h⟩ := h
  obtain ⟨s2, h⟩ := h
  refine r_las c48_32 s1 s2 ?_
  refine r_iinc c48_33 rfl ?_
  refine r_goto c48_36 ?_
  exact h
theorem t48_47 {d : Nat} {l0 : Nat} {l1 : Nat} {l2 : Nat} {l3 : Int} {l4 : Int} {l5 : Int} {l6 : Int} {l7 : Int} {M : Mem} {K : KK} {Q : RR → Mem → KK → Prop} (h : (l6 ≤ l7 → isO K.1 l0 4 = true ∧ ∃ b2 : Nat, (M l0 0) = (b2 : Int) ∧ 0 < b2 ∧ isO K.1 b2 22 = true ∧ (0 ≤ (0 : Int) ∧ (0 : Int) < (ln b2 : Int)) ∧ isO K.1 l0 4 = true ∧ Wp (d + 1) 48 98 [vR l0, vR l1, vR l2, vI l3, vI l4, vI l5, vI l6, vI (0 : Int)] [] (mset M l0 2 (M b2 (Int.toNat (0 : Int)))) K Q) ∧ (¬ (l6 ≤ l7) → isO K.1 l0 4 = true ∧ Wm d 49 [vR l0, vR l1, vR l2, vI l3, vI l7, vI l4, vI l5] M K (Bk d 48 64 67 49 [vR l0, vR l1, vR l2, vI l3, vI l4, vI l5, vI l6, vI l7] [] Q))) : Wp (d + 1) 48 47 [vR l0, vR l1, vR l2, vI l3, vI l4, vI l5, vI l6, vI l7] [] M K Q := by
  refine r_iload c48_47 rfl ?_
  refine r_iload c48_49 rfl ?_
  refine r_icmpP (P := l6 ≤ l7) c48_51 rfl (fun hc => ?_) (fun hc => ?_)
  · replace h := h.1 hc
    refine r_aload_n c48_85 rfl ?_
    refine r_aload_n c48_86 rfl ?_
    obtain ⟨s1, h⟩ := h
    obtain ⟨b2, h⟩ := h
    obtain ⟨s3, h⟩ := h
    obtain ⟨s4, h⟩ := h
    refine r_getR c48_87 s1 s3 s4 ?_
    refine r_iconst c48_90 ?_
    obtain ⟨s5, h⟩ := h
    obtain ⟨s6, h⟩ := h
    refine r_la c48_91 s5 s6 ?_
    obtain ⟨s7, h⟩ := h
    refine r_putL c48_92 s7 ?_
    refine r_iconst c48_95 ?_
    refine r_istore c48_96 (Nat.le_of_ble_eq_true rfl) ?_
    exact h
  · replace h := h.2 hc
    refine r_aload_n c48_54 rfl ?_
    refine r_aload_n c48_55 rfl ?_
    refine r_aload_n c48_56 rfl ?_
    refine r_iload_n c48_57 rfl ?_
    refine r_iload c48_58 rfl ?_
    refine r_iload c48_60 rfl ?_
    refine r_iload c48_62 rfl ?_
    obtain ⟨s8, h⟩ := h
    exact r_call c48_64 rfl rfl (Nat.le_of_ble_eq_true rfl) (okc_r rfl rfl s8) h
theorem t48_67 {d : Nat} {l0 : Nat} {l1 : Nat} {l2 : Nat} {l3 : Int} {l4 : Int} {l5 : Int} {l6 : Int} {l7 : Int} {M : Mem} {K : KK} {Q : RR → Mem → KK → Prop} (h : isO K.1 l0 4 = true ∧ isO K.1 l0 4 = true ∧ Wp d 48 47 [vR l0, vR l1, vR l2, vI l3, vI l4, vI l5, vI l6, vI (w32 (l7 + 1))] [] (mset M l0 3 (w64 ((M l0 3) * (16 : Int)))) K Q) : Wp d 48 67 [vR l0, vR l1, vR l2, vI l3, vI l4, vI l5, vI l6, vI l7] [] M K Q := by
  refine r_aload_n c48_67 rfl ?_
  refine r_dupr c48_68 ?_
  obtain ⟨s1, h⟩ := h
  refine r_getL c48_69 s1 ?_
  refine r_ldc2 c48_72 ?_
  refine r_lmul c48_75 ?_
  obtain ⟨s2, h⟩ := h
  refine r_putL c48_76 s2 ?_
  refine r_iinc c48_79 rfl ?_
  refine r_goto c48_82 ?_
  exact h
theorem t48_98 {d : Nat} {l0 : Nat} {l1 : Nat} {l2 : Nat} {l3 : Int} {l4 : Int} {l5 : Int} {l6 : Int} {l7 : Int} {M : Mem} {K : KK} {Q : RR → Mem → KK → Prop} (h : ((w32 ((4 : Int) * l6)) ≤ l7 → Wp d 48 150 [vR l0, vR l1, vR l2, vI l3, vI l4, vI l5, vI l6, vI l7] [] M K Q) ∧ (¬ ((w32 ((4 : Int) * l6)) ≤ l7) → isO K.1 l0 4 = true ∧ (2 : Int) ≠ 0 ∧ (¬ (jcmp (Int.tmod (M l0 2) (2 : Int)) (0 : Int)) = (0 : Int) → Wp d 48 150 [vR l0, vR l1, vR l2, vI l3, vI l4, vI l5, vI l6, vI l7] [] M K Q) ∧ (¬ (¬ (jcmp (Int.tmod (M l0 2) (2 : Int)) (0 : Int)) = (0 : Int)) → isO K.1 l0 4 = true ∧ (2 : Int) ≠ 0 ∧ isO K.1 l0 4 = true ∧ isO K.1 l0 4 = true ∧ (2 : Int) ≠ 0 ∧ isO K.1 l0 4 = true ∧ Wp d 48 98 [vR l0, vR l1, vR l2, vI l3, vI l4, vI l5, vI l6, vI (w32 (l7 + 1))] [] (mset (mset M l0 2 (w64 (Int.tdiv (M l0 2) (2 : Int)))) l0 3 (w64 (Int.tdiv ((mset M l0 2 (w64 (Int.tdiv (M l0 2) (2 : Int)))) l0 3) (2 : Int)))) K Q))) : Wp d 48 98 [vR l0, vR l1, vR l2, vI l3, vI l4, vI l5, vI l6, vI l7] [] M K Q := by
  refine r_iload c48_98 rfl ?_
  refine r_iconst c48_100 ?_
  refine r_iload c48_101 rfl ?_
  refine r_imul c48_103 ?_
  refine r_icmpP (P := (w32 ((4 : Int) * l6)) ≤ l7) c48_104 rfl (fun hc => ?_) (fun hc => ?_)
  · replace h := h.1 hc
    exact h
  · replace h := h.2 hc
    refine r_aload_n c48_107 rfl ?_
    obtain ⟨s1, h⟩ := h
    refine r_getL c48_108 s1 ?_
    refine r_ldc2 c48_111 ?_
    obtain ⟨s2, h⟩ := h
    refine r_lrem c48_114 s2 ?_
    refine r_lconst c48_115 ?_
    refine r_lcmp c48_116 ?_
    refine r_ifP (P := ¬ (jcmp (Int.tmod (M l0 2) (2 : Int)) (0 : Int)) = (0 : Int)) c48_117 rfl (fun hc => ?_) (fun hc => ?_)
    · replace h := h.1 hc
      exact h
    · replace h := h.2 hc
      refine r_aload_n c48_120 rfl ?_
      refine r_dupr c48_121 ?_
      obtain ⟨s3, h⟩ := h
      refine r_getL c48_122 s3 ?_
      refine r_ldc2 c48_125 ?_
      obtain ⟨s4, h⟩ := h
      refine r_ldiv c48_128 s4 ?_
      obtain ⟨s5, h⟩ := h
      refine r_putL c48_129 s5 ?_
      refine r_aload_n c48_132 rfl ?_
      refine r_dupr c48_133 ?_
      obtain ⟨s6, h⟩ := h
      refine r_getL c48_134 s6 ?_
      refine r_ldc2 c48_137 ?_
      obtain ⟨s7, h⟩ := h
      refine r_ldiv c48_140 s7 ?_
      obtain ⟨s8, h⟩ := h
      refine r_putL c48_141 s8 ?_
      refine r_iinc c48_144 rfl ?_
      refine r_goto c48_147 ?_
      exact h
theorem t48_150 {d : Nat} {l0 : Nat} {l1 : Nat} {l2 : Nat} {l3 : Int} {l4 : Int} {l5 : Int} {l6 : Int} {l7 : Int} {M : Mem} {K : KK} {Q : RR → Mem → KK → Prop} (h : Q (.inl none) M K) : Wp d 48 150 [vR l0, vR l1, vR l2, vI l3, vI l4, vI l5, vI l6, vI l7] [] M K Q := by
  exact r_ret c48_150 h
theorem t49_0 {d : Nat} {l0 : Nat} {l1 : Nat} {l2 : Nat} {l3 : Int} {l4 : Int} {l5 : Int} {l6 : Int} {M : Mem} {K : KK} {Q : RR → Mem → KK → Prop} (h : Wp d 49 3 [vR l0, vR l1, vR l2, vI l3, vI l4, vI l5, vI l6, vI (0 : Int), vU, vU] [] M K Q) : Wp d 49 0 [vR l0, vR l1, vR l2, vI l3, vI l4, vI l5, vI l6, vU, vU, vU] [] M K Q := by
  refine r_iconst c49_0 ?_
  refine r_istore c49_1 (Nat.le_of_ble_eq_true rfl) ?_
  exact h
theorem t49_3 {d : Nat} {l0 : Nat} {l1 : Nat} {l2 : Nat} {l3 : Int} {l4 : Int} {l5 : Int} {l6 : Int} {l7 : Int} {M : Mem} {K : KK} {Q : RR → Mem → KK → Prop} (h : ((99 : Int) < l7 → isO K.1 l2 3 = true ∧ ∃ b2 : Nat, (M l2 1) = (b2 : Int) ∧ 0 < b2 ∧ isO K.1 b2 20 = true ∧ (0 ≤ l3 ∧ l3 < (ln b2 : Int)) ∧ ((M b2 (Int.toNat l3)) = (-1 : Int) → Wp d 49 39 [vR l0, vR l1, vR l2, vI l3, vI l4, vI l5, vI l6, vI l7, vU, vU] [vI (0 : Int)] M K Q) ∧ (¬ ((M b2 (Int.toNat l3)) = (-1 : Int)) → Wp d 49 39 [vR l0, vR l1, vR l2, vI l3, vI l4, vI l5, vI l6, vI l7, vU, vU] [vI (1 : Int)] M K Q)) ∧ (¬ ((99 : Int) < l7) → isO K.1 l0 4 = true ∧ ∃ b8 : Nat, (M l0 1) = (b8 : Int) ∧ 0 < b8 ∧ isO K.1 b8 22 = true ∧ (0 ≤ l7 ∧ l7 < (ln b8 : Int)) ∧ Wp d 49 3 [vR l0, vR l1, vR l2, vI l3, vI l4, vI l5, vI l6, vI (w32 (l7 + 1)), vU, vU] [] (mset M b8 (Int.toNat l7) (0 : Int)) K Q)) : Wp d 49 3 [vR l0, vR l1, vR l2, vI l3, vI l4, vI l5, vI l6, vI l7, vU, vU] [] M K Q := by
  refine r_iload c49_3 rfl ?_
  refine r_bipush c49_5 ?_
  refine r_icmpP (P := (99 : Int) < l7) c49_7 rfl (fun hc => ?_) (fun hc => ?_)
  · replace h := h.1 hc
    refine r_aload_n c49_24 rfl ?_
    obtain ⟨s1, h⟩ := h
    obtain ⟨b2, h⟩ := h
    obtain ⟨s3, h⟩ := h
    obtain ⟨s4, h⟩ := h
    refine r_getR c49_25 s1 s3 s4 ?_
    refine r_iload_n c49_28 rfl ?_
    obtain ⟨s5, h⟩ := h
    obtain ⟨s6, h⟩ := h
    refine r_ia c49_29 s5 s6 ?_
    refine r_iconst c49_30 ?_
    refine r_icmpP (P := (M b2 (Int.toNat l3)) = (-1 : Int)) c49_31 rfl (fun hc => ?_) (fun hc => ?_)
    · replace h := h.1 hc
      refine r_iconst c49_38 ?_
      exact h
    · replace h := h.2 hc
      refine r_iconst c49_34 ?_
      refine r_goto c49_35 ?_
      exact h
  · replace h := h.2 hc
    refine r_aload_n c49_10 rfl ?_
    obtain ⟨s7, h⟩ := h
    obtain ⟨b8, h⟩ := h
    obtain ⟨s9, h⟩ := h
    obtain ⟨s10, h⟩ := h
    refine r_getR c49_11 s7 s9 s10 ?_
    refine r_iload c49_14 rfl ?_
    refine r_lconst c49_16 ?_
    obtain ⟨s11, h⟩ := h
    obtain ⟨s12, h⟩ := h
    refine r_las c49_17 s11 s12 ?_
    refine r_iinc c49_18 rfl ?_
    refine r_goto c49_21 ?_
    exact h
theorem t49_39 {d : Nat} {l0 : Nat} {l1 : Nat} {l2 : Nat} {l3 : Int} {l4 : Int} {l5 : Int} {l6 : Int} {l7 : Int} {t0 : Int} {M : Mem} {K : KK} {Q : RR → Mem → KK → Prop} (h : isO K.1 l2 3 = true ∧ ∃ b2 : Nat, (M l2 1) = (b2 : Int) ∧ 0 < b2 ∧ isO K.1 b2 20 = true ∧ (0 ≤ l3 ∧ l3 < (ln b2 : Int)) ∧ isO K.1 l2 3 = true ∧ Wm d 46 [vR l2, vR l1, vI l3, vI (M b2 (Int.toNat l3))] M K (Bk d 49 50 53 46 [vR l0, vR l1, vR l2, vI l3, vI l4, vI l5, vI l6, vI t0, vU, vU] [] Q)) : Wp (d + 1) 49 39 [vR l0, vR l1, vR l2, vI l3, vI l4, vI l5, vI l6, vI l7, vU, vU] [vI t0] M K Q := by
  refine r_istore c49_39 (Nat.le_of_ble_eq_true rfl) ?_
  refine r_aload_n c49_41 rfl ?_
  refine r_aload_n c49_42 rfl ?_
  refine r_iload_n c49_43 rfl ?_
  refine r_aload_n c49_44 rfl ?_
  obtain ⟨s1, h⟩ := h
  obtain ⟨b2, h⟩ := h
  obtain ⟨s3, h⟩ := h
  obtain ⟨s4, h⟩ := h
  refine r_getR c49_45 s1 s3 s4 ?_
  refine r_iload_n c49_48 rfl ?_
  obtain ⟨s5, h⟩ := h
  obtain ⟨s6, h⟩ := h
  refine r_ia c49_49 s5 s6 ?_
  obtain ⟨s7, h⟩ := h
  exact r_call c49_50 rfl rfl (Nat.le_of_ble_eq_true rfl) (okc_r rfl rfl s7) h
theorem t49_53 {d : Nat} {l0 : Nat} {l1 : Nat} {l2 : Nat} {l3 : Int} {l4 : Int} {l5 : Int} {l6 : Int} {l7 : Int} {t0 : Nat} {M : Mem} {K : KK} {Q : RR → Mem → KK → Prop} (h : isO K.1 l2 3 = true ∧ isO K.1 t0 20 = true ∧ (0 ≤ (6 : Int) ∧ (6 : Int) < (ln t0 : Int)) ∧ (¬ l4 = (0 : Int) → Wp d 49 85 [vR l0, vR l1, vR l2, vI l3, vI l4, vI l5, vI l6, vI l7, vR t0, vU] [vI (0 : Int), vI (4 : Int), vR t0] (mset M t0 (Int.toNat (6 : Int)) (w32 ((M l2 4) + l4))) K Q) ∧ (¬ (¬ l4 = (0 : Int)) → isO K.1 l2 3 = true ∧ ∃ b5 : Nat, ((mset M t0 (Int.toNat (6 : Int)) (w32 ((M l2 4) + l4))) l2 2) = (b5 : Int) ∧ 0 < b5 ∧ isO K.1 b5 20 = true ∧ (0 ≤ l3 ∧ l3 < (ln b5 : Int)) ∧ Wp d 49 85 [vR l0, vR l1, vR l2, vI l3, vI l4, vI l5, vI l6, vI l7, vR t0, vU] [vI ((mset M t0 (Int.toNat (6 : Int)) (w32 ((M l2 4) + l4))) b5 (Int.toNat l3)), vI (4 : Int), vR t0] (mset M t0 (Int.toNat (6 : Int)) (w32 ((M l2 4) + l4))) K Q)) : Wp d 49 53 [vR l0, vR l1, vR l2, vI l3, vI l4, vI l5, vI l6, vI l7, vU, vU] [vR t0] M K Q := by
  refine r_astore c49_53 (Nat.le_of_ble_eq_true rfl) ?_
  refine r_aload c49_55 rfl ?_
  refine r_bipush c49_57 ?_
  refine r_aload_n c49_59 rfl ?_
  obtain ⟨s1, h⟩ := h
  refine r_getI c49_60 s1 ?_
  refine r_iload c49_63 rfl ?_
  refine r_iadd c49_65 ?_
  obtain ⟨s2, h⟩ := h
  obtain ⟨s3, h⟩ := h
  refine r_ias c49_66 s2 s3 ?_
  refine r_aload c49_67 rfl ?_
  refine r_iconst c49_69 ?_
  refine r_iload c49_70 rfl ?_
  refine r_ifP (P := ¬ l4 = (0 : Int)) c49_72 rfl (fun hc => ?_) (fun hc => ?_)
  · replace h := h.1 hc
    refine r_iconst c49_84 ?_
    exact h
  · replace h := h.2 hc
    refine r_aload_n c49_75 rfl ?_
    obtain ⟨s4, h⟩ := h
    obtain ⟨b5, h⟩ := h
    obtain ⟨s6, h⟩ := h
    obtain ⟨s7, h⟩ := h
    refine r_getR c49_76 s4 s6 s7 ?_
    refine r_iload_n c49_79 rfl ?_
    obtain ⟨s8, h⟩ := h
    obtain ⟨s9, h⟩ := h
    refine r_ia c49_80 s8 s9 ?_
    refine r_goto c49_81 ?_
    exact h
theorem t49_85 {d : Nat} {l0 : Nat} {l1 : Nat} {l2 : Nat} {l3 : Int} {l4 : Int} {l5 : Int} {l6 : Int} {l7 : Int} {l8 : Nat} {t0 : Nat} {t1 : Int} {t2 : Int} {M : Mem} {K : KK} {Q : RR → Mem → KK → Prop} (h : isO K.1 t0 20 = true ∧ (0 ≤ t1 ∧ t1 < (ln t0 : Int)) ∧ (¬ l4 = (0 : Int) → Wp d 49 104 [vR l0, vR l1, vR l2, vI l3, vI l4, vI l5, vI l6, vI l7, vR l8, vU] [vI (0 : Int), vI (5 : Int), vR l8] (mset M t0 (Int.toNat t1) t2) K Q) ∧ (¬ (¬ l4 = (0 : Int)) → isO K.1 l2 3 = true ∧ ∃ b4 : Nat, ((mset M t0 (Int.toNat t1) t2) l2 3) = (b4 : Int) ∧ 0 < b4 ∧ isO K.1 b4 20 = true ∧ (0 ≤ l3 ∧ l3 < (ln b4 : Int)) ∧ Wp d 49 104 [vR l0, vR l1, vR l2, vI l3, vI l4, vI l5, vI l6, vI l7, vR l8, vU] [vI ((mset M t0 (Int.toNat t1) t2) b4 (Int.toNat l3)), vI (5 : Int), vR l8] (mset M t0 (Int.toNat t1) t2) K Q)) : Wp d 49 85 [vR l0, vR l1, vR l2, vI l3, vI l4, vI l5, vI l6, vI l7, vR l8, vU] [vI t2, vI t1, vR t0] M K Q := by
  obtain ⟨s1, h⟩ := h
  obtain ⟨s2, h⟩ := h
  refine r_ias c49_85 s1 s2 ?_
  refine r_aload c49_86 rfl ?_
  refine r_iconst c49_88 ?_
  refine r_iload c49_89 rfl ?_
  refine r_ifP (P := ¬ l4 = (0 : Int)) c49_91 rfl (fun hc => ?_) (fun hc => ?_)
  · replace h := h.1 hc
    refine r_iconst c49_103 ?_
    exact h
  · replace h := h.2 hc
    refine r_aload_n c49_94 rfl ?_
    obtain ⟨s3, h⟩ := h
    obtain ⟨b4, h⟩ := h
    obtain ⟨s5, h⟩ := h
    obtain ⟨s6, h⟩ := h
    refine r_getR c49_95 s3 s5 s6 ?_
    refine r_iload_n c49_98 rfl ?_
    obtain ⟨s7, h⟩ := h
    obtain ⟨s8, h⟩ := h
    refine r_ia c49_99 s7 s8 ?_
    refine r_goto c49_100 ?_
    exact h
theorem t49_104 {d : Nat} {l0 : Nat} {l1 : Nat} {l2 : Nat} {l3 : Int} {l4 : Int} {l5 : Int} {l6 : Int} {l7 : Int} {l8 : Nat} {t0 : Nat} {t1 : Int} {t2 : Int} {M : Mem} {K : KK} {Q : RR → Mem → KK → Prop} (h : isO K.1 t0 20 = true ∧ (0 ≤ t1 ∧ t1 < (ln t0 : Int)) ∧ Wp d 49 108 [vR l0, vR l1, vR l2, vI l3, vI l4, vI l5, vI l6, vI l7, vR l8, vI (0 : Int)] [] (mset M t0 (Int.toNat t1) t2) K Q) : Wp d 49 104 [vR l0, vR l1, vR l2, vI l3, vI l4, vI l5, vI l6, vI l7, vR l8, vU] [vI t2, vI t1, vR t0] M K Q := by
  obtain ⟨s1, h⟩ := h
  obtain ⟨s2, h⟩ := h
  refine r_ias c49_104 s1 s2 ?_
  refine r_iconst c49_105 ?_
  refine r_istore c49_106 (Nat.le_of_ble_eq_true rfl) ?_
  exact h
theorem t49_108 {d : Nat} {l0 : Nat} {l1 : Nat} {l2 : Nat} {l3 : Int} {l4 : Int} {l5 : Int} {l6 : Int} {l7 : Int} {l8 : Nat} {l9 : Int} {M : Mem} {K : KK} {Q : RR → Mem → KK → Prop} (h : ((99 : Int) < l9 → isO K.1 l0 4 = true ∧ ∃ b2 : Nat, (M l0 0) = (b2 : Int) ∧ 0 < b2 ∧ isO K.1 l0 4 = true ∧ ∃ b6 : Nat, (M l0 1) = (b6 : Int) ∧ 0 < b6 ∧ isO K.1 l0 4 = true ∧ 0 < b6 ∧ isO K.1 l0 4 = true ∧ 0 < b2 ∧ Q (.inl none) (mset (mset M l0 0 (b6 : Nat)) l0 1 (b2 : Nat)) K) ∧ (¬ ((99 : Int) < l9) → isO K.1 l0 4 = true ∧ ∃ b14 : Nat, (M l0 0) = (b14 : Int) ∧ 0 < b14 ∧ isO K.1 b14 22 = true ∧ (0 ≤ l9 ∧ l9 < (ln b14 : Int)) ∧ ((jcmp (M b14 (Int.toNat l9)) (0 : Int)) ≤ (0 : Int) → Wp (d + 1) 49 209 [vR l0, vR l1, vR l2, vI l3, vI l4, vI l5, vI l6, vI l7, vR l8, vI l9] [] M K Q) ∧ (¬ ((jcmp (M b14 (Int.toNat l9)) (0 : Int)) ≤ (0 : Int)) → isO K.1 l0 4 = true ∧ ∃ b20 : Nat, (M l0 1) = (b20 : Int) ∧ 0 < b20 ∧ (l7 = (0 : Int) → Wp (d + 1) 49 152 [vR l0, vR l1, vR l2, vI l3, vI l4, vI l5, vI l6, vI l7, vR l8, vI l9] [vI l9, vR b20] M K Q) ∧ (¬ (l7 = (0 : Int)) → isO K.1 l1 0 = true ∧ ∃ b24 : Nat, (M l1 11) = (b24 : Int) ∧ 0 < b24 ∧ Wm d 50 [vR b24, vI l9, vI l6] M K (Bk d 49 144 147 50 [vR l0, vR l1, vR l2, vI l3, vI l4, vI l5, vI l6, vI l7, vR l8, vI l9] [vR b20] Q))))) : Wp (d + 1) 49 108 [vR l0, vR l1, vR l2, vI l3, vI l4, vI l5, vI l6, vI l7, vR l8, vI l9] [] M K Q := by
  refine r_iload c49_108 rfl ?_
  refine r_bipush c49_110 ?_
  refine r_icmpP (P := (99 : Int) < l9) c49_112 rfl (fun hc => ?_) (fun hc => ?_)
  · replace h := h.1 hc
    refine r_aload_n c49_215 rfl ?_
    obtain ⟨s1, h⟩ := h
    obtain ⟨b2, h⟩ := h
    obtain ⟨s3, h⟩ := h
    obtain ⟨s4, h⟩ := h
    refine r_getR c49_216 s1 s3 s4 ?_
    refine r_astore c49_219 (Nat.le_of_ble_eq_true rfl) ?_
    refine r_aload_n c49_221 rfl ?_
    refine r_aload_n c49_222 rfl ?_
    obtain ⟨s5, h⟩ := h
    obtain ⟨b6, h⟩ := h
    obtain ⟨s7, h⟩ := h
    obtain ⟨s8, h⟩ := h
    refine r_getR c49_223 s5 s7 s8 ?_
    obtain ⟨s9, h⟩ := h
    obtain ⟨s10, h⟩ := h
    refine r_putR c49_226 s9 s10 ?_
    refine r_aload_n c49_229 rfl ?_
    refine r_aload c49_230 rfl ?_
    obtain ⟨s11, h⟩ := h
    obtain ⟨s12, h⟩ := h
    refine r_putR c49_232 s11 s12 ?_
    exact r_ret c49_235 h
  · replace h := h.2 hc
    refine r_aload_n c49_115 rfl ?_
    obtain ⟨s13, h⟩ := h
    obtain ⟨b14, h⟩ := h
    obtain ⟨s15, h⟩ := h
    obtain ⟨s16, h⟩ := h
    refine r_getR c49_116 s13 s15 s16 ?_
    refine r_iload c49_119 rfl ?_
    obtain ⟨s17, h⟩ := h
    obtain ⟨s18, h⟩ := h
    refine r_la c49_121 s17 s18 ?_
    refine r_lconst c49_122 ?_
    refine r_lcmp c49_123 ?_
    refine r_ifP (P := (jcmp (M b14 (Int.toNat l9)) (0 : Int)) ≤ (0 : Int)) c49_124 rfl (fun hc => ?_) (fun hc => ?_)
    · replace h := h.1 hc
      exact h
    · replace h := h.2 hc
      refine r_aload_n c49_127 rfl ?_
      obtain ⟨s19, h⟩ := h
      obtain ⟨b20, h⟩ := h
      obtain ⟨s21, h⟩ := h
      obtain ⟨s22, h⟩ := h
      refine r_getR c49_128 s19 s21 s22 ?_
      refine r_iload c49_131 rfl ?_
      refine r_ifP (P := l7 = (0 : Int)) c49_133 rfl (fun hc => ?_) (fun hc => ?_)
      · replace h := h.1 hc
        refine r_iload c49_150 rfl ?_
        exact h
      · replace h := h.2 hc
        refine r_aload_n c49_136 rfl ?_
        obtain ⟨s23, h⟩ := h
        obtain ⟨b24, h⟩ := h
        obtain ⟨s25, h⟩ := h
        obtain ⟨s26, h⟩ := h
        refine r_getR c49_137 s23 s25 s26 ?_
        refine r_iload c49_140 rfl ?_
        refine r_iload c49_142 rfl ?_
        exact r_call c49_144 rfl rfl (Nat.le_of_ble_eq_true rfl) (okc_s rfl rfl rfl) h
theorem t49_147 {d : Nat} {l0 : Nat} {l1 : Nat} {l2 : Nat} {l3 : Int} {l4 : Int} {l5 : Int} {l6 : Int} {l7 : Int} {l8 : Nat} {l9 : Int} {t0 : Nat} {t1 : Int} {M : Mem} {K : KK} {Q : RR → Mem → KK → Prop} (h : Wp d 49 152 [vR l0, vR l1, vR l2, vI l3, vI l4, vI l5, vI l6, vI l7, vR l8, vI l9] [vI t1, vR t0] M K Q) : Wp d 49 147 [vR l0, vR l1, vR l2, vI l3, vI l4, vI l5, vI l6, vI l7, vR l8, vI l9] [vI t1, vR t0] M K Q := by
  refine r_goto c49_147 ?_
  exact h
theorem t49_152 {d : Nat} {l0 : Nat} {l1 : Nat} {l2 : Nat} {l3 : Int} {l4 : Int} {l5 : Int} {l6 : Int} {l7 : Int} {l8 : Nat} {l9 : Int} {t0 : Nat} {t1 : Int} {M : Mem} {K : KK} {Q : RR → Mem → KK → Prop} (h : isO K.1 t0 22 = true ∧ (0 ≤ t1 ∧ t1 < (ln t0 : Int)) ∧ isO K.1 l0 4 = true ∧ ∃ b4 : Nat, (M l0 0) = (b4 : Int) ∧ 0 < b4 ∧ isO K.1 b4 22 = true ∧ (0 ≤ l9 ∧ l9 < (ln b4 : Int)) ∧ isO K.1 t0 22 = true ∧ (0 ≤ t1 ∧ t1 < (ln t0 : Int)) ∧ isO K.1 l0 4 = true ∧ ∃ b12 : Nat, ((mset M t0 (Int.toNat t1) (w64 ((M t0 (Int.toNat t1)) + (w64 ((M b4 (Int.toNat l9)) * l5))))) l0 1) = (b12 : Int) ∧ 0 < b12 ∧ (l7 = (0 : Int) → Wp (d + 1) 49 191 [vR l0, vR l1, vR l2, vI l3, vI l4, vI l5, vI l6, vI l7, vR l8, vI l9] [vI l9, vR b12] (mset M t0 (Int.toNat t1) (w64 ((M t0 (Int.toNat t1)) + (w64 ((M b4 (Int.toNat l9)) * l5))))) K Q) ∧ (¬ (l7 = (0 : Int)) → isO K.1 l1 0 = true ∧ ∃ b16 : Nat, ((mset M t0 (Int.toNat t1) (w64 ((M t0 (Int.toNat t1)) + (w64 ((M b4 (Int.toNat l9)) * l5))))) l1 11) = (b16 : Int) ∧ 0 < b16 ∧ Wm d 50 [vR b16, vI l9, vI (0 : Int)] (mset M t0 (Int.toNat t1) (w64 ((M t0 (Int.toNat t1)) + (w64 ((M b4 (Int.toNat l9)) * l5))))) K (Bk d 49 183 186 50 [vR l0, vR l1, vR l2, vI l3, vI l4, vI l5, vI l6, vI l7, vR l8, vI l9] [vR b12] Q))) : Wp (d + 1) 49 152 [vR l0, vR l1, vR l2, vI l3, vI l4, vI l5, vI l6, vI l7, vR l8, vI l9] [vI t1, vR t0] M K Q := by
  refine r_dup2 c49_152 ?_
  obtain ⟨s1, h⟩ := h
  obtain ⟨s2, h⟩ := h
  refine r_la c49_153 s1 s2 ?_
  refine r_aload_n c49_154 rfl ?_
  obtain ⟨s3, h⟩ := h
  obtain ⟨b4, h⟩ := h
  obtain ⟨s5, h⟩ := h
  obtain ⟨s6, h⟩ := h
  refine r_getR c49_155 s3 s5 s6 ?_
  refine r_iload c49_158 rfl ?_
  obtain ⟨s7, h⟩ := h
  obtain ⟨s8, h⟩ := h
  refine r_la c49_160 s7 s8 ?_
  refine r_iload c49_161 rfl ?_
  refine r_i2l c49_163 ?_
  refine r_lmul c49_164 ?_
  refine r_ladd c49_165 ?_
  obtain ⟨s9, h⟩ := h
  obtain ⟨s10, h⟩ := h
  refine r_las c49_166 s9 s10 ?_
  refine r_aload_n c49_167 rfl ?_
  obtain ⟨s11, h⟩ := h
  obtain ⟨b12, h⟩ := h
  obtain ⟨s13, h⟩ := h
  obtain ⟨s14, h⟩ := h
  refine r_getR c49_168 s11 s13 s14 ?_
  refine r_iload c49_171 rfl ?_
  refine r_ifP (P := l7 = (0 : Int)) c49_173 rfl (fun hc => ?_) (fun hc => ?_)
  · replace h := h.1 hc
    refine r_iload c49_189 rfl ?_
    exact h
  · replace h := h.2 hc
    refine r_aload_n c49_176 rfl ?_
    obtain ⟨s15, h⟩ := h
    obtain ⟨b16, h⟩ := h
    obtain ⟨s17, h⟩ := h
    obtain ⟨s18, h⟩ := h
    refine r_getR c49_177 s15 s17 s18 ?_
    refine r_iload c49_180 rfl ?_
    refine r_iconst c49_182 ?_
    exact r_call c49_183 rfl rfl (Nat.le_of_ble_eq_true rfl) (okc_s rfl rfl rfl) h
theorem t49_186 {d : Nat} {l0 : Nat} {l1 : Nat} {l2 : Nat} {l3 : Int} {l4 : Int} {l5 : Int} {l6 : Int} {l7 : Int} {l8 : Nat} {l9 : Int} {t0 : Nat} {t1 : Int} {M : Mem} {K : KK} {Q : RR → Mem → KK → Prop} (h : Wp d 49 191 [vR l0, vR l1, vR l2, vI l3, vI l4, vI l5, vI l6, vI l7, vR l8, vI l9] [vI t1, vR t0] M K Q) : Wp d 49 186 [vR l0, vR l1, vR l2, vI l3, vI l4, vI l5, vI l6, vI l7, vR l8, vI l9] [vI t1, vR t0] M K Q := by
  refine r_goto c49_186 ?_
  exact h
theorem t49_191 {d : Nat} {l0 : Nat} {l1 : Nat} {l2 : Nat} {l3 : Int} {l4 : Int} {l5 : Int} {l6 : Int} {l7 : Int} {l8 : Nat} {l9 : Int} {t0 : Nat} {t1 : Int} {M : Mem} {K : KK} {Q : RR → Mem → KK → Prop} (h : isO K.1 t0 22 = true ∧ (0 ≤ t1 ∧ t1 < (ln t0 : Int)) ∧ isO K.1 l0 4 = true ∧ ∃ b4 : Nat, (M l0 0) = (b4 : Int) ∧ 0 < b4 ∧ isO K.1 b4 22 = true ∧ (0 ≤ l9 ∧ l9 < (ln b4 : Int)) ∧ isO K.1 t0 22 = true ∧ (0 ≤ t1 ∧ t1 < (ln t0 : Int)) ∧ Wp d 49 209 [vR l0, vR l1, vR l2, vI l3, vI l4, vI l5, vI l6, vI l7, vR l8, vI l9] [] (mset M t0 (Int.toNat t1) (w64 ((M t0 (Int.toNat t1)) + (w64 ((M b4 (Int.toNat l9)) * (w32 ((16 : Int) - l5))))))) K Q) : Wp d 49 191 [vR l0, vR l1, vR l2, vI l3, vI l4, vI l5, vI l6, vI l7, vR l8, vI l9] [vI t1, vR t0] M K Q := by
  refine r_dup2 c49_191 ?_
  obtain ⟨s1, h⟩ := h
  obtain ⟨s2, h⟩ := h
  refine r_la c49_192 s1 s2 ?_
  refine r_aload_n c49_193 rfl ?_
  obtain ⟨s3, h⟩ := h
  obtain ⟨b4, h⟩ := h
  obtain ⟨s5, h⟩ := h
  obtain ⟨s6, h⟩ := h
  refine r_getR c49_194 s3 s5 s6 ?_
  refine r_iload c49_197 rfl ?_
  obtain ⟨s7, h⟩ := h
  obtain ⟨s8, h⟩ := h
  refine r_la c49_199 s7 s8 ?_
  refine r_bipush c49_200 ?_
  refine r_iload c49_202 rfl ?_
  refine r_isub c49_204 ?_
  refine r_i2l c49_205 ?_
  refine r_lmul c49_206 ?_
  refine r_ladd c49_207 ?_
  obtain ⟨s9, h⟩ := h
  obtain ⟨s10, h⟩ := h
  refine r_las c49_208 s9 s10 ?_
  exact h
theorem t49_209 {d : Nat} {l0 : Nat} {l1 : Nat} {l2 : Nat} {l3 : Int} {l4 : Int} {l5 : Int} {l6 : Int} {l7 : Int} {l8 : Nat} {l9 : Int} {M : Mem} {K : KK} {Q : RR → Mem → KK → Prop} (h : Wp d 49 108 [vR l0, vR l1, vR l2, vI l3, vI l4, vI l5, vI l6, vI l7, vR l8, vI (w32 (l9 + 1))] [] M K Q) : Wp d 49 209 [vR l0, vR l1, vR l2, vI l3, vI l4, vI l5, vI l6, vI l7, vR l8, vI l9] [] M K Q := by
  refine r_iinc c49_209 rfl ?_
  refine r_goto c49_212 ?_
  exact h
