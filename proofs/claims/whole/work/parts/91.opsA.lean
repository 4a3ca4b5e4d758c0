theorem u263_0 {d : Nat} {l2 : Nat} {l1 : Int} {M : Mem} {K : KK} {Q : RR → Mem → KK → Prop} (hK : K.1 = 923) (hX : FX M)  (h : Wm d 105 [vR 32, vI l1] M K (Bk d 263 4 7 105 [vR 32, vI l1, vR l2, vU] [vI (0 : Int), vR l2] Q)) : Wp (d + 1) 263 0 [vR 32, vI l1, vR l2, vU] [] M K Q := by
  refine r_aload_n c263_0 rfl ?_
  refine r_iconst c263_1 ?_
  refine r_aload_n c263_2 rfl ?_
  refine r_iload_n c263_3 rfl ?_
  exact r_call c263_4 rfl rfl (Nat.le_of_ble_eq_true rfl) (okc_r rfl rfl (oK hK o32)) h
theorem u263_7 {d : Nat} {l2 : Nat} {l1 : Int} {t1 : Int} {t2 : Int} {M : Mem} {K : KK} {Q : RR → Mem → KK → Prop} (hK : K.1 = 923) (hX : FX M)  (h : isO 923 l2 22 = true ∧ (0 ≤ t1 ∧ t1 < (ln l2 : Int)) ∧ Q (.inl (some (vI (0 : Int)))) (mset M l2 (Int.toNat t1) t2) K) : Wp (d + 1) 263 7 [vR 32, vI l1, vR l2, vU] [vI t2, vI t1, vR l2] M K Q := by
  refine r_i2l c263_7 ?_
  obtain ⟨o1, h⟩ := h
  obtain ⟨s2, h⟩ := h
  refine r_las c263_8 (oK hK o1) s2 ?_
  have x3 := FX.set (v := t2) (a := l2) (k := (Int.toNat t1)) hX (nfl o1 _)
  refine r_goto c263_9 ?_
  refine r_iconst c263_15 ?_
  exact r_iret c263_16 (Or.inl rfl) h
theorem u263_12 {d : Nat} {l2 : Nat} {l1 : Int} {M : Mem} {K : KK} {Q : RR → Mem → KK → Prop} (hK : K.1 = 923) (hX : FX M)  (h : Q (.inl (some (vI (1 : Int)))) M K) : Wp (d + 1) 263 12 [vR 32, vI l1, vR l2, vU] [vU] M K Q := by
  refine r_ustore_n c263_12 (Nat.le_of_ble_eq_true rfl) ?_
  refine r_iconst c263_13 ?_
  exact r_iret c263_14 (Or.inl rfl) h
theorem u264_0 {d : Nat} {l3 : Nat} {l1 : Int} {l2 : Int} {M : Mem} {K : KK} {Q : RR → Mem → KK → Prop} (hK : K.1 = 923) (hX : FX M)  (h : Wm d 106 [vR 32, vI l1, vI l2] M K (Bk d 264 5 8 106 [vR 32, vI l1, vI l2, vR l3, vU] [vI (0 : Int), vR l3] Q)) : Wp (d + 1) 264 0 [vR 32, vI l1, vI l2, vR l3, vU] [] M K Q := by
  refine r_aload_n c264_0 rfl ?_
  refine r_iconst c264_1 ?_
  refine r_aload_n c264_2 rfl ?_
  refine r_iload_n c264_3 rfl ?_
  refine r_iload_n c264_4 rfl ?_
  exact r_call c264_5 rfl rfl (Nat.le_of_ble_eq_true rfl) (okc_r rfl rfl (oK hK o32)) h
theorem u264_8 {d : Nat} {l3 : Nat} {l1 : Int} {l2 : Int} {t1 : Int} {t2 : Int} {M : Mem} {K : KK} {Q : RR → Mem → KK → Prop} (hK : K.1 = 923) (hX : FX M)  (h : isO 923 l3 22 = true ∧ (0 ≤ t1 ∧ t1 < (ln l3 : Int)) ∧ Q (.inl (some (vI (0 : Int)))) (mset M l3 (Int.toNat t1) t2) K) : Wp (d + 1) 264 8 [vR 32, vI l1, vI l2, vR l3, vU] [vI t2, vI t1, vR l3] M K Q := by
  refine r_i2l c264_8 ?_
  obtain ⟨o1, h⟩ := h
  obtain ⟨s2, h⟩ := h
  refine r_las c264_9 (oK hK o1) s2 ?_
  have x3 := FX.set (v := t2) (a := l3) (k := (Int.toNat t1)) hX (nfl o1 _)
  refine r_goto c264_10 ?_
  refine r_iconst c264_21 ?_
  exact r_iret c264_22 (Or.inl rfl) h
theorem u264_13 {d : Nat} {l3 : Nat} {l1 : Int} {l2 : Int} {M : Mem} {K : KK} {Q : RR → Mem → KK → Prop} (hK : K.1 = 923) (hX : FX M)  (h : Q (.inl (some (vI (1 : Int)))) M K) : Wp (d + 1) 264 13 [vR 32, vI l1, vI l2, vR l3, vU] [vU] M K Q := by
  refine r_ustore c264_13 (Nat.le_of_ble_eq_true rfl) ?_
  refine r_iconst c264_15 ?_
  exact r_iret c264_16 (Or.inl rfl) h
theorem u264_17 {d : Nat} {l3 : Nat} {l1 : Int} {l2 : Int} {M : Mem} {K : KK} {Q : RR → Mem → KK → Prop} (hK : K.1 = 923) (hX : FX M)  (h : Q (.inl (some (vI (2 : Int)))) M K) : Wp (d + 1) 264 17 [vR 32, vI l1, vI l2, vR l3, vU] [vU] M K Q := by
  refine r_ustore c264_17 (Nat.le_of_ble_eq_true rfl) ?_
  refine r_iconst c264_19 ?_
  exact r_iret c264_20 (Or.inl rfl) h
theorem u265_0 {d : Nat} {l3 : Nat} {l1 : Int} {l2 : Int} {M : Mem} {K : KK} {Q : RR → Mem → KK → Prop} (hK : K.1 = 923) (hX : FX M)  (h : Wm d 107 [vR 32, vI l1, vI l2] M K (Bk d 265 5 8 107 [vR 32, vI l1, vI l2, vR l3, vU] [vI (0 : Int), vR l3] Q)) : Wp (d + 1) 265 0 [vR 32, vI l1, vI l2, vR l3, vU] [] M K Q := by
  refine r_aload_n c265_0 rfl ?_
  refine r_iconst c265_1 ?_
  refine r_aload_n c265_2 rfl ?_
  refine r_iload_n c265_3 rfl ?_
  refine r_iload_n c265_4 rfl ?_
  exact r_call c265_5 rfl rfl (Nat.le_of_ble_eq_true rfl) (okc_r rfl rfl (oK hK o32)) h
theorem u265_8 {d : Nat} {l3 : Nat} {l1 : Int} {l2 : Int} {t1 : Int} {t2 : Int} {M : Mem} {K : KK} {Q : RR → Mem → KK → Prop} (hK : K.1 = 923) (hX : FX M)  (h : isO 923 l3 22 = true ∧ (0 ≤ t1 ∧ t1 < (ln l3 : Int)) ∧ Q (.inl (some (vI (0 : Int)))) (mset M l3 (Int.toNat t1) t2) K) : Wp (d + 1) 265 8 [vR 32, vI l1, vI l2, vR l3, vU] [vI t2, vI t1, vR l3] M K Q := by
  refine r_i2l c265_8 ?_
  obtain ⟨o1, h⟩ := h
  obtain ⟨s2, h⟩ := h
  refine r_las c265_9 (oK hK o1) s2 ?_
  have x3 := FX.set (v := t2) (a := l3) (k := (Int.toNat t1)) hX (nfl o1 _)
  refine r_goto c265_10 ?_
  refine r_iconst c265_21 ?_
  exact r_iret c265_22 (Or.inl rfl) h
theorem u265_13 {d : Nat} {l3 : Nat} {l1 : Int} {l2 : Int} {M : Mem} {K : KK} {Q : RR → Mem → KK → Prop} (hK : K.1 = 923) (hX : FX M)  (h : Q (.inl (some (vI (1 : Int)))) M K) : Wp (d + 1) 265 13 [vR 32, vI l1, vI l2, vR l3, vU] [vU] M K Q := by
  refine r_ustore c265_13 (Nat.le_of_ble_eq_true rfl) ?_
  refine r_iconst c265_15 ?_
  exact r_iret c265_16 (Or.inl rfl) h
theorem u265_17 {d : Nat} {l3 : Nat} {l1 : Int} {l2 : Int} {M : Mem} {K : KK} {Q : RR → Mem → KK → Prop} (hK : K.1 = 923) (hX : FX M)  (h : Q (.inl (some (vI (2 : Int)))) M K) : Wp (d + 1) 265 17 [vR 32, vI l1, vI l2, vR l3, vU] [vU] M K Q := by
  refine r_ustore c265_17 (Nat.le_of_ble_eq_true rfl) ?_
  refine r_iconst c265_19 ?_
  exact r_iret c265_20 (Or.inl rfl) h
theorem u266_0 {d : Nat} {l2 : Nat} {l1 : Int} {M : Mem} {K : KK} {Q : RR → Mem → KK → Prop} (hK : K.1 = 923) (hX : FX M)  (h : Wm d 108 [vR 32, vI l1] M K (Bk d 266 4 7 108 [vR 32, vI l1, vR l2, vU] [vI (0 : Int), vR l2] Q)) : Wp (d + 1) 266 0 [vR 32, vI l1, vR l2, vU] [] M K Q := by
  refine r_aload_n c266_0 rfl ?_
  refine r_iconst c266_1 ?_
  refine r_aload_n c266_2 rfl ?_
  refine r_iload_n c266_3 rfl ?_
  exact r_call c266_4 rfl rfl (Nat.le_of_ble_eq_true rfl) (okc_r rfl rfl (oK hK o32)) h
theorem u266_7 {d : Nat} {l2 : Nat} {l1 : Int} {t1 : Int} {t2 : Int} {M : Mem} {K : KK} {Q : RR → Mem → KK → Prop} (hK : K.1 = 923) (hX : FX M)  (h : isO 923 l2 22 = true ∧ (0 ≤ t1 ∧ t1 < (ln l2 : Int)) ∧ Q (.inl (some (vI (0 : Int)))) (mset M l2 (Int.toNat t1) t2) K) : Wp (d + 1) 266 7 [vR 32, vI l1, vR l2, vU] [vI t2, vI t1, vR l2] M K Q := by
  refine r_i2l c266_7 ?_
  obtain ⟨o1, h⟩ := h
  obtain ⟨s2, h⟩ := h
  refine r_las c266_8 (oK hK o1) s2 ?_
  have x3 := FX.set (v := t2) (a := l2) (k := (Int.toNat t1)) hX (nfl o1 _)
  refine r_goto c266_9 ?_
  refine r_iconst c266_15 ?_
  exact r_iret c266_16 (Or.inl rfl) h
theorem u266_12 {d : Nat} {l2 : Nat} {l1 : Int} {M : Mem} {K : KK} {Q : RR → Mem → KK → Prop} (hK : K.1 = 923) (hX : FX M)  (h : Q (.inl (some (vI (1 : Int)))) M K) : Wp (d + 1) 266 12 [vR 32, vI l1, vR l2, vU] [vU] M K Q := by
  refine r_ustore_n c266_12 (Nat.le_of_ble_eq_true rfl) ?_
  refine r_iconst c266_13 ?_
  exact r_iret c266_14 (Or.inl rfl) h
theorem u267_0 {d : Nat} {l9 : Nat} {l1 : Int} {l2 : Int} {l3 : Int} {l4 : Int} {l5 : Int} {l6 : Int} {l7 : Int} {l8 : Int} {M : Mem} {K : KK} {Q : RR → Mem → KK → Prop} (hK : K.1 = 923) (hX : FX M)  (h : Wm d 109 [vR 32, vI l1, vI l2, vI l3, vI l4, vI l5, vI l6, vI l7, vI l8] M K (Bk d 267 17 20 109 [vR 32, vI l1, vI l2, vI l3, vI l4, vI l5, vI l6, vI l7, vI l8, vR l9, vU] [vI (0 : Int), vR l9] Q)) : Wp (d + 1) 267 0 [vR 32, vI l1, vI l2, vI l3, vI l4, vI l5, vI l6, vI l7, vI l8, vR l9, vU] [] M K Q := by
  refine r_aload c267_0 rfl ?_
  refine r_iconst c267_2 ?_
  refine r_aload_n c267_3 rfl ?_
  refine r_iload_n c267_4 rfl ?_
  refine r_iload_n c267_5 rfl ?_
  refine r_iload_n c267_6 rfl ?_
  refine r_iload c267_7 rfl ?_
  refine r_iload c267_9 rfl ?_
  refine r_iload c267_11 rfl ?_
  refine r_iload c267_13 rfl ?_
  refine r_iload c267_15 rfl ?_
  exact r_call c267_17 rfl rfl (Nat.le_of_ble_eq_true rfl) (okc_r rfl rfl (oK hK o32)) h
theorem u267_20 {d : Nat} {l9 : Nat} {l1 : Int} {l2 : Int} {l3 : Int} {l4 : Int} {l5 : Int} {l6 : Int} {l7 : Int} {l8 : Int} {t1 : Int} {t2 : Int} {M : Mem} {K : KK} {Q : RR → Mem → KK → Prop} (hK : K.1 = 923) (hX : FX M)  (h : isO 923 l9 22 = true ∧ (0 ≤ t1 ∧ t1 < (ln l9 : Int)) ∧ Q (.inl (some (vI (0 : Int)))) (mset M l9 (Int.toNat t1) t2) K) : Wp (d + 1) 267 20 [vR 32, vI l1, vI l2, vI l3, vI l4, vI l5, vI l6, vI l7, vI l8, vR l9, vU] [vI t2, vI t1, vR l9] M K Q := by
  refine r_i2l c267_20 ?_
  obtain ⟨o1, h⟩ := h
  obtain ⟨s2, h⟩ := h
  refine r_las c267_21 (oK hK o1) s2 ?_
  have x3 := FX.set (v := t2) (a := l9) (k := (Int.toNat t1)) hX (nfl o1 _)
  refine r_goto c267_22 ?_
  refine r_iconst c267_29 ?_
  exact r_iret c267_30 (Or.inl rfl) h
theorem u267_25 {d : Nat} {l9 : Nat} {l1 : Int} {l2 : Int} {l3 : Int} {l4 : Int} {l5 : Int} {l6 : Int} {l7 : Int} {l8 : Int} {M : Mem} {K : KK} {Q : RR → Mem → KK → Prop} (hK : K.1 = 923) (hX : FX M)  (h : Q (.inl (some (vI (1 : Int)))) M K) : Wp (d + 1) 267 25 [vR 32, vI l1, vI l2, vI l3, vI l4, vI l5, vI l6, vI l7, vI l8, vR l9, vU] [vU] M K Q := by
  refine r_ustore c267_25 (Nat.le_of_ble_eq_true rfl) ?_
  refine r_iconst c267_27 ?_
  exact r_iret c267_28 (Or.inl rfl) h
theorem u269_0 {d : Nat} {l3 : Nat} {l1 : Int} {l2 : Int} {M : Mem} {K : KK} {Q : RR → Mem → KK → Prop} (hK : K.1 = 923) (hX : FX M)  (h : Wm d 111 [vR 32, vI l1, vI l2] M K (Bk d 269 5 8 111 [vR 32, vI l1, vI l2, vR l3, vU] [vI (0 : Int), vR l3] Q)) : Wp (d + 1) 269 0 [vR 32, vI l1, vI l2, vR l3, vU] [] M K Q := by
  refine r_aload_n c269_0 rfl ?_
  refine r_iconst c269_1 ?_
  refine r_aload_n c269_2 rfl ?_
  refine r_iload_n c269_3 rfl ?_
  refine r_iload_n c269_4 rfl ?_
  exact r_call c269_5 rfl rfl (Nat.le_of_ble_eq_true rfl) (okc_r rfl rfl (oK hK o32)) h
theorem u269_8 {d : Nat} {l3 : Nat} {l1 : Int} {l2 : Int} {t1 : Int} {t2 : Int} {M : Mem} {K : KK} {Q : RR → Mem → KK → Prop} (hK : K.1 = 923) (hX : FX M)  (h : isO 923 l3 22 = true ∧ (0 ≤ t1 ∧ t1 < (ln l3 : Int)) ∧ Q (.inl (some (vI (0 : Int)))) (mset M l3 (Int.toNat t1) t2) K) : Wp (d + 1) 269 8 [vR 32, vI l1, vI l2, vR l3, vU] [vI t2, vI t1, vR l3] M K Q := by
  refine r_i2l c269_8 ?_
  obtain ⟨o1, h⟩ := h
  obtain ⟨s2, h⟩ := h
  refine r_las c269_9 (oK hK o1) s2 ?_
  have x3 := FX.set (v := t2) (a := l3) (k := (Int.toNat t1)) hX (nfl o1 _)
  refine r_goto c269_10 ?_
  refine r_iconst c269_17 ?_
  exact r_iret c269_18 (Or.inl rfl) h
theorem u269_13 {d : Nat} {l3 : Nat} {l1 : Int} {l2 : Int} {M : Mem} {K : KK} {Q : RR → Mem → KK → Prop} (hK : K.1 = 923) (hX : FX M)  (h : Q (.inl (some (vI (1 : Int)))) M K) : Wp (d + 1) 269 13 [vR 32, vI l1, vI l2, vR l3, vU] [vU] M K Q := by
  refine r_ustore c269_13 (Nat.le_of_ble_eq_true rfl) ?_
  refine r_iconst c269_15 ?_
  exact r_iret c269_16 (Or.inl rfl) h
theorem u270_0 {d : Nat} {l2 : Nat} {l1 : Int} {M : Mem} {K : KK} {Q : RR → Mem → KK → Prop} (hK : K.1 = 923) (hX : FX M)  (h : Wm d 112 [vR 32, vI l1] M K (Bk d 270 4 7 112 [vR 32, vI l1, vR l2, vU] [vI (0 : Int), vR l2] Q)) : Wp (d + 1) 270 0 [vR 32, vI l1, vR l2, vU] [] M K Q := by
  refine r_aload_n c270_0 rfl ?_
  refine r_iconst c270_1 ?_
  refine r_aload_n c270_2 rfl ?_
  refine r_iload_n c270_3 rfl ?_
  exact r_call c270_4 rfl rfl (Nat.le_of_ble_eq_true rfl) (okc_r rfl rfl (oK hK o32)) h
theorem u270_7 {d : Nat} {l2 : Nat} {l1 : Int} {t1 : Int} {t2 : Int} {M : Mem} {K : KK} {Q : RR → Mem → KK → Prop} (hK : K.1 = 923) (hX : FX M)  (h : isO 923 l2 22 = true ∧ (0 ≤ t1 ∧ t1 < (ln l2 : Int)) ∧ Q (.inl (some (vI (0 : Int)))) (mset M l2 (Int.toNat t1) t2) K) : Wp (d + 1) 270 7 [vR 32, vI l1, vR l2, vU] [vI t2, vI t1, vR l2] M K Q := by
  refine r_i2l c270_7 ?_
  obtain ⟨o1, h⟩ := h
  obtain ⟨s2, h⟩ := h
  refine r_las c270_8 (oK hK o1) s2 ?_
  have x3 := FX.set (v := t2) (a := l2) (k := (Int.toNat t1)) hX (nfl o1 _)
  refine r_goto c270_9 ?_
  refine r_iconst c270_15 ?_
  exact r_iret c270_16 (Or.inl rfl) h
theorem u270_12 {d : Nat} {l2 : Nat} {l1 : Int} {M : Mem} {K : KK} {Q : RR → Mem → KK → Prop} (hK : K.1 = 923) (hX : FX M)  (h : Q (.inl (some (vI (1 : Int)))) M K) : Wp (d + 1) 270 12 [vR 32, vI l1, vR l2, vU] [vU] M K Q := by
  refine r_ustore_n c270_12 (Nat.le_of_ble_eq_true rfl) ?_
  refine r_iconst c270_13 ?_
  exact r_iret c270_14 (Or.inl rfl) h
theorem u271_0 {d : Nat} {l2 : Nat} {l1 : Int} {M : Mem} {K : KK} {Q : RR → Mem → KK → Prop} (hK : K.1 = 923) (hX : FX M)  (h : Wm d 114 [vR 32, vI l1] M K (Bk d 271 4 7 114 [vR 32, vI l1, vR l2, vU] [vI (0 : Int), vR l2] Q)) : Wp (d + 1) 271 0 [vR 32, vI l1, vR l2, vU] [] M K Q := by
  refine r_aload_n c271_0 rfl ?_
  refine r_iconst c271_1 ?_
  refine r_aload_n c271_2 rfl ?_
  refine r_iload_n c271_3 rfl ?_
  exact r_call c271_4 rfl rfl (Nat.le_of_ble_eq_true rfl) (okc_r rfl rfl (oK hK o32)) h
theorem u271_7 {d : Nat} {l2 : Nat} {l1 : Int} {t1 : Int} {t2 : Int} {M : Mem} {K : KK} {Q : RR → Mem → KK → Prop} (hK : K.1 = 923) (hX : FX M)  (h : isO 923 l2 22 = true ∧ (0 ≤ t1 ∧ t1 < (ln l2 : Int)) ∧ Q (.inl (some (vI (0 : Int)))) (mset M l2 (Int.toNat t1) t2) K) : Wp (d + 1) 271 7 [vR 32, vI l1, vR l2, vU] [vI t2, vI t1, vR l2] M K Q := by
  refine r_i2l c271_7 ?_
  obtain ⟨o1, h⟩ := h
  obtain ⟨s2, h⟩ := h
  refine r_las c271_8 (oK hK o1) s2 ?_
  have x3 := FX.set (v := t2) (a := l2) (k := (Int.toNat t1)) hX (nfl o1 _)
  refine r_goto c271_9 ?_
  refine r_iconst c271_15 ?_
  exact r_iret c271_16 (Or.inl rfl) h
theorem u271_12 {d : Nat} {l2 : Nat} {l1 : Int} {M : Mem} {K : KK} {Q : RR → Mem → KK → Prop} (hK : K.1 = 923) (hX : FX M)  (h : Q (.inl (some (vI (1 : Int)))) M K) : Wp (d + 1) 271 12 [vR 32, vI l1, vR l2, vU] [vU] M K Q := by
  refine r_ustore_n c271_12 (Nat.le_of_ble_eq_true rfl) ?_
  refine r_iconst c271_13 ?_
  exact r_iret c271_14 (Or.inl rfl) h
theorem u272_0 {d : Nat} {l3 : Nat} {l1 : Int} {l2 : Int} {M : Mem} {K : KK} {Q : RR → Mem → KK → Prop} (hK : K.1 = 923) (hX : FX M)  (h : Wm d 115 [vR 32, vI l1, vI l2] M K (Bk d 272 5 8 115 [vR 32, vI l1, vI l2, vR l3, vU] [vI (0 : Int), vR l3] Q)) : Wp (d + 1) 272 0 [vR 32, vI l1, vI l2, vR l3, vU] [] M K Q := by
  refine r_aload_n c272_0 rfl ?_
  refine r_iconst c272_1 ?_
  refine r_aload_n c272_2 rfl ?_
  refine r_iload_n c272_3 rfl ?_
  refine r_iload_n c272_4 rfl ?_
  exact r_call c272_5 rfl rfl (Nat.le_of_ble_eq_true rfl) (okc_r rfl rfl (oK hK o32)) h
theorem u272_8 {d : Nat} {l3 : Nat} {l1 : Int} {l2 : Int} {t1 : Int} {t2 : Int} {M : Mem} {K : KK} {Q : RR → Mem → KK → Prop} (hK : K.1 = 923) (hX : FX M)  (h : isO 923 l3 22 = true ∧ (0 ≤ t1 ∧ t1 < (ln l3 : Int)) ∧ Q (.inl (some (vI (0 : Int)))) (mset M l3 (Int.toNat t1) t2) K) : Wp (d + 1) 272 8 [vR 32, vI l1, vI l2, vR l3, vU] [vI t2, vI t1, vR l3] M K Q := by
  refine r_i2l c272_8 ?_
  obtain ⟨o1, h⟩ := h
  obtain ⟨s2, h⟩ := h
  refine r_las c272_9 (oK hK o1) s2 ?_
  have x3 := FX.set (v := t2) (a := l3) (k := (Int.toNat t1)) hX (nfl o1 _)
  refine r_goto c272_10 ?_
  refine r_iconst c272_21 ?_
  exact r_iret c272_22 (Or.inl rfl) h
theorem u272_13 {d : Nat} {l3 : Nat} {l1 : Int} {l2 : Int} {M : Mem} {K : KK} {Q : RR → Mem → KK → Prop} (hK : K.1 = 923) (hX : FX M)  (h : Q (.inl (some (vI (1 : Int)))) M K) : Wp (d + 1) 272 13 [vR 32, vI l1, vI l2, vR l3, vU] [vU] M K Q := by
  refine r_ustore c272_13 (Nat.le_of_ble_eq_true rfl) ?_
  refine r_iconst c272_15 ?_
  exact r_iret c272_16 (Or.inl rfl) h
theorem u272_17 {d : Nat} {l3 : Nat} {l1 : Int} {l2 : Int} {M : Mem} {K : KK} {Q : RR → Mem → KK → Prop} (hK : K.1 = 923) (hX : FX M)  (h : Q (.inl (some (vI (2 : Int)))) M K) : Wp (d + 1) 272 17 [vR 32, vI l1, vI l2, vR l3, vU] [vU] M K Q := by
  refine r_ustore c272_17 (Nat.le_of_ble_eq_true rfl) ?_
  refine r_iconst c272_19 ?_
  exact r_iret c272_20 (Or.inl rfl) h
theorem u273_0 {d : Nat} {l2 : Nat} {l1 : Int} {M : Mem} {K : KK} {Q : RR → Mem → KK → Prop} (hK : K.1 = 923) (hX : FX M)  (h : Wm d 116 [vR 32, vI l1] M K (Bk d 273 4 7 116 [vR 32, vI l1, vR l2, vU] [vI (0 : Int), vR l2] Q)) : Wp (d + 1) 273 0 [vR 32, vI l1, vR l2, vU] [] M K Q := by
  refine r_aload_n c273_0 rfl ?_
  refine r_iconst c273_1 ?_
  refine r_aload_n c273_2 rfl ?_
  refine r_iload_n c273_3 rfl ?_
  exact r_call c273_4 rfl rfl (Nat.le_of_ble_eq_true rfl) (okc_r rfl rfl (oK hK o32)) h
theorem u273_7 {d : Nat} {l2 : Nat} {l1 : Int} {t1 : Int} {t2 : Int} {M : Mem} {K : KK} {Q : RR → Mem → KK → Prop} (hK : K.1 = 923) (hX : FX M)  (h : isO 923 l2 22 = true ∧ (0 ≤ t1 ∧ t1 < (ln l2 : Int)) ∧ Q (.inl (some (vI (0 : Int)))) (mset M l2 (Int.toNat t1) t2) K) : Wp (d + 1) 273 7 [vR 32, vI l1, vR l2, vU] [vI t2, vI t1, vR l2] M K Q := by
  refine r_i2l c273_7 ?_
  obtain ⟨o1, h⟩ := h
  obtain ⟨s2, h⟩ := h
  refine r_las c273_8 (oK hK o1) s2 ?_
  have x3 := FX.set (v := t2) (a := l2) (k := (Int.toNat t1)) hX (nfl o1 _)
  refine r_goto c273_9 ?_
  refine r_iconst c273_15 ?_
  exact r_iret c273_16 (Or.inl rfl) h
theorem u273_12 {d : Nat} {l2 : Nat} {l1 : Int} {M : Mem} {K : KK} {Q : RR → Mem → KK → Prop} (hK : K.1 = 923) (hX : FX M)  (h : Q (.inl (some (vI (1 : Int)))) M K) : Wp (d + 1) 273 12 [vR 32, vI l1, vR l2, vU] [vU] M K Q := by
  refine r_ustore_n c273_12 (Nat.le_of_ble_eq_true rfl) ?_
  refine r_iconst c273_13 ?_
  exact r_iret c273_14 (Or.inl rfl) h
theorem u274_0 {d : Nat} {l3 : Nat} {l1 : Int} {l2 : Int} {M : Mem} {K : KK} {Q : RR → Mem → KK → Prop} (hK : K.1 = 923) (hX : FX M)  (h : Wm d 117 [vR 32, vI l1, vI l2] M K (Bk d 274 5 8 117 [vR 32, vI l1, vI l2, vR l3, vU] [vI (0 : Int), vR l3] Q)) : Wp (d + 1) 274 0 [vR 32, vI l1, vI l2, vR l3, vU] [] M K Q := by
  refine r_aload_n c274_0 rfl ?_
  refine r_iconst c274_1 ?_
  refine r_aload_n c274_2 rfl ?_
  refine r_iload_n c274_3 rfl ?_
  refine r_iload_n c274_4 rfl ?_
  exact r_call c274_5 rfl rfl (Nat.le_of_ble_eq_true rfl) (okc_r rfl rfl (oK hK o32)) h
theorem u274_8 {d : Nat} {l3 : Nat} {l1 : Int} {l2 : Int} {t1 : Int} {t2 : Int} {M : Mem} {K : KK} {Q : RR → Mem → KK → Prop} (hK : K.1 = 923) (hX : FX M)  (h : isO 923 l3 22 = true ∧ (0 ≤ t1 ∧ t1 < (ln l3 : Int)) ∧ Q (.inl (some (vI (0 : Int)))) (mset M l3 (Int.toNat t1) t2) K) : Wp (d + 1) 274 8 [vR 32, vI l1, vI l2, vR l3, vU] [vI t2, vI t1, vR l3] M K Q := by
  refine r_i2l c274_8 ?_
  obtain ⟨o1, h⟩ := h
  obtain ⟨s2, h⟩ := h
  refine r_las c274_9 (oK hK o1) s2 ?_
  have x3 := FX.set (v := t2) (a := l3) (k := (Int.toNat t1)) hX (nfl o1 _)
  refine r_goto c274_10 ?_
  refine r_iconst c274_21 ?_
  exact r_iret c274_22 (Or.inl rfl) h
theorem u274_13 {d : Nat} {l3 : Nat} {l1 : Int} {l2 : Int} {M : Mem} {K : KK} {Q : RR → Mem → KK → Prop} (hK : K.1 = 923) (hX : FX M)  (h : Q (.inl (some (vI (1 : Int)))) M K) : Wp (d + 1) 274 13 [vR 32, vI l1, vI l2, vR l3, vU] [vU] M K Q := by
  refine r_ustore c274_13 (Nat.le_of_ble_eq_true rfl) ?_
  refine r_iconst c274_15 ?_
  exact r_iret c274_16 (Or.inl rfl) h
theorem u274_17 {d : Nat} {l3 : Nat} {l1 : Int} {l2 : Int} {M : Mem} {K : KK} {Q : RR → Mem → KK → Prop} (hK : K.1 = 923) (hX : FX M)  (h : Q (.inl (some (vI (2 : Int)))) M K) : Wp (d + 1) 274 17 [vR 32, vI l1, vI l2, vR l3, vU] [vU] M K Q := by
  refine r_ustore c274_17 (Nat.le_of_ble_eq_true rfl) ?_
  refine r_iconst c274_19 ?_
  exact r_iret c274_20 (Or.inl rfl) h
/-! operations that ask -/
section OPS
variable {d i : Nat} {M : Mem} {K : KK} {Q : RR → Mem → KK → Prop}
theorem op_531 {l5 l6 : PV} (hK : K.1 = 923) (hX : FX M) (hR : RZ M) (hi : InR M i) (nx : Nx d Q M K i) : Wp (d + 101) 288 531 [vR 31, vR 32, vR 440, vR 922, vI (i : Int), l5, l6, vU] [] M K Q := by
  obtain ⟨nB, B, fp, c, L, s, H, I, Y, rf, ms, wr, hI, hc, hm⟩ := hR
  refine u288_531 (l0 := 31) hK hX ⟨hi.r 1 (by decide), u263_0 hK hX (c105 hK hX hc.gc hc.sy hc.2.2.2.2.2.1.1 ⟨fun h1 => absurd trivial h1, fun h1 h2 => ?_, fun h1 h2 M1 x1 f1 => ?_⟩)⟩
  · refine Bk_h (by decide +kernel) (by decide +kernel) (u263_12 (K := K9 K) hK hX.i19 (Bk_v (gb hK hX hI hc hm nx (fun M2 K2 hK2 x2 sc2 m2 nx2 r2 => ?_))))
    refine u288_542 (l0 := 31) hK2 x2 ⟨(hi.fr sc2).r 1 (by decide), o_all.2.1, ?_⟩
    rw [sc2 31 _ (by decide)]
    exact m206 hK2 x2 m2.gm m2.sy m2.2.2.2.2.2.1 ⟨fun g1 => absurd trivial g1, fun g1 g2 M3 x3 b3 => Bk_v (u288_554 (l0 := 31) hK2 x3 ⟨o_all.2.1, u151_0 hK2 x3 (Bk_v (u288_560 (l0 := 31) hK2 x3 ⟨fun _ => ⟨fun _ => nx2 M3 _ _ x3 (r2 M3 _ b3), fun h0 => absurd h0 (by decide)⟩, fun h9 => absurd b3.2.1 h9⟩))⟩), fun g1 g2 => absurd g2 h2⟩
  · refine Bk_v (u263_7 hK x1 ⟨o_all.2.2.1, o_ln, Bk_v (gk hK x1 f1 hI hc hm nx (fun M2 K2 hK2 x2 sc2 m2 nx2 r2 => ?_))⟩)
    refine u288_542 (l0 := 31) hK2 x2 ⟨(hi.fr sc2).r 1 (by decide), o_all.2.1, ?_⟩
    rw [sc2 31 _ (by decide)]
    exact m206 hK2 x2 m2.gm m2.sy m2.2.2.2.2.2.1 ⟨fun g1 => absurd trivial g1, fun g1 g2 => absurd h2 g2, fun g1 g2 M3 x3 f3 z3 => Bk_v (u288_554 (l0 := 31) hK2 x3 ⟨o_all.2.1, u151_0 hK2 x3 (Bk_v (u288_560 (l0 := 31) hK2 x3 ⟨fun _ => ⟨fun h0 => absurd rfl h0, fun _ => ⟨o_all.2.2.1, o_ln, fun _ => nx2 M3 _ _ x3 (r2 M3 f3).1, fun h9 => absurd (by rw [(r2 M3 f3).2]; exact jcmp_s) h9⟩⟩, fun h9 => absurd z3 h9⟩))⟩)⟩
theorem op_587 {l5 l6 : PV} (hK : K.1 = 923) (hX : FX M) (hR : RZ M) (hi : InR M i) (nx : Nx d Q M K i) : Wp (d + 101) 288 587 [vR 31, vR 32, vR 440, vR 922, vI (i : Int), l5, l6, vU] [] M K Q := by
  obtain ⟨nB, B, fp, c, L, s, H, I, Y, rf, ms, wr, hI, hc, hm⟩ := hR
  refine u288_587 (l0 := 31) hK hX ⟨hi.r 1 (by decide), hi.r 2 (by decide), u264_0 hK hX (c106 hK hX hc.gc  ⟨fun h1 => ?_, fun h1 h2 => ?_, fun h1 h2 M1 x1 f1 => ?_⟩)⟩
  · refine Bk_h (by decide +kernel) (by decide +kernel) (u264_13 (K := K9 K) hK hX.i18 (Bk_v (gn hK hX hI hc hm nx (fun M2 K2 hK2 x2 sc2 m2 nx2 r2 => ?_))))
    refine u288_604 (l0 := 31) hK2 x2 ⟨(hi.fr sc2).r 1 (by decide), (hi.fr sc2).r 2 (by decide), o_all.2.1, ?_⟩
    rw [sc2 31 _ (by decide), sc2 31 _ (by decide)]
    exact m210 hK2 x2 m2.gm  ⟨fun g1 M3 x3 b3 => Bk_v (u288_622 (l0 := 31) hK2 x3 ⟨o_all.2.1, u151_0 hK2 x3 (Bk_v (u288_628 (l0 := 31) hK2 x3 ⟨fun _ => ⟨fun _ => nx2 M3 _ _ x3 (r2 M3 _ b3), fun h0 => absurd h0 (by decide)⟩, fun h9 => absurd b3.2.1 h9⟩))⟩), fun g1 => absurd g1 h1, fun g1 => absurd g1 h1⟩
  · refine Bk_h (by decide +kernel) (by decide +kernel) (u264_17 (K := K9 K) hK hX.i19 (Bk_v (gb hK hX hI hc hm nx (fun M2 K2 hK2 x2 sc2 m2 nx2 r2 => ?_))))
    refine u288_604 (l0 := 31) hK2 x2 ⟨(hi.fr sc2).r 1 (by decide), (hi.fr sc2).r 2 (by decide), o_all.2.1, ?_⟩
    rw [sc2 31 _ (by decide), sc2 31 _ (by decide)]
    exact m210 hK2 x2 m2.gm  ⟨fun g1 => absurd h1 g1, fun g1 g2 M3 x3 b3 => Bk_v (u288_622 (l0 := 31) hK2 x3 ⟨o_all.2.1, u151_0 hK2 x3 (Bk_v (u288_628 (l0 := 31) hK2 x3 ⟨fun _ => ⟨fun _ => nx2 M3 _ _ x3 (r2 M3 _ b3), fun h0 => absurd h0 (by decide)⟩, fun h9 => absurd b3.2.1 h9⟩))⟩), fun g1 g2 => absurd g2 h2⟩
  · refine Bk_v (u264_8 hK x1 ⟨o_all.2.2.1, o_ln, Bk_v (gk hK x1 f1 hI hc hm nx (fun M2 K2 hK2 x2 sc2 m2 nx2 r2 => ?_))⟩)
    refine u288_604 (l0 := 31) hK2 x2 ⟨(hi.fr sc2).r 1 (by decide), (hi.fr sc2).r 2 (by decide), o_all.2.1, ?_⟩
    rw [sc2 31 _ (by decide), sc2 31 _ (by decide)]
    exact m210 hK2 x2 m2.gm  ⟨fun g1 => absurd h1 g1, fun g1 g2 => absurd h2 g2, fun g1 g2 M3 x3 f3 z3 => Bk_v (u288_622 (l0 := 31) hK2 x3 ⟨o_all.2.1, u151_0 hK2 x3 (Bk_v (u288_628 (l0 := 31) hK2 x3 ⟨fun _ => ⟨fun h0 => absurd rfl h0, fun _ => ⟨o_all.2.2.1, o_ln, fun _ => nx2 M3 _ _ x3 (r2 M3 f3).1, fun h9 => absurd (by rw [(r2 M3 f3).2]; exact jcmp_s) h9⟩⟩, fun h9 => absurd z3 h9⟩))⟩)⟩
theorem op_655 {l5 l6 : PV} (hK : K.1 = 923) (hX : FX M) (hR : RZ M) (hi : InR M i) (nx : Nx d Q M K i) : Wp (d + 101) 288 655 [vR 31, vR 32, vR 440, vR 922, vI (i : Int), l5, l6, vU] [] M K Q := by
  obtain ⟨nB, B, fp, c, L, s, H, I, Y, rf, ms, wr, hI, hc, hm⟩ := hR
  refine u288_655 (l0 := 31) hK hX ⟨hi.r 1 (by decide), hi.r 2 (by decide), u265_0 hK hX (c107 hK hX hc.gc  ⟨fun h1 => ?_, fun h1 h2 => ?_, fun h1 h2 M1 x1 f1 => ?_⟩)⟩
  · refine Bk_h (by decide +kernel) (by decide +kernel) (u265_13 (K := K9 K) hK hX.i18 (Bk_v (gn hK hX hI hc hm nx (fun M2 K2 hK2 x2 sc2 m2 nx2 r2 => ?_))))
    refine u288_672 (l0 := 31) hK2 x2 ⟨(hi.fr sc2).r 1 (by decide), (hi.fr sc2).r 2 (by decide), o_all.2.1, ?_⟩
    rw [sc2 31 _ (by decide), sc2 31 _ (by decide)]
    exact m211 hK2 x2 m2.gm  ⟨fun g1 M3 x3 b3 => Bk_v (u288_690 (l0 := 31) hK2 x3 ⟨o_all.2.1, u151_0 hK2 x3 (Bk_v (u288_696 (l0 := 31) hK2 x3 ⟨fun _ => ⟨fun _ => nx2 M3 _ _ x3 (r2 M3 _ b3), fun h0 => absurd h0 (by decide)⟩, fun h9 => absurd b3.2.1 h9⟩))⟩), fun g1 => absurd g1 h1, fun g1 => absurd g1 h1⟩
  · refine Bk_h (by decide +kernel) (by decide +kernel) (u265_17 (K := K9 K) hK hX.i19 (Bk_v (gb hK hX hI hc hm nx (fun M2 K2 hK2 x2 sc2 m2 nx2 r2 => ?_))))
    refine u288_672 (l0 := 31) hK2 x2 ⟨(hi.fr sc2).r 1 (by decide), (hi.fr sc2).r 2 (by decide), o_all.2.1, ?_⟩
    rw [sc2 31 _ (by decide), sc2 31 _ (by decide)]
    exact m211 hK2 x2 m2.gm  ⟨fun g1 => absurd h1 g1, fun g1 g2 M3 x3 b3 => Bk_v (u288_690 (l0 := 31) hK2 x3 ⟨o_all.2.1, u151_0 hK2 x3 (Bk_v (u288_696 (l0 := 31) hK2 x3 ⟨fun _ => ⟨fun _ => nx2 M3 _ _ x3 (r2 M3 _ b3), fun h0 => absurd h0 (by decide)⟩, fun h9 => absurd b3.2.1 h9⟩))⟩), fun g1 g2 => absurd g2 h2⟩
  · refine Bk_v (u265_8 hK x1 ⟨o_all.2.2.1, o_ln, Bk_v (gk hK x1 f1 hI hc hm nx (fun M2 K2 hK2 x2 sc2 m2 nx2 r2 => ?_))⟩)
    refine u288_672 (l0 := 31) hK2 x2 ⟨(hi.fr sc2).r 1 (by decide), (hi.fr sc2).r 2 (by decide), o_all.2.1, ?_⟩
    rw [sc2 31 _ (by decide), sc2 31 _ (by decide)]
    exact m211 hK2 x2 m2.gm  ⟨fun g1 => absurd h1 g1, fun g1 g2 => absurd h2 g2, fun g1 g2 M3 x3 f3 z3 => Bk_v (u288_690 (l0 := 31) hK2 x3 ⟨o_all.2.1, u151_0 hK2 x3 (Bk_v (u288_696 (l0 := 31) hK2 x3 ⟨fun _ => ⟨fun h0 => absurd rfl h0, fun _ => ⟨o_all.2.2.1, o_ln, fun _ => nx2 M3 _ _ x3 (r2 M3 f3).1, fun h9 => absurd (by rw [(r2 M3 f3).2]; exact jcmp_s) h9⟩⟩, fun h9 => absurd z3 h9⟩))⟩)⟩
theorem op_723 {l5 l6 : PV} (hK : K.1 = 923) (hX : FX M) (hR : RZ M) (hi : InR M i) (nx : Nx d Q M K i) : Wp (d + 101) 288 723 [vR 31, vR 32, vR 440, vR 922, vI (i : Int), l5, l6, vU] [] M K Q := by
  obtain ⟨nB, B, fp, c, L, s, H, I, Y, rf, ms, wr, hI, hc, hm⟩ := hR
  refine u288_723 (l0 := 31) hK hX ⟨hi.r 1 (by decide), u266_0 hK hX (c108 hK hX hc.gc  ⟨fun h1 => ?_, fun _ h2 => absurd trivial h2, fun h1 h2 M1 x1 f1 => ?_⟩)⟩
  · refine Bk_h (by decide +kernel) (by decide +kernel) (u266_12 (K := K9 K) hK hX.i18 (Bk_v (gn hK hX hI hc hm nx (fun M2 K2 hK2 x2 sc2 m2 nx2 r2 => ?_))))
    refine u288_734 (l0 := 31) hK2 x2 ⟨(hi.fr sc2).r 1 (by decide), o_all.2.1, ?_⟩
    rw [sc2 31 _ (by decide)]
    exact m212 hK2 x2 m2.gm  ⟨fun g1 M3 x3 b3 => Bk_v (u288_746 (l0 := 31) hK2 x3 ⟨o_all.2.1, u151_0 hK2 x3 (Bk_v (u288_752 (l0 := 31) hK2 x3 ⟨fun _ => ⟨fun _ => nx2 M3 _ _ x3 (r2 M3 _ b3), fun h0 => absurd h0 (by decide)⟩, fun h9 => absurd b3.2.1 h9⟩))⟩), fun _ g2 => absurd trivial g2, fun g1 => absurd g1 h1⟩
  · refine Bk_v (u266_7 hK x1 ⟨o_all.2.2.1, o_ln, Bk_v (gk hK x1 f1 hI hc hm nx (fun M2 K2 hK2 x2 sc2 m2 nx2 r2 => ?_))⟩)
    refine u288_734 (l0 := 31) hK2 x2 ⟨(hi.fr sc2).r 1 (by decide), o_all.2.1, ?_⟩
    rw [sc2 31 _ (by decide)]
    exact m212 hK2 x2 m2.gm  ⟨fun g1 => absurd h1 g1, fun _ g2 => absurd trivial g2, fun g1 g2 M3 x3 f3 z3 => Bk_v (u288_746 (l0 := 31) hK2 x3 ⟨o_all.2.1, u151_0 hK2 x3 (Bk_v (u288_752 (l0 := 31) hK2 x3 ⟨fun _ => ⟨fun h0 => absurd rfl h0, fun _ => ⟨o_all.2.2.1, o_ln, fun _ => nx2 M3 _ _ x3 (r2 M3 f3).1, fun h9 => absurd (by rw [(r2 M3 f3).2]; exact jcmp_s) h9⟩⟩, fun h9 => absurd z3 h9⟩))⟩)⟩
theorem op_779 {l5 l6 : PV} (hK : K.1 = 923) (hX : FX M) (hR : RZ M) (hi : InR M i) (nx : Nx d Q M K i) : Wp (d + 101) 288 779 [vR 31, vR 32, vR 440, vR 922, vI (i : Int), l5, l6, vU] [] M K Q := by
  obtain ⟨nB, B, fp, c, L, s, H, I, Y, rf, ms, wr, hI, hc, hm⟩ := hR
  refine u288_779 (l0 := 31) hK hX ⟨hi.r 1 (by decide), hi.r 2 (by decide), hi.r 3 (by decide), hi.r 4 (by decide), hi.r 5 (by decide), hi.r 6 (by decide), hi.r 7 (by decide), hi.r 8 (by decide), u267_0 hK hX (c109 hK hX hc.gc  ⟨fun h1 => absurd trivial h1, fun h1 h2 => ?_, fun h1 h2 M1 x1 f1 => ?_⟩)⟩
  · refine Bk_h (by decide +kernel) (by decide +kernel) (u267_25 (K := K9 K) hK hX.i19 (Bk_v (gb hK hX hI hc hm nx (fun M2 K2 hK2 x2 sc2 m2 nx2 r2 => ?_))))
    refine u288_835 (l0 := 31) hK2 x2 ⟨(hi.fr sc2).r 1 (by decide), (hi.fr sc2).r 2 (by decide), (hi.fr sc2).r 3 (by decide), (hi.fr sc2).r 4 (by decide), (hi.fr sc2).r 5 (by decide), (hi.fr sc2).r 6 (by decide), (hi.fr sc2).r 7 (by decide), (hi.fr sc2).r 8 (by decide), o_all.2.1, ?_⟩
    rw [sc2 31 _ (by decide), sc2 31 _ (by decide), sc2 31 _ (by decide), sc2 31 _ (by decide), sc2 31 _ (by decide), sc2 31 _ (by decide), sc2 31 _ (by decide), sc2 31 _ (by decide)]
    exact m213 hK2 x2 m2.gm  ⟨fun g1 => absurd trivial g1, fun g1 g2 M3 x3 b3 => Bk_v (u288_892 (l0 := 31) hK2 x3 ⟨o_all.2.1, u151_0 hK2 x3 (Bk_v (u288_898 (l0 := 31) hK2 x3 ⟨fun _ => ⟨fun _ => nx2 M3 _ _ x3 (r2 M3 _ b3), fun h0 => absurd h0 (by decide)⟩, fun h9 => absurd b3.2.1 h9⟩))⟩), fun g1 g2 => absurd g2 h2⟩
  · refine Bk_v (u267_20 hK x1 ⟨o_all.2.2.1, o_ln, Bk_v (gk hK x1 f1 hI hc hm nx (fun M2 K2 hK2 x2 sc2 m2 nx2 r2 => ?_))⟩)
    refine u288_835 (l0 := 31) hK2 x2 ⟨(hi.fr sc2).r 1 (by decide), (hi.fr sc2).r 2 (by decide), (hi.fr sc2).r 3 (by decide), (hi.fr sc2).r 4 (by decide), (hi.fr sc2).r 5 (by decide), (hi.fr sc2).r 6 (by decide), (hi.fr sc2).r 7 (by decide), (hi.fr sc2).r 8 (by decide), o_all.2.1, ?_⟩
    rw [sc2 31 _ (by decide), sc2 31 _ (by decide), sc2 31 _ (by decide), sc2 31 _ (by decide), sc2 31 _ (by decide), sc2 31 _ (by decide), sc2 31 _ (by decide), sc2 31 _ (by decide)]
    exact m213 hK2 x2 m2.gm  ⟨fun g1 => absurd trivial g1, fun g1 g2 => absurd h2 g2, fun g1 g2 M3 x3 f3 z3 => Bk_v (u288_892 (l0 := 31) hK2 x3 ⟨o_all.2.1, u151_0 hK2 x3 (Bk_v (u288_898 (l0 := 31) hK2 x3 ⟨fun _ => ⟨fun h0 => absurd rfl h0, fun _ => ⟨o_all.2.2.1, o_ln, fun _ => nx2 M3 _ _ x3 (r2 M3 f3).1, fun h9 => absurd (by rw [(r2 M3 f3).2]; exact jcmp_s) h9⟩⟩, fun h9 => absurd z3 h9⟩))⟩)⟩
theorem op_1000 {l5 l6 : PV} (hK : K.1 = 923) (hX : FX M) (hR : RZ M) (hi : InR M i) (nx : Nx d Q M K i) : Wp (d + 101) 288 1000 [vR 31, vR 32, vR 440, vR 922, vI (i : Int), l5, l6, vU] [] M K Q := by
  obtain ⟨nB, B, fp, c, L, s, H, I, Y, rf, ms, wr, hI, hc, hm⟩ := hR
  refine u288_1000 (l0 := 31) hK hX ⟨hi.r 1 (by decide), hi.r 2 (by decide), u269_0 hK hX (c111 hK hX hc.gc hI.2.2.1.2 ⟨fun h1 => absurd trivial h1, fun h1 h2 => ?_, fun h1 h2 M1 x1 f1 => ?_⟩)⟩
  · refine Bk_h (by decide +kernel) (by decide +kernel) (u269_13 (K := K9 K) hK hX.i19 (Bk_v (gb hK hX hI hc hm nx (fun M2 K2 hK2 x2 sc2 m2 nx2 r2 => ?_))))
    refine u288_1017 (l0 := 31) hK2 x2 ⟨(hi.fr sc2).r 1 (by decide), (hi.fr sc2).r 2 (by decide), o_all.2.1, ?_⟩
    rw [sc2 31 _ (by decide), sc2 31 _ (by decide)]
    exact m215 hK2 x2 m2.gm hI.2.2.1.2 ⟨fun g1 => absurd trivial g1, fun g1 g2 M3 x3 b3 => Bk_v (u288_1035 (l0 := 31) hK2 x3 ⟨o_all.2.1, u151_0 hK2 x3 (Bk_v (u288_1041 (l0 := 31) hK2 x3 ⟨fun _ => ⟨fun _ => nx2 M3 _ _ x3 (r2 M3 _ b3), fun h0 => absurd h0 (by decide)⟩, fun h9 => absurd b3.2.1 h9⟩))⟩), fun g1 g2 => absurd g2 h2⟩
  · refine Bk_v (u269_8 hK x1 ⟨o_all.2.2.1, o_ln, Bk_v (gk hK x1 f1 hI hc hm nx (fun M2 K2 hK2 x2 sc2 m2 nx2 r2 => ?_))⟩)
    refine u288_1017 (l0 := 31) hK2 x2 ⟨(hi.fr sc2).r 1 (by decide), (hi.fr sc2).r 2 (by decide), o_all.2.1, ?_⟩
    rw [sc2 31 _ (by decide), sc2 31 _ (by decide)]
    exact m215 hK2 x2 m2.gm hI.2.2.1.2 ⟨fun g1 => absurd trivial g1, fun g1 g2 => absurd h2 g2, fun g1 g2 M3 x3 f3 z3 => Bk_v (u288_1035 (l0 := 31) hK2 x3 ⟨o_all.2.1, u151_0 hK2 x3 (Bk_v (u288_1041 (l0 := 31) hK2 x3 ⟨fun _ => ⟨fun h0 => absurd rfl h0, fun _ => ⟨o_all.2.2.1, o_ln, fun _ => nx2 M3 _ _ x3 (r2 M3 f3).1, fun h9 => absurd (by rw [(r2 M3 f3).2]; exact jcmp_s) h9⟩⟩, fun h9 => absurd z3 h9⟩))⟩)⟩
theorem op_1068 {l5 l6 : PV} (hK : K.1 = 923) (hX : FX M) (hR : RZ M) (hi : InR M i) (nx : Nx d Q M K i) : Wp (d + 101) 288 1068 [vR 31, vR 32, vR 440, vR 922, vI (i : Int), l5, l6, vU] [] M K Q := by
  obtain ⟨nB, B, fp, c, L, s, H, I, Y, rf, ms, wr, hI, hc, hm⟩ := hR
  refine u288_1068 (l0 := 31) hK hX ⟨hi.r 1 (by decide), u270_0 hK hX (c112 hK hX hc.gc hI.2.2.1.2 ⟨fun h1 => ?_, fun _ h2 => absurd trivial h2, fun h1 h2 M1 x1 f1 => ?_⟩)⟩
  · refine Bk_h (by decide +kernel) (by decide +kernel) (u270_12 (K := K9 K) hK hX.i18 (Bk_v (gn hK hX hI hc hm nx (fun M2 K2 hK2 x2 sc2 m2 nx2 r2 => ?_))))
    refine u288_1079 (l0 := 31) hK2 x2 ⟨(hi.fr sc2).r 1 (by decide), o_all.2.1, ?_⟩
    rw [sc2 31 _ (by decide)]
    exact m216 hK2 x2 m2.gm hI.2.2.1.2 ⟨fun g1 M3 x3 b3 => Bk_v (u288_1091 (l0 := 31) hK2 x3 ⟨o_all.2.1, u151_0 hK2 x3 (Bk_v (u288_1097 (l0 := 31) hK2 x3 ⟨fun _ => ⟨fun _ => nx2 M3 _ _ x3 (r2 M3 _ b3), fun h0 => absurd h0 (by decide)⟩, fun h9 => absurd b3.2.1 h9⟩))⟩), fun _ g2 => absurd trivial g2, fun g1 => absurd g1 h1⟩
  · refine Bk_v (u270_7 hK x1 ⟨o_all.2.2.1, o_ln, Bk_v (gk hK x1 f1 hI hc hm nx (fun M2 K2 hK2 x2 sc2 m2 nx2 r2 => ?_))⟩)
    refine u288_1079 (l0 := 31) hK2 x2 ⟨(hi.fr sc2).r 1 (by decide), o_all.2.1, ?_⟩
    rw [sc2 31 _ (by decide)]
    exact m216 hK2 x2 m2.gm hI.2.2.1.2 ⟨fun g1 => absurd h1 g1, fun _ g2 => absurd trivial g2, fun g1 g2 M3 x3 f3 z3 => Bk_v (u288_1091 (l0 := 31) hK2 x3 ⟨o_all.2.1, u151_0 hK2 x3 (Bk_v (u288_1097 (l0 := 31) hK2 x3 ⟨fun _ => ⟨fun h0 => absurd rfl h0, fun _ => ⟨o_all.2.2.1, o_ln, fun _ => nx2 M3 _ _ x3 (r2 M3 f3).1, fun h9 => absurd (by rw [(r2 M3 f3).2]; exact jcmp_s) h9⟩⟩, fun h9 => absurd z3 h9⟩))⟩)⟩
theorem op_1124 {l5 l6 : PV} (hK : K.1 = 923) (hX : FX M) (hR : RZ M) (hi : InR M i) (nx : Nx d Q M K i) : Wp (d + 101) 288 1124 [vR 31, vR 32, vR 440, vR 922, vI (i : Int), l5, l6, vU] [] M K Q := by
  obtain ⟨nB, B, fp, c, L, s, H, I, Y, rf, ms, wr, hI, hc, hm⟩ := hR
  refine u288_1124 (l0 := 31) hK hX ⟨hi.r 1 (by decide), u271_0 hK hX (c114 hK hX hc.gc  (fun h2 => ?_) (fun h2 M1 x1 f1 => ?_))⟩
  · refine Bk_h (by decide +kernel) (by decide +kernel) (u271_12 (K := K9 K) hK hX.i19 (Bk_v (gb hK hX hI hc hm nx (fun M2 K2 hK2 x2 sc2 m2 nx2 r2 => ?_))))
    refine u288_1135 (l0 := 31) hK2 x2 ⟨(hi.fr sc2).r 1 (by decide), o_all.2.1, ?_⟩
    rw [sc2 31 _ (by decide)]
    exact m220 hK2 x2 m2.gm  (fun g2 M3 x3 b3 => Bk_v (u288_1147 (l0 := 31) hK2 x3 ⟨o_all.2.1, u151_0 hK2 x3 (Bk_v (u288_1153 (l0 := 31) hK2 x3 ⟨fun _ => ⟨fun _ => nx2 M3 _ _ x3 (r2 M3 _ b3), fun h0 => absurd h0 (by decide)⟩, fun h9 => absurd b3.2.1 h9⟩))⟩)) (fun g2 => absurd g2 h2)
  · refine Bk_v (u271_7 hK x1 ⟨o_all.2.2.1, o_ln, Bk_v (gk hK x1 f1 hI hc hm nx (fun M2 K2 hK2 x2 sc2 m2 nx2 r2 => ?_))⟩)
    refine u288_1135 (l0 := 31) hK2 x2 ⟨(hi.fr sc2).r 1 (by decide), o_all.2.1, ?_⟩
    rw [sc2 31 _ (by decide)]
    exact m220 hK2 x2 m2.gm  (fun g2 => absurd h2 g2) (fun g2 M3 x3 f3 z3 => Bk_v (u288_1147 (l0 := 31) hK2 x3 ⟨o_all.2.1, u151_0 hK2 x3 (Bk_v (u288_1153 (l0 := 31) hK2 x3 ⟨fun _ => ⟨fun h0 => absurd rfl h0, fun _ => ⟨o_all.2.2.1, o_ln, fun _ => nx2 M3 _ _ x3 (r2 M3 f3).1, fun h9 => absurd (by rw [(r2 M3 f3).2]; exact jcmp_s) h9⟩⟩, fun h9 => absurd z3 h9⟩))⟩))
theorem op_1180 {l5 l6 : PV} (hK : K.1 = 923) (hX : FX M) (hR : RZ M) (hi : InR M i) (nx : Nx d Q M K i) : Wp (d + 101) 288 1180 [vR 31, vR 32, vR 440, vR 922, vI (i : Int), l5, l6, vU] [] M K Q := by
  obtain ⟨nB, B, fp, c, L, s, H, I, Y, rf, ms, wr, hI, hc, hm⟩ := hR
  refine u288_1180 (l0 := 31) hK hX ⟨hi.r 1 (by decide), hi.r 2 (by decide), u272_0 hK hX (c115 hK hX hc.gc  (fun h1 => ?_) (fun h1 h2 => ?_) (fun h1 h2 M1 x1 f1 => ?_))⟩
  · refine Bk_h (by decide +kernel) (by decide +kernel) (u272_13 (K := K9 K) hK hX.i18 (Bk_v (gn hK hX hI hc hm nx (fun M2 K2 hK2 x2 sc2 m2 nx2 r2 => ?_))))
    refine u288_1197 (l0 := 31) hK2 x2 ⟨(hi.fr sc2).r 1 (by decide), (hi.fr sc2).r 2 (by decide), o_all.2.1, ?_⟩
    rw [sc2 31 _ (by decide), sc2 31 _ (by decide)]
    exact m221 hK2 x2 m2.gm  (fun g1 M3 x3 b3 => Bk_v (u288_1215 (l0 := 31) hK2 x3 ⟨o_all.2.1, u151_0 hK2 x3 (Bk_v (u288_1221 (l0 := 31) hK2 x3 ⟨fun _ => ⟨fun _ => nx2 M3 _ _ x3 (r2 M3 _ b3), fun h0 => absurd h0 (by decide)⟩, fun h9 => absurd b3.2.1 h9⟩))⟩)) (fun g1 => absurd g1 h1) (fun g1 => absurd g1 h1)
  · refine Bk_h (by decide +kernel) (by decide +kernel) (u272_17 (K := K9 K) hK hX.i19 (Bk_v (gb hK hX hI hc hm nx (fun M2 K2 hK2 x2 sc2 m2 nx2 r2 => ?_))))
    refine u288_1197 (l0 := 31) hK2 x2 ⟨(hi.fr sc2).r 1 (by decide), (hi.fr sc2).r 2 (by decide), o_all.2.1, ?_⟩
    rw [sc2 31 _ (by decide), sc2 31 _ (by decide)]
    exact m221 hK2 x2 m2.gm  (fun g1 => absurd h1 g1) (fun g1 g2 M3 x3 b3 => Bk_v (u288_1215 (l0 := 31) hK2 x3 ⟨o_all.2.1, u151_0 hK2 x3 (Bk_v (u288_1221 (l0 := 31) hK2 x3 ⟨fun _ => ⟨fun _ => nx2 M3 _ _ x3 (r2 M3 _ b3), fun h0 => absurd h0 (by decide)⟩, fun h9 => absurd b3.2.1 h9⟩))⟩)) (fun g1 g2 => absurd g2 h2)
  · refine Bk_v (u272_8 hK x1 ⟨o_all.2.2.1, o_ln, Bk_v (gk hK x1 f1 hI hc hm nx (fun M2 K2 hK2 x2 sc2 m2 nx2 r2 => ?_))⟩)
    refine u288_1197 (l0 := 31) hK2 x2 ⟨(hi.fr sc2).r 1 (by decide), (hi.fr sc2).r 2 (by decide), o_all.2.1, ?_⟩
    rw [sc2 31 _ (by decide), sc2 31 _ (by decide)]
    exact m221 hK2 x2 m2.gm  (fun g1 => absurd h1 g1) (fun g1 g2 => absurd h2 g2) (fun g1 g2 M3 x3 f3 z3 => Bk_v (u288_1215 (l0 := 31) hK2 x3 ⟨o_all.2.1, u151_0 hK2 x3 (Bk_v (u288_1221 (l0 := 31) hK2 x3 ⟨fun _ => ⟨fun h0 => absurd rfl h0, fun _ => ⟨o_all.2.2.1, o_ln, fun _ => nx2 M3 _ _ x3 (r2 M3 f3).1, fun h9 => absurd (by rw [(r2 M3 f3).2]; exact jcmp_s) h9⟩⟩, fun h9 => absurd z3 h9⟩))⟩))
theorem op_1248 {l5 l6 : PV} (hK : K.1 = 923) (hX : FX M) (hR : RZ M) (hi : InR M i) (nx : Nx d Q M K i) : Wp (d + 101) 288 1248 [vR 31, vR 32, vR 440, vR 922, vI (i : Int), l5, l6, vU] [] M K Q := by
  obtain ⟨nB, B, fp, c, L, s, H, I, Y, rf, ms, wr, hI, hc, hm⟩ := hR
  refine u288_1248 (l0 := 31) hK hX ⟨hi.r 1 (by decide), u273_0 hK hX (c116 hK hX hc.gc  (fun h2 => ?_) (fun h2 M1 x1 f1 => ?_))⟩
  · refine Bk_h (by decide +kernel) (by decide +kernel) (u273_12 (K := K9 K) hK hX.i19 (Bk_v (gb hK hX hI hc hm nx (fun M2 K2 hK2 x2 sc2 m2 nx2 r2 => ?_))))
    refine u288_1259 (l0 := 31) hK2 x2 ⟨(hi.fr sc2).r 1 (by decide), o_all.2.1, ?_⟩
    rw [sc2 31 _ (by decide)]
    exact m224 hK2 x2 m2.gm  (fun g2 M3 x3 b3 => Bk_v (u288_1271 (l0 := 31) hK2 x3 ⟨o_all.2.1, u151_0 hK2 x3 (Bk_v (u288_1277 (l0 := 31) hK2 x3 ⟨fun _ => ⟨fun _ => nx2 M3 _ _ x3 (r2 M3 _ b3), fun h0 => absurd h0 (by decide)⟩, fun h9 => absurd b3.2.1 h9⟩))⟩)) (fun g2 => absurd g2 h2)
  · refine Bk_v (u273_7 hK x1 ⟨o_all.2.2.1, o_ln, Bk_v (gk hK x1 f1 hI hc hm nx (fun M2 K2 hK2 x2 sc2 m2 nx2 r2 => ?_))⟩)
    refine u288_1259 (l0 := 31) hK2 x2 ⟨(hi.fr sc2).r 1 (by decide), o_all.2.1, ?_⟩
    rw [sc2 31 _ (by decide)]
    exact m224 hK2 x2 m2.gm  (fun g2 => absurd h2 g2) (fun g2 M3 x3 f3 z3 => Bk_v (u288_1271 (l0 := 31) hK2 x3 ⟨o_all.2.1, u151_0 hK2 x3 (Bk_v (u288_1277 (l0 := 31) hK2 x3 ⟨fun _ => ⟨fun h0 => absurd rfl h0, fun _ => ⟨o_all.2.2.1, o_ln, fun _ => nx2 M3 _ _ x3 (r2 M3 f3).1, fun h9 => absurd (by rw [(r2 M3 f3).2]; exact jcmp_s) h9⟩⟩, fun h9 => absurd z3 h9⟩))⟩))
theorem op_1304 {l5 l6 : PV} (hK : K.1 = 923) (hX : FX M) (hR : RZ M) (hi : InR M i) (nx : Nx d Q M K i) : Wp (d + 101) 288 1304 [vR 31, vR 32, vR 440, vR 922, vI (i : Int), l5, l6, vU] [] M K Q := by
  obtain ⟨nB, B, fp, c, L, s, H, I, Y, rf, ms, wr, hI, hc, hm⟩ := hR
  refine u288_1304 (l0 := 31) hK hX ⟨hi.r 1 (by decide), hi.r 2 (by decide), u274_0 hK hX (c117 hK hX hc.gc  (fun h1 => ?_) (fun h1 h2 => ?_) (fun h1 h2 M1 x1 f1 => ?_))⟩
  · refine Bk_h (by decide +kernel) (by decide +kernel) (u274_13 (K := K9 K) hK hX.i18 (Bk_v (gn hK hX hI hc hm nx (fun M2 K2 hK2 x2 sc2 m2 nx2 r2 => ?_))))
    refine u288_1321 (l0 := 31) hK2 x2 ⟨(hi.fr sc2).r 1 (by decide), (hi.fr sc2).r 2 (by decide), o_all.2.1, ?_⟩
    rw [sc2 31 _ (by decide), sc2 31 _ (by decide)]
    exact m225 hK2 x2 m2.gm  (fun g1 M3 x3 b3 => Bk_v (u288_1339 (l0 := 31) hK2 x3 ⟨o_all.2.1, u151_0 hK2 x3 (Bk_v (u288_1345 (l0 := 31) hK2 x3 ⟨fun _ => ⟨fun _ => nx2 M3 _ _ x3 (r2 M3 _ b3), fun h0 => absurd h0 (by decide)⟩, fun h9 => absurd b3.2.1 h9⟩))⟩)) (fun g1 => absurd g1 h1) (fun g1 => absurd g1 h1)
  · refine Bk_h (by decide +kernel) (by decide +kernel) (u274_17 (K := K9 K) hK hX.i19 (Bk_v (gb hK hX hI hc hm nx (fun M2 K2 hK2 x2 sc2 m2 nx2 r2 => ?_))))
    refine u288_1321 (l0 := 31) hK2 x2 ⟨(hi.fr sc2).r 1 (by decide), (hi.fr sc2).r 2 (by decide), o_all.2.1, ?_⟩
    rw [sc2 31 _ (by decide), sc2 31 _ (by decide)]
    exact m225 hK2 x2 m2.gm  (fun g1 => absurd h1 g1) (fun g1 g2 M3 x3 b3 => Bk_v (u288_1339 (l0 := 31) hK2 x3 ⟨o_all.2.1, u151_0 hK2 x3 (Bk_v (u288_1345 (l0 := 31) hK2 x3 ⟨fun _ => ⟨fun _ => nx2 M3 _ _ x3 (r2 M3 _ b3), fun h0 => absurd h0 (by decide)⟩, fun h9 => absurd b3.2.1 h9⟩))⟩)) (fun g1 g2 => absurd g2 h2)
  · refine Bk_v (u274_8 hK x1 ⟨o_all.2.2.1, o_ln, Bk_v (gk hK x1 f1 hI hc hm nx (fun M2 K2 hK2 x2 sc2 m2 nx2 r2 => ?_))⟩)
    refine u288_1321 (l0 := 31) hK2 x2 ⟨(hi.fr sc2).r 1 (by decide), (hi.fr sc2).r 2 (by decide), o_all.2.1, ?_⟩
    rw [sc2 31 _ (by decide), sc2 31 _ (by decide)]
    exact m225 hK2 x2 m2.gm  (fun g1 => absurd h1 g1) (fun g1 g2 => absurd h2 g2) (fun g1 g2 M3 x3 f3 z3 => Bk_v (u288_1339 (l0 := 31) hK2 x3 ⟨o_all.2.1, u151_0 hK2 x3 (Bk_v (u288_1345 (l0 := 31) hK2 x3 ⟨fun _ => ⟨fun h0 => absurd rfl h0, fun _ => ⟨o_all.2.2.1, o_ln, fun _ => nx2 M3 _ _ x3 (r2 M3 f3).1, fun h9 => absurd (by rw [(r2 M3 f3).2]; exact jcmp_s) h9⟩⟩, fun h9 => absurd z3 h9⟩))⟩))
end OPS
