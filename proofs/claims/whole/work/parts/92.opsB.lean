theorem u275_0 {d : Nat} {l6 : Nat} {l1 : Int} {l2 : Int} {l3 : Int} {l4 : Int} {l5 : Int} {M : Mem} {K : KK} {Q : RR → Mem → KK → Prop} (hK : K.1 = 923) (hX : FX M)  (h : Wm d 118 [vR 32, vI l1, vI l2, vI l3, vI l4, vI l5] M K (Bk d 275 11 14 118 [vR 32, vI l1, vI l2, vI l3, vI l4, vI l5, vR l6, vU] [vI (0 : Int), vR l6] Q)) : Wp (d + 1) 275 0 [vR 32, vI l1, vI l2, vI l3, vI l4, vI l5, vR l6, vU] [] M K Q := by
  refine r_aload c275_0 rfl ?_
  refine r_iconst c275_2 ?_
  refine r_aload_n c275_3 rfl ?_
  refine r_iload_n c275_4 rfl ?_
  refine r_iload_n c275_5 rfl ?_
  refine r_iload_n c275_6 rfl ?_
  refine r_iload c275_7 rfl ?_
  refine r_iload c275_9 rfl ?_
  exact r_call c275_11 rfl rfl (Nat.le_of_ble_eq_true rfl) (okc_r rfl rfl (oK hK o32)) h
theorem u275_14 {d : Nat} {l6 : Nat} {l1 : Int} {l2 : Int} {l3 : Int} {l4 : Int} {l5 : Int} {t1 : Int} {t2 : Int} {M : Mem} {K : KK} {Q : RR → Mem → KK → Prop} (hK : K.1 = 923) (hX : FX M)  (h : isO 923 l6 22 = true ∧ (0 ≤ t1 ∧ t1 < (ln l6 : Int)) ∧ Q (.inl (some (vI (0 : Int)))) (mset M l6 (Int.toNat t1) t2) K) : Wp (d + 1) 275 14 [vR 32, vI l1, vI l2, vI l3, vI l4, vI l5, vR l6, vU] [vL t2, vI t1, vR l6] M K Q := by
  obtain ⟨o1, h⟩ := h
  obtain ⟨s2, h⟩ := h
  refine r_las c275_14 (oK hK o1) s2 ?_
  have x3 := FX.set (v := t2) (a := l6) (k := (Int.toNat t1)) hX (nfl o1 _)
  refine r_goto c275_15 ?_
  refine r_iconst c275_26 ?_
  exact r_iret c275_27 (Or.inl rfl) h
theorem u275_18 {d : Nat} {l6 : Nat} {l1 : Int} {l2 : Int} {l3 : Int} {l4 : Int} {l5 : Int} {M : Mem} {K : KK} {Q : RR → Mem → KK → Prop} (hK : K.1 = 923) (hX : FX M)  (h : Q (.inl (some (vI (1 : Int)))) M K) : Wp (d + 1) 275 18 [vR 32, vI l1, vI l2, vI l3, vI l4, vI l5, vR l6, vU] [vU] M K Q := by
  refine r_ustore c275_18 (Nat.le_of_ble_eq_true rfl) ?_
  refine r_iconst c275_20 ?_
  exact r_iret c275_21 (Or.inl rfl) h
theorem u275_22 {d : Nat} {l6 : Nat} {l1 : Int} {l2 : Int} {l3 : Int} {l4 : Int} {l5 : Int} {M : Mem} {K : KK} {Q : RR → Mem → KK → Prop} (hK : K.1 = 923) (hX : FX M)  (h : Q (.inl (some (vI (2 : Int)))) M K) : Wp (d + 1) 275 22 [vR 32, vI l1, vI l2, vI l3, vI l4, vI l5, vR l6, vU] [vU] M K Q := by
  refine r_ustore c275_22 (Nat.le_of_ble_eq_true rfl) ?_
  refine r_iconst c275_24 ?_
  exact r_iret c275_25 (Or.inl rfl) h
theorem u276_0 {d : Nat} {l3 : Nat} {l1 : Int} {l2 : Int} {M : Mem} {K : KK} {Q : RR → Mem → KK → Prop} (hK : K.1 = 923) (hX : FX M)  (h : Wm d 119 [vR 32, vI l1, vI l2] M K (Bk d 276 5 8 119 [vR 32, vI l1, vI l2, vR l3, vU] [vI (0 : Int), vR l3] Q)) : Wp (d + 1) 276 0 [vR 32, vI l1, vI l2, vR l3, vU] [] M K Q := by
  refine r_aload_n c276_0 rfl ?_
  refine r_iconst c276_1 ?_
  refine r_aload_n c276_2 rfl ?_
  refine r_iload_n c276_3 rfl ?_
  refine r_iload_n c276_4 rfl ?_
  exact r_call c276_5 rfl rfl (Nat.le_of_ble_eq_true rfl) (okc_r rfl rfl (oK hK o32)) h
theorem u276_8 {d : Nat} {l3 : Nat} {l1 : Int} {l2 : Int} {t1 : Int} {t2 : Int} {M : Mem} {K : KK} {Q : RR → Mem → KK → Prop} (hK : K.1 = 923) (hX : FX M)  (h : isO 923 l3 22 = true ∧ (0 ≤ t1 ∧ t1 < (ln l3 : Int)) ∧ Q (.inl (some (vI (0 : Int)))) (mset M l3 (Int.toNat t1) t2) K) : Wp (d + 1) 276 8 [vR 32, vI l1, vI l2, vR l3, vU] [vI t2, vI t1, vR l3] M K Q := by
  refine r_i2l c276_8 ?_
  obtain ⟨o1, h⟩ := h
  obtain ⟨s2, h⟩ := h
  refine r_las c276_9 (oK hK o1) s2 ?_
  have x3 := FX.set (v := t2) (a := l3) (k := (Int.toNat t1)) hX (nfl o1 _)
  refine r_goto c276_10 ?_
  refine r_iconst c276_17 ?_
  exact r_iret c276_18 (Or.inl rfl) h
theorem u276_13 {d : Nat} {l3 : Nat} {l1 : Int} {l2 : Int} {M : Mem} {K : KK} {Q : RR → Mem → KK → Prop} (hK : K.1 = 923) (hX : FX M)  (h : Q (.inl (some (vI (1 : Int)))) M K) : Wp (d + 1) 276 13 [vR 32, vI l1, vI l2, vR l3, vU] [vU] M K Q := by
  refine r_ustore c276_13 (Nat.le_of_ble_eq_true rfl) ?_
  refine r_iconst c276_15 ?_
  exact r_iret c276_16 (Or.inl rfl) h
theorem u277_0 {d : Nat} {l3 : Nat} {l1 : Int} {l2 : Int} {M : Mem} {K : KK} {Q : RR → Mem → KK → Prop} (hK : K.1 = 923) (hX : FX M)  (h : Wm d 120 [vR 32, vI l1, vI l2] M K (Bk d 277 5 8 120 [vR 32, vI l1, vI l2, vR l3, vU] [vI (0 : Int), vR l3] Q)) : Wp (d + 1) 277 0 [vR 32, vI l1, vI l2, vR l3, vU] [] M K Q := by
  refine r_aload_n c277_0 rfl ?_
  refine r_iconst c277_1 ?_
  refine r_aload_n c277_2 rfl ?_
  refine r_iload_n c277_3 rfl ?_
  refine r_iload_n c277_4 rfl ?_
  exact r_call c277_5 rfl rfl (Nat.le_of_ble_eq_true rfl) (okc_r rfl rfl (oK hK o32)) h
theorem u277_8 {d : Nat} {l3 : Nat} {l1 : Int} {l2 : Int} {t1 : Int} {t2 : Int} {M : Mem} {K : KK} {Q : RR → Mem → KK → Prop} (hK : K.1 = 923) (hX : FX M)  (h : isO 923 l3 22 = true ∧ (0 ≤ t1 ∧ t1 < (ln l3 : Int)) ∧ Q (.inl (some (vI (0 : Int)))) (mset M l3 (Int.toNat t1) t2) K) : Wp (d + 1) 277 8 [vR 32, vI l1, vI l2, vR l3, vU] [vI t2, vI t1, vR l3] M K Q := by
  refine r_i2l c277_8 ?_
  obtain ⟨o1, h⟩ := h
  obtain ⟨s2, h⟩ := h
  refine r_las c277_9 (oK hK o1) s2 ?_
  have x3 := FX.set (v := t2) (a := l3) (k := (Int.toNat t1)) hX (nfl o1 _)
  refine r_goto c277_10 ?_
  refine r_iconst c277_17 ?_
  exact r_iret c277_18 (Or.inl rfl) h
theorem u277_13 {d : Nat} {l3 : Nat} {l1 : Int} {l2 : Int} {M : Mem} {K : KK} {Q : RR → Mem → KK → Prop} (hK : K.1 = 923) (hX : FX M)  (h : Q (.inl (some (vI (1 : Int)))) M K) : Wp (d + 1) 277 13 [vR 32, vI l1, vI l2, vR l3, vU] [vU] M K Q := by
  refine r_ustore c277_13 (Nat.le_of_ble_eq_true rfl) ?_
  refine r_iconst c277_15 ?_
  exact r_iret c277_16 (Or.inl rfl) h
theorem u278_0 {d : Nat} {l2 : Nat} {l1 : Int} {M : Mem} {K : KK} {Q : RR → Mem → KK → Prop} (hK : K.1 = 923) (hX : FX M)  (h : Wm d 122 [vR 32, vI l1] M K (Bk d 278 4 7 122 [vR 32, vI l1, vR l2, vU] [vI (0 : Int), vR l2] Q)) : Wp (d + 1) 278 0 [vR 32, vI l1, vR l2, vU] [] M K Q := by
  refine r_aload_n c278_0 rfl ?_
  refine r_iconst c278_1 ?_
  refine r_aload_n c278_2 rfl ?_
  refine r_iload_n c278_3 rfl ?_
  exact r_call c278_4 rfl rfl (Nat.le_of_ble_eq_true rfl) (okc_r rfl rfl (oK hK o32)) h
theorem u278_7 {d : Nat} {l2 : Nat} {l1 : Int} {t1 : Int} {t2 : Int} {M : Mem} {K : KK} {Q : RR → Mem → KK → Prop} (hK : K.1 = 923) (hX : FX M)  (h : isO 923 l2 22 = true ∧ (0 ≤ t1 ∧ t1 < (ln l2 : Int)) ∧ Q (.inl (some (vI (0 : Int)))) (mset M l2 (Int.toNat t1) t2) K) : Wp (d + 1) 278 7 [vR 32, vI l1, vR l2, vU] [vI t2, vI t1, vR l2] M K Q := by
  refine r_i2l c278_7 ?_
  obtain ⟨o1, h⟩ := h
  obtain ⟨s2, h⟩ := h
  refine r_las c278_8 (oK hK o1) s2 ?_
  have x3 := FX.set (v := t2) (a := l2) (k := (Int.toNat t1)) hX (nfl o1 _)
  refine r_goto c278_9 ?_
  refine r_iconst c278_15 ?_
  exact r_iret c278_16 (Or.inl rfl) h
theorem u278_12 {d : Nat} {l2 : Nat} {l1 : Int} {M : Mem} {K : KK} {Q : RR → Mem → KK → Prop} (hK : K.1 = 923) (hX : FX M)  (h : Q (.inl (some (vI (1 : Int)))) M K) : Wp (d + 1) 278 12 [vR 32, vI l1, vR l2, vU] [vU] M K Q := by
  refine r_ustore_n c278_12 (Nat.le_of_ble_eq_true rfl) ?_
  refine r_iconst c278_13 ?_
  exact r_iret c278_14 (Or.inl rfl) h
theorem u279_0 {d : Nat} {l2 : Nat} {l1 : Int} {M : Mem} {K : KK} {Q : RR → Mem → KK → Prop} (hK : K.1 = 923) (hX : FX M)  (h : Wm d 123 [vR 32, vI l1] M K (Bk d 279 4 7 123 [vR 32, vI l1, vR l2, vU] [vI (0 : Int), vR l2] Q)) : Wp (d + 1) 279 0 [vR 32, vI l1, vR l2, vU] [] M K Q := by
  refine r_aload_n c279_0 rfl ?_
  refine r_iconst c279_1 ?_
  refine r_aload_n c279_2 rfl ?_
  refine r_iload_n c279_3 rfl ?_
  exact r_call c279_4 rfl rfl (Nat.le_of_ble_eq_true rfl) (okc_r rfl rfl (oK hK o32)) h
theorem u279_7 {d : Nat} {l2 : Nat} {l1 : Int} {t1 : Int} {t2 : Int} {M : Mem} {K : KK} {Q : RR → Mem → KK → Prop} (hK : K.1 = 923) (hX : FX M)  (h : isO 923 l2 22 = true ∧ (0 ≤ t1 ∧ t1 < (ln l2 : Int)) ∧ Q (.inl (some (vI (0 : Int)))) (mset M l2 (Int.toNat t1) t2) K) : Wp (d + 1) 279 7 [vR 32, vI l1, vR l2, vU] [vI t2, vI t1, vR l2] M K Q := by
  refine r_i2l c279_7 ?_
  obtain ⟨o1, h⟩ := h
  obtain ⟨s2, h⟩ := h
  refine r_las c279_8 (oK hK o1) s2 ?_
  have x3 := FX.set (v := t2) (a := l2) (k := (Int.toNat t1)) hX (nfl o1 _)
  refine r_goto c279_9 ?_
  refine r_iconst c279_15 ?_
  exact r_iret c279_16 (Or.inl rfl) h
theorem u279_12 {d : Nat} {l2 : Nat} {l1 : Int} {M : Mem} {K : KK} {Q : RR → Mem → KK → Prop} (hK : K.1 = 923) (hX : FX M)  (h : Q (.inl (some (vI (1 : Int)))) M K) : Wp (d + 1) 279 12 [vR 32, vI l1, vR l2, vU] [vU] M K Q := by
  refine r_ustore_n c279_12 (Nat.le_of_ble_eq_true rfl) ?_
  refine r_iconst c279_13 ?_
  exact r_iret c279_14 (Or.inl rfl) h
theorem u280_0 {d : Nat} {l4 : Nat} {l1 : Int} {l2 : Int} {l3 : Int} {M : Mem} {K : KK} {Q : RR → Mem → KK → Prop} (hK : K.1 = 923) (hX : FX M)  (h : Wm d 124 [vR 32, vI l1, vI l2, vI l3] M K (Bk d 280 7 10 124 [vR 32, vI l1, vI l2, vI l3, vR l4, vU] [vI (0 : Int), vR l4] Q)) : Wp (d + 1) 280 0 [vR 32, vI l1, vI l2, vI l3, vR l4, vU] [] M K Q := by
  refine r_aload c280_0 rfl ?_
  refine r_iconst c280_2 ?_
  refine r_aload_n c280_3 rfl ?_
  refine r_iload_n c280_4 rfl ?_
  refine r_iload_n c280_5 rfl ?_
  refine r_iload_n c280_6 rfl ?_
  exact r_call c280_7 rfl rfl (Nat.le_of_ble_eq_true rfl) (okc_r rfl rfl (oK hK o32)) h
theorem u280_10 {d : Nat} {l4 : Nat} {l1 : Int} {l2 : Int} {l3 : Int} {t1 : Int} {t2 : Int} {M : Mem} {K : KK} {Q : RR → Mem → KK → Prop} (hK : K.1 = 923) (hX : FX M)  (h : isO 923 l4 22 = true ∧ (0 ≤ t1 ∧ t1 < (ln l4 : Int)) ∧ Q (.inl (some (vI (0 : Int)))) (mset M l4 (Int.toNat t1) t2) K) : Wp (d + 1) 280 10 [vR 32, vI l1, vI l2, vI l3, vR l4, vU] [vI t2, vI t1, vR l4] M K Q := by
  refine r_i2l c280_10 ?_
  obtain ⟨o1, h⟩ := h
  obtain ⟨s2, h⟩ := h
  refine r_las c280_11 (oK hK o1) s2 ?_
  have x3 := FX.set (v := t2) (a := l4) (k := (Int.toNat t1)) hX (nfl o1 _)
  refine r_goto c280_12 ?_
  refine r_iconst c280_23 ?_
  exact r_iret c280_24 (Or.inl rfl) h
theorem u280_15 {d : Nat} {l4 : Nat} {l1 : Int} {l2 : Int} {l3 : Int} {M : Mem} {K : KK} {Q : RR → Mem → KK → Prop} (hK : K.1 = 923) (hX : FX M)  (h : Q (.inl (some (vI (1 : Int)))) M K) : Wp (d + 1) 280 15 [vR 32, vI l1, vI l2, vI l3, vR l4, vU] [vU] M K Q := by
  refine r_ustore c280_15 (Nat.le_of_ble_eq_true rfl) ?_
  refine r_iconst c280_17 ?_
  exact r_iret c280_18 (Or.inl rfl) h
theorem u280_19 {d : Nat} {l4 : Nat} {l1 : Int} {l2 : Int} {l3 : Int} {M : Mem} {K : KK} {Q : RR → Mem → KK → Prop} (hK : K.1 = 923) (hX : FX M)  (h : Q (.inl (some (vI (2 : Int)))) M K) : Wp (d + 1) 280 19 [vR 32, vI l1, vI l2, vI l3, vR l4, vU] [vU] M K Q := by
  refine r_ustore c280_19 (Nat.le_of_ble_eq_true rfl) ?_
  refine r_iconst c280_21 ?_
  exact r_iret c280_22 (Or.inl rfl) h
theorem u281_0 {d : Nat} {l2 : Nat} {l1 : Int} {M : Mem} {K : KK} {Q : RR → Mem → KK → Prop} (hK : K.1 = 923) (hX : FX M)  (h : Wm d 125 [vR 32, vI l1] M K (Bk d 281 4 7 125 [vR 32, vI l1, vR l2, vU] [vI (0 : Int), vR l2] Q)) : Wp (d + 1) 281 0 [vR 32, vI l1, vR l2, vU] [] M K Q := by
  refine r_aload_n c281_0 rfl ?_
  refine r_iconst c281_1 ?_
  refine r_aload_n c281_2 rfl ?_
  refine r_iload_n c281_3 rfl ?_
  exact r_call c281_4 rfl rfl (Nat.le_of_ble_eq_true rfl) (okc_r rfl rfl (oK hK o32)) h
theorem u281_7 {d : Nat} {l2 : Nat} {l1 : Int} {t1 : Int} {t2 : Int} {M : Mem} {K : KK} {Q : RR → Mem → KK → Prop} (hK : K.1 = 923) (hX : FX M)  (h : isO 923 l2 22 = true ∧ (0 ≤ t1 ∧ t1 < (ln l2 : Int)) ∧ Q (.inl (some (vI (0 : Int)))) (mset M l2 (Int.toNat t1) t2) K) : Wp (d + 1) 281 7 [vR 32, vI l1, vR l2, vU] [vI t2, vI t1, vR l2] M K Q := by
  refine r_i2l c281_7 ?_
  obtain ⟨o1, h⟩ := h
  obtain ⟨s2, h⟩ := h
  refine r_las c281_8 (oK hK o1) s2 ?_
  have x3 := FX.set (v := t2) (a := l2) (k := (Int.toNat t1)) hX (nfl o1 _)
  refine r_goto c281_9 ?_
  refine r_iconst c281_15 ?_
  exact r_iret c281_16 (Or.inl rfl) h
theorem u281_12 {d : Nat} {l2 : Nat} {l1 : Int} {M : Mem} {K : KK} {Q : RR → Mem → KK → Prop} (hK : K.1 = 923) (hX : FX M)  (h : Q (.inl (some (vI (1 : Int)))) M K) : Wp (d + 1) 281 12 [vR 32, vI l1, vR l2, vU] [vU] M K Q := by
  refine r_ustore_n c281_12 (Nat.le_of_ble_eq_true rfl) ?_
  refine r_iconst c281_13 ?_
  exact r_iret c281_14 (Or.inl rfl) h
theorem u282_0 {d : Nat} {l2 : Nat} {l1 : Int} {M : Mem} {K : KK} {Q : RR → Mem → KK → Prop} (hK : K.1 = 923) (hX : FX M)  (h : Wm d 126 [vR 32, vI l1] M K (Bk d 282 4 7 126 [vR 32, vI l1, vR l2, vU] [vI (0 : Int), vR l2] Q)) : Wp (d + 1) 282 0 [vR 32, vI l1, vR l2, vU] [] M K Q := by
  refine r_aload_n c282_0 rfl ?_
  refine r_iconst c282_1 ?_
  refine r_aload_n c282_2 rfl ?_
  refine r_iload_n c282_3 rfl ?_
  exact r_call c282_4 rfl rfl (Nat.le_of_ble_eq_true rfl) (okc_r rfl rfl (oK hK o32)) h
theorem u282_7 {d : Nat} {l2 : Nat} {l1 : Int} {t1 : Int} {t2 : Int} {M : Mem} {K : KK} {Q : RR → Mem → KK → Prop} (hK : K.1 = 923) (hX : FX M)  (h : isO 923 l2 22 = true ∧ (0 ≤ t1 ∧ t1 < (ln l2 : Int)) ∧ Q (.inl (some (vI (0 : Int)))) (mset M l2 (Int.toNat t1) t2) K) : Wp (d + 1) 282 7 [vR 32, vI l1, vR l2, vU] [vI t2, vI t1, vR l2] M K Q := by
  refine r_i2l c282_7 ?_
  obtain ⟨o1, h⟩ := h
  obtain ⟨s2, h⟩ := h
  refine r_las c282_8 (oK hK o1) s2 ?_
  have x3 := FX.set (v := t2) (a := l2) (k := (Int.toNat t1)) hX (nfl o1 _)
  refine r_goto c282_9 ?_
  refine r_iconst c282_15 ?_
  exact r_iret c282_16 (Or.inl rfl) h
theorem u282_12 {d : Nat} {l2 : Nat} {l1 : Int} {M : Mem} {K : KK} {Q : RR → Mem → KK → Prop} (hK : K.1 = 923) (hX : FX M)  (h : Q (.inl (some (vI (1 : Int)))) M K) : Wp (d + 1) 282 12 [vR 32, vI l1, vR l2, vU] [vU] M K Q := by
  refine r_ustore_n c282_12 (Nat.le_of_ble_eq_true rfl) ?_
  refine r_iconst c282_13 ?_
  exact r_iret c282_14 (Or.inl rfl) h
theorem u283_0 {d : Nat} {l3 : Nat} {l1 : Int} {l2 : Int} {M : Mem} {K : KK} {Q : RR → Mem → KK → Prop} (hK : K.1 = 923) (hX : FX M)  (h : Wm d 127 [vR 32, vI l1, vI l2] M K (Bk d 283 5 8 127 [vR 32, vI l1, vI l2, vR l3, vU] [vI (0 : Int), vR l3] Q)) : Wp (d + 1) 283 0 [vR 32, vI l1, vI l2, vR l3, vU] [] M K Q := by
  refine r_aload_n c283_0 rfl ?_
  refine r_iconst c283_1 ?_
  refine r_aload_n c283_2 rfl ?_
  refine r_iload_n c283_3 rfl ?_
  refine r_iload_n c283_4 rfl ?_
  exact r_call c283_5 rfl rfl (Nat.le_of_ble_eq_true rfl) (okc_r rfl rfl (oK hK o32)) h
theorem u283_8 {d : Nat} {l3 : Nat} {l1 : Int} {l2 : Int} {t1 : Int} {t2 : Int} {M : Mem} {K : KK} {Q : RR → Mem → KK → Prop} (hK : K.1 = 923) (hX : FX M)  (h : isO 923 l3 22 = true ∧ (0 ≤ t1 ∧ t1 < (ln l3 : Int)) ∧ Q (.inl (some (vI (0 : Int)))) (mset M l3 (Int.toNat t1) t2) K) : Wp (d + 1) 283 8 [vR 32, vI l1, vI l2, vR l3, vU] [vI t2, vI t1, vR l3] M K Q := by
  refine r_i2l c283_8 ?_
  obtain ⟨o1, h⟩ := h
  obtain ⟨s2, h⟩ := h
  refine r_las c283_9 (oK hK o1) s2 ?_
  have x3 := FX.set (v := t2) (a := l3) (k := (Int.toNat t1)) hX (nfl o1 _)
  refine r_goto c283_10 ?_
  refine r_iconst c283_21 ?_
  exact r_iret c283_22 (Or.inl rfl) h
theorem u283_13 {d : Nat} {l3 : Nat} {l1 : Int} {l2 : Int} {M : Mem} {K : KK} {Q : RR → Mem → KK → Prop} (hK : K.1 = 923) (hX : FX M)  (h : Q (.inl (some (vI (1 : Int)))) M K) : Wp (d + 1) 283 13 [vR 32, vI l1, vI l2, vR l3, vU] [vU] M K Q := by
  refine r_ustore c283_13 (Nat.le_of_ble_eq_true rfl) ?_
  refine r_iconst c283_15 ?_
  exact r_iret c283_16 (Or.inl rfl) h
theorem u283_17 {d : Nat} {l3 : Nat} {l1 : Int} {l2 : Int} {M : Mem} {K : KK} {Q : RR → Mem → KK → Prop} (hK : K.1 = 923) (hX : FX M)  (h : Q (.inl (some (vI (2 : Int)))) M K) : Wp (d + 1) 283 17 [vR 32, vI l1, vI l2, vR l3, vU] [vU] M K Q := by
  refine r_ustore c283_17 (Nat.le_of_ble_eq_true rfl) ?_
  refine r_iconst c283_19 ?_
  exact r_iret c283_20 (Or.inl rfl) h
theorem u284_0 {d : Nat} {l3 : Nat} {l1 : Int} {l2 : Int} {M : Mem} {K : KK} {Q : RR → Mem → KK → Prop} (hK : K.1 = 923) (hX : FX M)  (h : Wm d 128 [vR 32, vI l1, vI l2] M K (Bk d 284 5 8 128 [vR 32, vI l1, vI l2, vR l3, vU] [vI (0 : Int), vR l3] Q)) : Wp (d + 1) 284 0 [vR 32, vI l1, vI l2, vR l3, vU] [] M K Q := by
  refine r_aload_n c284_0 rfl ?_
  refine r_iconst c284_1 ?_
  refine r_aload_n c284_2 rfl ?_
  refine r_iload_n c284_3 rfl ?_
  refine r_iload_n c284_4 rfl ?_
  exact r_call c284_5 rfl rfl (Nat.le_of_ble_eq_true rfl) (okc_r rfl rfl (oK hK o32)) h
theorem u284_8 {d : Nat} {l3 : Nat} {l1 : Int} {l2 : Int} {t1 : Int} {t2 : Int} {M : Mem} {K : KK} {Q : RR → Mem → KK → Prop} (hK : K.1 = 923) (hX : FX M)  (h : isO 923 l3 22 = true ∧ (0 ≤ t1 ∧ t1 < (ln l3 : Int)) ∧ Q (.inl (some (vI (0 : Int)))) (mset M l3 (Int.toNat t1) t2) K) : Wp (d + 1) 284 8 [vR 32, vI l1, vI l2, vR l3, vU] [vI t2, vI t1, vR l3] M K Q := by
  refine r_i2l c284_8 ?_
  obtain ⟨o1, h⟩ := h
  obtain ⟨s2, h⟩ := h
  refine r_las c284_9 (oK hK o1) s2 ?_
  have x3 := FX.set (v := t2) (a := l3) (k := (Int.toNat t1)) hX (nfl o1 _)
  refine r_goto c284_10 ?_
  refine r_iconst c284_17 ?_
  exact r_iret c284_18 (Or.inl rfl) h
theorem u284_13 {d : Nat} {l3 : Nat} {l1 : Int} {l2 : Int} {M : Mem} {K : KK} {Q : RR → Mem → KK → Prop} (hK : K.1 = 923) (hX : FX M)  (h : Q (.inl (some (vI (1 : Int)))) M K) : Wp (d + 1) 284 13 [vR 32, vI l1, vI l2, vR l3, vU] [vU] M K Q := by
  refine r_ustore c284_13 (Nat.le_of_ble_eq_true rfl) ?_
  refine r_iconst c284_15 ?_
  exact r_iret c284_16 (Or.inl rfl) h
theorem u285_0 {d : Nat} {l2 : Nat} {l1 : Int} {M : Mem} {K : KK} {Q : RR → Mem → KK → Prop} (hK : K.1 = 923) (hX : FX M)  (h : Wm d 113 [vR 32, vI l1] M K (Bk d 285 4 7 113 [vR 32, vI l1, vR l2, vU] [vI (0 : Int), vR l2] Q)) : Wp (d + 1) 285 0 [vR 32, vI l1, vR l2, vU] [] M K Q := by
  refine r_aload_n c285_0 rfl ?_
  refine r_iconst c285_1 ?_
  refine r_aload_n c285_2 rfl ?_
  refine r_iload_n c285_3 rfl ?_
  exact r_call c285_4 rfl rfl (Nat.le_of_ble_eq_true rfl) (okc_r rfl rfl (oK hK o32)) h
theorem u285_7 {d : Nat} {l2 : Nat} {l1 : Int} {t1 : Int} {t2 : Int} {M : Mem} {K : KK} {Q : RR → Mem → KK → Prop} (hK : K.1 = 923) (hX : FX M)  (h : isO 923 l2 22 = true ∧ (0 ≤ t1 ∧ t1 < (ln l2 : Int)) ∧ Q (.inl (some (vI (0 : Int)))) (mset M l2 (Int.toNat t1) t2) K) : Wp (d + 1) 285 7 [vR 32, vI l1, vR l2, vU] [vI t2, vI t1, vR l2] M K Q := by
  refine r_i2l c285_7 ?_
  obtain ⟨o1, h⟩ := h
  obtain ⟨s2, h⟩ := h
  refine r_las c285_8 (oK hK o1) s2 ?_
  have x3 := FX.set (v := t2) (a := l2) (k := (Int.toNat t1)) hX (nfl o1 _)
  refine r_goto c285_9 ?_
  refine r_iconst c285_15 ?_
  exact r_iret c285_16 (Or.inl rfl) h
theorem u285_12 {d : Nat} {l2 : Nat} {l1 : Int} {M : Mem} {K : KK} {Q : RR → Mem → KK → Prop} (hK : K.1 = 923) (hX : FX M)  (h : Q (.inl (some (vI (1 : Int)))) M K) : Wp (d + 1) 285 12 [vR 32, vI l1, vR l2, vU] [vU] M K Q := by
  refine r_ustore_n c285_12 (Nat.le_of_ble_eq_true rfl) ?_
  refine r_iconst c285_13 ?_
  exact r_iret c285_14 (Or.inl rfl) h
theorem u286_0 {d : Nat} {l6 : Nat} {l1 : Int} {l2 : Int} {l3 : Int} {l4 : Int} {l5 : Int} {M : Mem} {K : KK} {Q : RR → Mem → KK → Prop} (hK : K.1 = 923) (hX : FX M)  (h : Wm d 130 [vR 32, vI l1, vI l2, vI l3, vI l4, vI l5] M K (Bk d 286 11 14 130 [vR 32, vI l1, vI l2, vI l3, vI l4, vI l5, vR l6, vU] [vI (0 : Int), vR l6] Q)) : Wp (d + 1) 286 0 [vR 32, vI l1, vI l2, vI l3, vI l4, vI l5, vR l6, vU] [] M K Q := by
  refine r_aload c286_0 rfl ?_
  refine r_iconst c286_2 ?_
  refine r_aload_n c286_3 rfl ?_
  refine r_iload_n c286_4 rfl ?_
  refine r_iload_n c286_5 rfl ?_
  refine r_iload_n c286_6 rfl ?_
  refine r_iload c286_7 rfl ?_
  refine r_iload c286_9 rfl ?_
  exact r_call c286_11 rfl rfl (Nat.le_of_ble_eq_true rfl) (okc_r rfl rfl (oK hK o32)) h
theorem u286_14 {d : Nat} {l6 : Nat} {l1 : Int} {l2 : Int} {l3 : Int} {l4 : Int} {l5 : Int} {t1 : Int} {t2 : Int} {M : Mem} {K : KK} {Q : RR → Mem → KK → Prop} (hK : K.1 = 923) (hX : FX M)  (h : isO 923 l6 22 = true ∧ (0 ≤ t1 ∧ t1 < (ln l6 : Int)) ∧ Q (.inl (some (vI (0 : Int)))) (mset M l6 (Int.toNat t1) t2) K) : Wp (d + 1) 286 14 [vR 32, vI l1, vI l2, vI l3, vI l4, vI l5, vR l6, vU] [vI t2, vI t1, vR l6] M K Q := by
  refine r_i2l c286_14 ?_
  obtain ⟨o1, h⟩ := h
  obtain ⟨s2, h⟩ := h
  refine r_las c286_15 (oK hK o1) s2 ?_
  have x3 := FX.set (v := t2) (a := l6) (k := (Int.toNat t1)) hX (nfl o1 _)
  refine r_goto c286_16 ?_
  refine r_iconst c286_23 ?_
  exact r_iret c286_24 (Or.inl rfl) h
theorem u286_19 {d : Nat} {l6 : Nat} {l1 : Int} {l2 : Int} {l3 : Int} {l4 : Int} {l5 : Int} {M : Mem} {K : KK} {Q : RR → Mem → KK → Prop} (hK : K.1 = 923) (hX : FX M)  (h : Q (.inl (some (vI (1 : Int)))) M K) : Wp (d + 1) 286 19 [vR 32, vI l1, vI l2, vI l3, vI l4, vI l5, vR l6, vU] [vU] M K Q := by
  refine r_ustore c286_19 (Nat.le_of_ble_eq_true rfl) ?_
  refine r_iconst c286_21 ?_
  exact r_iret c286_22 (Or.inl rfl) h
theorem u287_0 {d : Nat} {l8 : Nat} {l1 : Int} {l2 : Int} {l3 : Int} {l4 : Int} {l5 : Int} {l6 : Int} {l7 : Int} {M : Mem} {K : KK} {Q : RR → Mem → KK → Prop} (hK : K.1 = 923) (hX : FX M)  (h : Wm d 131 [vR 32, vI l1, vI l2, vI l3, vI l4, vI l5, vI l6, vI l7] M K (Bk d 287 15 18 131 [vR 32, vI l1, vI l2, vI l3, vI l4, vI l5, vI l6, vI l7, vR l8, vU] [vI (0 : Int), vR l8] Q)) : Wp (d + 1) 287 0 [vR 32, vI l1, vI l2, vI l3, vI l4, vI l5, vI l6, vI l7, vR l8, vU] [] M K Q := by
  refine r_aload c287_0 rfl ?_
  refine r_iconst c287_2 ?_
  refine r_aload_n c287_3 rfl ?_
  refine r_iload_n c287_4 rfl ?_
  refine r_iload_n c287_5 rfl ?_
  refine r_iload_n c287_6 rfl ?_
  refine r_iload c287_7 rfl ?_
  refine r_iload c287_9 rfl ?_
  refine r_iload c287_11 rfl ?_
  refine r_iload c287_13 rfl ?_
  exact r_call c287_15 rfl rfl (Nat.le_of_ble_eq_true rfl) (okc_r rfl rfl (oK hK o32)) h
theorem u287_18 {d : Nat} {l8 : Nat} {l1 : Int} {l2 : Int} {l3 : Int} {l4 : Int} {l5 : Int} {l6 : Int} {l7 : Int} {t1 : Int} {t2 : Int} {M : Mem} {K : KK} {Q : RR → Mem → KK → Prop} (hK : K.1 = 923) (hX : FX M)  (h : isO 923 l8 22 = true ∧ (0 ≤ t1 ∧ t1 < (ln l8 : Int)) ∧ Q (.inl (some (vI (0 : Int)))) (mset M l8 (Int.toNat t1) t2) K) : Wp (d + 1) 287 18 [vR 32, vI l1, vI l2, vI l3, vI l4, vI l5, vI l6, vI l7, vR l8, vU] [vI t2, vI t1, vR l8] M K Q := by
  refine r_i2l c287_18 ?_
  obtain ⟨o1, h⟩ := h
  obtain ⟨s2, h⟩ := h
  refine r_las c287_19 (oK hK o1) s2 ?_
  have x3 := FX.set (v := t2) (a := l8) (k := (Int.toNat t1)) hX (nfl o1 _)
  refine r_goto c287_20 ?_
  refine r_iconst c287_27 ?_
  exact r_iret c287_28 (Or.inl rfl) h
theorem u287_23 {d : Nat} {l8 : Nat} {l1 : Int} {l2 : Int} {l3 : Int} {l4 : Int} {l5 : Int} {l6 : Int} {l7 : Int} {M : Mem} {K : KK} {Q : RR → Mem → KK → Prop} (hK : K.1 = 923) (hX : FX M)  (h : Q (.inl (some (vI (1 : Int)))) M K) : Wp (d + 1) 287 23 [vR 32, vI l1, vI l2, vI l3, vI l4, vI l5, vI l6, vI l7, vR l8, vU] [vU] M K Q := by
  refine r_ustore c287_23 (Nat.le_of_ble_eq_true rfl) ?_
  refine r_iconst c287_25 ?_
  exact r_iret c287_26 (Or.inl rfl) h
/-! operations that ask -/
section OPS
variable {d i : Nat} {M : Mem} {K : KK} {Q : RR → Mem → KK → Prop}
theorem op_1372 {l5 l6 : PV} (hK : K.1 = 923) (hX : FX M) (hR : RZ M) (hi : InR M i) (nx : Nx d Q M K i) : Wp (d + 101) 288 1372 [vR 31, vR 32, vR 440, vR 922, vI (i : Int), l5, l6, vU] [] M K Q := by
  obtain ⟨nB, B, fp, c, L, s, H, I, Y, rf, ms, wr, hI, hc, hm⟩ := hR
  refine u288_1372 (l0 := 31) hK hX ⟨hi.r 1 (by decide), hi.r 2 (by decide), hi.r 3 (by decide), hi.r 4 (by decide), hi.r 5 (by decide), u275_0 hK hX (c118 hK hX hc.gc hc.2.2.2.2.2.2 (fun h1 => ?_) (fun h1 h2 => ?_) (fun h1 h2 M1 x1 f1 => ?_))⟩
  · refine Bk_h (by decide +kernel) (by decide +kernel) (u275_18 (K := K9 K) hK hX.i18 (Bk_v (gn hK hX hI hc hm nx (fun M2 K2 hK2 x2 sc2 m2 nx2 r2 => ?_))))
    refine u288_1407 (l0 := 31) hK2 x2 ⟨(hi.fr sc2).r 1 (by decide), (hi.fr sc2).r 2 (by decide), (hi.fr sc2).r 3 (by decide), (hi.fr sc2).r 4 (by decide), (hi.fr sc2).r 5 (by decide), o_all.2.1, ?_⟩
    rw [sc2 31 _ (by decide), sc2 31 _ (by decide), sc2 31 _ (by decide), sc2 31 _ (by decide), sc2 31 _ (by decide)]
    exact m227 hK2 x2 m2.gm hI.2.2.1.2 (fun g1 M3 x3 b3 => Bk_v (u288_1443 (l0 := 31) hK2 x3 ⟨o_all.2.1, u151_0 hK2 x3 (Bk_v (u288_1449 (l0 := 31) hK2 x3 ⟨fun _ => ⟨fun _ => nx2 M3 _ _ x3 (r2 M3 _ b3), fun h0 => absurd h0 (by decide)⟩, fun h9 => absurd b3.2.1 h9⟩))⟩)) (fun g1 => absurd g1 h1) (fun g1 => absurd g1 h1)
  · refine Bk_h (by decide +kernel) (by decide +kernel) (u275_22 (K := K9 K) hK hX.i19 (Bk_v (gb hK hX hI hc hm nx (fun M2 K2 hK2 x2 sc2 m2 nx2 r2 => ?_))))
    refine u288_1407 (l0 := 31) hK2 x2 ⟨(hi.fr sc2).r 1 (by decide), (hi.fr sc2).r 2 (by decide), (hi.fr sc2).r 3 (by decide), (hi.fr sc2).r 4 (by decide), (hi.fr sc2).r 5 (by decide), o_all.2.1, ?_⟩
    rw [sc2 31 _ (by decide), sc2 31 _ (by decide), sc2 31 _ (by decide), sc2 31 _ (by decide), sc2 31 _ (by decide)]
    exact m227 hK2 x2 m2.gm hI.2.2.1.2 (fun g1 => absurd h1 g1) (fun g1 g2 M3 x3 b3 => Bk_v (u288_1443 (l0 := 31) hK2 x3 ⟨o_all.2.1, u151_0 hK2 x3 (Bk_v (u288_1449 (l0 := 31) hK2 x3 ⟨fun _ => ⟨fun _ => nx2 M3 _ _ x3 (r2 M3 _ b3), fun h0 => absurd h0 (by decide)⟩, fun h9 => absurd b3.2.1 h9⟩))⟩)) (fun g1 g2 => absurd g2 h2)
  · refine Bk_v (u275_14 hK x1 ⟨o_all.2.2.1, o_ln, Bk_v (gk hK x1 f1 hI hc hm nx (fun M2 K2 hK2 x2 sc2 m2 nx2 r2 => ?_))⟩)
    refine u288_1407 (l0 := 31) hK2 x2 ⟨(hi.fr sc2).r 1 (by decide), (hi.fr sc2).r 2 (by decide), (hi.fr sc2).r 3 (by decide), (hi.fr sc2).r 4 (by decide), (hi.fr sc2).r 5 (by decide), o_all.2.1, ?_⟩
    rw [sc2 31 _ (by decide), sc2 31 _ (by decide), sc2 31 _ (by decide), sc2 31 _ (by decide), sc2 31 _ (by decide)]
    exact m227 hK2 x2 m2.gm hI.2.2.1.2 (fun g1 => absurd h1 g1) (fun g1 g2 => absurd h2 g2) (fun g1 g2 M3 x3 f3 z3 => Bk_v (u288_1443 (l0 := 31) hK2 x3 ⟨o_all.2.1, u151_0 hK2 x3 (Bk_v (u288_1449 (l0 := 31) hK2 x3 ⟨fun _ => ⟨fun h0 => absurd rfl h0, fun _ => ⟨o_all.2.2.1, o_ln, fun _ => nx2 M3 _ _ x3 (r2 M3 f3).1, fun h9 => absurd (by rw [(r2 M3 f3).2]; exact jcmp_s) h9⟩⟩, fun h9 => absurd z3 h9⟩))⟩))
theorem op_1475 {l5 l6 : PV} (hK : K.1 = 923) (hX : FX M) (hR : RZ M) (hi : InR M i) (nx : Nx d Q M K i) : Wp (d + 101) 288 1475 [vR 31, vR 32, vR 440, vR 922, vI (i : Int), l5, l6, vU] [] M K Q := by
  obtain ⟨nB, B, fp, c, L, s, H, I, Y, rf, ms, wr, hI, hc, hm⟩ := hR
  refine u288_1475 (l0 := 31) hK hX ⟨hi.r 1 (by decide), hi.r 2 (by decide), u276_0 hK hX (c119 hK hX hc.gc hc.sy hI.2.2.2.2.2.1 ⟨fun h1 => absurd trivial h1, fun h1 h2 => ?_, fun h1 h2 M1 x1 f1 => ?_⟩)⟩
  · refine Bk_h (by decide +kernel) (by decide +kernel) (u276_13 (K := K9 K) hK hX.i19 (Bk_v (gb hK hX hI hc hm nx (fun M2 K2 hK2 x2 sc2 m2 nx2 r2 => ?_))))
    refine u288_1492 (l0 := 31) hK2 x2 ⟨(hi.fr sc2).r 1 (by decide), (hi.fr sc2).r 2 (by decide), o_all.2.1, ?_⟩
    rw [sc2 31 _ (by decide), sc2 31 _ (by decide)]
    exact m229 hK2 x2 m2.gm m2.sy hI.2.2.2.2.2.1 ⟨fun g1 => absurd trivial g1, fun g1 g2 M3 x3 b3 => Bk_v (u288_1510 (l0 := 31) hK2 x3 ⟨o_all.2.1, u151_0 hK2 x3 (Bk_v (u288_1516 (l0 := 31) hK2 x3 ⟨fun _ => ⟨fun _ => nx2 M3 _ _ x3 (r2 M3 _ b3), fun h0 => absurd h0 (by decide)⟩, fun h9 => absurd b3.2.1 h9⟩))⟩), fun g1 g2 => absurd g2 h2⟩
  · refine Bk_v (u276_8 hK x1 ⟨o_all.2.2.1, o_ln, Bk_v (gk hK x1 f1 hI hc hm nx (fun M2 K2 hK2 x2 sc2 m2 nx2 r2 => ?_))⟩)
    refine u288_1492 (l0 := 31) hK2 x2 ⟨(hi.fr sc2).r 1 (by decide), (hi.fr sc2).r 2 (by decide), o_all.2.1, ?_⟩
    rw [sc2 31 _ (by decide), sc2 31 _ (by decide)]
    exact m229 hK2 x2 m2.gm m2.sy hI.2.2.2.2.2.1 ⟨fun g1 => absurd trivial g1, fun g1 g2 => absurd h2 g2, fun g1 g2 M3 x3 f3 z3 => Bk_v (u288_1510 (l0 := 31) hK2 x3 ⟨o_all.2.1, u151_0 hK2 x3 (Bk_v (u288_1516 (l0 := 31) hK2 x3 ⟨fun _ => ⟨fun h0 => absurd rfl h0, fun _ => ⟨o_all.2.2.1, o_ln, fun _ => nx2 M3 _ _ x3 (r2 M3 f3).1, fun h9 => absurd (by rw [(r2 M3 f3).2]; exact jcmp_s) h9⟩⟩, fun h9 => absurd z3 h9⟩))⟩)⟩
theorem op_1543 {l5 l6 : PV} (hK : K.1 = 923) (hX : FX M) (hR : RZ M) (hi : InR M i) (nx : Nx d Q M K i) : Wp (d + 101) 288 1543 [vR 31, vR 32, vR 440, vR 922, vI (i : Int), l5, l6, vU] [] M K Q := by
  obtain ⟨nB, B, fp, c, L, s, H, I, Y, rf, ms, wr, hI, hc, hm⟩ := hR
  refine u288_1543 (l0 := 31) hK hX ⟨hi.r 1 (by decide), hi.r 2 (by decide), u277_0 hK hX (c120 hK hX hc.gc hc.sy hI.2.2.2.2.2.1 ⟨fun h1 => absurd trivial h1, fun h1 h2 => ?_, fun h1 h2 M1 x1 f1 => ?_⟩)⟩
  · refine Bk_h (by decide +kernel) (by decide +kernel) (u277_13 (K := K9 K) hK hX.i19 (Bk_v (gb hK hX hI hc hm nx (fun M2 K2 hK2 x2 sc2 m2 nx2 r2 => ?_))))
    refine u288_1560 (l0 := 31) hK2 x2 ⟨(hi.fr sc2).r 1 (by decide), (hi.fr sc2).r 2 (by decide), o_all.2.1, ?_⟩
    rw [sc2 31 _ (by decide), sc2 31 _ (by decide)]
    exact m231 hK2 x2 m2.gm m2.sy hI.2.2.2.2.2.1 ⟨fun g1 => absurd trivial g1, fun g1 g2 M3 x3 b3 => Bk_v (u288_1578 (l0 := 31) hK2 x3 ⟨o_all.2.1, u151_0 hK2 x3 (Bk_v (u288_1584 (l0 := 31) hK2 x3 ⟨fun _ => ⟨fun _ => nx2 M3 _ _ x3 (r2 M3 _ b3), fun h0 => absurd h0 (by decide)⟩, fun h9 => absurd b3.2.1 h9⟩))⟩), fun g1 g2 => absurd g2 h2⟩
  · refine Bk_v (u277_8 hK x1 ⟨o_all.2.2.1, o_ln, Bk_v (gk hK x1 f1 hI hc hm nx (fun M2 K2 hK2 x2 sc2 m2 nx2 r2 => ?_))⟩)
    refine u288_1560 (l0 := 31) hK2 x2 ⟨(hi.fr sc2).r 1 (by decide), (hi.fr sc2).r 2 (by decide), o_all.2.1, ?_⟩
    rw [sc2 31 _ (by decide), sc2 31 _ (by decide)]
    exact m231 hK2 x2 m2.gm m2.sy hI.2.2.2.2.2.1 ⟨fun g1 => absurd trivial g1, fun g1 g2 => absurd h2 g2, fun g1 g2 M3 x3 f3 z3 => Bk_v (u288_1578 (l0 := 31) hK2 x3 ⟨o_all.2.1, u151_0 hK2 x3 (Bk_v (u288_1584 (l0 := 31) hK2 x3 ⟨fun _ => ⟨fun h0 => absurd rfl h0, fun _ => ⟨o_all.2.2.1, o_ln, fun _ => nx2 M3 _ _ x3 (r2 M3 f3).1, fun h9 => absurd (by rw [(r2 M3 f3).2]; exact jcmp_s) h9⟩⟩, fun h9 => absurd z3 h9⟩))⟩)⟩
theorem op_1624 {l5 l6 : PV} (hK : K.1 = 923) (hX : FX M) (hR : RZ M) (hi : InR M i) (nx : Nx d Q M K i) : Wp (d + 101) 288 1624 [vR 31, vR 32, vR 440, vR 922, vI (i : Int), l5, l6, vU] [] M K Q := by
  obtain ⟨nB, B, fp, c, L, s, H, I, Y, rf, ms, wr, hI, hc, hm⟩ := hR
  refine u288_1624 (l0 := 31) hK hX ⟨hi.r 1 (by decide), u278_0 hK hX (c122 hK hX hc.gc  ⟨fun h1 => absurd trivial h1, fun h1 h2 => ?_, fun h1 h2 M1 x1 f1 => ?_⟩)⟩
  · refine Bk_h (by decide +kernel) (by decide +kernel) (u278_12 (K := K9 K) hK hX.i19 (Bk_v (gb hK hX hI hc hm nx (fun M2 K2 hK2 x2 sc2 m2 nx2 r2 => ?_))))
    refine u288_1635 (l0 := 31) hK2 x2 ⟨(hi.fr sc2).r 1 (by decide), o_all.2.1, ?_⟩
    rw [sc2 31 _ (by decide)]
    exact m237 hK2 x2 m2.gm  ⟨fun g1 => absurd trivial g1, fun g1 g2 M3 x3 b3 => Bk_v (u288_1647 (l0 := 31) hK2 x3 ⟨o_all.2.1, u151_0 hK2 x3 (Bk_v (u288_1653 (l0 := 31) hK2 x3 ⟨fun _ => ⟨fun _ => nx2 M3 _ _ x3 (r2 M3 _ b3), fun h0 => absurd h0 (by decide)⟩, fun h9 => absurd b3.2.1 h9⟩))⟩), fun g1 g2 => absurd g2 h2⟩
  · refine Bk_v (u278_7 hK x1 ⟨o_all.2.2.1, o_ln, Bk_v (gk hK x1 f1 hI hc hm nx (fun M2 K2 hK2 x2 sc2 m2 nx2 r2 => ?_))⟩)
    refine u288_1635 (l0 := 31) hK2 x2 ⟨(hi.fr sc2).r 1 (by decide), o_all.2.1, ?_⟩
    rw [sc2 31 _ (by decide)]
    exact m237 hK2 x2 m2.gm  ⟨fun g1 => absurd trivial g1, fun g1 g2 => absurd h2 g2, fun g1 g2 M3 x3 f3 z3 => Bk_v (u288_1647 (l0 := 31) hK2 x3 ⟨o_all.2.1, u151_0 hK2 x3 (Bk_v (u288_1653 (l0 := 31) hK2 x3 ⟨fun _ => ⟨fun h0 => absurd rfl h0, fun _ => ⟨o_all.2.2.1, o_ln, fun _ => nx2 M3 _ _ x3 (r2 M3 f3).1, fun h9 => absurd (by rw [(r2 M3 f3).2]; exact jcmp_s) h9⟩⟩, fun h9 => absurd z3 h9⟩))⟩)⟩
theorem op_1680 {l5 l6 : PV} (hK : K.1 = 923) (hX : FX M) (hR : RZ M) (hi : InR M i) (nx : Nx d Q M K i) : Wp (d + 101) 288 1680 [vR 31, vR 32, vR 440, vR 922, vI (i : Int), l5, l6, vU] [] M K Q := by
  obtain ⟨nB, B, fp, c, L, s, H, I, Y, rf, ms, wr, hI, hc, hm⟩ := hR
  refine u288_1680 (l0 := 31) hK hX ⟨hi.r 1 (by decide), u279_0 hK hX (c123 hK hX hc.gc  ⟨fun h1 => absurd trivial h1, fun h1 h2 => ?_, fun h1 h2 M1 x1 f1 => ?_⟩)⟩
  · refine Bk_h (by decide +kernel) (by decide +kernel) (u279_12 (K := K9 K) hK hX.i19 (Bk_v (gb hK hX hI hc hm nx (fun M2 K2 hK2 x2 sc2 m2 nx2 r2 => ?_))))
    refine u288_1691 (l0 := 31) hK2 x2 ⟨(hi.fr sc2).r 1 (by decide), o_all.2.1, ?_⟩
    rw [sc2 31 _ (by decide)]
    exact m240 hK2 x2 m2.gm  ⟨fun g1 => absurd trivial g1, fun g1 g2 M3 x3 b3 => Bk_v (u288_1703 (l0 := 31) hK2 x3 ⟨o_all.2.1, u151_0 hK2 x3 (Bk_v (u288_1709 (l0 := 31) hK2 x3 ⟨fun _ => ⟨fun _ => nx2 M3 _ _ x3 (r2 M3 _ b3), fun h0 => absurd h0 (by decide)⟩, fun h9 => absurd b3.2.1 h9⟩))⟩), fun g1 g2 => absurd g2 h2⟩
  · refine Bk_v (u279_7 hK x1 ⟨o_all.2.2.1, o_ln, Bk_v (gk hK x1 f1 hI hc hm nx (fun M2 K2 hK2 x2 sc2 m2 nx2 r2 => ?_))⟩)
    refine u288_1691 (l0 := 31) hK2 x2 ⟨(hi.fr sc2).r 1 (by decide), o_all.2.1, ?_⟩
    rw [sc2 31 _ (by decide)]
    exact m240 hK2 x2 m2.gm  ⟨fun g1 => absurd trivial g1, fun g1 g2 => absurd h2 g2, fun g1 g2 M3 x3 f3 z3 => Bk_v (u288_1703 (l0 := 31) hK2 x3 ⟨o_all.2.1, u151_0 hK2 x3 (Bk_v (u288_1709 (l0 := 31) hK2 x3 ⟨fun _ => ⟨fun h0 => absurd rfl h0, fun _ => ⟨o_all.2.2.1, o_ln, fun _ => nx2 M3 _ _ x3 (r2 M3 f3).1, fun h9 => absurd (by rw [(r2 M3 f3).2]; exact jcmp_s) h9⟩⟩, fun h9 => absurd z3 h9⟩))⟩)⟩
theorem op_1736 {l5 l6 : PV} (hK : K.1 = 923) (hX : FX M) (hR : RZ M) (hi : InR M i) (nx : Nx d Q M K i) : Wp (d + 101) 288 1736 [vR 31, vR 32, vR 440, vR 922, vI (i : Int), l5, l6, vU] [] M K Q := by
  obtain ⟨nB, B, fp, c, L, s, H, I, Y, rf, ms, wr, hI, hc, hm⟩ := hR
  refine u288_1736 (l0 := 31) hK hX ⟨hi.r 1 (by decide), hi.r 2 (by decide), hi.r 3 (by decide), u280_0 hK hX (c124 hK hX hc.gc  ⟨fun h1 => ?_, fun h1 h2 => ?_, fun h1 h2 M1 x1 f1 => ?_⟩)⟩
  · refine Bk_h (by decide +kernel) (by decide +kernel) (u280_15 (K := K9 K) hK hX.i18 (Bk_v (gn hK hX hI hc hm nx (fun M2 K2 hK2 x2 sc2 m2 nx2 r2 => ?_))))
    refine u288_1759 (l0 := 31) hK2 x2 ⟨(hi.fr sc2).r 1 (by decide), (hi.fr sc2).r 2 (by decide), (hi.fr sc2).r 3 (by decide), o_all.2.1, ?_⟩
    rw [sc2 31 _ (by decide), sc2 31 _ (by decide), sc2 31 _ (by decide)]
    exact m241 hK2 x2 m2.gm  ⟨fun g1 M3 x3 b3 => Bk_v (u288_1783 (l0 := 31) hK2 x3 ⟨o_all.2.1, u151_0 hK2 x3 (Bk_v (u288_1789 (l0 := 31) hK2 x3 ⟨fun _ => ⟨fun _ => nx2 M3 _ _ x3 (r2 M3 _ b3), fun h0 => absurd h0 (by decide)⟩, fun h9 => absurd b3.2.1 h9⟩))⟩), fun g1 => absurd g1 h1, fun g1 => absurd g1 h1⟩
  · refine Bk_h (by decide +kernel) (by decide +kernel) (u280_19 (K := K9 K) hK hX.i19 (Bk_v (gb hK hX hI hc hm nx (fun M2 K2 hK2 x2 sc2 m2 nx2 r2 => ?_))))
    refine u288_1759 (l0 := 31) hK2 x2 ⟨(hi.fr sc2).r 1 (by decide), (hi.fr sc2).r 2 (by decide), (hi.fr sc2).r 3 (by decide), o_all.2.1, ?_⟩
    rw [sc2 31 _ (by decide), sc2 31 _ (by decide), sc2 31 _ (by decide)]
    exact m241 hK2 x2 m2.gm  ⟨fun g1 => absurd h1 g1, fun g1 g2 M3 x3 b3 => Bk_v (u288_1783 (l0 := 31) hK2 x3 ⟨o_all.2.1, u151_0 hK2 x3 (Bk_v (u288_1789 (l0 := 31) hK2 x3 ⟨fun _ => ⟨fun _ => nx2 M3 _ _ x3 (r2 M3 _ b3), fun h0 => absurd h0 (by decide)⟩, fun h9 => absurd b3.2.1 h9⟩))⟩), fun g1 g2 => absurd g2 h2⟩
  · refine Bk_v (u280_10 hK x1 ⟨o_all.2.2.1, o_ln, Bk_v (gk hK x1 f1 hI hc hm nx (fun M2 K2 hK2 x2 sc2 m2 nx2 r2 => ?_))⟩)
    refine u288_1759 (l0 := 31) hK2 x2 ⟨(hi.fr sc2).r 1 (by decide), (hi.fr sc2).r 2 (by decide), (hi.fr sc2).r 3 (by decide), o_all.2.1, ?_⟩
    rw [sc2 31 _ (by decide), sc2 31 _ (by decide), sc2 31 _ (by decide)]
    exact m241 hK2 x2 m2.gm  ⟨fun g1 => absurd h1 g1, fun g1 g2 => absurd h2 g2, fun g1 g2 M3 x3 f3 z3 => Bk_v (u288_1783 (l0 := 31) hK2 x3 ⟨o_all.2.1, u151_0 hK2 x3 (Bk_v (u288_1789 (l0 := 31) hK2 x3 ⟨fun _ => ⟨fun h0 => absurd rfl h0, fun _ => ⟨o_all.2.2.1, o_ln, fun _ => nx2 M3 _ _ x3 (r2 M3 f3).1, fun h9 => absurd (by rw [(r2 M3 f3).2]; exact jcmp_s) h9⟩⟩, fun h9 => absurd z3 h9⟩))⟩)⟩
theorem op_1816 {l5 l6 : PV} (hK : K.1 = 923) (hX : FX M) (hR : RZ M) (hi : InR M i) (nx : Nx d Q M K i) : Wp (d + 101) 288 1816 [vR 31, vR 32, vR 440, vR 922, vI (i : Int), l5, l6, vU] [] M K Q := by
  obtain ⟨nB, B, fp, c, L, s, H, I, Y, rf, ms, wr, hI, hc, hm⟩ := hR
  refine u288_1816 (l0 := 31) hK hX ⟨hi.r 1 (by decide), u281_0 hK hX (c125 hK hX hc.gc  ⟨fun h1 => absurd trivial h1, fun h1 h2 => ?_, fun h1 h2 M1 x1 f1 => ?_⟩)⟩
  · refine Bk_h (by decide +kernel) (by decide +kernel) (u281_12 (K := K9 K) hK hX.i19 (Bk_v (gb hK hX hI hc hm nx (fun M2 K2 hK2 x2 sc2 m2 nx2 r2 => ?_))))
    refine u288_1827 (l0 := 31) hK2 x2 ⟨(hi.fr sc2).r 1 (by decide), o_all.2.1, ?_⟩
    rw [sc2 31 _ (by decide)]
    exact m242 hK2 x2 m2.gm  ⟨fun g1 => absurd trivial g1, fun g1 g2 M3 x3 b3 => Bk_v (u288_1839 (l0 := 31) hK2 x3 ⟨o_all.2.1, u151_0 hK2 x3 (Bk_v (u288_1845 (l0 := 31) hK2 x3 ⟨fun _ => ⟨fun _ => nx2 M3 _ _ x3 (r2 M3 _ b3), fun h0 => absurd h0 (by decide)⟩, fun h9 => absurd b3.2.1 h9⟩))⟩), fun g1 g2 => absurd g2 h2⟩
  · refine Bk_v (u281_7 hK x1 ⟨o_all.2.2.1, o_ln, Bk_v (gk hK x1 f1 hI hc hm nx (fun M2 K2 hK2 x2 sc2 m2 nx2 r2 => ?_))⟩)
    refine u288_1827 (l0 := 31) hK2 x2 ⟨(hi.fr sc2).r 1 (by decide), o_all.2.1, ?_⟩
    rw [sc2 31 _ (by decide)]
    exact m242 hK2 x2 m2.gm  ⟨fun g1 => absurd trivial g1, fun g1 g2 => absurd h2 g2, fun g1 g2 M3 x3 f3 z3 => Bk_v (u288_1839 (l0 := 31) hK2 x3 ⟨o_all.2.1, u151_0 hK2 x3 (Bk_v (u288_1845 (l0 := 31) hK2 x3 ⟨fun _ => ⟨fun h0 => absurd rfl h0, fun _ => ⟨o_all.2.2.1, o_ln, fun _ => nx2 M3 _ _ x3 (r2 M3 f3).1, fun h9 => absurd (by rw [(r2 M3 f3).2]; exact jcmp_s) h9⟩⟩, fun h9 => absurd z3 h9⟩))⟩)⟩
theorem op_1872 {l5 l6 : PV} (hK : K.1 = 923) (hX : FX M) (hR : RZ M) (hi : InR M i) (nx : Nx d Q M K i) : Wp (d + 101) 288 1872 [vR 31, vR 32, vR 440, vR 922, vI (i : Int), l5, l6, vU] [] M K Q := by
  obtain ⟨nB, B, fp, c, L, s, H, I, Y, rf, ms, wr, hI, hc, hm⟩ := hR
  refine u288_1872 (l0 := 31) hK hX ⟨hi.r 1 (by decide), u282_0 hK hX (c126 hK hX hc.gc  ⟨fun h1 => absurd trivial h1, fun h1 h2 => ?_, fun h1 h2 M1 x1 f1 => ?_⟩)⟩
  · refine Bk_h (by decide +kernel) (by decide +kernel) (u282_12 (K := K9 K) hK hX.i19 (Bk_v (gb hK hX hI hc hm nx (fun M2 K2 hK2 x2 sc2 m2 nx2 r2 => ?_))))
    refine u288_1883 (l0 := 31) hK2 x2 ⟨(hi.fr sc2).r 1 (by decide), o_all.2.1, ?_⟩
    rw [sc2 31 _ (by decide)]
    exact m246 hK2 x2 m2.gm  ⟨fun g1 => absurd trivial g1, fun g1 g2 M3 x3 b3 => Bk_v (u288_1895 (l0 := 31) hK2 x3 ⟨o_all.2.1, u151_0 hK2 x3 (Bk_v (u288_1901 (l0 := 31) hK2 x3 ⟨fun _ => ⟨fun _ => nx2 M3 _ _ x3 (r2 M3 _ b3), fun h0 => absurd h0 (by decide)⟩, fun h9 => absurd b3.2.1 h9⟩))⟩), fun g1 g2 => absurd g2 h2⟩
  · refine Bk_v (u282_7 hK x1 ⟨o_all.2.2.1, o_ln, Bk_v (gk hK x1 f1 hI hc hm nx (fun M2 K2 hK2 x2 sc2 m2 nx2 r2 => ?_))⟩)
    refine u288_1883 (l0 := 31) hK2 x2 ⟨(hi.fr sc2).r 1 (by decide), o_all.2.1, ?_⟩
    rw [sc2 31 _ (by decide)]
    exact m246 hK2 x2 m2.gm  ⟨fun g1 => absurd trivial g1, fun g1 g2 => absurd h2 g2, fun g1 g2 M3 x3 f3 z3 => Bk_v (u288_1895 (l0 := 31) hK2 x3 ⟨o_all.2.1, u151_0 hK2 x3 (Bk_v (u288_1901 (l0 := 31) hK2 x3 ⟨fun _ => ⟨fun h0 => absurd rfl h0, fun _ => ⟨o_all.2.2.1, o_ln, fun _ => nx2 M3 _ _ x3 (r2 M3 f3).1, fun h9 => absurd (by rw [(r2 M3 f3).2]; exact jcmp_s) h9⟩⟩, fun h9 => absurd z3 h9⟩))⟩)⟩
theorem op_1928 {l5 l6 : PV} (hK : K.1 = 923) (hX : FX M) (hR : RZ M) (hi : InR M i) (nx : Nx d Q M K i) : Wp (d + 101) 288 1928 [vR 31, vR 32, vR 440, vR 922, vI (i : Int), l5, l6, vU] [] M K Q := by
  obtain ⟨nB, B, fp, c, L, s, H, I, Y, rf, ms, wr, hI, hc, hm⟩ := hR
  refine u288_1928 (l0 := 31) hK hX ⟨hi.r 1 (by decide), hi.r 2 (by decide), u283_0 hK hX (c127 hK hX hc.gc  ⟨fun h1 => ?_, fun h1 h2 => ?_, fun h1 h2 M1 x1 f1 => ?_⟩)⟩
  · refine Bk_h (by decide +kernel) (by decide +kernel) (u283_13 (K := K9 K) hK hX.i18 (Bk_v (gn hK hX hI hc hm nx (fun M2 K2 hK2 x2 sc2 m2 nx2 r2 => ?_))))
    refine u288_1945 (l0 := 31) hK2 x2 ⟨(hi.fr sc2).r 1 (by decide), (hi.fr sc2).r 2 (by decide), o_all.2.1, ?_⟩
    rw [sc2 31 _ (by decide), sc2 31 _ (by decide)]
    exact m247 hK2 x2 m2.gm  ⟨fun g1 M3 x3 b3 => Bk_v (u288_1963 (l0 := 31) hK2 x3 ⟨o_all.2.1, u151_0 hK2 x3 (Bk_v (u288_1969 (l0 := 31) hK2 x3 ⟨fun _ => ⟨fun _ => nx2 M3 _ _ x3 (r2 M3 _ b3), fun h0 => absurd h0 (by decide)⟩, fun h9 => absurd b3.2.1 h9⟩))⟩), fun g1 => absurd g1 h1, fun g1 => absurd g1 h1⟩
  · refine Bk_h (by decide +kernel) (by decide +kernel) (u283_17 (K := K9 K) hK hX.i19 (Bk_v (gb hK hX hI hc hm nx (fun M2 K2 hK2 x2 sc2 m2 nx2 r2 => ?_))))
    refine u288_1945 (l0 := 31) hK2 x2 ⟨(hi.fr sc2).r 1 (by decide), (hi.fr sc2).r 2 (by decide), o_all.2.1, ?_⟩
    rw [sc2 31 _ (by decide), sc2 31 _ (by decide)]
    exact m247 hK2 x2 m2.gm  ⟨fun g1 => absurd h1 g1, fun g1 g2 M3 x3 b3 => Bk_v (u288_1963 (l0 := 31) hK2 x3 ⟨o_all.2.1, u151_0 hK2 x3 (Bk_v (u288_1969 (l0 := 31) hK2 x3 ⟨fun _ => ⟨fun _ => nx2 M3 _ _ x3 (r2 M3 _ b3), fun h0 => absurd h0 (by decide)⟩, fun h9 => absurd b3.2.1 h9⟩))⟩), fun g1 g2 => absurd g2 h2⟩
  · refine Bk_v (u283_8 hK x1 ⟨o_all.2.2.1, o_ln, Bk_v (gk hK x1 f1 hI hc hm nx (fun M2 K2 hK2 x2 sc2 m2 nx2 r2 => ?_))⟩)
    refine u288_1945 (l0 := 31) hK2 x2 ⟨(hi.fr sc2).r 1 (by decide), (hi.fr sc2).r 2 (by decide), o_all.2.1, ?_⟩
    rw [sc2 31 _ (by decide), sc2 31 _ (by decide)]
    exact m247 hK2 x2 m2.gm  ⟨fun g1 => absurd h1 g1, fun g1 g2 => absurd h2 g2, fun g1 g2 M3 x3 f3 z3 => Bk_v (u288_1963 (l0 := 31) hK2 x3 ⟨o_all.2.1, u151_0 hK2 x3 (Bk_v (u288_1969 (l0 := 31) hK2 x3 ⟨fun _ => ⟨fun h0 => absurd rfl h0, fun _ => ⟨o_all.2.2.1, o_ln, fun _ => nx2 M3 _ _ x3 (r2 M3 f3).1, fun h9 => absurd (by rw [(r2 M3 f3).2]; exact jcmp_s) h9⟩⟩, fun h9 => absurd z3 h9⟩))⟩)⟩
theorem op_1996 {l5 l6 : PV} (hK : K.1 = 923) (hX : FX M) (hR : RZ M) (hi : InR M i) (nx : Nx d Q M K i) : Wp (d + 101) 288 1996 [vR 31, vR 32, vR 440, vR 922, vI (i : Int), l5, l6, vU] [] M K Q := by
  obtain ⟨nB, B, fp, c, L, s, H, I, Y, rf, ms, wr, hI, hc, hm⟩ := hR
  refine u288_1996 (l0 := 31) hK hX ⟨hi.r 1 (by decide), hi.r 2 (by decide), u284_0 hK hX (c128 hK hX hc.gc  ⟨fun h1 => absurd trivial h1, fun h1 h2 => ?_, fun h1 h2 M1 x1 f1 => ?_⟩)⟩
  · refine Bk_h (by decide +kernel) (by decide +kernel) (u284_13 (K := K9 K) hK hX.i19 (Bk_v (gb hK hX hI hc hm nx (fun M2 K2 hK2 x2 sc2 m2 nx2 r2 => ?_))))
    refine u288_2013 (l0 := 31) hK2 x2 ⟨(hi.fr sc2).r 1 (by decide), (hi.fr sc2).r 2 (by decide), o_all.2.1, ?_⟩
    rw [sc2 31 _ (by decide), sc2 31 _ (by decide)]
    exact m243 hK2 x2 m2.gm  ⟨fun g1 => absurd trivial g1, fun g1 g2 M3 x3 b3 => Bk_v (u288_2031 (l0 := 31) hK2 x3 ⟨o_all.2.1, u151_0 hK2 x3 (Bk_v (u288_2037 (l0 := 31) hK2 x3 ⟨fun _ => ⟨fun _ => nx2 M3 _ _ x3 (r2 M3 _ b3), fun h0 => absurd h0 (by decide)⟩, fun h9 => absurd b3.2.1 h9⟩))⟩), fun g1 g2 => absurd g2 h2⟩
  · refine Bk_v (u284_8 hK x1 ⟨o_all.2.2.1, o_ln, Bk_v (gk hK x1 f1 hI hc hm nx (fun M2 K2 hK2 x2 sc2 m2 nx2 r2 => ?_))⟩)
    refine u288_2013 (l0 := 31) hK2 x2 ⟨(hi.fr sc2).r 1 (by decide), (hi.fr sc2).r 2 (by decide), o_all.2.1, ?_⟩
    rw [sc2 31 _ (by decide), sc2 31 _ (by decide)]
    exact m243 hK2 x2 m2.gm  ⟨fun g1 => absurd trivial g1, fun g1 g2 => absurd h2 g2, fun g1 g2 M3 x3 f3 z3 => Bk_v (u288_2031 (l0 := 31) hK2 x3 ⟨o_all.2.1, u151_0 hK2 x3 (Bk_v (u288_2037 (l0 := 31) hK2 x3 ⟨fun _ => ⟨fun h0 => absurd rfl h0, fun _ => ⟨o_all.2.2.1, o_ln, fun _ => nx2 M3 _ _ x3 (r2 M3 f3).1, fun h9 => absurd (by rw [(r2 M3 f3).2]; exact jcmp_s) h9⟩⟩, fun h9 => absurd z3 h9⟩))⟩)⟩
theorem op_2064 {l5 l6 : PV} (hK : K.1 = 923) (hX : FX M) (hR : RZ M) (hi : InR M i) (nx : Nx d Q M K i) : Wp (d + 101) 288 2064 [vR 31, vR 32, vR 440, vR 922, vI (i : Int), l5, l6, vU] [] M K Q := by
  obtain ⟨nB, B, fp, c, L, s, H, I, Y, rf, ms, wr, hI, hc, hm⟩ := hR
  refine u288_2064 (l0 := 31) hK hX ⟨hi.r 1 (by decide), u285_0 hK hX (c113 hK hX hc.gc hI.2.2.1.2 ⟨fun h1 => absurd trivial h1, fun h1 h2 => ?_, fun h1 h2 M1 x1 f1 => ?_⟩)⟩
  · refine Bk_h (by decide +kernel) (by decide +kernel) (u285_12 (K := K9 K) hK hX.i19 (Bk_v (gb hK hX hI hc hm nx (fun M2 K2 hK2 x2 sc2 m2 nx2 r2 => ?_))))
    refine u288_2075 (l0 := 31) hK2 x2 ⟨(hi.fr sc2).r 1 (by decide), o_all.2.1, ?_⟩
    rw [sc2 31 _ (by decide)]
    exact m244 hK2 x2 m2.gm hI.2.2.1.2 ⟨fun g1 => absurd trivial g1, fun g1 g2 M3 x3 b3 => Bk_v (u288_2087 (l0 := 31) hK2 x3 ⟨o_all.2.1, u151_0 hK2 x3 (Bk_v (u288_2093 (l0 := 31) hK2 x3 ⟨fun _ => ⟨fun _ => nx2 M3 _ _ x3 (r2 M3 _ b3), fun h0 => absurd h0 (by decide)⟩, fun h9 => absurd b3.2.1 h9⟩))⟩), fun g1 g2 => absurd g2 h2⟩
  · refine Bk_v (u285_7 hK x1 ⟨o_all.2.2.1, o_ln, Bk_v (gk hK x1 f1 hI hc hm nx (fun M2 K2 hK2 x2 sc2 m2 nx2 r2 => ?_))⟩)
    refine u288_2075 (l0 := 31) hK2 x2 ⟨(hi.fr sc2).r 1 (by decide), o_all.2.1, ?_⟩
    rw [sc2 31 _ (by decide)]
    exact m244 hK2 x2 m2.gm hI.2.2.1.2 ⟨fun g1 => absurd trivial g1, fun g1 g2 => absurd h2 g2, fun g1 g2 M3 x3 f3 z3 => Bk_v (u288_2087 (l0 := 31) hK2 x3 ⟨o_all.2.1, u151_0 hK2 x3 (Bk_v (u288_2093 (l0 := 31) hK2 x3 ⟨fun _ => ⟨fun h0 => absurd rfl h0, fun _ => ⟨o_all.2.2.1, o_ln, fun _ => nx2 M3 _ _ x3 (r2 M3 f3).1, fun h9 => absurd (by rw [(r2 M3 f3).2]; exact jcmp_s) h9⟩⟩, fun h9 => absurd z3 h9⟩))⟩)⟩
theorem op_2133 {l5 l6 : PV} (hK : K.1 = 923) (hX : FX M) (hR : RZ M) (hi : InR M i) (nx : Nx d Q M K i) : Wp (d + 101) 288 2133 [vR 31, vR 32, vR 440, vR 922, vI (i : Int), l5, l6, vU] [] M K Q := by
  obtain ⟨nB, B, fp, c, L, s, H, I, Y, rf, ms, wr, hI, hc, hm⟩ := hR
  refine u288_2133 (l0 := 31) hK hX ⟨hi.r 1 (by decide), hi.r 2 (by decide), hi.r 3 (by decide), hi.r 4 (by decide), hi.r 5 (by decide), u286_0 hK hX (c130 hK hX hc.gc hI.2.2.1.2 ⟨fun h1 => absurd trivial h1, fun h1 h2 => ?_, fun h1 h2 M1 x1 f1 => ?_⟩)⟩
  · refine Bk_h (by decide +kernel) (by decide +kernel) (u286_19 (K := K9 K) hK hX.i19 (Bk_v (gb hK hX hI hc hm nx (fun M2 K2 hK2 x2 sc2 m2 nx2 r2 => ?_))))
    refine u288_2168 (l0 := 31) hK2 x2 ⟨(hi.fr sc2).r 1 (by decide), (hi.fr sc2).r 2 (by decide), (hi.fr sc2).r 3 (by decide), (hi.fr sc2).r 4 (by decide), (hi.fr sc2).r 5 (by decide), o_all.2.1, ?_⟩
    rw [sc2 31 _ (by decide), sc2 31 _ (by decide), sc2 31 _ (by decide), sc2 31 _ (by decide), sc2 31 _ (by decide)]
    exact m251 hK2 x2 m2.gm hI.2.2.1.2 ⟨fun g1 => absurd trivial g1, fun g1 g2 M3 x3 b3 => Bk_v (u288_2204 (l0 := 31) hK2 x3 ⟨o_all.2.1, u151_0 hK2 x3 (Bk_v (u288_2210 (l0 := 31) hK2 x3 ⟨fun _ => ⟨fun _ => nx2 M3 _ _ x3 (r2 M3 _ b3), fun h0 => absurd h0 (by decide)⟩, fun h9 => absurd b3.2.1 h9⟩))⟩), fun g1 g2 => absurd g2 h2⟩
  · refine Bk_v (u286_14 hK x1 ⟨o_all.2.2.1, o_ln, Bk_v (gk hK x1 f1 hI hc hm nx (fun M2 K2 hK2 x2 sc2 m2 nx2 r2 => ?_))⟩)
    refine u288_2168 (l0 := 31) hK2 x2 ⟨(hi.fr sc2).r 1 (by decide), (hi.fr sc2).r 2 (by decide), (hi.fr sc2).r 3 (by decide), (hi.fr sc2).r 4 (by decide), (hi.fr sc2).r 5 (by decide), o_all.2.1, ?_⟩
    rw [sc2 31 _ (by decide), sc2 31 _ (by decide), sc2 31 _ (by decide), sc2 31 _ (by decide), sc2 31 _ (by decide)]
    exact m251 hK2 x2 m2.gm hI.2.2.1.2 ⟨fun g1 => absurd trivial g1, fun g1 g2 => absurd h2 g2, fun g1 g2 M3 x3 f3 z3 => Bk_v (u288_2204 (l0 := 31) hK2 x3 ⟨o_all.2.1, u151_0 hK2 x3 (Bk_v (u288_2210 (l0 := 31) hK2 x3 ⟨fun _ => ⟨fun h0 => absurd rfl h0, fun _ => ⟨o_all.2.2.1, o_ln, fun _ => nx2 M3 _ _ x3 (r2 M3 f3).1, fun h9 => absurd (by rw [(r2 M3 f3).2]; exact jcmp_s) h9⟩⟩, fun h9 => absurd z3 h9⟩))⟩)⟩
theorem op_2237 {l5 l6 : PV} (hK : K.1 = 923) (hX : FX M) (hR : RZ M) (hi : InR M i) (nx : Nx d Q M K i) : Wp (d + 101) 288 2237 [vR 31, vR 32, vR 440, vR 922, vI (i : Int), l5, l6, vU] [] M K Q := by
  obtain ⟨nB, B, fp, c, L, s, H, I, Y, rf, ms, wr, hI, hc, hm⟩ := hR
  refine u288_2237 (l0 := 31) hK hX ⟨hi.r 1 (by decide), hi.r 2 (by decide), hi.r 3 (by decide), hi.r 4 (by decide), hi.r 5 (by decide), hi.r 6 (by decide), hi.r 7 (by decide), u287_0 hK hX (c131 hK hX hc.gc hI.2.2.1.2 ⟨fun h1 => absurd trivial h1, fun h1 h2 => ?_, fun h1 h2 M1 x1 f1 => ?_⟩)⟩
  · refine Bk_h (by decide +kernel) (by decide +kernel) (u287_23 (K := K9 K) hK hX.i19 (Bk_v (gb hK hX hI hc hm nx (fun M2 K2 hK2 x2 sc2 m2 nx2 r2 => ?_))))
    refine u288_2286 (l0 := 31) hK2 x2 ⟨(hi.fr sc2).r 1 (by decide), (hi.fr sc2).r 2 (by decide), (hi.fr sc2).r 3 (by decide), (hi.fr sc2).r 4 (by decide), (hi.fr sc2).r 5 (by decide), (hi.fr sc2).r 6 (by decide), (hi.fr sc2).r 7 (by decide), o_all.2.1, ?_⟩
    rw [sc2 31 _ (by decide), sc2 31 _ (by decide), sc2 31 _ (by decide), sc2 31 _ (by decide), sc2 31 _ (by decide), sc2 31 _ (by decide), sc2 31 _ (by decide)]
    exact m252 hK2 x2 m2.gm hI.2.2.1.2 ⟨fun g1 => absurd trivial g1, fun g1 g2 M3 x3 b3 => Bk_v (u288_2336 (l0 := 31) hK2 x3 ⟨o_all.2.1, u151_0 hK2 x3 (Bk_v (u288_2342 (l0 := 31) hK2 x3 ⟨fun _ => ⟨fun _ => nx2 M3 _ _ x3 (r2 M3 _ b3), fun h0 => absurd h0 (by decide)⟩, fun h9 => absurd b3.2.1 h9⟩))⟩), fun g1 g2 => absurd g2 h2⟩
  · refine Bk_v (u287_18 hK x1 ⟨o_all.2.2.1, o_ln, Bk_v (gk hK x1 f1 hI hc hm nx (fun M2 K2 hK2 x2 sc2 m2 nx2 r2 => ?_))⟩)
    refine u288_2286 (l0 := 31) hK2 x2 ⟨(hi.fr sc2).r 1 (by decide), (hi.fr sc2).r 2 (by decide), (hi.fr sc2).r 3 (by decide), (hi.fr sc2).r 4 (by decide), (hi.fr sc2).r 5 (by decide), (hi.fr sc2).r 6 (by decide), (hi.fr sc2).r 7 (by decide), o_all.2.1, ?_⟩
    rw [sc2 31 _ (by decide), sc2 31 _ (by decide), sc2 31 _ (by decide), sc2 31 _ (by decide), sc2 31 _ (by decide), sc2 31 _ (by decide), sc2 31 _ (by decide)]
    exact m252 hK2 x2 m2.gm hI.2.2.1.2 ⟨fun g1 => absurd trivial g1, fun g1 g2 => absurd h2 g2, fun g1 g2 M3 x3 f3 z3 => Bk_v (u288_2336 (l0 := 31) hK2 x3 ⟨o_all.2.1, u151_0 hK2 x3 (Bk_v (u288_2342 (l0 := 31) hK2 x3 ⟨fun _ => ⟨fun h0 => absurd rfl h0, fun _ => ⟨o_all.2.2.1, o_ln, fun _ => nx2 M3 _ _ x3 (r2 M3 f3).1, fun h9 => absurd (by rw [(r2 M3 f3).2]; exact jcmp_s) h9⟩⟩, fun h9 => absurd z3 h9⟩))⟩)⟩
end OPS
