/-! the trees of the code -/
theorem t85_0 {d : Nat} {l0 : Nat} {M : Mem} {K : KK} {Q : RR → Mem → KK → Prop} (h : isO K.1 l0 10 = true ∧ ((M l0 6) = 0 → Wp d 85 12 [vR l0] [vI 0] M K Q) ∧ (¬ ((M l0 6) = 0) → Wp d 85 12 [vR l0] [vI 1] M K Q)) : Wp d 85 0 [vR l0] [] M K Q := by
  refine r_aload_n c85_0 rfl ?_
  obtain ⟨s1, h⟩ := h
  refine r_getI c85_1 s1 ?_
  refine r_ifP (P := (M l0 6) = 0) c85_4 rfl (fun hc => ?_) (fun hc => ?_)
  · replace h := h.1 hc
    refine r_iconst c85_11 ?_
    exact h
  · replace h := h.2 hc
    refine r_iconst c85_7 ?_
    refine r_goto c85_8 ?_
    exact h
theorem t85_12 {d : Nat} {l0 : Nat} {t0 : Int} {M : Mem} {K : KK} {Q : RR → Mem → KK → Prop} (h : (t0 = 0 ∨ t0 = 1) ∧ Q (.inl (some (vI t0))) M K) : Wp d 85 12 [vR l0] [vI t0] M K Q := by
  obtain ⟨s1, h⟩ := h
  exact r_iret c85_12 (Or.inr s1) h
theorem t86_0 {d : Nat} {l0 : Nat} {M : Mem} {K : KK} {Q : RR → Mem → KK → Prop} (h : isO K.1 l0 10 = true ∧ Q (.inl (some (vI (w32 ((M l0 6) - 10))))) M K) : Wp d 86 0 [vR l0] [] M K Q := by
  refine r_aload_n c86_0 rfl ?_
  obtain ⟨s1, h⟩ := h
  refine r_getI c86_1 s1 ?_
  refine r_bipush c86_4 ?_
  refine r_isub c86_6 ?_
  exact r_iret c86_7 (Or.inl rfl) h
theorem t87_0 {d : Nat} {l0 : Nat} {l1 : Int} {l2 : Int} {M : Mem} {K : KK} {Q : RR → Mem → KK → Prop} (h : isO K.1 l0 10 = true ∧ (¬ (M l0 6) = 0 → Wp d 87 17 [vR l0, vI l1, vI l2] [] M K Q) ∧ (¬ (¬ (M l0 6) = 0) → isO K.1 l0 10 = true ∧ isO K.1 l0 10 = true ∧ Wp d 87 17 [vR l0, vI l1, vI l2] [] (mset (mset M l0 6 l1) l0 7 l2) K Q)) : Wp d 87 0 [vR l0, vI l1, vI l2] [] M K Q := by
  refine r_aload_n c87_0 rfl ?_
  obtain ⟨s1, h⟩ := h
  refine r_getI c87_1 s1 ?_
  refine r_ifP (P := ¬ (M l0 6) = 0) c87_4 rfl (fun hc => ?_) (fun hc => ?_)
  · replace h := h.1 hc
    exact h
  · replace h := h.2 hc
    refine r_aload_n c87_7 rfl ?_
    refine r_iload_n c87_8 rfl ?_
    obtain ⟨s2, h⟩ := h
    refine r_putI c87_9 s2 ?_
    refine r_aload_n c87_12 rfl ?_
    refine r_iload_n c87_13 rfl ?_
    obtain ⟨s3, h⟩ := h
    refine r_putI c87_14 s3 ?_
    exact h
theorem t87_17 {d : Nat} {l0 : Nat} {l1 : Int} {l2 : Int} {M : Mem} {K : KK} {Q : RR → Mem → KK → Prop} (h : Q (.inl none) M K) : Wp d 87 17 [vR l0, vI l1, vI l2] [] M K Q := by
  exact r_ret c87_17 h
theorem t88_0 {d : Nat} {l0 : Nat} {M : Mem} {K : KK} {Q : RR → Mem → KK → Prop} (h : isO K.1 l0 10 = true ∧ Wp d 88 5 [vR l0, vI (M l0 3)] [] M K Q) : Wp d 88 0 [vR l0, vU] [] M K Q := by
  refine r_aload_n c88_0 rfl ?_
  obtain ⟨s1, h⟩ := h
  refine r_getI c88_1 s1 ?_
  refine r_istore_n c88_4 (Nat.le_of_ble_eq_true rfl) ?_
  exact h
theorem t88_5 {d : Nat} {l0 : Nat} {l1 : Int} {M : Mem} {K : KK} {Q : RR → Mem → KK → Prop} (h : isO K.1 l0 10 = true ∧ ((M l0 2) ≤ l1 → Wp d 88 37 [vR l0, vI l1] [] M K Q) ∧ (¬ ((M l0 2) ≤ l1) → isO K.1 l0 10 = true ∧ ∃ b3 : Nat, (M l0 0) = (b3 : Int) ∧ 0 < b3 ∧ isO K.1 b3 21 = true ∧ (0 ≤ l1 ∧ l1 < (ln b3 : Int)) ∧ (¬ (M b3 (Int.toNat l1)) = 32 → Wp d 88 37 [vR l0, vI l1] [] M K Q) ∧ (¬ (¬ (M b3 (Int.toNat l1)) = 32) → isO K.1 l0 10 = true ∧ Wp d 88 5 [vR l0, vI (w32 (l1 + 1))] [] (mset M l0 3 (w32 (l1 + 1))) K Q))) : Wp d 88 5 [vR l0, vI l1] [] M K Q := by
  refine r_iload_n c88_5 rfl ?_
  refine r_aload_n c88_6 rfl ?_
  obtain ⟨s1, h⟩ := h
  refine r_getI c88_7 s1 ?_
  refine r_icmpP (P := (M l0 2) ≤ l1) c88_10 rfl (fun hc => ?_) (fun hc => ?_)
  · replace h := h.1 hc
    exact h
  · replace h := h.2 hc
    refine r_aload_n c88_13 rfl ?_
    obtain ⟨s2, h⟩ := h
    obtain ⟨b3, h⟩ := h
    obtain ⟨s4, h⟩ := h
    obtain ⟨s5, h⟩ := h
    refine r_getR c88_14 s2 s4 s5 ?_
    refine r_iload_n c88_17 rfl ?_
    obtain ⟨s6, h⟩ := h
    obtain ⟨s7, h⟩ := h
    refine r_ca c88_18 s6 s7 ?_
    refine r_bipush c88_19 ?_
    refine r_icmpP (P := ¬ (M b3 (Int.toNat l1)) = 32) c88_21 rfl (fun hc => ?_) (fun hc => ?_)
    · replace h := h.1 hc
      exact h
    · replace h := h.2 hc
      refine r_aload_n c88_24 rfl ?_
      refine r_iload_n c88_25 rfl ?_
      refine r_iconst c88_26 ?_
      refine r_iadd c88_27 ?_
      obtain ⟨s8, h⟩ := h
      refine r_putI c88_28 s8 ?_
      refine r_iinc c88_31 rfl ?_
      refine r_goto c88_34 ?_
      exact h
theorem t88_37 {d : Nat} {l0 : Nat} {l1 : Int} {M : Mem} {K : KK} {Q : RR → Mem → KK → Prop} (h : isO K.1 l0 10 = true ∧ (¬ (M l0 6) = 0 → Wp d 88 55 [vR l0, vI l1] [] M K Q) ∧ (¬ (¬ (M l0 6) = 0) → isO K.1 l0 10 = true ∧ isO K.1 l0 10 = true ∧ ((M l0 3) < (M l0 2) → isO K.1 l0 10 = true ∧ ∃ b5 : Nat, (M l0 0) = (b5 : Int) ∧ 0 < b5 ∧ isO K.1 l0 10 = true ∧ isO K.1 b5 21 = true ∧ (0 ≤ (M l0 3) ∧ (M l0 3) < (ln b5 : Int)) ∧ Wp d 88 68 [vR l0, vI l1] [vI (M b5 (Int.toNat (M l0 3)))] M K Q) ∧ (¬ ((M l0 3) < (M l0 2)) → Wp d 88 55 [vR l0, vI l1] [] M K Q))) : Wp d 88 37 [vR l0, vI l1] [] M K Q := by
  refine r_aload_n c88_37 rfl ?_
  obtain ⟨s1, h⟩ := h
  refine r_getI c88_38 s1 ?_
  refine r_ifP (P := ¬ (M l0 6) = 0) c88_41 rfl (fun hc => ?_) (fun hc => ?_)
  · replace h := h.1 hc
    exact h
  · replace h := h.2 hc
    refine r_aload_n c88_44 rfl ?_
    obtain ⟨s2, h⟩ := h
    refine r_getI c88_45 s2 ?_
    refine r_aload_n c88_48 rfl ?_
    obtain ⟨s3, h⟩ := h
    refine r_getI c88_49 s3 ?_
    refine r_icmpP (P := (M l0 3) < (M l0 2)) c88_52 rfl (fun hc => ?_) (fun hc => ?_)
    · replace h := h.1 hc
      refine r_aload_n c88_59 rfl ?_
      obtain ⟨s4, h⟩ := h
      obtain ⟨b5, h⟩ := h
      obtain ⟨s6, h⟩ := h
      obtain ⟨s7, h⟩ := h
      refine r_getR c88_60 s4 s6 s7 ?_
      refine r_aload_n c88_63 rfl ?_
      obtain ⟨s8, h⟩ := h
      refine r_getI c88_64 s8 ?_
      obtain ⟨s9, h⟩ := h
      obtain ⟨s10, h⟩ := h
      refine r_ca c88_67 s9 s10 ?_
      exact h
    · replace h := h.2 hc
      exact h
theorem t88_55 {d : Nat} {l0 : Nat} {l1 : Int} {M : Mem} {K : KK} {Q : RR → Mem → KK → Prop} (h : Wp d 88 68 [vR l0, vI l1] [vI (-1)] M K Q) : Wp d 88 55 [vR l0, vI l1] [] M K Q := by
  refine r_iconst c88_55 ?_
  refine r_goto c88_56 ?_
  exact h
theorem t88_68 {d : Nat} {l0 : Nat} {l1 : Int} {t0 : Int} {M : Mem} {K : KK} {Q : RR → Mem → KK → Prop} (h : Q (.inl (some (vI t0))) M K) : Wp d 88 68 [vR l0, vI l1] [vI t0] M K Q := by
  exact r_iret c88_68 (Or.inl rfl) h
theorem t89_0 {d : Nat} {l0 : Nat} {M : Mem} {K : KK} {Q : RR → Mem → KK → Prop} (h : isO K.1 l0 10 = true ∧ Wm d 88 [vR l0] M K (Bk d 89 1 4 88 [vR l0, vU] [] Q)) : Wp (d + 1) 89 0 [vR l0, vU] [] M K Q := by
  refine r_aload_n c89_0 rfl ?_
  obtain ⟨s1, h⟩ := h
  exact r_call c89_1 rfl rfl (Nat.le_of_ble_eq_true rfl) (okc_r rfl rfl s1) h
theorem t89_4 {d : Nat} {l0 : Nat} {t0 : Int} {M : Mem} {K : KK} {Q : RR → Mem → KK → Prop} (h : (t0 < 48 → Wp d 89 21 [vR l0, vI t0] [] M K Q) ∧ (¬ (t0 < 48) → (57 < t0 → Wp d 89 21 [vR l0, vI t0] [] M K Q) ∧ (¬ (57 < t0) → Wp d 89 22 [vR l0, vI t0] [vI 1] M K Q))) : Wp d 89 4 [vR l0, vU] [vI t0] M K Q := by
  refine r_istore_n c89_4 (Nat.le_of_ble_eq_true rfl) ?_
  refine r_iload_n c89_5 rfl ?_
  refine r_bipush c89_6 ?_
  refine r_icmpP (P := t0 < 48) c89_8 rfl (fun hc => ?_) (fun hc => ?_)
  · replace h := h.1 hc
    exact h
  · replace h := h.2 hc
    refine r_iload_n c89_11 rfl ?_
    refine r_bipush c89_12 ?_
    refine r_icmpP (P := 57 < t0) c89_14 rfl (fun hc => ?_) (fun hc => ?_)
    · replace h := h.1 hc
      exact h
    · replace h := h.2 hc
      refine r_iconst c89_17 ?_
      refine r_goto c89_18 ?_
      exact h
theorem t89_21 {d : Nat} {l0 : Nat} {l1 : Int} {M : Mem} {K : KK} {Q : RR → Mem → KK → Prop} (h : Wp d 89 22 [vR l0, vI l1] [vI 0] M K Q) : Wp d 89 21 [vR l0, vI l1] [] M K Q := by
  refine r_iconst c89_21 ?_
  exact h
theorem t89_22 {d : Nat} {l0 : Nat} {l1 : Int} {t0 : Int} {M : Mem} {K : KK} {Q : RR → Mem → KK → Prop} (h : (t0 = 0 ∨ t0 = 1) ∧ Q (.inl (some (vI t0))) M K) : Wp d 89 22 [vR l0, vI l1] [vI t0] M K Q := by
  obtain ⟨s1, h⟩ := h
  exact r_iret c89_22 (Or.inr s1) h
theorem t90_0 {d : Nat} {l0 : Nat} {M : Mem} {K : KK} {Q : RR → Mem → KK → Prop} (h : isO K.1 l0 10 = true ∧ isO K.1 l0 10 = true ∧ isO K.1 l0 10 = true ∧ Q (.inl none) (mset M l0 3 (if (M l0 2) < (w32 ((M l0 3) + 1)) then (M l0 2) else (w32 ((M l0 3) + 1)))) K) : Wp d 90 0 [vR l0] [] M K Q := by
  refine r_aload_n c90_0 rfl ?_
  refine r_aload_n c90_1 rfl ?_
  obtain ⟨s1, h⟩ := h
  refine r_getI c90_2 s1 ?_
  refine r_iconst c90_5 ?_
  refine r_iadd c90_6 ?_
  refine r_aload_n c90_7 rfl ?_
  obtain ⟨s2, h⟩ := h
  refine r_getI c90_8 s2 ?_
  refine r_min c90_11 (Nat.le_of_ble_eq_true rfl) ?_
  obtain ⟨s3, h⟩ := h
  refine r_putI c90_14 s3 ?_
  exact r_ret c90_17 h
theorem t91_0 {d : Nat} {l0 : Nat} {l1 : Int} {M : Mem} {K : KK} {Q : RR → Mem → KK → Prop} (h : isO K.1 l0 10 = true ∧ Wm d 88 [vR l0] M K (Bk d 91 1 4 88 [vR l0, vI l1] [] Q)) : Wp (d + 1) 91 0 [vR l0, vI l1] [] M K Q := by
  refine r_aload_n c91_0 rfl ?_
  obtain ⟨s1, h⟩ := h
  exact r_call c91_1 rfl rfl (Nat.le_of_ble_eq_true rfl) (okc_r rfl rfl s1) h
theorem t91_4 {d : Nat} {l0 : Nat} {l1 : Int} {t0 : Int} {M : Mem} {K : KK} {Q : RR → Mem → KK → Prop} (h : (¬ t0 = l1 → isO K.1 l0 10 = true ∧ isO K.1 l0 10 = true ∧ Wm d 87 [vR l0, vI 1, vI (M l0 3)] M K (Bk d 91 21 24 87 [vR l0, vI l1] [] Q)) ∧ (¬ (¬ t0 = l1) → isO K.1 l0 10 = true ∧ Wm d 90 [vR l0] M K (Bk d 91 9 12 90 [vR l0, vI l1] [] Q))) : Wp (d + 1) 91 4 [vR l0, vI l1] [vI t0] M K Q := by
  refine r_iload_n c91_4 rfl ?_
  refine r_icmpP (P := ¬ t0 = l1) c91_5 rfl (fun hc => ?_) (fun hc => ?_)
  · replace h := h.1 hc
    refine r_aload_n c91_15 rfl ?_
    refine r_iconst c91_16 ?_
    refine r_aload_n c91_17 rfl ?_
    obtain ⟨s1, h⟩ := h
    refine r_getI c91_18 s1 ?_
    obtain ⟨s2, h⟩ := h
    exact r_call c91_21 rfl rfl (Nat.le_of_ble_eq_true rfl) (okc_r rfl rfl s2) h
  · replace h := h.2 hc
    refine r_aload_n c91_8 rfl ?_
    obtain ⟨s3, h⟩ := h
    exact r_call c91_9 rfl rfl (Nat.le_of_ble_eq_true rfl) (okc_r rfl rfl s3) h
theorem t91_12 {d : Nat} {l0 : Nat} {l1 : Int} {M : Mem} {K : KK} {Q : RR → Mem → KK → Prop} (h : Wp d 91 24 [vR l0, vI l1] [] M K Q) : Wp d 91 12 [vR l0, vI l1] [] M K Q := by
  refine r_goto c91_12 ?_
  exact h
theorem t91_24 {d : Nat} {l0 : Nat} {l1 : Int} {M : Mem} {K : KK} {Q : RR → Mem → KK → Prop} (h : Q (.inl none) M K) : Wp d 91 24 [vR l0, vI l1] [] M K Q := by
  exact r_ret c91_24 h
theorem t92_0 {d : Nat} {l0 : Nat} {l1 : Int} {l2 : Int} {M : Mem} {K : KK} {Q : RR → Mem → KK → Prop} (h : isO K.1 l0 10 = true ∧ Wm d 89 [vR l0] M K (Bk d 92 1 4 89 [vR l0, vI l1, vI l2, vU, vU, vU] [] Q)) : Wp (d + 1) 92 0 [vR l0, vI l1, vI l2, vU, vU, vU] [] M K Q := by
  refine r_aload_n c92_0 rfl ?_
  obtain ⟨s1, h⟩ := h
  exact r_call c92_1 rfl rfl (Nat.le_of_ble_eq_true rfl) (okc_r rfl rfl s1) h
theorem t92_4 {d : Nat} {l0 : Nat} {l1 : Int} {l2 : Int} {t0 : Int} {M : Mem} {K : KK} {Q : RR → Mem → KK → Prop} (h : (¬ t0 = 0 → isO K.1 l0 10 = true ∧ isO K.1 l0 10 = true ∧ Wp (d + 1) 92 32 [vR l0, vI l1, vI l2, vI (M l0 3), vI 0, vI (M l0 3)] [] M K Q) ∧ (¬ (¬ t0 = 0) → isO K.1 l0 10 = true ∧ isO K.1 l0 10 = true ∧ Wm d 87 [vR l0, vI 1, vI (M l0 3)] M K (Bk d 92 13 16 87 [vR l0, vI l1, vI l2, vU, vU, vU] [] Q))) : Wp (d + 1) 92 4 [vR l0, vI l1, vI l2, vU, vU, vU] [vI t0] M K Q := by
  refine r_ifP (P := ¬ t0 = 0) c92_4 rfl (fun hc => ?_) (fun hc => ?_)
  · replace h := h.1 hc
    refine r_aload_n c92_18 rfl ?_
    obtain ⟨s1, h⟩ := h
    refine r_getI c92_19 s1 ?_
    refine r_istore_n c92_22 (Nat.le_of_ble_eq_true rfl) ?_
    refine r_iconst c92_23 ?_
    refine r_istore c92_24 (Nat.le_of_ble_eq_true rfl) ?_
    refine r_aload_n c92_26 rfl ?_
    obtain ⟨s2, h⟩ := h
    refine r_getI c92_27 s2 ?_
    refine r_istore c92_30 (Nat.le_of_ble_eq_true rfl) ?_
    exact h
  · replace h := h.2 hc
    refine r_aload_n c92_7 rfl ?_
    refine r_iconst c92_8 ?_
    refine r_aload_n c92_9 rfl ?_
    obtain ⟨s3, h⟩ := h
    refine r_getI c92_10 s3 ?_
    obtain ⟨s4, h⟩ := h
    exact r_call c92_13 rfl rfl (Nat.le_of_ble_eq_true rfl) (okc_r rfl rfl s4) h
theorem t92_16 {d : Nat} {l0 : Nat} {l1 : Int} {l2 : Int} {M : Mem} {K : KK} {Q : RR → Mem → KK → Prop} (h : Q (.inl (some (vI l1))) M K) : Wp d 92 16 [vR l0, vI l1, vI l2, vU, vU, vU] [] M K Q := by
  refine r_iload_n c92_16 rfl ?_
  exact r_iret c92_17 (Or.inl rfl) h
theorem t92_32 {d : Nat} {l0 : Nat} {l1 : Int} {l2 : Int} {l3 : Int} {l4 : Int} {l5 : Int} {M : Mem} {K : KK} {Q : RR → Mem → KK → Prop} (h : isO K.1 l0 10 = true ∧ ((M l0 2) ≤ l5 → Wp d 92 102 [vR l0, vI l1, vI l2, vI l3, vI l4, vI l5] [] M K Q) ∧ (¬ ((M l0 2) ≤ l5) → isO K.1 l0 10 = true ∧ ∃ b3 : Nat, (M l0 0) = (b3 : Int) ∧ 0 < b3 ∧ isO K.1 b3 21 = true ∧ (0 ≤ l5 ∧ l5 < (ln b3 : Int)) ∧ ((M b3 (Int.toNat l5)) < 48 → Wp d 92 102 [vR l0, vI l1, vI l2, vI l3, vI l4, vI l5] [] M K Q) ∧ (¬ ((M b3 (Int.toNat l5)) < 48) → isO K.1 l0 10 = true ∧ ∃ b9 : Nat, (M l0 0) = (b9 : Int) ∧ 0 < b9 ∧ isO K.1 b9 21 = true ∧ (0 ≤ l5 ∧ l5 < (ln b9 : Int)) ∧ (57 < (M b9 (Int.toNat l5)) → Wp d 92 102 [vR l0, vI l1, vI l2, vI l3, vI l4, vI l5] [] M K Q) ∧ (¬ (57 < (M b9 (Int.toNat l5))) → isO K.1 l0 10 = true ∧ ∃ b15 : Nat, (M l0 0) = (b15 : Int) ∧ 0 < b15 ∧ isO K.1 b15 21 = true ∧ (0 ≤ l5 ∧ l5 < (ln b15 : Int)) ∧ isO K.1 l0 10 = true ∧ Wp d 92 32 [vR l0, vI l1, vI l2, vI l3, vI (if (w32 ((w32 ((w32 (l4 * 10)) + (M b15 (Int.toNat l5)))) - 48)) < 100000 then (w32 ((w32 ((w32 (l4 * 10)) + (M b15 (Int.toNat l5)))) - 48)) else 100000), vI (w32 (l5 + 1))] [] (mset M l0 3 (w32 (l5 + 1))) K Q)))) : Wp d 92 32 [vR l0, vI l1, vI l2, vI l3, vI l4, vI l5] [] M K Q := by
  refine r_iload c92_32 rfl ?_
  refine r_aload_n c92_34 rfl ?_
  obtain ⟨s1, h⟩ := h
  refine r_getI c92_35 s1 ?_
  refine r_icmpP (P := (M l0 2) ≤ l5) c92_38 rfl (fun hc => ?_) (fun hc => ?_)
  · replace h := h.1 hc
    exact h
  · replace h := h.2 hc
    refine r_aload_n c92_41 rfl ?_
    obtain ⟨s2, h⟩ := h
    obtain ⟨b3, h⟩ := h
    obtain ⟨s4, h⟩ := h
    obtain ⟨s5, h⟩ := h
    refine r_getR c92_42 s2 s4 s5 ?_
    refine r_iload c92_45 rfl ?_
    obtain ⟨s6, h⟩ := h
    obtain ⟨s7, h⟩ := h
    refine r_ca c92_47 s6 s7 ?_
    refine r_bipush c92_48 ?_
    refine r_icmpP (P := (M b3 (Int.toNat l5)) < 48) c92_50 rfl (fun hc => ?_) (fun hc => ?_)
    · replace h := h.1 hc
      exact h
    · replace h := h.2 hc
      refine r_aload_n c92_53 rfl ?_
      obtain ⟨s8, h⟩ := h
      obtain ⟨b9, h⟩ := h
      obtain ⟨s10, h⟩ := h
      obtain ⟨s11, h⟩ := h
      refine r_getR c92_54 s8 s10 s11 ?_
      refine r_iload c92_57 rfl ?_
      obtain ⟨s12, h⟩ := h
      obtain ⟨s13, h⟩ := h
      refine r_ca c92_59 s12 s13 ?_
      refine r_bipush c92_60 ?_
      refine r_icmpP (P := 57 < (M b9 (Int.toNat l5))) c92_62 rfl (fun hc => ?_) (fun hc => ?_)
      · replace h := h.1 hc
        exact h
      · replace h := h.2 hc
        refine r_ldci c92_65 ?_
        refine r_iload c92_67 rfl ?_
        refine r_bipush c92_69 ?_
        refine r_imul c92_71 ?_
        refine r_aload_n c92_72 rfl ?_
        obtain ⟨s14, h⟩ := h
        obtain ⟨b15, h⟩ := h
        obtain ⟨s16, h⟩ := h
        obtain ⟨s17, h⟩ := h
        refine r_getR c92_73 s14 s16 s17 ?_
        refine r_iload c92_76 rfl ?_
        obtain ⟨s18, h⟩ := h
        obtain ⟨s19, h⟩ := h
        refine r_ca c92_78 s18 s19 ?_
        refine r_iadd c92_79 ?_
        refine r_bipush c92_80 ?_
        refine r_isub c92_82 ?_
        refine r_min c92_83 (Nat.le_of_ble_eq_true rfl) ?_
        refine r_istore c92_86 (Nat.le_of_ble_eq_true rfl) ?_
        refine r_aload_n c92_88 rfl ?_
        refine r_iload c92_89 rfl ?_
        refine r_iconst c92_91 ?_
        refine r_iadd c92_92 ?_
        obtain ⟨s20, h⟩ := h
        refine r_putI c92_93 s20 ?_
        refine r_iinc c92_96 rfl ?_
        refine r_goto c92_99 ?_
        exact h
theorem t92_102 {d : Nat} {l0 : Nat} {l1 : Int} {l2 : Int} {l3 : Int} {l4 : Int} {l5 : Int} {M : Mem} {K : KK} {Q : RR → Mem → KK → Prop} (h : (l4 < l1 → Wp d 92 114 [vR l0, vI l1, vI l2, vI l3, vI l4, vI l5] [] M K Q) ∧ (¬ (l4 < l1) → (l4 ≤ l2 → Q (.inl (some (vI l4))) M K) ∧ (¬ (l4 ≤ l2) → Wp d 92 114 [vR l0, vI l1, vI l2, vI l3, vI l4, vI l5] [] M K Q))) : Wp d 92 102 [vR l0, vI l1, vI l2, vI l3, vI l4, vI l5] [] M K Q := by
  refine r_iload c92_102 rfl ?_
  refine r_iload_n c92_104 rfl ?_
  refine r_icmpP (P := l4 < l1) c92_105 rfl (fun hc => ?_) (fun hc => ?_)
  · replace h := h.1 hc
    exact h
  · replace h := h.2 hc
    refine r_iload c92_108 rfl ?_
    refine r_iload_n c92_110 rfl ?_
    refine r_icmpP (P := l4 ≤ l2) c92_111 rfl (fun hc => ?_) (fun hc => ?_)
    · replace h := h.1 hc
      refine r_iload c92_122 rfl ?_
      exact r_iret c92_124 (Or.inl rfl) h
    · replace h := h.2 hc
      exact h
theorem t92_114 {d : Nat} {l0 : Nat} {l1 : Int} {l2 : Int} {l3 : Int} {l4 : Int} {l5 : Int} {M : Mem} {K : KK} {Q : RR → Mem → KK → Prop} (h : isO K.1 l0 10 = true ∧ Wm d 87 [vR l0, vI 2, vI l3] M K (Bk d 92 117 120 87 [vR l0, vI l1, vI l2, vI l3, vI l4, vI l5] [] Q)) : Wp (d + 1) 92 114 [vR l0, vI l1, vI l2, vI l3, vI l4, vI l5] [] M K Q := by
  refine r_aload_n c92_114 rfl ?_
  refine r_iconst c92_115 ?_
  refine r_iload_n c92_116 rfl ?_
  obtain ⟨s1, h⟩ := h
  exact r_call c92_117 rfl rfl (Nat.le_of_ble_eq_true rfl) (okc_r rfl rfl s1) h
theorem t92_120 {d : Nat} {l0 : Nat} {l1 : Int} {l2 : Int} {l3 : Int} {l4 : Int} {l5 : Int} {M : Mem} {K : KK} {Q : RR → Mem → KK → Prop} (h : Q (.inl (some (vI l1))) M K) : Wp d 92 120 [vR l0, vI l1, vI l2, vI l3, vI l4, vI l5] [] M K Q := by
  refine r_iload_n c92_120 rfl ?_
  exact r_iret c92_121 (Or.inl rfl) h
theorem t93_0 {d : Nat} {l0 : Nat} {M : Mem} {K : KK} {Q : RR → Mem → KK → Prop} (h : isO K.1 l0 10 = true ∧ Wm d 88 [vR l0] M K (Bk d 93 1 4 88 [vR l0, vU] [] Q)) : Wp (d + 1) 93 0 [vR l0, vU] [] M K Q := by
  refine r_aload_n c93_0 rfl ?_
  obtain ⟨s1, h⟩ := h
  exact r_call c93_1 rfl rfl (Nat.le_of_ble_eq_true rfl) (okc_r rfl rfl s1) h
theorem t93_4 {d : Nat} {l0 : Nat} {t0 : Int} {M : Mem} {K : KK} {Q : RR → Mem → KK → Prop} (h : isO K.1 l0 10 = true ∧ isO K.1 l0 10 = true ∧ isO K.1 l0 10 = true ∧ Wp d 93 18 [vR l0, vI ((mset M l0 4 (M l0 3)) l0 3)] [] (mset M l0 4 (M l0 3)) K Q) : Wp d 93 4 [vR l0, vU] [vI t0] M K Q := by
  refine r_popi c93_4 ?_
  refine r_aload_n c93_5 rfl ?_
  refine r_aload_n c93_6 rfl ?_
  obtain ⟨s1, h⟩ := h
  refine r_getI c93_7 s1 ?_
  obtain ⟨s2, h⟩ := h
  refine r_putI c93_10 s2 ?_
  refine r_aload_n c93_13 rfl ?_
  obtain ⟨s3, h⟩ := h
  refine r_getI c93_14 s3 ?_
  refine r_istore_n c93_17 (Nat.le_of_ble_eq_true rfl) ?_
  exact h
theorem t93_18 {d : Nat} {l0 : Nat} {l1 : Int} {M : Mem} {K : KK} {Q : RR → Mem → KK → Prop} (h : isO K.1 l0 10 = true ∧ ((M l0 2) ≤ l1 → Wp d 93 61 [vR l0, vI l1] [] M K Q) ∧ (¬ ((M l0 2) ≤ l1) → isO K.1 l0 10 = true ∧ ∃ b3 : Nat, (M l0 0) = (b3 : Int) ∧ 0 < b3 ∧ isO K.1 b3 21 = true ∧ (0 ≤ l1 ∧ l1 < (ln b3 : Int)) ∧ ((M b3 (Int.toNat l1)) < 97 → Wp d 93 61 [vR l0, vI l1] [] M K Q) ∧ (¬ ((M b3 (Int.toNat l1)) < 97) → isO K.1 l0 10 = true ∧ ∃ b9 : Nat, (M l0 0) = (b9 : Int) ∧ 0 < b9 ∧ isO K.1 b9 21 = true ∧ (0 ≤ l1 ∧ l1 < (ln b9 : Int)) ∧ (122 < (M b9 (Int.toNat l1)) → Wp d 93 61 [vR l0, vI l1] [] M K Q) ∧ (¬ (122 < (M b9 (Int.toNat l1))) → isO K.1 l0 10 = true ∧ Wp d 93 18 [vR l0, vI (w32 (l1 + 1))] [] (mset M l0 3 (w32 (l1 + 1))) K Q)))) : Wp d 93 18 [vR l0, vI l1] [] M K Q := by
  refine r_iload_n c93_18 rfl ?_
  refine r_aload_n c93_19 rfl ?_
  obtain ⟨s1, h⟩ := h
  refine r_getI c93_20 s1 ?_
  refine r_icmpP (P := (M l0 2) ≤ l1) c93_23 rfl (fun hc => ?_) (fun hc => ?_)
  · replace h := h.1 hc
    exact h
  · replace h := h.2 hc
    refine r_aload_n c93_26 rfl ?_
    obtain ⟨s2, h⟩ := h
    obtain ⟨b3, h⟩ := h
    obtain ⟨s4, h⟩ := h
    obtain ⟨s5, h⟩ := h
    refine r_getR c93_27 s2 s4 s5 ?_
    refine r_iload_n c93_30 rfl ?_
    obtain ⟨s6, h⟩ := h
    obtain ⟨s7, h⟩ := h
    refine r_ca c93_31 s6 s7 ?_
    refine r_bipush c93_32 ?_
    refine r_icmpP (P := (M b3 (Int.toNat l1)) < 97) c93_34 rfl (fun hc => ?_) (fun hc => ?_)
    · replace h := h.1 hc
      exact h
    · replace h := h.2 hc
      refine r_aload_n c93_37 rfl ?_
      obtain ⟨s8, h⟩ := h
      obtain ⟨b9, h⟩ := h
      obtain ⟨s10, h⟩ := h
      obtain ⟨s11, h⟩ := h
      refine r_getR c93_38 s8 s10 s11 ?_
      refine r_iload_n c93_41 rfl ?_
      obtain ⟨s12, h⟩ := h
      obtain ⟨s13, h⟩ := h
      refine r_ca c93_42 s12 s13 ?_
      refine r_bipush c93_43 ?_
      refine r_icmpP (P := 122 < (M b9 (Int.toNat l1))) c93_45 rfl (fun hc => ?_) (fun hc => ?_)
      · replace h := h.1 hc
        exact h
      · replace h := h.2 hc
        refine r_aload_n c93_48 rfl ?_
        refine r_iload_n c93_49 rfl ?_
        refine r_iconst c93_50 ?_
        refine r_iadd c93_51 ?_
        obtain ⟨s14, h⟩ := h
        refine r_putI c93_52 s14 ?_
        refine r_iinc c93_55 rfl ?_
        refine r_goto c93_58 ?_
        exact h
theorem t93_61 {d : Nat} {l0 : Nat} {l1 : Int} {M : Mem} {K : KK} {Q : RR → Mem → KK → Prop} (h : isO K.1 l0 10 = true ∧ isO K.1 l0 10 = true ∧ Q (.inl none) (mset M l0 5 (M l0 3)) K) : Wp d 93 61 [vR l0, vI l1] [] M K Q := by
  refine r_aload_n c93_61 rfl ?_
  refine r_aload_n c93_62 rfl ?_
  obtain ⟨s1, h⟩ := h
  refine r_getI c93_63 s1 ?_
  obtain ⟨s2, h⟩ := h
  refine r_putI c93_66 s2 ?_
  exact r_ret c93_69 h
theorem t94_0 {d : Nat} {l0 : Nat} {l1 : Nat} {M : Mem} {K : KK} {Q : RR → Mem → KK → Prop} (h : isO K.1 l0 10 = true ∧ isO K.1 l0 10 = true ∧ (2 ≤ l1 ∧ l1 < 27) ∧ ((w32 ((M l0 5) - (M l0 4))) = ((stT.getD (l1 - 2) []).length : Int) → Wp d 94 20 [vR l0, vR l1, vI 0] [] M K Q) ∧ (¬ ((w32 ((M l0 5) - (M l0 4))) = ((stT.getD (l1 - 2) []).length : Int)) → Q (.inl (some (vI 0))) M K)) : Wp d 94 0 [vR l0, vR l1, vU] [] M K Q := by
  refine r_aload_n c94_0 rfl ?_
  obtain ⟨s1, h⟩ := h
  refine r_getI c94_1 s1 ?_
  refine r_aload_n c94_4 rfl ?_
  obtain ⟨s2, h⟩ := h
  refine r_getI c94_5 s2 ?_
  refine r_isub c94_8 ?_
  refine r_aload_n c94_9 rfl ?_
  obtain ⟨s3, h⟩ := h
  refine r_slen c94_10 ⟨s3, Nat.le_of_ble_eq_true rfl⟩ ?_
  refine r_icmpP (P := (w32 ((M l0 5) - (M l0 4))) = ((stT.getD (l1 - 2) []).length : Int)) c94_13 rfl (fun hc => ?_) (fun hc => ?_)
  · replace h := h.1 hc
    refine r_iconst c94_18 ?_
    refine r_istore_n c94_19 (Nat.le_of_ble_eq_true rfl) ?_
    exact h
  · replace h := h.2 hc
    refine r_iconst c94_16 ?_
    exact r_iret c94_17 (by decide) h
theorem t94_20 {d : Nat} {l0 : Nat} {l1 : Nat} {l2 : Int} {M : Mem} {K : KK} {Q : RR → Mem → KK → Prop} (h : (2 ≤ l1 ∧ l1 < 27) ∧ (((stT.getD (l1 - 2) []).length : Int) ≤ l2 → Wp d 94 69 [vR l0, vR l1, vI l2] [] M K Q) ∧ (¬ (((stT.getD (l1 - 2) []).length : Int) ≤ l2) → isO K.1 l0 10 = true ∧ isO K.1 l0 10 = true ∧ ∃ b4 : Nat, (M l0 0) = (b4 : Int) ∧ 0 < b4 ∧ (Nat.ble 20 (tg b4) = true ∧ isO K.1 b4 (tg b4) = true) ∧ ((ln b4 : Int) ≤ (w32 ((M l0 4) + l2)) → Wp d 94 69 [vR l0, vR l1, vI l2] [] M K Q) ∧ (¬ ((ln b4 : Int) ≤ (w32 ((M l0 4) + l2))) → isO K.1 l0 10 = true ∧ ∃ b9 : Nat, (M l0 0) = (b9 : Int) ∧ 0 < b9 ∧ isO K.1 l0 10 = true ∧ isO K.1 b9 21 = true ∧ (0 ≤ (w32 ((M l0 4) + l2)) ∧ (w32 ((M l0 4) + l2)) < (ln b9 : Int)) ∧ (2 ≤ l1 ∧ l1 < 27) ∧ (0 ≤ l2 ∧ l2 < ((stT.getD (l1 - 2) []).length : Int)) ∧ ((M b9 (Int.toNat (w32 ((M l0 4) + l2)))) = ((stT.getD (l1 - 2) []).getD (Int.toNat l2) 0 : Int) → Wp d 94 20 [vR l0, vR l1, vI (w32 (l2 + 1))] [] M K Q) ∧ (¬ ((M b9 (Int.toNat (w32 ((M l0 4) + l2)))) = ((stT.getD (l1 - 2) []).getD (Int.toNat l2) 0 : Int)) → Q (.inl (some (vI 0))) M K)))) : Wp d 94 20 [vR l0, vR l1, vI l2] [] M K Q := by
  refine r_iload_n c94_20 rfl ?_
  refine r_aload_n c94_21 rfl ?_
  obtain ⟨s1, h⟩ := h
  refine r_slen c94_22 ⟨s1, Nat.le_of_ble_eq_true rfl⟩ ?_
  refine r_icmpP (P := ((stT.getD (l1 - 2) []).length : Int) ≤ l2) c94_25 rfl (fun hc => ?_) (fun hc => ?_)
  · replace h := h.1 hc
    exact h
  · replace h := h.2 hc
    refine r_aload_n c94_28 rfl ?_
    obtain ⟨s2, h⟩ := h
    refine r_getI c94_29 s2 ?_
    refine r_iload_n c94_32 rfl ?_
    refine r_iadd c94_33 ?_
    refine r_aload_n c94_34 rfl ?_
    obtain ⟨s3, h⟩ := h
    obtain ⟨b4, h⟩ := h
    obtain ⟨s5, h⟩ := h
    obtain ⟨s6, h⟩ := h
    refine r_getR c94_35 s3 s5 s6 ?_
    obtain ⟨s7, h⟩ := h
    refine r_alen c94_38 s7 ?_
    refine r_icmpP (P := (ln b4 : Int) ≤ (w32 ((M l0 4) + l2))) c94_39 rfl (fun hc => ?_) (fun hc => ?_)
    · replace h := h.1 hc
      exact h
    · replace h := h.2 hc
      refine r_aload_n c94_42 rfl ?_
      obtain ⟨s8, h⟩ := h
      obtain ⟨b9, h⟩ := h
      obtain ⟨s10, h⟩ := h
      obtain ⟨s11, h⟩ := h
      refine r_getR c94_43 s8 s10 s11 ?_
      refine r_aload_n c94_46 rfl ?_
      obtain ⟨s12, h⟩ := h
      refine r_getI c94_47 s12 ?_
      refine r_iload_n c94_50 rfl ?_
      refine r_iadd c94_51 ?_
      obtain ⟨s13, h⟩ := h
      obtain ⟨s14, h⟩ := h
      refine r_ca c94_52 s13 s14 ?_
      refine r_aload_n c94_53 rfl ?_
      refine r_iload_n c94_54 rfl ?_
      obtain ⟨s15, h⟩ := h
      obtain ⟨s16, h⟩ := h
      refine r_schr c94_55 ⟨s15, s16, Nat.le_of_ble_eq_true rfl⟩ ?_
      refine r_icmpP (P := (M b9 (Int.toNat (w32 ((M l0 4) + l2)))) = ((stT.getD (l1 - 2) []).getD (Int.toNat l2) 0 : Int)) c94_58 rfl (fun hc => ?_) (fun hc => ?_)
      · replace h := h.1 hc
        refine r_iinc c94_63 rfl ?_
        refine r_goto c94_66 ?_
        exact h
      · replace h := h.2 hc
        refine r_iconst c94_61 ?_
        exact r_iret c94_62 (by decide) h
theorem t94_69 {d : Nat} {l0 : Nat} {l1 : Nat} {l2 : Int} {M : Mem} {K : KK} {Q : RR → Mem → KK → Prop} (h : Q (.inl (some (vI 1))) M K) : Wp d 94 69 [vR l0, vR l1, vI l2] [] M K Q := by
  refine r_iconst c94_69 ?_
  exact r_iret c94_70 (by decide) h
theorem t95_0 {d : Nat} {l0 : Nat} {l1 : Int} {M : Mem} {K : KK} {Q : RR → Mem → KK → Prop} (h : isO K.1 l0 10 = true ∧ isO K.1 l0 10 = true ∧ Wm d 87 [vR l0, vI l1, vI (M l0 4)] M K (Bk d 95 6 9 87 [vR l0, vI l1] [] Q)) : Wp (d + 1) 95 0 [vR l0, vI l1] [] M K Q := by
  refine r_aload_n c95_0 rfl ?_
  refine r_iload_n c95_1 rfl ?_
  refine r_aload_n c95_2 rfl ?_
  obtain ⟨s1, h⟩ := h
  refine r_getI c95_3 s1 ?_
  obtain ⟨s2, h⟩ := h
  exact r_call c95_6 rfl rfl (Nat.le_of_ble_eq_true rfl) (okc_r rfl rfl s2) h
theorem t95_9 {d : Nat} {l0 : Nat} {l1 : Int} {M : Mem} {K : KK} {Q : RR → Mem → KK → Prop} (h : Q (.inl none) M K) : Wp d 95 9 [vR l0, vI l1] [] M K Q := by
  exact r_ret c95_9 h
theorem t96_0 {d : Nat} {l0 : Nat} {M : Mem} {K : KK} {Q : RR → Mem → KK → Prop} (h : isO K.1 l0 10 = true ∧ Wm d 88 [vR l0] M K (Bk d 96 1 4 88 [vR l0] [] Q)) : Wp (d + 1) 96 0 [vR l0] [] M K Q := by
  refine r_aload_n c96_0 rfl ?_
  obtain ⟨s1, h⟩ := h
  exact r_call c96_1 rfl rfl (Nat.le_of_ble_eq_true rfl) (okc_r rfl rfl s1) h
theorem t96_4 {d : Nat} {l0 : Nat} {t0 : Int} {M : Mem} {K : KK} {Q : RR → Mem → KK → Prop} (h : (t0 = (-1) → Wp (d + 1) 96 17 [vR l0] [] M K Q) ∧ (¬ (t0 = (-1)) → isO K.1 l0 10 = true ∧ isO K.1 l0 10 = true ∧ Wm d 87 [vR l0, vI 1, vI (M l0 3)] M K (Bk d 96 14 17 87 [vR l0] [] Q))) : Wp (d + 1) 96 4 [vR l0] [vI t0] M K Q := by
  refine r_iconst c96_4 ?_
  refine r_icmpP (P := t0 = (-1)) c96_5 rfl (fun hc => ?_) (fun hc => ?_)
  · replace h := h.1 hc
    exact h
  · replace h := h.2 hc
    refine r_aload_n c96_8 rfl ?_
    refine r_iconst c96_9 ?_
    refine r_aload_n c96_10 rfl ?_
    obtain ⟨s1, h⟩ := h
    refine r_getI c96_11 s1 ?_
    obtain ⟨s2, h⟩ := h
    exact r_call c96_14 rfl rfl (Nat.le_of_ble_eq_true rfl) (okc_r rfl rfl s2) h
theorem t96_17 {d : Nat} {l0 : Nat} {M : Mem} {K : KK} {Q : RR → Mem → KK → Prop} (h : Q (.inl none) M K) : Wp d 96 17 [vR l0] [] M K Q := by
  exact r_ret c96_17 h
