/-! the trees of the code -/
theorem t204_0 {d : Nat} {l0 : Nat} {l1 : Nat} {M : Mem} {K : KK} {Q : RR → Mem → KK → Prop} (h : Wp d 204 4 [vR l0, vR l1, vI (0 : Int), vI (0 : Int)] [] M K Q) : Wp d 204 0 [vR l0, vR l1, vU, vU] [] M K Q := by
  refine r_iconst c204_0 ?_
  refine r_istore_n c204_1 (Nat.le_of_ble_eq_true rfl) ?_
  refine r_iconst c204_2 ?_
  refine r_istore_n c204_3 (Nat.le_of_ble_eq_true rfl) ?_
  exact h
theorem t204_4 {d : Nat} {l0 : Nat} {l1 : Nat} {l2 : Int} {l3 : Int} {M : Mem} {K : KK} {Q : RR → Mem → KK → Prop} (h : isO K.1 l0 12 = true ∧ ∃ b2 : Nat, (M l0 12) = (b2 : Int) ∧ 0 < b2 ∧ isO K.1 b2 20 = true ∧ (0 ≤ (1 : Int) ∧ (1 : Int) < (ln b2 : Int)) ∧ ((M b2 (Int.toNat (1 : Int))) ≤ l3 → Q (.inl (some (vI l2))) M K) ∧ (¬ ((M b2 (Int.toNat (1 : Int))) ≤ l3) → isO K.1 l1 20 = true ∧ (0 ≤ (w32 ((6 : Int) + l3)) ∧ (w32 ((6 : Int) + l3)) < (ln l1 : Int)) ∧ Wp d 204 4 [vR l0, vR l1, vI (w32 (l2 + (M l1 (Int.toNat (w32 ((6 : Int) + l3)))))), vI (w32 (l3 + 1))] [] M K Q)) : Wp d 204 4 [vR l0, vR l1, vI l2, vI l3] [] M K Q := by
  refine r_iload_n c204_4 rfl ?_
  refine r_aload_n c204_5 rfl ?_
  obtain ⟨s1, h⟩ := h
  obtain ⟨b2, h⟩ := h
  obtain ⟨s3, h⟩ := h
  obtain ⟨s4, h⟩ := h
  refine r_getR c204_6 s1 s3 s4 ?_
  refine r_iconst c204_9 ?_
  obtain ⟨s5, h⟩ := h
  obtain ⟨s6, h⟩ := h
  refine r_ia c204_10 s5 s6 ?_
  refine r_icmpP (P := (M b2 (Int.toNat (1 : Int))) ≤ l3) c204_11 rfl (fun hc => ?_) (fun hc => ?_)
  · replace h := h.1 hc
    refine r_iload_n c204_29 rfl ?_
    exact r_iret c204_30 (Or.inl rfl) h
  · replace h := h.2 hc
    refine r_iload_n c204_14 rfl ?_
    refine r_aload_n c204_15 rfl ?_
    refine r_bipush c204_16 ?_
    refine r_iload_n c204_18 rfl ?_
    refine r_iadd c204_19 ?_
    obtain ⟨s7, h⟩ := h
    obtain ⟨s8, h⟩ := h
    refine r_ia c204_20 s7 s8 ?_
    refine r_iadd c204_21 ?_
    refine r_istore_n c204_22 (Nat.le_of_ble_eq_true rfl) ?_
    refine r_iinc c204_23 rfl ?_
    refine r_goto c204_26 ?_
    exact h
theorem t205_0 {d : Nat} {l0 : Nat} {l1 : Nat} {M : Mem} {K : KK} {Q : RR → Mem → KK → Prop} (h : Wp d 205 4 [vR l0, vR l1, vI (0 : Int), vI (0 : Int)] [] M K Q) : Wp d 205 0 [vR l0, vR l1, vU, vU] [] M K Q := by
  refine r_iconst c205_0 ?_
  refine r_istore_n c205_1 (Nat.le_of_ble_eq_true rfl) ?_
  refine r_iconst c205_2 ?_
  refine r_istore_n c205_3 (Nat.le_of_ble_eq_true rfl) ?_
  exact h
theorem t205_4 {d : Nat} {l0 : Nat} {l1 : Nat} {l2 : Int} {l3 : Int} {M : Mem} {K : KK} {Q : RR → Mem → KK → Prop} (h : isO K.1 l0 12 = true ∧ ∃ b2 : Nat, (M l0 12) = (b2 : Int) ∧ 0 < b2 ∧ isO K.1 b2 20 = true ∧ (0 ≤ (1 : Int) ∧ (1 : Int) < (ln b2 : Int)) ∧ ((M b2 (Int.toNat (1 : Int))) ≤ l3 → Q (.inl (some (vI l2))) M K) ∧ (¬ ((M b2 (Int.toNat (1 : Int))) ≤ l3) → isO K.1 l1 20 = true ∧ (0 ≤ (w32 ((6 : Int) + l3)) ∧ (w32 ((6 : Int) + l3)) < (ln l1 : Int)) ∧ (¬ (M l1 (Int.toNat (w32 ((6 : Int) + l3)))) = (0 : Int) → Wp d 205 31 [vR l0, vR l1, vI l2, vI l3] [vI (0 : Int), vI l2] M K Q) ∧ (¬ (¬ (M l1 (Int.toNat (w32 ((6 : Int) + l3)))) = (0 : Int)) → Wp d 205 31 [vR l0, vR l1, vI l2, vI l3] [vI (jshl (1 : Int) l3), vI l2] M K Q))) : Wp d 205 4 [vR l0, vR l1, vI l2, vI l3] [] M K Q := by
  refine r_iload_n c205_4 rfl ?_
  refine r_aload_n c205_5 rfl ?_
  obtain ⟨s1, h⟩ := h
  obtain ⟨b2, h⟩ := h
  obtain ⟨s3, h⟩ := h
  obtain ⟨s4, h⟩ := h
  refine r_getR c205_6 s1 s3 s4 ?_
  refine r_iconst c205_9 ?_
  obtain ⟨s5, h⟩ := h
  obtain ⟨s6, h⟩ := h
  refine r_ia c205_10 s5 s6 ?_
  refine r_icmpP (P := (M b2 (Int.toNat (1 : Int))) ≤ l3) c205_11 rfl (fun hc => ?_) (fun hc => ?_)
  · replace h := h.1 hc
    refine r_iload_n c205_39 rfl ?_
    exact r_iret c205_40 (Or.inl rfl) h
  · replace h := h.2 hc
    refine r_iload_n c205_14 rfl ?_
    refine r_aload_n c205_15 rfl ?_
    refine r_bipush c205_16 ?_
    refine r_iload_n c205_18 rfl ?_
    refine r_iadd c205_19 ?_
    obtain ⟨s7, h⟩ := h
    obtain ⟨s8, h⟩ := h
    refine r_ia c205_20 s7 s8 ?_
    refine r_ifP (P := ¬ (M l1 (Int.toNat (w32 ((6 : Int) + l3)))) = (0 : Int)) c205_21 rfl (fun hc => ?_) (fun hc => ?_)
    · replace h := h.1 hc
      refine r_iconst c205_30 ?_
      exact h
    · replace h := h.2 hc
      refine r_iconst c205_24 ?_
      refine r_iload_n c205_25 rfl ?_
      refine r_ishl c205_26 ?_
      refine r_goto c205_27 ?_
      exact h
theorem t205_31 {d : Nat} {l0 : Nat} {l1 : Nat} {l2 : Int} {l3 : Int} {t0 : Int} {t1 : Int} {M : Mem} {K : KK} {Q : RR → Mem → KK → Prop} (h : Wp d 205 4 [vR l0, vR l1, vI (jor t0 t1), vI (w32 (l3 + 1))] [] M K Q) : Wp d 205 31 [vR l0, vR l1, vI l2, vI l3] [vI t1, vI t0] M K Q := by
  refine r_ior c205_31 ?_
  refine r_istore_n c205_32 (Nat.le_of_ble_eq_true rfl) ?_
  refine r_iinc c205_33 rfl ?_
  refine r_goto c205_36 ?_
  exact h
theorem t206_0 {d : Nat} {l0 : Nat} {l1 : Int} {M : Mem} {K : KK} {Q : RR → Mem → KK → Prop} (h : isO K.1 l0 12 = true ∧ Wm d 153 [vI l1, vI (0 : Int), vI (11 : Int)] (mset M l0 0 (0 : Int)) K (Bk d 206 10 13 153 [vR l0, vI l1, vU, vU] [vR l0] Q)) : Wp (d + 1) 206 0 [vR l0, vI l1, vU, vU] [] M K Q := by
  refine r_aload_n c206_0 rfl ?_
  refine r_iconst c206_1 ?_
  obtain ⟨s1, h⟩ := h
  refine r_putI c206_2 s1 ?_
  refine r_aload_n c206_5 rfl ?_
  refine r_iload_n c206_6 rfl ?_
  refine r_iconst c206_7 ?_
  refine r_bipush c206_8 ?_
  exact r_call c206_10 rfl rfl (Nat.le_of_ble_eq_true rfl) (okc_s rfl rfl rfl) h
theorem t206_13 {d : Nat} {l0 : Nat} {l1 : Int} {t0 : Nat} {t1 : Int} {M : Mem} {K : KK} {Q : RR → Mem → KK → Prop} (h : (¬ t1 = (0 : Int) → Wp d 206 21 [vR l0, vI l1, vU, vU] [vI (0 : Int), vR t0] M K Q) ∧ (¬ (¬ t1 = (0 : Int)) → Wp d 206 21 [vR l0, vI l1, vU, vU] [vI (1 : Int), vR t0] M K Q)) : Wp d 206 13 [vR l0, vI l1, vU, vU] [vI t1, vR t0] M K Q := by
  refine r_ifP (P := ¬ t1 = (0 : Int)) c206_13 rfl (fun hc => ?_) (fun hc => ?_)
  · replace h := h.1 hc
    refine r_iconst c206_20 ?_
    exact h
  · replace h := h.2 hc
    refine r_iconst c206_16 ?_
    refine r_goto c206_17 ?_
    exact h
theorem t206_21 {d : Nat} {l0 : Nat} {l1 : Int} {t0 : Nat} {t1 : Int} {M : Mem} {K : KK} {Q : RR → Mem → KK → Prop} (h : isO K.1 t0 12 = true ∧ Wm d 152 [vR t0, vI t1, vI (1 : Int), vI (1 : Int)] M K (Bk d 206 23 26 152 [vR l0, vI l1, vU, vU] [] Q)) : Wp (d + 1) 206 21 [vR l0, vI l1, vU, vU] [vI t1, vR t0] M K Q := by
  refine r_iconst c206_21 ?_
  refine r_iconst c206_22 ?_
  obtain ⟨s1, h⟩ := h
  exact r_call c206_23 rfl rfl (Nat.le_of_ble_eq_true rfl) (okc_r rfl rfl s1) h
theorem t206_26 {d : Nat} {l0 : Nat} {l1 : Int} {t0 : Int} {M : Mem} {K : KK} {Q : RR → Mem → KK → Prop} (h : (t0 = (0 : Int) → Wp d 206 35 [vR l0, vI l1, vI (0 : Int), vI (0 : Int)] [] M K Q) ∧ (¬ (t0 = (0 : Int)) → Q (.inl (some (vI (0 : Int)))) M K)) : Wp d 206 26 [vR l0, vI l1, vU, vU] [vI t0] M K Q := by
  refine r_ifP (P := t0 = (0 : Int)) c206_26 rfl (fun hc => ?_) (fun hc => ?_)
  · replace h := h.1 hc
    refine r_iconst c206_31 ?_
    refine r_istore_n c206_32 (Nat.le_of_ble_eq_true rfl) ?_
    refine r_iconst c206_33 ?_
    refine r_istore_n c206_34 (Nat.le_of_ble_eq_true rfl) ?_
    exact h
  · replace h := h.2 hc
    refine r_iconst c206_29 ?_
    exact r_iret c206_30 (Or.inl rfl) h
theorem t206_35 {d : Nat} {l0 : Nat} {l1 : Int} {l2 : Int} {l3 : Int} {M : Mem} {K : KK} {Q : RR → Mem → KK → Prop} (h : isO K.1 l0 12 = true ∧ ∃ b2 : Nat, (M l0 12) = (b2 : Int) ∧ 0 < b2 ∧ isO K.1 b2 20 = true ∧ (0 ≤ (1 : Int) ∧ (1 : Int) < (ln b2 : Int)) ∧ ((M b2 (Int.toNat (1 : Int))) ≤ l3 → Wp d 206 (tsw 72 113 0 10 #[60, 60, 60, 60, 67, 75, 84, 92, 94, 103, 108] l1) [vR l0, vI l1, vI l2, vI l3] [] M K Q) ∧ (¬ ((M b2 (Int.toNat (1 : Int))) ≤ l3) → isO K.1 l0 12 = true ∧ ∃ b8 : Nat, (M l0 31) = (b8 : Int) ∧ 0 < b8 ∧ isO K.1 b8 20 = true ∧ (0 ≤ (w32 ((0 : Int) + l3)) ∧ (w32 ((0 : Int) + l3)) < (ln b8 : Int)) ∧ (¬ (M b8 (Int.toNat (w32 ((0 : Int) + l3)))) = (-1 : Int) → Wp d 206 63 [vR l0, vI l1, vI l2, vI l3] [vI (1 : Int), vI l2] M K Q) ∧ (¬ (¬ (M b8 (Int.toNat (w32 ((0 : Int) + l3)))) = (-1 : Int)) → Wp d 206 63 [vR l0, vI l1, vI l2, vI l3] [vI (0 : Int), vI l2] M K Q))) : Wp d 206 35 [vR l0, vI l1, vI l2, vI l3] [] M K Q := by
  refine r_iload_n c206_35 rfl ?_
  refine r_aload_n c206_36 rfl ?_
  obtain ⟨s1, h⟩ := h
  obtain ⟨b2, h⟩ := h
  obtain ⟨s3, h⟩ := h
  obtain ⟨s4, h⟩ := h
  refine r_getR c206_37 s1 s3 s4 ?_
  refine r_iconst c206_40 ?_
  obtain ⟨s5, h⟩ := h
  obtain ⟨s6, h⟩ := h
  refine r_ia c206_41 s5 s6 ?_
  refine r_icmpP (P := (M b2 (Int.toNat (1 : Int))) ≤ l3) c206_42 rfl (fun hc => ?_) (fun hc => ?_)
  · replace h := h.1 hc
    refine r_iload_n c206_71 rfl ?_
    refine r_tsw c206_72 ?_
    exact h
  · replace h := h.2 hc
    refine r_iload_n c206_45 rfl ?_
    refine r_aload_n c206_46 rfl ?_
    obtain ⟨s7, h⟩ := h
    obtain ⟨b8, h⟩ := h
    obtain ⟨s9, h⟩ := h
    obtain ⟨s10, h⟩ := h
    refine r_getR c206_47 s7 s9 s10 ?_
    refine r_iconst c206_50 ?_
    refine r_iload_n c206_51 rfl ?_
    refine r_iadd c206_52 ?_
    obtain ⟨s11, h⟩ := h
    obtain ⟨s12, h⟩ := h
    refine r_ia c206_53 s11 s12 ?_
    refine r_iconst c206_54 ?_
    refine r_icmpP (P := ¬ (M b8 (Int.toNat (w32 ((0 : Int) + l3)))) = (-1 : Int)) c206_55 rfl (fun hc => ?_) (fun hc => ?_)
    · replace h := h.1 hc
      refine r_iconst c206_62 ?_
      exact h
    · replace h := h.2 hc
      refine r_iconst c206_58 ?_
      refine r_goto c206_59 ?_
      exact h
theorem t206_63 {d : Nat} {l0 : Nat} {l1 : Int} {l2 : Int} {l3 : Int} {t0 : Int} {t1 : Int} {M : Mem} {K : KK} {Q : RR → Mem → KK → Prop} (h : Wp d 206 35 [vR l0, vI l1, vI (w32 (t0 + t1)), vI (w32 (l3 + 1))] [] M K Q) : Wp d 206 63 [vR l0, vI l1, vI l2, vI l3] [vI t1, vI t0] M K Q := by
  refine r_iadd c206_63 ?_
  refine r_istore_n c206_64 (Nat.le_of_ble_eq_true rfl) ?_
  refine r_iinc c206_65 rfl ?_
  refine r_goto c206_68 ?_
  exact h
theorem t206_132 {d : Nat} {l0 : Nat} {l1 : Int} {l2 : Int} {l3 : Int} {M : Mem} {K : KK} {Q : RR → Mem → KK → Prop} (h : isO K.1 l0 12 = true ∧ ∃ b2 : Nat, (M l0 12) = (b2 : Int) ∧ 0 < b2 ∧ isO K.1 b2 20 = true ∧ (0 ≤ l1 ∧ l1 < (ln b2 : Int)) ∧ Q (.inl (some (vI (M b2 (Int.toNat l1))))) M K) : Wp d 206 132 [vR l0, vI l1, vI l2, vI l3] [] M K Q := by
  refine r_aload_n c206_132 rfl ?_
  obtain ⟨s1, h⟩ := h
  obtain ⟨b2, h⟩ := h
  obtain ⟨s3, h⟩ := h
  obtain ⟨s4, h⟩ := h
  refine r_getR c206_133 s1 s3 s4 ?_
  refine r_iload_n c206_136 rfl ?_
  obtain ⟨s5, h⟩ := h
  obtain ⟨s6, h⟩ := h
  refine r_ia c206_137 s5 s6 ?_
  exact r_iret c206_138 (Or.inl rfl) h
theorem t206_139 {d : Nat} {l0 : Nat} {l1 : Int} {l2 : Int} {l3 : Int} {M : Mem} {K : KK} {Q : RR → Mem → KK → Prop} (h : isO K.1 l0 12 = true ∧ ∃ b2 : Nat, (M l0 31) = (b2 : Int) ∧ 0 < b2 ∧ isO K.1 b2 20 = true ∧ (0 ≤ (24 : Int) ∧ (24 : Int) < (ln b2 : Int)) ∧ Q (.inl (some (vI (M b2 (Int.toNat (24 : Int)))))) M K) : Wp d 206 139 [vR l0, vI l1, vI l2, vI l3] [] M K Q := by
  refine r_aload_n c206_139 rfl ?_
  obtain ⟨s1, h⟩ := h
  obtain ⟨b2, h⟩ := h
  obtain ⟨s3, h⟩ := h
  obtain ⟨s4, h⟩ := h
  refine r_getR c206_140 s1 s3 s4 ?_
  refine r_bipush c206_143 ?_
  obtain ⟨s5, h⟩ := h
  obtain ⟨s6, h⟩ := h
  refine r_ia c206_145 s5 s6 ?_
  exact r_iret c206_146 (Or.inl rfl) h
theorem t206_147 {d : Nat} {l0 : Nat} {l1 : Int} {l2 : Int} {l3 : Int} {M : Mem} {K : KK} {Q : RR → Mem → KK → Prop} (h : isO K.1 l0 12 = true ∧ ∃ b2 : Nat, (M l0 31) = (b2 : Int) ∧ 0 < b2 ∧ isO K.1 l0 12 = true ∧ Wm d 193 [vR l0, vR b2] M K (Bk d 206 152 155 193 [vR l0, vI l1, vI l2, vI l3] [] Q)) : Wp (d + 1) 206 147 [vR l0, vI l1, vI l2, vI l3] [] M K Q := by
  refine r_aload_n c206_147 rfl ?_
  refine r_aload_n c206_148 rfl ?_
  obtain ⟨s1, h⟩ := h
  obtain ⟨b2, h⟩ := h
  obtain ⟨s3, h⟩ := h
  obtain ⟨s4, h⟩ := h
  refine r_getR c206_149 s1 s3 s4 ?_
  obtain ⟨s5, h⟩ := h
  exact r_call c206_152 rfl rfl (Nat.le_of_ble_eq_true rfl) (okc_r rfl rfl s5) h
theorem t206_155 {d : Nat} {l0 : Nat} {l1 : Int} {l2 : Int} {l3 : Int} {t0 : Int} {M : Mem} {K : KK} {Q : RR → Mem → KK → Prop} (h : Q (.inl (some (vI t0))) M K) : Wp d 206 155 [vR l0, vI l1, vI l2, vI l3] [vI t0] M K Q := by
  exact r_iret c206_155 (Or.inl rfl) h
theorem t206_156 {d : Nat} {l0 : Nat} {l1 : Int} {l2 : Int} {l3 : Int} {M : Mem} {K : KK} {Q : RR → Mem → KK → Prop} (h : isO K.1 l0 12 = true ∧ ∃ b2 : Nat, (M l0 31) = (b2 : Int) ∧ 0 < b2 ∧ isO K.1 b2 20 = true ∧ (0 ≤ (25 : Int) ∧ (25 : Int) < (ln b2 : Int)) ∧ Q (.inl (some (vI (M b2 (Int.toNat (25 : Int)))))) M K) : Wp d 206 156 [vR l0, vI l1, vI l2, vI l3] [] M K Q := by
  refine r_aload_n c206_156 rfl ?_
  obtain ⟨s1, h⟩ := h
  obtain ⟨b2, h⟩ := h
  obtain ⟨s3, h⟩ := h
  obtain ⟨s4, h⟩ := h
  refine r_getR c206_157 s1 s3 s4 ?_
  refine r_bipush c206_160 ?_
  obtain ⟨s5, h⟩ := h
  obtain ⟨s6, h⟩ := h
  refine r_ia c206_162 s5 s6 ?_
  exact r_iret c206_163 (Or.inl rfl) h
theorem t206_164 {d : Nat} {l0 : Nat} {l1 : Int} {l2 : Int} {l3 : Int} {M : Mem} {K : KK} {Q : RR → Mem → KK → Prop} (h : Q (.inl (some (vI l2))) M K) : Wp d 206 164 [vR l0, vI l1, vI l2, vI l3] [] M K Q := by
  refine r_iload_n c206_164 rfl ?_
  exact r_iret c206_165 (Or.inl rfl) h
theorem t206_166 {d : Nat} {l0 : Nat} {l1 : Int} {l2 : Int} {l3 : Int} {M : Mem} {K : KK} {Q : RR → Mem → KK → Prop} (h : isO K.1 l0 12 = true ∧ ∃ b2 : Nat, (M l0 31) = (b2 : Int) ∧ 0 < b2 ∧ isO K.1 l0 12 = true ∧ Wm d 205 [vR l0, vR b2] M K (Bk d 206 171 174 205 [vR l0, vI l1, vI l2, vI l3] [] Q)) : Wp (d + 1) 206 166 [vR l0, vI l1, vI l2, vI l3] [] M K Q := by
  refine r_aload_n c206_166 rfl ?_
  refine r_aload_n c206_167 rfl ?_
  obtain ⟨s1, h⟩ := h
  obtain ⟨b2, h⟩ := h
  obtain ⟨s3, h⟩ := h
  obtain ⟨s4, h⟩ := h
  refine r_getR c206_168 s1 s3 s4 ?_
  obtain ⟨s5, h⟩ := h
  exact r_call c206_171 rfl rfl (Nat.le_of_ble_eq_true rfl) (okc_r rfl rfl s5) h
theorem t206_174 {d : Nat} {l0 : Nat} {l1 : Int} {l2 : Int} {l3 : Int} {t0 : Int} {M : Mem} {K : KK} {Q : RR → Mem → KK → Prop} (h : Q (.inl (some (vI t0))) M K) : Wp d 206 174 [vR l0, vI l1, vI l2, vI l3] [vI t0] M K Q := by
  exact r_iret c206_174 (Or.inl rfl) h
theorem t206_175 {d : Nat} {l0 : Nat} {l1 : Int} {l2 : Int} {l3 : Int} {M : Mem} {K : KK} {Q : RR → Mem → KK → Prop} (h : isO K.1 l0 12 = true ∧ Q (.inl (some (vI (M l0 35)))) M K) : Wp d 206 175 [vR l0, vI l1, vI l2, vI l3] [] M K Q := by
  refine r_aload_n c206_175 rfl ?_
  obtain ⟨s1, h⟩ := h
  refine r_getI c206_176 s1 ?_
  exact r_iret c206_179 (Or.inl rfl) h
theorem t206_180 {d : Nat} {l0 : Nat} {l1 : Int} {l2 : Int} {l3 : Int} {M : Mem} {K : KK} {Q : RR → Mem → KK → Prop} (h : isO K.1 l0 12 = true ∧ Q (.inl (some (vI (M l0 37)))) M K) : Wp d 206 180 [vR l0, vI l1, vI l2, vI l3] [] M K Q := by
  refine r_aload_n c206_180 rfl ?_
  obtain ⟨s1, h⟩ := h
  refine r_getI c206_181 s1 ?_
  exact r_iret c206_184 (Or.inl rfl) h
theorem t206_185 {d : Nat} {l0 : Nat} {l1 : Int} {l2 : Int} {l3 : Int} {M : Mem} {K : KK} {Q : RR → Mem → KK → Prop} (h : isO K.1 l0 12 = true ∧ ∃ b2 : Nat, (M l0 31) = (b2 : Int) ∧ 0 < b2 ∧ isO K.1 l0 12 = true ∧ Wm d 204 [vR l0, vR b2] M K (Bk d 206 190 193 204 [vR l0, vI l1, vI l2, vI l3] [] Q)) : Wp (d + 1) 206 185 [vR l0, vI l1, vI l2, vI l3] [] M K Q := by
  refine r_aload_n c206_185 rfl ?_
  refine r_aload_n c206_186 rfl ?_
  obtain ⟨s1, h⟩ := h
  obtain ⟨b2, h⟩ := h
  obtain ⟨s3, h⟩ := h
  obtain ⟨s4, h⟩ := h
  refine r_getR c206_187 s1 s3 s4 ?_
  obtain ⟨s5, h⟩ := h
  exact r_call c206_190 rfl rfl (Nat.le_of_ble_eq_true rfl) (okc_r rfl rfl s5) h
theorem t206_193 {d : Nat} {l0 : Nat} {l1 : Int} {l2 : Int} {l3 : Int} {t0 : Int} {M : Mem} {K : KK} {Q : RR → Mem → KK → Prop} (h : Q (.inl (some (vI t0))) M K) : Wp d 206 193 [vR l0, vI l1, vI l2, vI l3] [vI t0] M K Q := by
  exact r_iret c206_193 (Or.inl rfl) h
theorem t207_0 {d : Nat} {l0 : Nat} {l1 : Int} {M : Mem} {K : KK} {Q : RR → Mem → KK → Prop} (h : isO K.1 l0 12 = true ∧ ∃ b2 : Nat, (M l0 12) = (b2 : Int) ∧ 0 < b2 ∧ isO K.1 b2 20 = true ∧ (0 ≤ (0 : Int) ∧ (0 : Int) < (ln b2 : Int)) ∧ Wm d 153 [vI l1, vI (0 : Int), vI (w32 ((M b2 (Int.toNat (0 : Int))) - (1 : Int)))] M K (Bk d 207 10 13 153 [vR l0, vI l1] [] Q)) : Wp (d + 1) 207 0 [vR l0, vI l1] [] M K Q := by
  refine r_iload_n c207_0 rfl ?_
  refine r_iconst c207_1 ?_
  refine r_aload_n c207_2 rfl ?_
  obtain ⟨s1, h⟩ := h
  obtain ⟨b2, h⟩ := h
  obtain ⟨s3, h⟩ := h
  obtain ⟨s4, h⟩ := h
  refine r_getR c207_3 s1 s3 s4 ?_
  refine r_iconst c207_6 ?_
  obtain ⟨s5, h⟩ := h
  obtain ⟨s6, h⟩ := h
  refine r_ia c207_7 s5 s6 ?_
  refine r_iconst c207_8 ?_
  refine r_isub c207_9 ?_
  exact r_call c207_10 rfl rfl (Nat.le_of_ble_eq_true rfl) (okc_s rfl rfl rfl) h
theorem t207_13 {d : Nat} {l0 : Nat} {l1 : Int} {t0 : Int} {M : Mem} {K : KK} {Q : RR → Mem → KK → Prop} (h : (t0 = 0 ∨ t0 = 1) ∧ Q (.inl (some (vI t0))) M K) : Wp d 207 13 [vR l0, vI l1] [vI t0] M K Q := by
  obtain ⟨s1, h⟩ := h
  exact r_iret c207_13 (Or.inr s1) h
theorem t208_0 {d : Nat} {l0 : Nat} {l1 : Int} {M : Mem} {K : KK} {Q : RR → Mem → KK → Prop} (h : isO K.1 l0 12 = true ∧ ∃ b2 : Nat, (M l0 12) = (b2 : Int) ∧ 0 < b2 ∧ isO K.1 b2 20 = true ∧ (0 ≤ (1 : Int) ∧ (1 : Int) < (ln b2 : Int)) ∧ Wm d 153 [vI l1, vI (0 : Int), vI (w32 ((M b2 (Int.toNat (1 : Int))) - (1 : Int)))] M K (Bk d 208 10 13 153 [vR l0, vI l1] [] Q)) : Wp (d + 1) 208 0 [vR l0, vI l1] [] M K Q := by
  refine r_iload_n c208_0 rfl ?_
  refine r_iconst c208_1 ?_
  refine r_aload_n c208_2 rfl ?_
  obtain ⟨s1, h⟩ := h
  obtain ⟨b2, h⟩ := h
  obtain ⟨s3, h⟩ := h
  obtain ⟨s4, h⟩ := h
  refine r_getR c208_3 s1 s3 s4 ?_
  refine r_iconst c208_6 ?_
  obtain ⟨s5, h⟩ := h
  obtain ⟨s6, h⟩ := h
  refine r_ia c208_7 s5 s6 ?_
  refine r_iconst c208_8 ?_
  refine r_isub c208_9 ?_
  exact r_call c208_10 rfl rfl (Nat.le_of_ble_eq_true rfl) (okc_s rfl rfl rfl) h
theorem t208_13 {d : Nat} {l0 : Nat} {l1 : Int} {t0 : Int} {M : Mem} {K : KK} {Q : RR → Mem → KK → Prop} (h : (t0 = 0 ∨ t0 = 1) ∧ Q (.inl (some (vI t0))) M K) : Wp d 208 13 [vR l0, vI l1] [vI t0] M K Q := by
  obtain ⟨s1, h⟩ := h
  exact r_iret c208_13 (Or.inr s1) h
theorem t209_0 {d : Nat} {l0 : Nat} {l1 : Int} {M : Mem} {K : KK} {Q : RR → Mem → KK → Prop} (h : isO K.1 l0 12 = true ∧ ∃ b2 : Nat, (M l0 12) = (b2 : Int) ∧ 0 < b2 ∧ isO K.1 b2 20 = true ∧ (0 ≤ (1 : Int) ∧ (1 : Int) < (ln b2 : Int)) ∧ Wm d 153 [vI l1, vI (0 : Int), vI (w32 ((jshl (1 : Int) (M b2 (Int.toNat (1 : Int)))) - (1 : Int)))] M K (Bk d 209 12 15 153 [vR l0, vI l1] [] Q)) : Wp (d + 1) 209 0 [vR l0, vI l1] [] M K Q := by
  refine r_iload_n c209_0 rfl ?_
  refine r_iconst c209_1 ?_
  refine r_iconst c209_2 ?_
  refine r_aload_n c209_3 rfl ?_
  obtain ⟨s1, h⟩ := h
  obtain ⟨b2, h⟩ := h
  obtain ⟨s3, h⟩ := h
  obtain ⟨s4, h⟩ := h
  refine r_getR c209_4 s1 s3 s4 ?_
  refine r_iconst c209_7 ?_
  obtain ⟨s5, h⟩ := h
  obtain ⟨s6, h⟩ := h
  refine r_ia c209_8 s5 s6 ?_
  refine r_ishl c209_9 ?_
  refine r_iconst c209_10 ?_
  refine r_isub c209_11 ?_
  exact r_call c209_12 rfl rfl (Nat.le_of_ble_eq_true rfl) (okc_s rfl rfl rfl) h
theorem t209_15 {d : Nat} {l0 : Nat} {l1 : Int} {t0 : Int} {M : Mem} {K : KK} {Q : RR → Mem → KK → Prop} (h : (t0 = 0 ∨ t0 = 1) ∧ Q (.inl (some (vI t0))) M K) : Wp d 209 15 [vR l0, vI l1] [vI t0] M K Q := by
  obtain ⟨s1, h⟩ := h
  exact r_iret c209_15 (Or.inr s1) h
theorem t210_0 {d : Nat} {l0 : Nat} {l1 : Int} {l2 : Int} {M : Mem} {K : KK} {Q : RR → Mem → KK → Prop} (h : isO K.1 l0 12 = true ∧ isO K.1 l0 12 = true ∧ Wm d 207 [vR l0, vI l1] (mset M l0 0 (0 : Int)) K (Bk d 210 8 11 207 [vR l0, vI l1, vI l2] [vR l0] Q)) : Wp (d + 1) 210 0 [vR l0, vI l1, vI l2] [] M K Q := by
  refine r_aload_n c210_0 rfl ?_
  refine r_iconst c210_1 ?_
  obtain ⟨s1, h⟩ := h
  refine r_putI c210_2 s1 ?_
  refine r_aload_n c210_5 rfl ?_
  refine r_aload_n c210_6 rfl ?_
  refine r_iload_n c210_7 rfl ?_
  obtain ⟨s2, h⟩ := h
  exact r_call c210_8 rfl rfl (Nat.le_of_ble_eq_true rfl) (okc_r rfl rfl s2) h
theorem t210_11 {d : Nat} {l0 : Nat} {l1 : Int} {l2 : Int} {t0 : Nat} {t1 : Int} {M : Mem} {K : KK} {Q : RR → Mem → KK → Prop} (h : (¬ t1 = (0 : Int) → Wp d 210 19 [vR l0, vI l1, vI l2] [vI (0 : Int), vR t0] M K Q) ∧ (¬ (¬ t1 = (0 : Int)) → Wp d 210 19 [vR l0, vI l1, vI l2] [vI (1 : Int), vR t0] M K Q)) : Wp d 210 11 [vR l0, vI l1, vI l2] [vI t1, vR t0] M K Q := by
  refine r_ifP (P := ¬ t1 = (0 : Int)) c210_11 rfl (fun hc => ?_) (fun hc => ?_)
  · replace h := h.1 hc
    refine r_iconst c210_18 ?_
    exact h
  · replace h := h.2 hc
    refine r_iconst c210_14 ?_
    refine r_goto c210_15 ?_
    exact h
theorem t210_19 {d : Nat} {l0 : Nat} {l1 : Int} {l2 : Int} {t0 : Nat} {t1 : Int} {M : Mem} {K : KK} {Q : RR → Mem → KK → Prop} (h : isO K.1 t0 12 = true ∧ Wm d 152 [vR t0, vI t1, vI (1 : Int), vI (0 : Int)] M K (Bk d 210 21 24 152 [vR l0, vI l1, vI l2] [] Q)) : Wp (d + 1) 210 19 [vR l0, vI l1, vI l2] [vI t1, vR t0] M K Q := by
  refine r_iconst c210_19 ?_
  refine r_iconst c210_20 ?_
  obtain ⟨s1, h⟩ := h
  exact r_call c210_21 rfl rfl (Nat.le_of_ble_eq_true rfl) (okc_r rfl rfl s1) h
theorem t210_24 {d : Nat} {l0 : Nat} {l1 : Int} {l2 : Int} {t0 : Int} {M : Mem} {K : KK} {Q : RR → Mem → KK → Prop} (h : (¬ t0 = (0 : Int) → Wp (d + 1) 210 50 [vR l0, vI l1, vI l2] [] M K Q) ∧ (¬ (¬ t0 = (0 : Int)) → Wm d 153 [vI l2, vI (0 : Int), vI (1 : Int)] M K (Bk d 210 31 34 153 [vR l0, vI l1, vI l2] [vR l0] Q))) : Wp (d + 1) 210 24 [vR l0, vI l1, vI l2] [vI t0] M K Q := by
  refine r_ifP (P := ¬ t0 = (0 : Int)) c210_24 rfl (fun hc => ?_) (fun hc => ?_)
  · replace h := h.1 hc
    exact h
  · replace h := h.2 hc
    refine r_aload_n c210_27 rfl ?_
    refine r_iload_n c210_28 rfl ?_
    refine r_iconst c210_29 ?_
    refine r_iconst c210_30 ?_
    exact r_call c210_31 rfl rfl (Nat.le_of_ble_eq_true rfl) (okc_s rfl rfl rfl) h
theorem t210_34 {d : Nat} {l0 : Nat} {l1 : Int} {l2 : Int} {t0 : Nat} {t1 : Int} {M : Mem} {K : KK} {Q : RR → Mem → KK → Prop} (h : (¬ t1 = (0 : Int) → Wp d 210 42 [vR l0, vI l1, vI l2] [vI (0 : Int), vR t0] M K Q) ∧ (¬ (¬ t1 = (0 : Int)) → Wp d 210 42 [vR l0, vI l1, vI l2] [vI (1 : Int), vR t0] M K Q)) : Wp d 210 34 [vR l0, vI l1, vI l2] [vI t1, vR t0] M K Q := by
  refine r_ifP (P := ¬ t1 = (0 : Int)) c210_34 rfl (fun hc => ?_) (fun hc => ?_)
  · replace h := h.1 hc
    refine r_iconst c210_41 ?_
    exact h
  · replace h := h.2 hc
    refine r_iconst c210_37 ?_
    refine r_goto c210_38 ?_
    exact h
theorem t210_42 {d : Nat} {l0 : Nat} {l1 : Int} {l2 : Int} {t0 : Nat} {t1 : Int} {M : Mem} {K : KK} {Q : RR → Mem → KK → Prop} (h : isO K.1 t0 12 = true ∧ Wm d 152 [vR t0, vI t1, vI (2 : Int), vI (1 : Int)] M K (Bk d 210 44 47 152 [vR l0, vI l1, vI l2] [] Q)) : Wp (d + 1) 210 42 [vR l0, vI l1, vI l2] [vI t1, vR t0] M K Q := by
  refine r_iconst c210_42 ?_
  refine r_iconst c210_43 ?_
  obtain ⟨s1, h⟩ := h
  exact r_call c210_44 rfl rfl (Nat.le_of_ble_eq_true rfl) (okc_r rfl rfl s1) h
theorem t210_47 {d : Nat} {l0 : Nat} {l1 : Int} {l2 : Int} {t0 : Int} {M : Mem} {K : KK} {Q : RR → Mem → KK → Prop} (h : (t0 = (0 : Int) → (¬ l2 = (0 : Int) → isO K.1 l0 12 = true ∧ ∃ b2 : Nat, (M l0 31) = (b2 : Int) ∧ 0 < b2 ∧ isO K.1 l0 12 = true ∧ Wm d 196 [vR l0, vR b2, vI l1] M K (Bk d 210 71 74 196 [vR l0, vI l1, vI l2] [] Q)) ∧ (¬ (¬ l2 = (0 : Int)) → isO K.1 l0 12 = true ∧ ∃ b7 : Nat, (M l0 14) = (b7 : Int) ∧ 0 < b7 ∧ isO K.1 b7 20 = true ∧ (0 ≤ l1 ∧ l1 < (ln b7 : Int)) ∧ Wp (d + 1) 210 74 [vR l0, vI l1, vI l2] [vI (M b7 (Int.toNat l1))] M K Q)) ∧ (¬ (t0 = (0 : Int)) → Wp (d + 1) 210 50 [vR l0, vI l1, vI l2] [] M K Q)) : Wp (d + 1) 210 47 [vR l0, vI l1, vI l2] [vI t0] M K Q := by
  refine r_ifP (P := t0 = (0 : Int)) c210_47 rfl (fun hc => ?_) (fun hc => ?_)
  · replace h := h.1 hc
    refine r_iload_n c210_52 rfl ?_
    refine r_ifP (P := ¬ l2 = (0 : Int)) c210_53 rfl (fun hc => ?_) (fun hc => ?_)
    · replace h := h.1 hc
      refine r_aload_n c210_65 rfl ?_
      refine r_aload_n c210_66 rfl ?_
      obtain ⟨s1, h⟩ := h
      obtain ⟨b2, h⟩ := h
      obtain ⟨s3, h⟩ := h
      obtain ⟨s4, h⟩ := h
      refine r_getR c210_67 s1 s3 s4 ?_
      refine r_iload_n c210_70 rfl ?_
      obtain ⟨s5, h⟩ := h
      exact r_call c210_71 rfl rfl (Nat.le_of_ble_eq_true rfl) (okc_r rfl rfl s5) h
    · replace h := h.2 hc
      refine r_aload_n c210_56 rfl ?_
      obtain ⟨s6, h⟩ := h
      obtain ⟨b7, h⟩ := h
      obtain ⟨s8, h⟩ := h
      obtain ⟨s9, h⟩ := h
      refine r_getR c210_57 s6 s8 s9 ?_
      refine r_iload_n c210_60 rfl ?_
      obtain ⟨s10, h⟩ := h
      obtain ⟨s11, h⟩ := h
      refine r_ia c210_61 s10 s11 ?_
      refine r_goto c210_62 ?_
      exact h
  · replace h := h.2 hc
    exact h
theorem t210_50 {d : Nat} {l0 : Nat} {l1 : Int} {l2 : Int} {M : Mem} {K : KK} {Q : RR → Mem → KK → Prop} (h : Q (.inl (some (vI (0 : Int)))) M K) : Wp d 210 50 [vR l0, vI l1, vI l2] [] M K Q := by
  refine r_iconst c210_50 ?_
  exact r_iret c210_51 (Or.inl rfl) h
theorem t210_74 {d : Nat} {l0 : Nat} {l1 : Int} {l2 : Int} {t0 : Int} {M : Mem} {K : KK} {Q : RR → Mem → KK → Prop} (h : Q (.inl (some (vI t0))) M K) : Wp d 210 74 [vR l0, vI l1, vI l2] [vI t0] M K Q := by
  exact r_iret c210_74 (Or.inl rfl) h
theorem t211_0 {d : Nat} {l0 : Nat} {l1 : Int} {l2 : Int} {M : Mem} {K : KK} {Q : RR → Mem → KK → Prop} (h : isO K.1 l0 12 = true ∧ isO K.1 l0 12 = true ∧ Wm d 208 [vR l0, vI l1] (mset M l0 0 (0 : Int)) K (Bk d 211 8 11 208 [vR l0, vI l1, vI l2] [vR l0] Q)) : Wp (d + 1) 211 0 [vR l0, vI l1, vI l2] [] M K Q := by
  refine r_aload_n c211_0 rfl ?_
  refine r_iconst c211_1 ?_
  obtain ⟨s1, h⟩ := h
  refine r_putI c211_2 s1 ?_
  refine r_aload_n c211_5 rfl ?_
  refine r_aload_n c211_6 rfl ?_
  refine r_iload_n c211_7 rfl ?_
  obtain ⟨s2, h⟩ := h
  exact r_call c211_8 rfl rfl (Nat.le_of_ble_eq_true rfl) (okc_r rfl rfl s2) h
theorem t211_11 {d : Nat} {l0 : Nat} {l1 : Int} {l2 : Int} {t0 : Nat} {t1 : Int} {M : Mem} {K : KK} {Q : RR → Mem → KK → Prop} (h : (¬ t1 = (0 : Int) → Wp d 211 19 [vR l0, vI l1, vI l2] [vI (0 : Int), vR t0] M K Q) ∧ (¬ (¬ t1 = (0 : Int)) → Wp d 211 19 [vR l0, vI l1, vI l2] [vI (1 : Int), vR t0] M K Q)) : Wp d 211 11 [vR l0, vI l1, vI l2] [vI t1, vR t0] M K Q := by
  refine r_ifP (P := ¬ t1 = (0 : Int)) c211_11 rfl (fun hc => ?_) (fun hc => ?_)
  · replace h := h.1 hc
    refine r_iconst c211_18 ?_
    exact h
  · replace h := h.2 hc
    refine r_iconst c211_14 ?_
    refine r_goto c211_15 ?_
    exact h
theorem t211_19 {d : Nat} {l0 : Nat} {l1 : Int} {l2 : Int} {t0 : Nat} {t1 : Int} {M : Mem} {K : KK} {Q : RR → Mem → KK → Prop} (h : isO K.1 t0 12 = true ∧ Wm d 152 [vR t0, vI t1, vI (1 : Int), vI (0 : Int)] M K (Bk d 211 21 24 152 [vR l0, vI l1, vI l2] [] Q)) : Wp (d + 1) 211 19 [vR l0, vI l1, vI l2] [vI t1, vR t0] M K Q := by
  refine r_iconst c211_19 ?_
  refine r_iconst c211_20 ?_
  obtain ⟨s1, h⟩ := h
  exact r_call c211_21 rfl rfl (Nat.le_of_ble_eq_true rfl) (okc_r rfl rfl s1) h
theorem t211_24 {d : Nat} {l0 : Nat} {l1 : Int} {l2 : Int} {t0 : Int} {M : Mem} {K : KK} {Q : RR → Mem → KK → Prop} (h : (¬ t0 = (0 : Int) → Wp (d + 1) 211 50 [vR l0, vI l1, vI l2] [] M K Q) ∧ (¬ (¬ t0 = (0 : Int)) → Wm d 153 [vI l2, vI (0 : Int), vI (5 : Int)] M K (Bk d 211 31 34 153 [vR l0, vI l1, vI l2] [vR l0] Q))) : Wp (d + 1) 211 24 [vR l0, vI l1, vI l2] [vI t0] M K Q := by
  refine r_ifP (P := ¬ t0 = (0 : Int)) c211_24 rfl (fun hc => ?_) (fun hc => ?_)
  · replace h := h.1 hc
    exact h
  · replace h := h.2 hc
    refine r_aload_n c211_27 rfl ?_
    refine r_iload_n c211_28 rfl ?_
    refine r_iconst c211_29 ?_
    refine r_iconst c211_30 ?_
    exact r_call c211_31 rfl rfl (Nat.le_of_ble_eq_true rfl) (okc_s rfl rfl rfl) h
theorem t211_34 {d : Nat} {l0 : Nat} {l1 : Int} {l2 : Int} {t0 : Nat} {t1 : Int} {M : Mem} {K : KK} {Q : RR → Mem → KK → Prop} (h : (¬ t1 = (0 : Int) → Wp d 211 42 [vR l0, vI l1, vI l2] [vI (0 : Int), vR t0] M K Q) ∧ (¬ (¬ t1 = (0 : Int)) → Wp d 211 42 [vR l0, vI l1, vI l2] [vI (1 : Int), vR t0] M K Q)) : Wp d 211 34 [vR l0, vI l1, vI l2] [vI t1, vR t0] M K Q := by
  refine r_ifP (P := ¬ t1 = (0 : Int)) c211_34 rfl (fun hc => ?_) (fun hc => ?_)
  · replace h := h.1 hc
    refine r_iconst c211_41 ?_
    exact h
  · replace h := h.2 hc
    refine r_iconst c211_37 ?_
    refine r_goto c211_38 ?_
    exact h
theorem t211_42 {d : Nat} {l0 : Nat} {l1 : Int} {l2 : Int} {t0 : Nat} {t1 : Int} {M : Mem} {K : KK} {Q : RR → Mem → KK → Prop} (h : isO K.1 t0 12 = true ∧ Wm d 152 [vR t0, vI t1, vI (2 : Int), vI (1 : Int)] M K (Bk d 211 44 47 152 [vR l0, vI l1, vI l2] [] Q)) : Wp (d + 1) 211 42 [vR l0, vI l1, vI l2] [vI t1, vR t0] M K Q := by
  refine r_iconst c211_42 ?_
  refine r_iconst c211_43 ?_
  obtain ⟨s1, h⟩ := h
  exact r_call c211_44 rfl rfl (Nat.le_of_ble_eq_true rfl) (okc_r rfl rfl s1) h
theorem t211_47 {d : Nat} {l0 : Nat} {l1 : Int} {l2 : Int} {t0 : Int} {M : Mem} {K : KK} {Q : RR → Mem → KK → Prop} (h : (t0 = (0 : Int) → Wp d 211 (tsw 53 83 0 4 #[35, 44, 54, 63, 73] l2) [vR l0, vI l1, vI l2] [] M K Q) ∧ (¬ (t0 = (0 : Int)) → Wp d 211 50 [vR l0, vI l1, vI l2] [] M K Q)) : Wp d 211 47 [vR l0, vI l1, vI l2] [vI t0] M K Q := by
  refine r_ifP (P := t0 = (0 : Int)) c211_47 rfl (fun hc => ?_) (fun hc => ?_)
  · replace h := h.1 hc
    refine r_iload_n c211_52 rfl ?_
    refine r_tsw c211_53 ?_
    exact h
  · replace h := h.2 hc
    exact h
theorem t211_50 {d : Nat} {l0 : Nat} {l1 : Int} {l2 : Int} {M : Mem} {K : KK} {Q : RR → Mem → KK → Prop} (h : Q (.inl (some (vI (0 : Int)))) M K) : Wp d 211 50 [vR l0, vI l1, vI l2] [] M K Q := by
  refine r_iconst c211_50 ?_
  exact r_iret c211_51 (Or.inl rfl) h
theorem t211_88 {d : Nat} {l0 : Nat} {l1 : Int} {l2 : Int} {M : Mem} {K : KK} {Q : RR → Mem → KK → Prop} (h : isO K.1 l0 12 = true ∧ ∃ b2 : Nat, (M l0 20) = (b2 : Int) ∧ 0 < b2 ∧ (Nat.ble 30 (tg b2) = true ∧ isO K.1 b2 (tg b2) = true) ∧ (0 ≤ l1 ∧ l1 < (ln b2 : Int)) ∧ ∃ b7 : Nat, (M b2 (Int.toNat l1)) = (b7 : Int) ∧ 0 < b7 ∧ isO K.1 b7 20 = true ∧ (0 ≤ (0 : Int) ∧ (0 : Int) < (ln b7 : Int)) ∧ Q (.inl (some (vI (M b7 (Int.toNat (0 : Int)))))) M K) : Wp d 211 88 [vR l0, vI l1, vI l2] [] M K Q := by
  refine r_aload_n c211_88 rfl ?_
  obtain ⟨s1, h⟩ := h
  obtain ⟨b2, h⟩ := h
  obtain ⟨s3, h⟩ := h
  obtain ⟨s4, h⟩ := h
  refine r_getR c211_89 s1 s3 s4 ?_
  refine r_iload_n c211_92 rfl ?_
  obtain ⟨s5, h⟩ := h
  obtain ⟨s6, h⟩ := h
  obtain ⟨b7, h⟩ := h
  obtain ⟨s8, h⟩ := h
  obtain ⟨s9, h⟩ := h
  refine r_aa c211_93 s5 s6 s8 s9 ?_
  refine r_iconst c211_94 ?_
  obtain ⟨s10, h⟩ := h
  obtain ⟨s11, h⟩ := h
  refine r_ia c211_95 s10 s11 ?_
  exact r_iret c211_96 (Or.inl rfl) h
theorem t211_97 {d : Nat} {l0 : Nat} {l1 : Int} {l2 : Int} {M : Mem} {K : KK} {Q : RR → Mem → KK → Prop} (h : isO K.1 l0 12 = true ∧ ∃ b2 : Nat, (M l0 31) = (b2 : Int) ∧ 0 < b2 ∧ isO K.1 b2 20 = true ∧ (0 ≤ (w32 ((6 : Int) + l1)) ∧ (w32 ((6 : Int) + l1)) < (ln b2 : Int)) ∧ Q (.inl (some (vI (M b2 (Int.toNat (w32 ((6 : Int) + l1))))))) M K) : Wp d 211 97 [vR l0, vI l1, vI l2] [] M K Q := by
  refine r_aload_n c211_97 rfl ?_
  obtain ⟨s1, h⟩ := h
  obtain ⟨b2, h⟩ := h
  obtain ⟨s3, h⟩ := h
  obtain ⟨s4, h⟩ := h
  refine r_getR c211_98 s1 s3 s4 ?_
  refine r_bipush c211_101 ?_
  refine r_iload_n c211_103 rfl ?_
  refine r_iadd c211_104 ?_
  obtain ⟨s5, h⟩ := h
  obtain ⟨s6, h⟩ := h
  refine r_ia c211_105 s5 s6 ?_
  exact r_iret c211_106 (Or.inl rfl) h
theorem t211_107 {d : Nat} {l0 : Nat} {l1 : Int} {l2 : Int} {M : Mem} {K : KK} {Q : RR → Mem → KK → Prop} (h : isO K.1 l0 12 = true ∧ ∃ b2 : Nat, (M l0 31) = (b2 : Int) ∧ 0 < b2 ∧ isO K.1 b2 20 = true ∧ (0 ≤ (w32 ((0 : Int) + l1)) ∧ (w32 ((0 : Int) + l1)) < (ln b2 : Int)) ∧ Q (.inl (some (vI (M b2 (Int.toNat (w32 ((0 : Int) + l1))))))) M K) : Wp d 211 107 [vR l0, vI l1, vI l2] [] M K Q := by
  refine r_aload_n c211_107 rfl ?_
  obtain ⟨s1, h⟩ := h
  obtain ⟨b2, h⟩ := h
  obtain ⟨s3, h⟩ := h
  obtain ⟨s4, h⟩ := h
  refine r_getR c211_108 s1 s3 s4 ?_
  refine r_iconst c211_111 ?_
  refine r_iload_n c211_112 rfl ?_
  refine r_iadd c211_113 ?_
  obtain ⟨s5, h⟩ := h
  obtain ⟨s6, h⟩ := h
  refine r_ia c211_114 s5 s6 ?_
  exact r_iret c211_115 (Or.inl rfl) h
theorem t211_116 {d : Nat} {l0 : Nat} {l1 : Int} {l2 : Int} {M : Mem} {K : KK} {Q : RR → Mem → KK → Prop} (h : isO K.1 l0 12 = true ∧ ∃ b2 : Nat, (M l0 31) = (b2 : Int) ∧ 0 < b2 ∧ isO K.1 b2 20 = true ∧ (0 ≤ (w32 ((12 : Int) + l1)) ∧ (w32 ((12 : Int) + l1)) < (ln b2 : Int)) ∧ Q (.inl (some (vI (M b2 (Int.toNat (w32 ((12 : Int) + l1))))))) M K) : Wp d 211 116 [vR l0, vI l1, vI l2] [] M K Q := by
  refine r_aload_n c211_116 rfl ?_
  obtain ⟨s1, h⟩ := h
  obtain ⟨b2, h⟩ := h
  obtain ⟨s3, h⟩ := h
  obtain ⟨s4, h⟩ := h
  refine r_getR c211_117 s1 s3 s4 ?_
  refine r_bipush c211_120 ?_
  refine r_iload_n c211_122 rfl ?_
  refine r_iadd c211_123 ?_
  obtain ⟨s5, h⟩ := h
  obtain ⟨s6, h⟩ := h
  refine r_ia c211_124 s5 s6 ?_
  exact r_iret c211_125 (Or.inl rfl) h
theorem t211_126 {d : Nat} {l0 : Nat} {l1 : Int} {l2 : Int} {M : Mem} {K : KK} {Q : RR → Mem → KK → Prop} (h : isO K.1 l0 12 = true ∧ ∃ b2 : Nat, (M l0 31) = (b2 : Int) ∧ 0 < b2 ∧ isO K.1 b2 20 = true ∧ (0 ≤ (w32 ((18 : Int) + l1)) ∧ (w32 ((18 : Int) + l1)) < (ln b2 : Int)) ∧ Q (.inl (some (vI (M b2 (Int.toNat (w32 ((18 : Int) + l1))))))) M K) : Wp d 211 126 [vR l0, vI l1, vI l2] [] M K Q := by
  refine r_aload_n c211_126 rfl ?_
  obtain ⟨s1, h⟩ := h
  obtain ⟨b2, h⟩ := h
  obtain ⟨s3, h⟩ := h
  obtain ⟨s4, h⟩ := h
  refine r_getR c211_127 s1 s3 s4 ?_
  refine r_bipush c211_130 ?_
  refine r_iload_n c211_132 rfl ?_
  refine r_iadd c211_133 ?_
  obtain ⟨s5, h⟩ := h
  obtain ⟨s6, h⟩ := h
  refine r_ia c211_134 s5 s6 ?_
  exact r_iret c211_135 (Or.inl rfl) h
theorem t211_136 {d : Nat} {l0 : Nat} {l1 : Int} {l2 : Int} {M : Mem} {K : KK} {Q : RR → Mem → KK → Prop} (h : isO K.1 l0 12 = true ∧ ∃ b2 : Nat, (M l0 31) = (b2 : Int) ∧ 0 < b2 ∧ isO K.1 l0 12 = true ∧ Wm d 195 [vR l0, vR b2, vI l1] M K (Bk d 211 142 145 195 [vR l0, vI l1, vI l2] [] Q)) : Wp (d + 1) 211 136 [vR l0, vI l1, vI l2] [] M K Q := by
  refine r_aload_n c211_136 rfl ?_
  refine r_aload_n c211_137 rfl ?_
  obtain ⟨s1, h⟩ := h
  obtain ⟨b2, h⟩ := h
  obtain ⟨s3, h⟩ := h
  obtain ⟨s4, h⟩ := h
  refine r_getR c211_138 s1 s3 s4 ?_
  refine r_iload_n c211_141 rfl ?_
  obtain ⟨s5, h⟩ := h
  exact r_call c211_142 rfl rfl (Nat.le_of_ble_eq_true rfl) (okc_r rfl rfl s5) h
theorem t211_145 {d : Nat} {l0 : Nat} {l1 : Int} {l2 : Int} {t0 : Int} {M : Mem} {K : KK} {Q : RR → Mem → KK → Prop} (h : Q (.inl (some (vI t0))) M K) : Wp d 211 145 [vR l0, vI l1, vI l2] [vI t0] M K Q := by
  exact r_iret c211_145 (Or.inl rfl) h
theorem t212_0 {d : Nat} {l0 : Nat} {l1 : Int} {M : Mem} {K : KK} {Q : RR → Mem → KK → Prop} (h : isO K.1 l0 12 = true ∧ isO K.1 l0 12 = true ∧ ∃ b3 : Nat, ((mset M l0 0 (0 : Int)) l0 12) = (b3 : Int) ∧ 0 < b3 ∧ isO K.1 b3 20 = true ∧ (0 ≤ (2 : Int) ∧ (2 : Int) < (ln b3 : Int)) ∧ Wm d 153 [vI l1, vI (0 : Int), vI (w32 (((mset M l0 0 (0 : Int)) b3 (Int.toNat (2 : Int))) - (1 : Int)))] (mset M l0 0 (0 : Int)) K (Bk d 212 16 19 153 [vR l0, vI l1] [vR l0] Q)) : Wp (d + 1) 212 0 [vR l0, vI l1] [] M K Q := by
  refine r_aload_n c212_0 rfl ?_
  refine r_iconst c212_1 ?_
  obtain ⟨s1, h⟩ := h
  refine r_putI c212_2 s1 ?_
  refine r_aload_n c212_5 rfl ?_
  refine r_iload_n c212_6 rfl ?_
  refine r_iconst c212_7 ?_
  refine r_aload_n c212_8 rfl ?_
  obtain ⟨s2, h⟩ := h
  obtain ⟨b3, h⟩ := h
  obtain ⟨s4, h⟩ := h
  obtain ⟨s5, h⟩ := h
  refine r_getR c212_9 s2 s4 s5 ?_
  refine r_iconst c212_12 ?_
  obtain ⟨s6, h⟩ := h
  obtain ⟨s7, h⟩ := h
  refine r_ia c212_13 s6 s7 ?_
  refine r_iconst c212_14 ?_
  refine r_isub c212_15 ?_
  exact r_call c212_16 rfl rfl (Nat.le_of_ble_eq_true rfl) (okc_s rfl rfl rfl) h
theorem t212_19 {d : Nat} {l0 : Nat} {l1 : Int} {t0 : Nat} {t1 : Int} {M : Mem} {K : KK} {Q : RR → Mem → KK → Prop} (h : (¬ t1 = (0 : Int) → Wp d 212 27 [vR l0, vI l1] [vI (0 : Int), vR t0] M K Q) ∧ (¬ (¬ t1 = (0 : Int)) → Wp d 212 27 [vR l0, vI l1] [vI (1 : Int), vR t0] M K Q)) : Wp d 212 19 [vR l0, vI l1] [vI t1, vR t0] M K Q := by
  refine r_ifP (P := ¬ t1 = (0 : Int)) c212_19 rfl (fun hc => ?_) (fun hc => ?_)
  · replace h := h.1 hc
    refine r_iconst c212_26 ?_
    exact h
  · replace h := h.2 hc
    refine r_iconst c212_22 ?_
    refine r_goto c212_23 ?_
    exact h
theorem t212_27 {d : Nat} {l0 : Nat} {l1 : Int} {t0 : Nat} {t1 : Int} {M : Mem} {K : KK} {Q : RR → Mem → KK → Prop} (h : isO K.1 t0 12 = true ∧ Wm d 152 [vR t0, vI t1, vI (1 : Int), vI (0 : Int)] M K (Bk d 212 29 32 152 [vR l0, vI l1] [] Q)) : Wp (d + 1) 212 27 [vR l0, vI l1] [vI t1, vR t0] M K Q := by
  refine r_iconst c212_27 ?_
  refine r_iconst c212_28 ?_
  obtain ⟨s1, h⟩ := h
  exact r_call c212_29 rfl rfl (Nat.le_of_ble_eq_true rfl) (okc_r rfl rfl s1) h
theorem t212_32 {d : Nat} {l0 : Nat} {l1 : Int} {t0 : Int} {M : Mem} {K : KK} {Q : RR → Mem → KK → Prop} (h : (t0 = (0 : Int) → isO K.1 l0 12 = true ∧ ∃ b2 : Nat, (M l0 16) = (b2 : Int) ∧ 0 < b2 ∧ isO K.1 b2 20 = true ∧ (0 ≤ l1 ∧ l1 < (ln b2 : Int)) ∧ Q (.inl (some (vI (M b2 (Int.toNat l1))))) M K) ∧ (¬ (t0 = (0 : Int)) → Q (.inl (some (vI (0 : Int)))) M K)) : Wp d 212 32 [vR l0, vI l1] [vI t0] M K Q := by
  refine r_ifP (P := t0 = (0 : Int)) c212_32 rfl (fun hc => ?_) (fun hc => ?_)
  · replace h := h.1 hc
    refine r_aload_n c212_37 rfl ?_
    obtain ⟨s1, h⟩ := h
    obtain ⟨b2, h⟩ := h
    obtain ⟨s3, h⟩ := h
    obtain ⟨s4, h⟩ := h
    refine r_getR c212_38 s1 s3 s4 ?_
    refine r_iload_n c212_41 rfl ?_
    obtain ⟨s5, h⟩ := h
    obtain ⟨s6, h⟩ := h
    refine r_ia c212_42 s5 s6 ?_
    exact r_iret c212_43 (Or.inl rfl) h
  · replace h := h.2 hc
    refine r_iconst c212_35 ?_
    exact r_iret c212_36 (Or.inl rfl) h
theorem t213_0 {d : Nat} {l0 : Nat} {l1 : Int} {l2 : Int} {l3 : Int} {l4 : Int} {l5 : Int} {l6 : Int} {l7 : Int} {l8 : Int} {M : Mem} {K : KK} {Q : RR → Mem → KK → Prop} (h : isO K.1 l0 12 = true ∧ Wm d 153 [vI l1, vI (0 : Int), vI (54 : Int)] (mset M l0 0 (0 : Int)) K (Bk d 213 10 13 153 [vR l0, vI l1, vI l2, vI l3, vI l4, vI l5, vI l6, vI l7, vI l8] [vR l0] Q)) : Wp (d + 1) 213 0 [vR l0, vI l1, vI l2, vI l3, vI l4, vI l5, vI l6, vI l7, vI l8] [] M K Q := by
  refine r_aload_n c213_0 rfl ?_
  refine r_iconst c213_1 ?_
  obtain ⟨s1, h⟩ := h
  refine r_putI c213_2 s1 ?_
  refine r_aload_n c213_5 rfl ?_
  refine r_iload_n c213_6 rfl ?_
  refine r_iconst c213_7 ?_
  refine r_bipush c213_8 ?_
  exact r_call c213_10 rfl rfl (Nat.le_of_ble_eq_true rfl) (okc_s rfl rfl rfl) h
theorem t213_13 {d : Nat} {l0 : Nat} {l1 : Int} {l2 : Int} {l3 : Int} {l4 : Int} {l5 : Int} {l6 : Int} {l7 : Int} {l8 : Int} {t0 : Nat} {t1 : Int} {M : Mem} {K : KK} {Q : RR → Mem → KK → Prop} (h : (t1 = (0 : Int) → Wp (d + 1) 213 91 [vR l0, vI l1, vI l2, vI l3, vI l4, vI l5, vI l6, vI l7, vI l8] [vR t0] M K Q) ∧ (¬ (t1 = (0 : Int)) → Wm d 153 [vI l2, vI (1 : Int), vI (6 : Int)] M K (Bk d 213 20 23 153 [vR l0, vI l1, vI l2, vI l3, vI l4, vI l5, vI l6, vI l7, vI l8] [vR t0] Q))) : Wp (d + 1) 213 13 [vR l0, vI l1, vI l2, vI l3, vI l4, vI l5, vI l6, vI l7, vI l8] [vI t1, vR t0] M K Q := by
  refine r_ifP (P := t1 = (0 : Int)) c213_13 rfl (fun hc => ?_) (fun hc => ?_)
  · replace h := h.1 hc
    exact h
  · replace h := h.2 hc
    refine r_iload_n c213_16 rfl ?_
    refine r_iconst c213_17 ?_
    refine r_bipush c213_18 ?_
    exact r_call c213_20 rfl rfl (Nat.le_of_ble_eq_true rfl) (okc_s rfl rfl rfl) h
theorem t213_23 {d : Nat} {l0 : Nat} {l1 : Int} {l2 : Int} {l3 : Int} {l4 : Int} {l5 : Int} {l6 : Int} {l7 : Int} {l8 : Int} {t0 : Nat} {t1 : Int} {M : Mem} {K : KK} {Q : RR → Mem → KK → Prop} (h : (t1 = (0 : Int) → Wp (d + 1) 213 91 [vR l0, vI l1, vI l2, vI l3, vI l4, vI l5, vI l6, vI l7, vI l8] [vR t0] M K Q) ∧ (¬ (t1 = (0 : Int)) → Wm d 153 [vI l3, vI (0 : Int), vI (99 : Int)] M K (Bk d 213 30 33 153 [vR l0, vI l1, vI l2, vI l3, vI l4, vI l5, vI l6, vI l7, vI l8] [vR t0] Q))) : Wp (d + 1) 213 23 [vR l0, vI l1, vI l2, vI l3, vI l4, vI l5, vI l6, vI l7, vI l8] [vI t1, vR t0] M K Q := by
  refine r_ifP (P := t1 = (0 : Int)) c213_23 rfl (fun hc => ?_) (fun hc => ?_)
  · replace h := h.1 hc
    exact h
  · replace h := h.2 hc
    refine r_iload_n c213_26 rfl ?_
    refine r_iconst c213_27 ?_
    refine r_bipush c213_28 ?_
    exact r_call c213_30 rfl rfl (Nat.le_of_ble_eq_true rfl) (okc_s rfl rfl rfl) h
theorem t213_33 {d : Nat} {l0 : Nat} {l1 : Int} {l2 : Int} {l3 : Int} {l4 : Int} {l5 : Int} {l6 : Int} {l7 : Int} {l8 : Int} {t0 : Nat} {t1 : Int} {M : Mem} {K : KK} {Q : RR → Mem → KK → Prop} (h : (t1 = (0 : Int) → Wp (d + 1) 213 91 [vR l0, vI l1, vI l2, vI l3, vI l4, vI l5, vI l6, vI l7, vI l8] [vR t0] M K Q) ∧ (¬ (t1 = (0 : Int)) → Wm d 153 [vI l4, vI (0 : Int), vI (9 : Int)] M K (Bk d 213 41 44 153 [vR l0, vI l1, vI l2, vI l3, vI l4, vI l5, vI l6, vI l7, vI l8] [vR t0] Q))) : Wp (d + 1) 213 33 [vR l0, vI l1, vI l2, vI l3, vI l4, vI l5, vI l6, vI l7, vI l8] [vI t1, vR t0] M K Q := by
  refine r_ifP (P := t1 = (0 : Int)) c213_33 rfl (fun hc => ?_) (fun hc => ?_)
  · replace h := h.1 hc
    exact h
  · replace h := h.2 hc
    refine r_iload c213_36 rfl ?_
    refine r_iconst c213_38 ?_
    refine r_bipush c213_39 ?_
    exact r_call c213_41 rfl rfl (Nat.le_of_ble_eq_true rfl) (okc_s rfl rfl rfl) h
theorem t213_44 {d : Nat} {l0 : Nat} {l1 : Int} {l2 : Int} {l3 : Int} {l4 : Int} {l5 : Int} {l6 : Int} {l7 : Int} {l8 : Int} {t0 : Nat} {t1 : Int} {M : Mem} {K : KK} {Q : RR → Mem → KK → Prop} (h : (t1 = (0 : Int) → Wp (d + 1) 213 91 [vR l0, vI l1, vI l2, vI l3, vI l4, vI l5, vI l6, vI l7, vI l8] [vR t0] M K Q) ∧ (¬ (t1 = (0 : Int)) → Wm d 153 [vI l5, vI (0 : Int), vI (9 : Int)] M K (Bk d 213 52 55 153 [vR l0, vI l1, vI l2, vI l3, vI l4, vI l5, vI l6, vI l7, vI l8] [vR t0] Q))) : Wp (d + 1) 213 44 [vR l0, vI l1, vI l2, vI l3, vI l4, vI l5, vI l6, vI l7, vI l8] [vI t1, vR t0] M K Q := by
  refine r_ifP (P := t1 = (0 : Int)) c213_44 rfl (fun hc => ?_) (fun hc => ?_)
  · replace h := h.1 hc
    exact h
  · replace h := h.2 hc
    refine r_iload c213_47 rfl ?_
    refine r_iconst c213_49 ?_
    refine r_bipush c213_50 ?_
    exact r_call c213_52 rfl rfl (Nat.le_of_ble_eq_true rfl) (okc_s rfl rfl rfl) h
theorem t213_55 {d : Nat} {l0 : Nat} {l1 : Int} {l2 : Int} {l3 : Int} {l4 : Int} {l5 : Int} {l6 : Int} {l7 : Int} {l8 : Int} {t0 : Nat} {t1 : Int} {M : Mem} {K : KK} {Q : RR → Mem → KK → Prop} (h : (t1 = (0 : Int) → Wp (d + 1) 213 91 [vR l0, vI l1, vI l2, vI l3, vI l4, vI l5, vI l6, vI l7, vI l8] [vR t0] M K Q) ∧ (¬ (t1 = (0 : Int)) → Wm d 153 [vI l6, vI (0 : Int), vI (1 : Int)] M K (Bk d 213 62 65 153 [vR l0, vI l1, vI l2, vI l3, vI l4, vI l5, vI l6, vI l7, vI l8] [vR t0] Q))) : Wp (d + 1) 213 55 [vR l0, vI l1, vI l2, vI l3, vI l4, vI l5, vI l6, vI l7, vI l8] [vI t1, vR t0] M K Q := by
  refine r_ifP (P := t1 = (0 : Int)) c213_55 rfl (fun hc => ?_) (fun hc => ?_)
  · replace h := h.1 hc
    exact h
  · replace h := h.2 hc
    refine r_iload c213_58 rfl ?_
    refine r_iconst c213_60 ?_
    refine r_iconst c213_61 ?_
    exact r_call c213_62 rfl rfl (Nat.le_of_ble_eq_true rfl) (okc_s rfl rfl rfl) h
theorem t213_65 {d : Nat} {l0 : Nat} {l1 : Int} {l2 : Int} {l3 : Int} {l4 : Int} {l5 : Int} {l6 : Int} {l7 : Int} {l8 : Int} {t0 : Nat} {t1 : Int} {M : Mem} {K : KK} {Q : RR → Mem → KK → Prop} (h : (t1 = (0 : Int) → Wp (d + 1) 213 91 [vR l0, vI l1, vI l2, vI l3, vI l4, vI l5, vI l6, vI l7, vI l8] [vR t0] M K Q) ∧ (¬ (t1 = (0 : Int)) → Wm d 153 [vI l7, vI (0 : Int), vI (500 : Int)] M K (Bk d 213 74 77 153 [vR l0, vI l1, vI l2, vI l3, vI l4, vI l5, vI l6, vI l7, vI l8] [vR t0] Q))) : Wp (d + 1) 213 65 [vR l0, vI l1, vI l2, vI l3, vI l4, vI l5, vI l6, vI l7, vI l8] [vI t1, vR t0] M K Q := by
  refine r_ifP (P := t1 = (0 : Int)) c213_65 rfl (fun hc => ?_) (fun hc => ?_)
  · replace h := h.1 hc
    exact h
  · replace h := h.2 hc
    refine r_iload c213_68 rfl ?_
    refine r_iconst c213_70 ?_
    refine r_sipush c213_71 ?_
    exact r_call c213_74 rfl rfl (Nat.le_of_ble_eq_true rfl) (okc_s rfl rfl rfl) h
theorem t213_77 {d : Nat} {l0 : Nat} {l1 : Int} {l2 : Int} {l3 : Int} {l4 : Int} {l5 : Int} {l6 : Int} {l7 : Int} {l8 : Int} {t0 : Nat} {t1 : Int} {M : Mem} {K : KK} {Q : RR → Mem → KK → Prop} (h : (t1 = (0 : Int) → Wp (d + 1) 213 91 [vR l0, vI l1, vI l2, vI l3, vI l4, vI l5, vI l6, vI l7, vI l8] [vR t0] M K Q) ∧ (¬ (t1 = (0 : Int)) → Wm d 153 [vI l8, vI (0 : Int), vI (11 : Int)] M K (Bk d 213 85 88 153 [vR l0, vI l1, vI l2, vI l3, vI l4, vI l5, vI l6, vI l7, vI l8] [vR t0] Q))) : Wp (d + 1) 213 77 [vR l0, vI l1, vI l2, vI l3, vI l4, vI l5, vI l6, vI l7, vI l8] [vI t1, vR t0] M K Q := by
  refine r_ifP (P := t1 = (0 : Int)) c213_77 rfl (fun hc => ?_) (fun hc => ?_)
  · replace h := h.1 hc
    exact h
  · replace h := h.2 hc
    refine r_iload c213_80 rfl ?_
    refine r_iconst c213_82 ?_
    refine r_bipush c213_83 ?_
    exact r_call c213_85 rfl rfl (Nat.le_of_ble_eq_true rfl) (okc_s rfl rfl rfl) h
theorem t213_88 {d : Nat} {l0 : Nat} {l1 : Int} {l2 : Int} {l3 : Int} {l4 : Int} {l5 : Int} {l6 : Int} {l7 : Int} {l8 : Int} {t0 : Nat} {t1 : Int} {M : Mem} {K : KK} {Q : RR → Mem → KK → Prop} (h : (¬ t1 = (0 : Int) → Wp d 213 96 [vR l0, vI l1, vI l2, vI l3, vI l4, vI l5, vI l6, vI l7, vI l8] [vI (0 : Int), vR t0] M K Q) ∧ (¬ (¬ t1 = (0 : Int)) → Wp d 213 91 [vR l0, vI l1, vI l2, vI l3, vI l4, vI l5, vI l6, vI l7, vI l8] [vR t0] M K Q)) : Wp d 213 88 [vR l0, vI l1, vI l2, vI l3, vI l4, vI l5, vI l6, vI l7, vI l8] [vI t1, vR t0] M K Q := by
  refine r_ifP (P := ¬ t1 = (0 : Int)) c213_88 rfl (fun hc => ?_) (fun hc => ?_)
  · replace h := h.1 hc
    refine r_iconst c213_95 ?_
    exact h
  · replace h := h.2 hc
    exact h
theorem t213_91 {d : Nat} {l0 : Nat} {l1 : Int} {l2 : Int} {l3 : Int} {l4 : Int} {l5 : Int} {l6 : Int} {l7 : Int} {l8 : Int} {t0 : Nat} {M : Mem} {K : KK} {Q : RR → Mem → KK → Prop} (h : Wp d 213 96 [vR l0, vI l1, vI l2, vI l3, vI l4, vI l5, vI l6, vI l7, vI l8] [vI (1 : Int), vR t0] M K Q) : Wp d 213 91 [vR l0, vI l1, vI l2, vI l3, vI l4, vI l5, vI l6, vI l7, vI l8] [vR t0] M K Q := by
  refine r_iconst c213_91 ?_
  refine r_goto c213_92 ?_
  exact h
theorem t213_96 {d : Nat} {l0 : Nat} {l1 : Int} {l2 : Int} {l3 : Int} {l4 : Int} {l5 : Int} {l6 : Int} {l7 : Int} {l8 : Int} {t0 : Nat} {t1 : Int} {M : Mem} {K : KK} {Q : RR → Mem → KK → Prop} (h : isO K.1 t0 12 = true ∧ Wm d 152 [vR t0, vI t1, vI (1 : Int), vI (1 : Int)] M K (Bk d 213 98 101 152 [vR l0, vI l1, vI l2, vI l3, vI l4, vI l5, vI l6, vI l7, vI l8] [] Q)) : Wp (d + 1) 213 96 [vR l0, vI l1, vI l2, vI l3, vI l4, vI l5, vI l6, vI l7, vI l8] [vI t1, vR t0] M K Q := by
  refine r_iconst c213_96 ?_
  refine r_iconst c213_97 ?_
  obtain ⟨s1, h⟩ := h
  exact r_call c213_98 rfl rfl (Nat.le_of_ble_eq_true rfl) (okc_r rfl rfl s1) h
theorem t213_101 {d : Nat} {l0 : Nat} {l1 : Int} {l2 : Int} {l3 : Int} {l4 : Int} {l5 : Int} {l6 : Int} {l7 : Int} {l8 : Int} {t0 : Int} {M : Mem} {K : KK} {Q : RR → Mem → KK → Prop} (h : (t0 = (0 : Int) → isO K.1 l0 12 = true ∧ ∃ b2 : Nat, (M l0 28) = (b2 : Int) ∧ 0 < b2 ∧ isO K.1 b2 20 = true ∧ (0 ≤ (0 : Int) ∧ (0 : Int) < (ln b2 : Int)) ∧ isO K.1 l0 12 = true ∧ ∃ b8 : Nat, ((mset M b2 (Int.toNat (0 : Int)) l1) l0 28) = (b8 : Int) ∧ 0 < b8 ∧ isO K.1 b8 20 = true ∧ (0 ≤ (1 : Int) ∧ (1 : Int) < (ln b8 : Int)) ∧ isO K.1 l0 12 = true ∧ ∃ b14 : Nat, ((mset (mset M b2 (Int.toNat (0 : Int)) l1) b8 (Int.toNat (1 : Int)) l2) l0 28) = (b14 : Int) ∧ 0 < b14 ∧ isO K.1 b14 20 = true ∧ (0 ≤ (2 : Int) ∧ (2 : Int) < (ln b14 : Int)) ∧ isO K.1 l0 12 = true ∧ ∃ b20 : Nat, ((mset (mset (mset M b2 (Int.toNat (0 : Int)) l1) b8 (Int.toNat (1 : Int)) l2) b14 (Int.toNat (2 : Int)) l3) l0 28) = (b20 : Int) ∧ 0 < b20 ∧ isO K.1 b20 20 = true ∧ (0 ≤ (3 : Int) ∧ (3 : Int) < (ln b20 : Int)) ∧ isO K.1 l0 12 = true ∧ ∃ b26 : Nat, ((mset (mset (mset (mset M b2 (Int.toNat (0 : Int)) l1) b8 (Int.toNat (1 : Int)) l2) b14 (Int.toNat (2 : Int)) l3) b20 (Int.toNat (3 : Int)) l4) l0 28) = (b26 : Int) ∧ 0 < b26 ∧ isO K.1 b26 20 = true ∧ (0 ≤ (4 : Int) ∧ (4 : Int) < (ln b26 : Int)) ∧ isO K.1 l0 12 = true ∧ ∃ b32 : Nat, ((mset (mset (mset (mset (mset M b2 (Int.toNat (0 : Int)) l1) b8 (Int.toNat (1 : Int)) l2) b14 (Int.toNat (2 : Int)) l3) b20 (Int.toNat (3 : Int)) l4) b26 (Int.toNat (4 : Int)) l5) l0 28) = (b32 : Int) ∧ 0 < b32 ∧ isO K.1 b32 20 = true ∧ (0 ≤ (5 : Int) ∧ (5 : Int) < (ln b32 : Int)) ∧ isO K.1 l0 12 = true ∧ ∃ b38 : Nat, ((mset (mset (mset (mset (mset (mset M b2 (Int.toNat (0 : Int)) l1) b8 (Int.toNat (1 : Int)) l2) b14 (Int.toNat (2 : Int)) l3) b20 (Int.toNat (3 : Int)) l4) b26 (Int.toNat (4 : Int)) l5) b32 (Int.toNat (5 : Int)) l6) l0 28) = (b38 : Int) ∧ 0 < b38 ∧ isO K.1 b38 20 = true ∧ (0 ≤ (6 : Int) ∧ (6 : Int) < (ln b38 : Int)) ∧ isO K.1 l0 12 = true ∧ ∃ b44 : Nat, ((mset (mset (mset (mset (mset (mset (mset M b2 (Int.toNat (0 : Int)) l1) b8 (Int.toNat (1 : Int)) l2) b14 (Int.toNat (2 : Int)) l3) b20 (Int.toNat (3 : Int)) l4) b26 (Int.toNat (4 : Int)) l5) b32 (Int.toNat (5 : Int)) l6) b38 (Int.toNat (6 : Int)) l7) l0 28) = (b44 : Int) ∧ 0 < b44 ∧ isO K.1 b44 20 = true ∧ (0 ≤ (7 : Int) ∧ (7 : Int) < (ln b44 : Int)) ∧ isO K.1 l0 12 = true ∧ Wm d 188 [vR l0] (mset (mset (mset (mset (mset (mset (mset (mset M b2 (Int.toNat (0 : Int)) l1) b8 (Int.toNat (1 : Int)) l2) b14 (Int.toNat (2 : Int)) l3) b20 (Int.toNat (3 : Int)) l4) b26 (Int.toNat (4 : Int)) l5) b32 (Int.toNat (5 : Int)) l6) b38 (Int.toNat (6 : Int)) l7) b44 (Int.toNat (7 : Int)) l8) K (Bk d 213 170 173 188 [vR l0, vI l1, vI l2, vI l3, vI l4, vI l5, vI l6, vI l7, vI l8] [] Q)) ∧ (¬ (t0 = (0 : Int)) → Q (.inl (some (vI (0 : Int)))) M K)) : Wp (d + 1) 213 101 [vR l0, vI l1, vI l2, vI l3, vI l4, vI l5, vI l6, vI l7, vI l8] [vI t0] M K Q := by
  refine r_ifP (P := t0 = (0 : Int)) c213_101 rfl (fun hc => ?_) (fun hc => ?_)
  · replace h := h.1 hc
    refine r_aload_n c213_106 rfl ?_
    obtain ⟨s1, h⟩ := h
    obtain ⟨b2, h⟩ := h
    obtain ⟨s3, h⟩ := h
    obtain ⟨s4, h⟩ := h
    refine r_getR c213_107 s1 s3 s4 ?_
    refine r_iconst c213_110 ?_
    refine r_iload_n c213_111 rfl ?_
    obtain ⟨s5, h⟩ := h
    obtain ⟨s6, h⟩ := h
    refine r_ias c213_112 s5 s6 ?_
    refine r_aload_n c213_113 rfl ?_
    obtain ⟨s7, h⟩ := h
    obtain ⟨b8, h⟩ := h
    obtain ⟨s9, h⟩ := h
    obtain ⟨s10, h⟩ := h
    refine r_getR c213_114 s7 s9 s10 ?_
    refine r_iconst c213_117 ?_
    refine r_iload_n c213_118 rfl ?_
    obtain ⟨s11, h⟩ := h
    obtain ⟨s12, h⟩ := h
    refine r_ias c213_119 s11 s12 ?_
    refine r_aload_n c213_120 rfl ?_
    obtain ⟨s13, h⟩ := h
    obtain ⟨b14, h⟩ := h
    obtain ⟨s15, h⟩ := h
    obtain ⟨s16, h⟩ := h
    refine r_getR c213_121 s13 s15 s16 ?_
    refine r_iconst c213_124 ?_
    refine r_iload_n c213_125 rfl ?_
    obtain ⟨s17, h⟩ := h
    obtain ⟨s18, h⟩ := h
    refine r_ias c213_126 s17 s18 ?_
    refine r_aload_n c213_127 rfl ?_
    obtain ⟨s19, h⟩ := h
    obtain ⟨b20, h⟩ := h
    obtain ⟨s21, h⟩ := h
    obtain ⟨s22, h⟩ := h
    refine r_getR c213_128 s19 s21 s22 ?_
    refine r_iconst c213_131 ?_
    refine r_iload c213_132 rfl ?_
    obtain ⟨s23, h⟩ := h
    obtain ⟨s24, h⟩ := h
    refine r_ias c213_134 s23 s24 ?_
    refine r_aload_n c213_135 rfl ?_
    obtain ⟨s25, h⟩ := h
    obtain ⟨b26, h⟩ := h
    obtain ⟨s27, h⟩ := h
    obtain ⟨s28, h⟩ := h
    refine r_getR c213_136 s25 s27 s28 ?_
    refine r_iconst c213_139 ?_
    refine r_iload c213_140 rfl ?_
    obtain ⟨s29, h⟩ := h
    obtain ⟨s30, h⟩ := h
    refine r_ias c213_142 s29 s30 ?_
    refine r_aload_n c213_143 rfl ?_
    obtain ⟨s31, h⟩ := h
    obtain ⟨b32, h⟩ := h
    obtain ⟨s33, h⟩ := h
    obtain ⟨s34, h⟩ := h
    refine r_getR c213_144 s31 s33 s34 ?_
    refine r_iconst c213_147 ?_
    refine r_iload c213_148 rfl ?_
    obtain ⟨s35, h⟩ := h
    obtain ⟨s36, h⟩ := h
    refine r_ias c213_150 s35 s36 ?_
    refine r_aload_n c213_151 rfl ?_
    obtain ⟨s37, h⟩ := h
    obtain ⟨b38, h⟩ := h
    obtain ⟨s39, h⟩ := h
    obtain ⟨s40, h⟩ := h
    refine r_getR c213_152 s37 s39 s40 ?_
    refine r_bipush c213_155 ?_
    refine r_iload c213_157 rfl ?_
    obtain ⟨s41, h⟩ := h
    obtain ⟨s42, h⟩ := h
    refine r_ias c213_159 s41 s42 ?_
    refine r_aload_n c213_160 rfl ?_
    obtain ⟨s43, h⟩ := h
    obtain ⟨b44, h⟩ := h
    obtain ⟨s45, h⟩ := h
    obtain ⟨s46, h⟩ := h
    refine r_getR c213_161 s43 s45 s46 ?_
    refine r_bipush c213_164 ?_
    refine r_iload c213_166 rfl ?_
    obtain ⟨s47, h⟩ := h
    obtain ⟨s48, h⟩ := h
    refine r_ias c213_168 s47 s48 ?_
    refine r_aload_n c213_169 rfl ?_
    obtain ⟨s49, h⟩ := h
    exact r_call c213_170 rfl rfl (Nat.le_of_ble_eq_true rfl) (okc_r rfl rfl s49) h
  · replace h := h.2 hc
    refine r_iconst c213_104 ?_
    exact r_iret c213_105 (Or.inl rfl) h
theorem t213_173 {d : Nat} {l0 : Nat} {l1 : Int} {l2 : Int} {l3 : Int} {l4 : Int} {l5 : Int} {l6 : Int} {l7 : Int} {l8 : Int} {t0 : Int} {M : Mem} {K : KK} {Q : RR → Mem → KK → Prop} (h : Q (.inl (some (vI t0))) M K) : Wp d 213 173 [vR l0, vI l1, vI l2, vI l3, vI l4, vI l5, vI l6, vI l7, vI l8] [vI t0] M K Q := by
  exact r_iret c213_173 (Or.inl rfl) h
theorem t214_0 {d : Nat} {l0 : Nat} {l1 : Int} {l2 : Int} {M : Mem} {K : KK} {Q : RR → Mem → KK → Prop} (h : isO K.1 l0 12 = true ∧ isO K.1 l0 12 = true ∧ Wm d 208 [vR l0, vI l1] (mset M l0 0 (0 : Int)) K (Bk d 214 8 11 208 [vR l0, vI l1, vI l2] [vR l0] Q)) : Wp (d + 1) 214 0 [vR l0, vI l1, vI l2] [] M K Q := by
  refine r_aload_n c214_0 rfl ?_
  refine r_iconst c214_1 ?_
  obtain ⟨s1, h⟩ := h
  refine r_putI c214_2 s1 ?_
  refine r_aload_n c214_5 rfl ?_
  refine r_aload_n c214_6 rfl ?_
  refine r_iload_n c214_7 rfl ?_
  obtain ⟨s2, h⟩ := h
  exact r_call c214_8 rfl rfl (Nat.le_of_ble_eq_true rfl) (okc_r rfl rfl s2) h
theorem t214_11 {d : Nat} {l0 : Nat} {l1 : Int} {l2 : Int} {t0 : Nat} {t1 : Int} {M : Mem} {K : KK} {Q : RR → Mem → KK → Prop} (h : (t1 = (0 : Int) → Wp (d + 1) 214 22 [vR l0, vI l1, vI l2] [vR t0] M K Q) ∧ (¬ (t1 = (0 : Int)) → isO K.1 l0 12 = true ∧ Wm d 207 [vR l0, vI l2] M K (Bk d 214 16 19 207 [vR l0, vI l1, vI l2] [vR t0] Q))) : Wp (d + 1) 214 11 [vR l0, vI l1, vI l2] [vI t1, vR t0] M K Q := by
  refine r_ifP (P := t1 = (0 : Int)) c214_11 rfl (fun hc => ?_) (fun hc => ?_)
  · replace h := h.1 hc
    exact h
  · replace h := h.2 hc
    refine r_aload_n c214_14 rfl ?_
    refine r_iload_n c214_15 rfl ?_
    obtain ⟨s1, h⟩ := h
    exact r_call c214_16 rfl rfl (Nat.le_of_ble_eq_true rfl) (okc_r rfl rfl s1) h
theorem t214_19 {d : Nat} {l0 : Nat} {l1 : Int} {l2 : Int} {t0 : Nat} {t1 : Int} {M : Mem} {K : KK} {Q : RR → Mem → KK → Prop} (h : (¬ t1 = (0 : Int) → Wp d 214 27 [vR l0, vI l1, vI l2] [vI (0 : Int), vR t0] M K Q) ∧ (¬ (¬ t1 = (0 : Int)) → Wp d 214 22 [vR l0, vI l1, vI l2] [vR t0] M K Q)) : Wp d 214 19 [vR l0, vI l1, vI l2] [vI t1, vR t0] M K Q := by
  refine r_ifP (P := ¬ t1 = (0 : Int)) c214_19 rfl (fun hc => ?_) (fun hc => ?_)
  · replace h := h.1 hc
    refine r_iconst c214_26 ?_
    exact h
  · replace h := h.2 hc
    exact h
theorem t214_22 {d : Nat} {l0 : Nat} {l1 : Int} {l2 : Int} {t0 : Nat} {M : Mem} {K : KK} {Q : RR → Mem → KK → Prop} (h : Wp d 214 27 [vR l0, vI l1, vI l2] [vI (1 : Int), vR t0] M K Q) : Wp d 214 22 [vR l0, vI l1, vI l2] [vR t0] M K Q := by
  refine r_iconst c214_22 ?_
  refine r_goto c214_23 ?_
  exact h
theorem t214_27 {d : Nat} {l0 : Nat} {l1 : Int} {l2 : Int} {t0 : Nat} {t1 : Int} {M : Mem} {K : KK} {Q : RR → Mem → KK → Prop} (h : isO K.1 t0 12 = true ∧ Wm d 152 [vR t0, vI t1, vI (1 : Int), vI (0 : Int)] M K (Bk d 214 29 32 152 [vR l0, vI l1, vI l2] [] Q)) : Wp (d + 1) 214 27 [vR l0, vI l1, vI l2] [vI t1, vR t0] M K Q := by
  refine r_iconst c214_27 ?_
  refine r_iconst c214_28 ?_
  obtain ⟨s1, h⟩ := h
  exact r_call c214_29 rfl rfl (Nat.le_of_ble_eq_true rfl) (okc_r rfl rfl s1) h
theorem t214_32 {d : Nat} {l0 : Nat} {l1 : Int} {l2 : Int} {t0 : Int} {M : Mem} {K : KK} {Q : RR → Mem → KK → Prop} (h : (t0 = (0 : Int) → isO K.1 l0 12 = true ∧ ∃ b2 : Nat, (M l0 31) = (b2 : Int) ∧ 0 < b2 ∧ isO K.1 l0 12 = true ∧ Wm d 197 [vR l0, vR b2, vI l1, vI l2] M K (Bk d 214 44 47 197 [vR l0, vI l1, vI l2] [] Q)) ∧ (¬ (t0 = (0 : Int)) → Q (.inl (some (vI (0 : Int)))) M K)) : Wp (d + 1) 214 32 [vR l0, vI l1, vI l2] [vI t0] M K Q := by
  refine r_ifP (P := t0 = (0 : Int)) c214_32 rfl (fun hc => ?_) (fun hc => ?_)
  · replace h := h.1 hc
    refine r_aload_n c214_37 rfl ?_
    refine r_aload_n c214_38 rfl ?_
    obtain ⟨s1, h⟩ := h
    obtain ⟨b2, h⟩ := h
    obtain ⟨s3, h⟩ := h
    obtain ⟨s4, h⟩ := h
    refine r_getR c214_39 s1 s3 s4 ?_
    refine r_iload_n c214_42 rfl ?_
    refine r_iload_n c214_43 rfl ?_
    obtain ⟨s5, h⟩ := h
    exact r_call c214_44 rfl rfl (Nat.le_of_ble_eq_true rfl) (okc_r rfl rfl s5) h
  · replace h := h.2 hc
    refine r_iconst c214_35 ?_
    exact r_iret c214_36 (by decide) h
theorem t214_47 {d : Nat} {l0 : Nat} {l1 : Int} {l2 : Int} {t0 : Int} {M : Mem} {K : KK} {Q : RR → Mem → KK → Prop} (h : (t0 = 0 ∨ t0 = 1) ∧ Q (.inl (some (vI t0))) M K) : Wp d 214 47 [vR l0, vI l1, vI l2] [vI t0] M K Q := by
  obtain ⟨s1, h⟩ := h
  exact r_iret c214_47 (Or.inr s1) h
theorem t215_0 {d : Nat} {l0 : Nat} {l1 : Int} {l2 : Int} {M : Mem} {K : KK} {Q : RR → Mem → KK → Prop} (h : isO K.1 l0 12 = true ∧ Wm d 153 [vI l1, vI (0 : Int), vI (99 : Int)] (mset M l0 0 (0 : Int)) K (Bk d 215 10 13 153 [vR l0, vI l1, vI l2, vU] [vR l0] Q)) : Wp (d + 1) 215 0 [vR l0, vI l1, vI l2, vU] [] M K Q := by
  refine r_aload_n c215_0 rfl ?_
  refine r_iconst c215_1 ?_
  obtain ⟨s1, h⟩ := h
  refine r_putI c215_2 s1 ?_
  refine r_aload_n c215_5 rfl ?_
  refine r_iload_n c215_6 rfl ?_
  refine r_iconst c215_7 ?_
  refine r_bipush c215_8 ?_
  exact r_call c215_10 rfl rfl (Nat.le_of_ble_eq_true rfl) (okc_s rfl rfl rfl) h
theorem t215_13 {d : Nat} {l0 : Nat} {l1 : Int} {l2 : Int} {t0 : Nat} {t1 : Int} {M : Mem} {K : KK} {Q : RR → Mem → KK → Prop} (h : (t1 = (0 : Int) → Wp (d + 1) 215 25 [vR l0, vI l1, vI l2, vU] [vR t0] M K Q) ∧ (¬ (t1 = (0 : Int)) → Wm d 153 [vI l2, vI (0 : Int), vI (1 : Int)] M K (Bk d 215 19 22 153 [vR l0, vI l1, vI l2, vU] [vR t0] Q))) : Wp (d + 1) 215 13 [vR l0, vI l1, vI l2, vU] [vI t1, vR t0] M K Q := by
  refine r_ifP (P := t1 = (0 : Int)) c215_13 rfl (fun hc => ?_) (fun hc => ?_)
  · replace h := h.1 hc
    exact h
  · replace h := h.2 hc
    refine r_iload_n c215_16 rfl ?_
    refine r_iconst c215_17 ?_
    refine r_iconst c215_18 ?_
    exact r_call c215_19 rfl rfl (Nat.le_of_ble_eq_true rfl) (okc_s rfl rfl rfl) h
theorem t215_22 {d : Nat} {l0 : Nat} {l1 : Int} {l2 : Int} {t0 : Nat} {t1 : Int} {M : Mem} {K : KK} {Q : RR → Mem → KK → Prop} (h : (¬ t1 = (0 : Int) → Wp d 215 30 [vR l0, vI l1, vI l2, vU] [vI (0 : Int), vR t0] M K Q) ∧ (¬ (¬ t1 = (0 : Int)) → Wp d 215 25 [vR l0, vI l1, vI l2, vU] [vR t0] M K Q)) : Wp d 215 22 [vR l0, vI l1, vI l2, vU] [vI t1, vR t0] M K Q := by
  refine r_ifP (P := ¬ t1 = (0 : Int)) c215_22 rfl (fun hc => ?_) (fun hc => ?_)
  · replace h := h.1 hc
    refine r_iconst c215_29 ?_
    exact h
  · replace h := h.2 hc
    exact h
theorem t215_25 {d : Nat} {l0 : Nat} {l1 : Int} {l2 : Int} {t0 : Nat} {M : Mem} {K : KK} {Q : RR → Mem → KK → Prop} (h : Wp d 215 30 [vR l0, vI l1, vI l2, vU] [vI (1 : Int), vR t0] M K Q) : Wp d 215 25 [vR l0, vI l1, vI l2, vU] [vR t0] M K Q := by
  refine r_iconst c215_25 ?_
  refine r_goto c215_26 ?_
  exact h
theorem t215_30 {d : Nat} {l0 : Nat} {l1 : Int} {l2 : Int} {t0 : Nat} {t1 : Int} {M : Mem} {K : KK} {Q : RR → Mem → KK → Prop} (h : isO K.1 t0 12 = true ∧ Wm d 152 [vR t0, vI t1, vI (1 : Int), vI (1 : Int)] M K (Bk d 215 32 35 152 [vR l0, vI l1, vI l2, vU] [] Q)) : Wp (d + 1) 215 30 [vR l0, vI l1, vI l2, vU] [vI t1, vR t0] M K Q := by
  refine r_iconst c215_30 ?_
  refine r_iconst c215_31 ?_
  obtain ⟨s1, h⟩ := h
  exact r_call c215_32 rfl rfl (Nat.le_of_ble_eq_true rfl) (okc_r rfl rfl s1) h
theorem t215_35 {d : Nat} {l0 : Nat} {l1 : Int} {l2 : Int} {t0 : Int} {M : Mem} {K : KK} {Q : RR → Mem → KK → Prop} (h : (t0 = (0 : Int) → isO K.1 l0 12 = true ∧ ∃ b2 : Nat, (M l0 31) = (b2 : Int) ∧ 0 < b2 ∧ isO K.1 l0 12 = true ∧ ∃ b6 : Nat, (M l0 32) = (b6 : Int) ∧ 0 < b6 ∧ Wm d 178 [vR b2, vR b6] M K (Bk d 215 48 51 178 [vR l0, vI l1, vI l2, vU] [] Q)) ∧ (¬ (t0 = (0 : Int)) → Q (.inl (some (vI (0 : Int)))) M K)) : Wp (d + 1) 215 35 [vR l0, vI l1, vI l2, vU] [vI t0] M K Q := by
  refine r_ifP (P := t0 = (0 : Int)) c215_35 rfl (fun hc => ?_) (fun hc => ?_)
  · replace h := h.1 hc
    refine r_aload_n c215_40 rfl ?_
    obtain ⟨s1, h⟩ := h
    obtain ⟨b2, h⟩ := h
    obtain ⟨s3, h⟩ := h
    obtain ⟨s4, h⟩ := h
    refine r_getR c215_41 s1 s3 s4 ?_
    refine r_aload_n c215_44 rfl ?_
    obtain ⟨s5, h⟩ := h
    obtain ⟨b6, h⟩ := h
    obtain ⟨s7, h⟩ := h
    obtain ⟨s8, h⟩ := h
    refine r_getR c215_45 s5 s7 s8 ?_
    exact r_call c215_48 rfl rfl (Nat.le_of_ble_eq_true rfl) (okc_s rfl rfl rfl) h
  · replace h := h.2 hc
    refine r_iconst c215_38 ?_
    exact r_iret c215_39 (Or.inl rfl) h
theorem t215_51 {d : Nat} {l0 : Nat} {l1 : Int} {l2 : Int} {M : Mem} {K : KK} {Q : RR → Mem → KK → Prop} (h : Wp d 215 53 [vR l0, vI l1, vI l2, vI (0 : Int)] [] M K Q) : Wp d 215 51 [vR l0, vI l1, vI l2, vU] [] M K Q := by
  refine r_iconst c215_51 ?_
  refine r_istore_n c215_52 (Nat.le_of_ble_eq_true rfl) ?_
  exact h
theorem t215_53 {d : Nat} {l0 : Nat} {l1 : Int} {l2 : Int} {l3 : Int} {M : Mem} {K : KK} {Q : RR → Mem → KK → Prop} (h : (l1 ≤ l3 → (¬ l2 = (0 : Int) → isO K.1 l0 12 = true ∧ ∃ b2 : Nat, (M l0 32) = (b2 : Int) ∧ 0 < b2 ∧ isO K.1 l0 12 = true ∧ Wm d 205 [vR l0, vR b2] M K (Bk d 215 92 95 205 [vR l0, vI l1, vI l2, vI l3] [] Q)) ∧ (¬ (¬ l2 = (0 : Int)) → isO K.1 l0 12 = true ∧ ∃ b7 : Nat, (M l0 32) = (b7 : Int) ∧ 0 < b7 ∧ isO K.1 l0 12 = true ∧ Wm d 204 [vR l0, vR b7] M K (Bk d 215 81 84 204 [vR l0, vI l1, vI l2, vI l3] [] Q))) ∧ (¬ (l1 ≤ l3) → isO K.1 l0 12 = true ∧ ∃ b12 : Nat, (M l0 32) = (b12 : Int) ∧ 0 < b12 ∧ isO K.1 l0 12 = true ∧ Wm d 198 [vR l0, vR b12] M K (Bk d 215 63 66 198 [vR l0, vI l1, vI l2, vI l3] [] Q))) : Wp (d + 1) 215 53 [vR l0, vI l1, vI l2, vI l3] [] M K Q := by
  refine r_iload_n c215_53 rfl ?_
  refine r_iload_n c215_54 rfl ?_
  refine r_icmpP (P := l1 ≤ l3) c215_55 rfl (fun hc => ?_) (fun hc => ?_)
  · replace h := h.1 hc
    refine r_iload_n c215_72 rfl ?_
    refine r_ifP (P := ¬ l2 = (0 : Int)) c215_73 rfl (fun hc => ?_) (fun hc => ?_)
    · replace h := h.1 hc
      refine r_aload_n c215_87 rfl ?_
      refine r_aload_n c215_88 rfl ?_
      obtain ⟨s1, h⟩ := h
      obtain ⟨b2, h⟩ := h
      obtain ⟨s3, h⟩ := h
      obtain ⟨s4, h⟩ := h
      refine r_getR c215_89 s1 s3 s4 ?_
      obtain ⟨s5, h⟩ := h
      exact r_call c215_92 rfl rfl (Nat.le_of_ble_eq_true rfl) (okc_r rfl rfl s5) h
    · replace h := h.2 hc
      refine r_aload_n c215_76 rfl ?_
      refine r_aload_n c215_77 rfl ?_
      obtain ⟨s6, h⟩ := h
      obtain ⟨b7, h⟩ := h
      obtain ⟨s8, h⟩ := h
      obtain ⟨s9, h⟩ := h
      refine r_getR c215_78 s6 s8 s9 ?_
      obtain ⟨s10, h⟩ := h
      exact r_call c215_81 rfl rfl (Nat.le_of_ble_eq_true rfl) (okc_r rfl rfl s10) h
  · replace h := h.2 hc
    refine r_aload_n c215_58 rfl ?_
    refine r_aload_n c215_59 rfl ?_
    obtain ⟨s11, h⟩ := h
    obtain ⟨b12, h⟩ := h
    obtain ⟨s13, h⟩ := h
    obtain ⟨s14, h⟩ := h
    refine r_getR c215_60 s11 s13 s14 ?_
    obtain ⟨s15, h⟩ := h
    exact r_call c215_63 rfl rfl (Nat.le_of_ble_eq_true rfl) (okc_r rfl rfl s15) h
theorem t215_66 {d : Nat} {l0 : Nat} {l1 : Int} {l2 : Int} {l3 : Int} {M : Mem} {K : KK} {Q : RR → Mem → KK → Prop} (h : Wp d 215 53 [vR l0, vI l1, vI l2, vI (w32 (l3 + 1))] [] M K Q) : Wp d 215 66 [vR l0, vI l1, vI l2, vI l3] [] M K Q := by
  refine r_iinc c215_66 rfl ?_
  refine r_goto c215_69 ?_
  exact h
theorem t215_84 {d : Nat} {l0 : Nat} {l1 : Int} {l2 : Int} {l3 : Int} {t0 : Int} {M : Mem} {K : KK} {Q : RR → Mem → KK → Prop} (h : Wp d 215 95 [vR l0, vI l1, vI l2, vI l3] [vI t0] M K Q) : Wp d 215 84 [vR l0, vI l1, vI l2, vI l3] [vI t0] M K Q := by
  refine r_goto c215_84 ?_
  exact h
theorem t215_95 {d : Nat} {l0 : Nat} {l1 : Int} {l2 : Int} {l3 : Int} {t0 : Int} {M : Mem} {K : KK} {Q : RR → Mem → KK → Prop} (h : Q (.inl (some (vI t0))) M K) : Wp d 215 95 [vR l0, vI l1, vI l2, vI l3] [vI t0] M K Q := by
  exact r_iret c215_95 (Or.inl rfl) h
theorem t216_0 {d : Nat} {l0 : Nat} {l1 : Int} {M : Mem} {K : KK} {Q : RR → Mem → KK → Prop} (h : isO K.1 l0 12 = true ∧ isO K.1 l0 12 = true ∧ Wm d 208 [vR l0, vI l1] (mset M l0 0 (0 : Int)) K (Bk d 216 8 11 208 [vR l0, vI l1, vU] [vR l0] Q)) : Wp (d + 1) 216 0 [vR l0, vI l1, vU] [] M K Q := by
  refine r_aload_n c216_0 rfl ?_
  refine r_iconst c216_1 ?_
  obtain ⟨s1, h⟩ := h
  refine r_putI c216_2 s1 ?_
  refine r_aload_n c216_5 rfl ?_
  refine r_aload_n c216_6 rfl ?_
  refine r_iload_n c216_7 rfl ?_
  obtain ⟨s2, h⟩ := h
  exact r_call c216_8 rfl rfl (Nat.le_of_ble_eq_true rfl) (okc_r rfl rfl s2) h
theorem t216_11 {d : Nat} {l0 : Nat} {l1 : Int} {t0 : Nat} {t1 : Int} {M : Mem} {K : KK} {Q : RR → Mem → KK → Prop} (h : (¬ t1 = (0 : Int) → Wp d 216 19 [vR l0, vI l1, vU] [vI (0 : Int), vR t0] M K Q) ∧ (¬ (¬ t1 = (0 : Int)) → Wp d 216 19 [vR l0, vI l1, vU] [vI (1 : Int), vR t0] M K Q)) : Wp d 216 11 [vR l0, vI l1, vU] [vI t1, vR t0] M K Q := by
  refine r_ifP (P := ¬ t1 = (0 : Int)) c216_11 rfl (fun hc => ?_) (fun hc => ?_)
  · replace h := h.1 hc
    refine r_iconst c216_18 ?_
    exact h
  · replace h := h.2 hc
    refine r_iconst c216_14 ?_
    refine r_goto c216_15 ?_
    exact h
theorem t216_19 {d : Nat} {l0 : Nat} {l1 : Int} {t0 : Nat} {t1 : Int} {M : Mem} {K : KK} {Q : RR → Mem → KK → Prop} (h : isO K.1 t0 12 = true ∧ Wm d 152 [vR t0, vI t1, vI (1 : Int), vI (0 : Int)] M K (Bk d 216 21 24 152 [vR l0, vI l1, vU] [] Q)) : Wp (d + 1) 216 19 [vR l0, vI l1, vU] [vI t1, vR t0] M K Q := by
  refine r_iconst c216_19 ?_
  refine r_iconst c216_20 ?_
  obtain ⟨s1, h⟩ := h
  exact r_call c216_21 rfl rfl (Nat.le_of_ble_eq_true rfl) (okc_r rfl rfl s1) h
theorem t216_24 {d : Nat} {l0 : Nat} {l1 : Int} {t0 : Int} {M : Mem} {K : KK} {Q : RR → Mem → KK → Prop} (h : (t0 = (0 : Int) → isO K.1 l0 12 = true ∧ ∃ b2 : Nat, (M l0 31) = (b2 : Int) ∧ 0 < b2 ∧ isO K.1 l0 12 = true ∧ ∃ b6 : Nat, (M l0 32) = (b6 : Int) ∧ 0 < b6 ∧ Wm d 178 [vR b2, vR b6] M K (Bk d 216 37 40 178 [vR l0, vI l1, vU] [] Q)) ∧ (¬ (t0 = (0 : Int)) → Q (.inl (some (vI (0 : Int)))) M K)) : Wp (d + 1) 216 24 [vR l0, vI l1, vU] [vI t0] M K Q := by
  refine r_ifP (P := t0 = (0 : Int)) c216_24 rfl (fun hc => ?_) (fun hc => ?_)
  · replace h := h.1 hc
    refine r_aload_n c216_29 rfl ?_
    obtain ⟨s1, h⟩ := h
    obtain ⟨b2, h⟩ := h
    obtain ⟨s3, h⟩ := h
    obtain ⟨s4, h⟩ := h
    refine r_getR c216_30 s1 s3 s4 ?_
    refine r_aload_n c216_33 rfl ?_
    obtain ⟨s5, h⟩ := h
    obtain ⟨b6, h⟩ := h
    obtain ⟨s7, h⟩ := h
    obtain ⟨s8, h⟩ := h
    refine r_getR c216_34 s5 s7 s8 ?_
    exact r_call c216_37 rfl rfl (Nat.le_of_ble_eq_true rfl) (okc_s rfl rfl rfl) h
  · replace h := h.2 hc
    refine r_iconst c216_27 ?_
    exact r_iret c216_28 (Or.inl rfl) h
theorem t216_40 {d : Nat} {l0 : Nat} {l1 : Int} {M : Mem} {K : KK} {Q : RR → Mem → KK → Prop} (h : Wp d 216 42 [vR l0, vI l1, vI (0 : Int)] [] M K Q) : Wp d 216 40 [vR l0, vI l1, vU] [] M K Q := by
  refine r_iconst c216_40 ?_
  refine r_istore_n c216_41 (Nat.le_of_ble_eq_true rfl) ?_
  exact h
theorem t216_42 {d : Nat} {l0 : Nat} {l1 : Int} {l2 : Int} {M : Mem} {K : KK} {Q : RR → Mem → KK → Prop} (h : ((200 : Int) < l2 → Q (.inl (some (vI (-1 : Int)))) M K) ∧ (¬ ((200 : Int) < l2) → isO K.1 l0 12 = true ∧ ∃ b2 : Nat, (M l0 32) = (b2 : Int) ∧ 0 < b2 ∧ isO K.1 b2 20 = true ∧ (0 ≤ (w32 ((6 : Int) + l1)) ∧ (w32 ((6 : Int) + l1)) < (ln b2 : Int)) ∧ (¬ (M b2 (Int.toNat (w32 ((6 : Int) + l1)))) = (0 : Int) → isO K.1 l0 12 = true ∧ ∃ b8 : Nat, (M l0 32) = (b8 : Int) ∧ 0 < b8 ∧ isO K.1 l0 12 = true ∧ Wm d 198 [vR l0, vR b8] M K (Bk d 216 68 71 198 [vR l0, vI l1, vI l2] [] Q)) ∧ (¬ (¬ (M b2 (Int.toNat (w32 ((6 : Int) + l1)))) = (0 : Int)) → Q (.inl (some (vI l2))) M K))) : Wp (d + 1) 216 42 [vR l0, vI l1, vI l2] [] M K Q := by
  refine r_iload_n c216_42 rfl ?_
  refine r_sipush c216_43 ?_
  refine r_icmpP (P := (200 : Int) < l2) c216_46 rfl (fun hc => ?_) (fun hc => ?_)
  · replace h := h.1 hc
    refine r_iconst c216_77 ?_
    exact r_iret c216_78 (Or.inl rfl) h
  · replace h := h.2 hc
    refine r_aload_n c216_49 rfl ?_
    obtain ⟨s1, h⟩ := h
    obtain ⟨b2, h⟩ := h
    obtain ⟨s3, h⟩ := h
    obtain ⟨s4, h⟩ := h
    refine r_getR c216_50 s1 s3 s4 ?_
    refine r_bipush c216_53 ?_
    refine r_iload_n c216_55 rfl ?_
    refine r_iadd c216_56 ?_
    obtain ⟨s5, h⟩ := h
    obtain ⟨s6, h⟩ := h
    refine r_ia c216_57 s5 s6 ?_
    refine r_ifP (P := ¬ (M b2 (Int.toNat (w32 ((6 : Int) + l1)))) = (0 : Int)) c216_58 rfl (fun hc => ?_) (fun hc => ?_)
    · replace h := h.1 hc
      refine r_aload_n c216_63 rfl ?_
      refine r_aload_n c216_64 rfl ?_
      obtain ⟨s7, h⟩ := h
      obtain ⟨b8, h⟩ := h
      obtain ⟨s9, h⟩ := h
      obtain ⟨s10, h⟩ := h
      refine r_getR c216_65 s7 s9 s10 ?_
      obtain ⟨s11, h⟩ := h
      exact r_call c216_68 rfl rfl (Nat.le_of_ble_eq_true rfl) (okc_r rfl rfl s11) h
    · replace h := h.2 hc
      refine r_iload_n c216_61 rfl ?_
      exact r_iret c216_62 (Or.inl rfl) h
theorem t216_71 {d : Nat} {l0 : Nat} {l1 : Int} {l2 : Int} {M : Mem} {K : KK} {Q : RR → Mem → KK → Prop} (h : Wp d 216 42 [vR l0, vI l1, vI (w32 (l2 + 1))] [] M K Q) : Wp d 216 71 [vR l0, vI l1, vI l2] [] M K Q := by
  refine r_iinc c216_71 rfl ?_
  refine r_goto c216_74 ?_
  exact h
theorem t217_0 {d : Nat} {l0 : Nat} {l1 : Int} {l2 : Int} {M : Mem} {K : KK} {Q : RR → Mem → KK → Prop} (h : isO K.1 l0 12 = true ∧ ∃ b2 : Nat, (M l0 31) = (b2 : Int) ∧ 0 < b2 ∧ isO K.1 b2 20 = true ∧ (0 ≤ (w32 ((6 : Int) + l1)) ∧ (w32 ((6 : Int) + l1)) < (ln b2 : Int)) ∧ isO K.1 l0 12 = true ∧ ∃ b8 : Nat, (M l0 31) = (b8 : Int) ∧ 0 < b8 ∧ isO K.1 b8 20 = true ∧ (0 ≤ (w32 ((6 : Int) + l1)) ∧ (w32 ((6 : Int) + l1)) < (ln b8 : Int)) ∧ isO K.1 l0 12 = true ∧ ∃ b14 : Nat, (M l0 31) = (b14 : Int) ∧ 0 < b14 ∧ isO K.1 l0 12 = true ∧ Wm d 193 [vR l0, vR b14] M K (Bk d 217 26 29 193 [vR l0, vI l1, vI l2] [vI (M b8 (Int.toNat (w32 ((6 : Int) + l1)))), vI l2, vI l1, vR l0, vI (M b2 (Int.toNat (w32 ((6 : Int) + l1))))] Q)) : Wp (d + 1) 217 0 [vR l0, vI l1, vI l2] [] M K Q := by
  refine r_aload_n c217_0 rfl ?_
  obtain ⟨s1, h⟩ := h
  obtain ⟨b2, h⟩ := h
  obtain ⟨s3, h⟩ := h
  obtain ⟨s4, h⟩ := h
  refine r_getR c217_1 s1 s3 s4 ?_
  refine r_bipush c217_4 ?_
  refine r_iload_n c217_6 rfl ?_
  refine r_iadd c217_7 ?_
  obtain ⟨s5, h⟩ := h
  obtain ⟨s6, h⟩ := h
  refine r_ia c217_8 s5 s6 ?_
  refine r_aload_n c217_9 rfl ?_
  refine r_iload_n c217_10 rfl ?_
  refine r_iload_n c217_11 rfl ?_
  refine r_aload_n c217_12 rfl ?_
  obtain ⟨s7, h⟩ := h
  obtain ⟨b8, h⟩ := h
  obtain ⟨s9, h⟩ := h
  obtain ⟨s10, h⟩ := h
  refine r_getR c217_13 s7 s9 s10 ?_
  refine r_bipush c217_16 ?_
  refine r_iload_n c217_18 rfl ?_
  refine r_iadd c217_19 ?_
  obtain ⟨s11, h⟩ := h
  obtain ⟨s12, h⟩ := h
  refine r_ia c217_20 s11 s12 ?_
  refine r_aload_n c217_21 rfl ?_
  refine r_aload_n c217_22 rfl ?_
  obtain ⟨s13, h⟩ := h
  obtain ⟨b14, h⟩ := h
  obtain ⟨s15, h⟩ := h
  obtain ⟨s16, h⟩ := h
  refine r_getR c217_23 s13 s15 s16 ?_
  obtain ⟨s17, h⟩ := h
  exact r_call c217_26 rfl rfl (Nat.le_of_ble_eq_true rfl) (okc_r rfl rfl s17) h
theorem t217_29 {d : Nat} {l0 : Nat} {l1 : Int} {l2 : Int} {t0 : Int} {t1 : Nat} {t2 : Int} {t3 : Int} {t4 : Int} {t5 : Int} {M : Mem} {K : KK} {Q : RR → Mem → KK → Prop} (h : isO K.1 l0 12 = true ∧ ∃ b2 : Nat, (M l0 31) = (b2 : Int) ∧ 0 < b2 ∧ isO K.1 b2 20 = true ∧ (0 ≤ (24 : Int) ∧ (24 : Int) < (ln b2 : Int)) ∧ isO K.1 t1 12 = true ∧ Wm d 194 [vR t1, vI t2, vI t3, vI t4, vI t5, vI (0 : Int), vI (0 : Int), vI (M b2 (Int.toNat (24 : Int)))] M K (Bk d 217 38 41 194 [vR l0, vI l1, vI l2] [vI t0] Q)) : Wp (d + 1) 217 29 [vR l0, vI l1, vI l2] [vI t5, vI t4, vI t3, vI t2, vR t1, vI t0] M K Q := by
  refine r_iconst c217_29 ?_
  refine r_iconst c217_30 ?_
  refine r_aload_n c217_31 rfl ?_
  obtain ⟨s1, h⟩ := h
  obtain ⟨b2, h⟩ := h
  obtain ⟨s3, h⟩ := h
  obtain ⟨s4, h⟩ := h
  refine r_getR c217_32 s1 s3 s4 ?_
  refine r_bipush c217_35 ?_
  obtain ⟨s5, h⟩ := h
  obtain ⟨s6, h⟩ := h
  refine r_ia c217_37 s5 s6 ?_
  obtain ⟨s7, h⟩ := h
  exact r_call c217_38 rfl rfl (Nat.le_of_ble_eq_true rfl) (okc_r rfl rfl s7) h
theorem t217_41 {d : Nat} {l0 : Nat} {l1 : Int} {l2 : Int} {t0 : Int} {t1 : Int} {M : Mem} {K : KK} {Q : RR → Mem → KK → Prop} (h : Wm d 154 [vI t0, vI t1] M K (Bk d 217 41 44 154 [vR l0, vI l1, vI l2] [] Q)) : Wp (d + 1) 217 41 [vR l0, vI l1, vI l2] [vI t1, vI t0] M K Q := by
  exact r_call c217_41 rfl rfl (Nat.le_of_ble_eq_true rfl) (okc_s rfl rfl rfl) h
theorem t217_44 {d : Nat} {l0 : Nat} {l1 : Int} {l2 : Int} {t0 : Int} {M : Mem} {K : KK} {Q : RR → Mem → KK → Prop} (h : Q (.inl (some (vI t0))) M K) : Wp d 217 44 [vR l0, vI l1, vI l2] [vI t0] M K Q := by
  exact r_iret c217_44 (Or.inl rfl) h
theorem t218_0 {d : Nat} {l0 : Nat} {l1 : Int} {l2 : Int} {l3 : Int} {l4 : Int} {M : Mem} {K : KK} {Q : RR → Mem → KK → Prop} (h : isO K.1 l0 12 = true ∧ ∃ b2 : Nat, (M l0 44) = (b2 : Int) ∧ 0 < b2 ∧ isO K.1 b2 20 = true ∧ (0 ≤ l2 ∧ l2 < (ln b2 : Int)) ∧ isO K.1 l0 12 = true ∧ ((M l0 45) < (w32 (l4 + (M b2 (Int.toNat l2)))) → isO K.1 l0 12 = true ∧ ∃ b9 : Nat, (M l0 12) = (b9 : Int) ∧ 0 < b9 ∧ isO K.1 b9 20 = true ∧ (0 ≤ (1 : Int) ∧ (1 : Int) < (ln b9 : Int)) ∧ (¬ l2 = (M b9 (Int.toNat (1 : Int))) → Wp d 218 66 [vR l0, vI l1, vI l2, vI l3, vI l4, vI (0 : Int), vU] [] M K Q) ∧ (¬ (¬ l2 = (M b9 (Int.toNat (1 : Int)))) → isO K.1 l0 12 = true ∧ Wp d 218 36 [vR l0, vI l1, vI l2, vI l3, vI l4, vI (0 : Int), vU] [] (mset M l0 45 l4) K Q)) ∧ (¬ ((M l0 45) < (w32 (l4 + (M b2 (Int.toNat l2))))) → Q (.inl none) M K)) : Wp d 218 0 [vR l0, vI l1, vI l2, vI l3, vI l4, vU, vU] [] M K Q := by
  refine r_iload c218_0 rfl ?_
  refine r_aload_n c218_2 rfl ?_
  obtain ⟨s1, h⟩ := h
  obtain ⟨b2, h⟩ := h
  obtain ⟨s3, h⟩ := h
  obtain ⟨s4, h⟩ := h
  refine r_getR c218_3 s1 s3 s4 ?_
  refine r_iload_n c218_6 rfl ?_
  obtain ⟨s5, h⟩ := h
  obtain ⟨s6, h⟩ := h
  refine r_ia c218_7 s5 s6 ?_
  refine r_iadd c218_8 ?_
  refine r_aload_n c218_9 rfl ?_
  obtain ⟨s7, h⟩ := h
  refine r_getI c218_10 s7 ?_
  refine r_icmpP (P := (M l0 45) < (w32 (l4 + (M b2 (Int.toNat l2))))) c218_13 rfl (fun hc => ?_) (fun hc => ?_)
  · replace h := h.1 hc
    refine r_iload_n c218_17 rfl ?_
    refine r_aload_n c218_18 rfl ?_
    obtain ⟨s8, h⟩ := h
    obtain ⟨b9, h⟩ := h
    obtain ⟨s10, h⟩ := h
    obtain ⟨s11, h⟩ := h
    refine r_getR c218_19 s8 s10 s11 ?_
    refine r_iconst c218_22 ?_
    obtain ⟨s12, h⟩ := h
    obtain ⟨s13, h⟩ := h
    refine r_ia c218_23 s12 s13 ?_
    refine r_icmpP (P := ¬ l2 = (M b9 (Int.toNat (1 : Int)))) c218_24 rfl (fun hc => ?_) (fun hc => ?_)
    · replace h := h.1 hc
      refine r_iconst c218_63 ?_
      refine r_istore c218_64 (Nat.le_of_ble_eq_true rfl) ?_
      exact h
    · replace h := h.2 hc
      refine r_aload_n c218_27 rfl ?_
      refine r_iload c218_28 rfl ?_
      obtain ⟨s14, h⟩ := h
      refine r_putI c218_30 s14 ?_
      refine r_iconst c218_33 ?_
      refine r_istore c218_34 (Nat.le_of_ble_eq_true rfl) ?_
      exact h
  · replace h := h.2 hc
    exact r_ret c218_16 h
theorem t218_36 {d : Nat} {l0 : Nat} {l1 : Int} {l2 : Int} {l3 : Int} {l4 : Int} {l5 : Int} {M : Mem} {K : KK} {Q : RR → Mem → KK → Prop} (h : (l2 ≤ l5 → Q (.inl none) M K) ∧ (¬ (l2 ≤ l5) → isO K.1 l0 12 = true ∧ ∃ b2 : Nat, (M l0 43) = (b2 : Int) ∧ 0 < b2 ∧ isO K.1 l0 12 = true ∧ ∃ b6 : Nat, (M l0 42) = (b6 : Int) ∧ 0 < b6 ∧ isO K.1 b6 20 = true ∧ (0 ≤ l5 ∧ l5 < (ln b6 : Int)) ∧ isO K.1 b2 20 = true ∧ (0 ≤ l5 ∧ l5 < (ln b2 : Int)) ∧ Wp d 218 36 [vR l0, vI l1, vI l2, vI l3, vI l4, vI (w32 (l5 + 1)), vU] [] (mset M b2 (Int.toNat l5) (M b6 (Int.toNat l5))) K Q)) : Wp d 218 36 [vR l0, vI l1, vI l2, vI l3, vI l4, vI l5, vU] [] M K Q := by
  refine r_iload c218_36 rfl ?_
  refine r_iload_n c218_38 rfl ?_
  refine r_icmpP (P := l2 ≤ l5) c218_39 rfl (fun hc => ?_) (fun hc => ?_)
  · replace h := h.1 hc
    exact r_ret c218_62 h
  · replace h := h.2 hc
    refine r_aload_n c218_42 rfl ?_
    obtain ⟨s1, h⟩ := h
    obtain ⟨b2, h⟩ := h
    obtain ⟨s3, h⟩ := h
    obtain ⟨s4, h⟩ := h
    refine r_getR c218_43 s1 s3 s4 ?_
    refine r_iload c218_46 rfl ?_
    refine r_aload_n c218_48 rfl ?_
    obtain ⟨s5, h⟩ := h
    obtain ⟨b6, h⟩ := h
    obtain ⟨s7, h⟩ := h
    obtain ⟨s8, h⟩ := h
    refine r_getR c218_49 s5 s7 s8 ?_
    refine r_iload c218_52 rfl ?_
    obtain ⟨s9, h⟩ := h
    obtain ⟨s10, h⟩ := h
    refine r_ia c218_54 s9 s10 ?_
    obtain ⟨s11, h⟩ := h
    obtain ⟨s12, h⟩ := h
    refine r_ias c218_55 s11 s12 ?_
    refine r_iinc c218_56 rfl ?_
    refine r_goto c218_59 ?_
    exact h
theorem t218_66 {d : Nat} {l0 : Nat} {l1 : Int} {l2 : Int} {l3 : Int} {l4 : Int} {l5 : Int} {l6 : PV} {M : Mem} {K : KK} {Q : RR → Mem → KK → Prop} (h : isO K.1 l0 12 = true ∧ ∃ b2 : Nat, (M l0 20) = (b2 : Int) ∧ 0 < b2 ∧ (Nat.ble 30 (tg b2) = true ∧ isO K.1 b2 (tg b2) = true) ∧ (0 ≤ l2 ∧ l2 < (ln b2 : Int)) ∧ ∃ b7 : Nat, (M b2 (Int.toNat l2)) = (b7 : Int) ∧ 0 < b7 ∧ isO K.1 b7 20 = true ∧ (0 ≤ (0 : Int) ∧ (0 : Int) < (ln b7 : Int)) ∧ isO K.1 l0 12 = true ∧ ∃ b13 : Nat, (M l0 12) = (b13 : Int) ∧ 0 < b13 ∧ isO K.1 b13 20 = true ∧ (0 ≤ (0 : Int) ∧ (0 : Int) < (ln b13 : Int)) ∧ ((M b13 (Int.toNat (0 : Int))) < (w32 (l5 + (M b7 (Int.toNat (0 : Int))))) → Wp (d + 1) 218 157 [vR l0, vI l1, vI l2, vI l3, vI l4, vI l5, l6] [] M K Q) ∧ (¬ ((M b13 (Int.toNat (0 : Int))) < (w32 (l5 + (M b7 (Int.toNat (0 : Int)))))) → Wm d 156 [vI l1, vI l2] M K (Bk d 218 88 91 156 [vR l0, vI l1, vI l2, vI l3, vI l4, vI l5, l6] [] Q))) : Wp (d + 1) 218 66 [vR l0, vI l1, vI l2, vI l3, vI l4, vI l5, l6] [] M K Q := by
  refine r_iload c218_66 rfl ?_
  refine r_aload_n c218_68 rfl ?_
  obtain ⟨s1, h⟩ := h
  obtain ⟨b2, h⟩ := h
  obtain ⟨s3, h⟩ := h
  obtain ⟨s4, h⟩ := h
  refine r_getR c218_69 s1 s3 s4 ?_
  refine r_iload_n c218_72 rfl ?_
  obtain ⟨s5, h⟩ := h
  obtain ⟨s6, h⟩ := h
  obtain ⟨b7, h⟩ := h
  obtain ⟨s8, h⟩ := h
  obtain ⟨s9, h⟩ := h
  refine r_aa c218_73 s5 s6 s8 s9 ?_
  refine r_iconst c218_74 ?_
  obtain ⟨s10, h⟩ := h
  obtain ⟨s11, h⟩ := h
  refine r_ia c218_75 s10 s11 ?_
  refine r_iadd c218_76 ?_
  refine r_aload_n c218_77 rfl ?_
  obtain ⟨s12, h⟩ := h
  obtain ⟨b13, h⟩ := h
  obtain ⟨s14, h⟩ := h
  obtain ⟨s15, h⟩ := h
  refine r_getR c218_78 s12 s14 s15 ?_
  refine r_iconst c218_81 ?_
  obtain ⟨s16, h⟩ := h
  obtain ⟨s17, h⟩ := h
  refine r_ia c218_82 s16 s17 ?_
  refine r_icmpP (P := (M b13 (Int.toNat (0 : Int))) < (w32 (l5 + (M b7 (Int.toNat (0 : Int)))))) c218_83 rfl (fun hc => ?_) (fun hc => ?_)
  · replace h := h.1 hc
    exact h
  · replace h := h.2 hc
    refine r_iload_n c218_86 rfl ?_
    refine r_iload_n c218_87 rfl ?_
    exact r_call c218_88 rfl rfl (Nat.le_of_ble_eq_true rfl) (okc_s rfl rfl rfl) h
theorem t218_91 {d : Nat} {l0 : Nat} {l1 : Int} {l2 : Int} {l3 : Int} {l4 : Int} {l5 : Int} {l6 : PV} {t0 : Int} {M : Mem} {K : KK} {Q : RR → Mem → KK → Prop} (h : (t0 = (0 : Int) → Wp (d + 1) 218 157 [vR l0, vI l1, vI l2, vI l3, vI l4, vI l5, l6] [] M K Q) ∧ (¬ (t0 = (0 : Int)) → isO K.1 l0 12 = true ∧ ∃ b2 : Nat, (M l0 20) = (b2 : Int) ∧ 0 < b2 ∧ (Nat.ble 30 (tg b2) = true ∧ isO K.1 b2 (tg b2) = true) ∧ (0 ≤ l2 ∧ l2 < (ln b2 : Int)) ∧ ∃ b7 : Nat, (M b2 (Int.toNat l2)) = (b7 : Int) ∧ 0 < b7 ∧ isO K.1 b7 20 = true ∧ (0 ≤ (0 : Int) ∧ (0 : Int) < (ln b7 : Int)) ∧ ((jand l3 (jshl (w32 ((jshl (1 : Int) (M b7 (Int.toNat (0 : Int)))) - (1 : Int))) l5)) = (0 : Int) → isO K.1 l0 12 = true ∧ ∃ b13 : Nat, (M l0 42) = (b13 : Int) ∧ 0 < b13 ∧ isO K.1 b13 20 = true ∧ (0 ≤ l2 ∧ l2 < (ln b13 : Int)) ∧ isO K.1 l0 12 = true ∧ Wm d 217 [vR l0, vI l2, vI l5] (mset M b13 (Int.toNat l2) l5) K (Bk d 218 144 147 217 [vR l0, vI l1, vI l2, vI l3, vI l4, vI l5, vI (jshl (w32 ((jshl (1 : Int) (M b7 (Int.toNat (0 : Int)))) - (1 : Int))) l5)] [vI l4, vI (jor l3 (jshl (w32 ((jshl (1 : Int) (M b7 (Int.toNat (0 : Int)))) - (1 : Int))) l5)), vI (w32 (l2 + (1 : Int))), vI l1, vR l0] Q)) ∧ (¬ ((jand l3 (jshl (w32 ((jshl (1 : Int) (M b7 (Int.toNat (0 : Int)))) - (1 : Int))) l5)) = (0 : Int)) → Wp (d + 1) 218 151 [vR l0, vI l1, vI l2, vI l3, vI l4, vI l5, vI (jshl (w32 ((jshl (1 : Int) (M b7 (Int.toNat (0 : Int)))) - (1 : Int))) l5)] [] M K Q))) : Wp (d + 1) 218 91 [vR l0, vI l1, vI l2, vI l3, vI l4, vI l5, l6] [vI t0] M K Q := by
  refine r_ifP (P := t0 = (0 : Int)) c218_91 rfl (fun hc => ?_) (fun hc => ?_)
  · replace h := h.1 hc
    exact h
  · replace h := h.2 hc
    refine r_iconst c218_94 ?_
    refine r_aload_n c218_95 rfl ?_
    obtain ⟨s1, h⟩ := h
    obtain ⟨b2, h⟩ := h
    obtain ⟨s3, h⟩ := h
    obtain ⟨s4, h⟩ := h
    refine r_getR c218_96 s1 s3 s4 ?_
    refine r_iload_n c218_99 rfl ?_
    obtain ⟨s5, h⟩ := h
    obtain ⟨s6, h⟩ := h
    obtain ⟨b7, h⟩ := h
    obtain ⟨s8, h⟩ := h
    obtain ⟨s9, h⟩ := h
    refine r_aa c218_100 s5 s6 s8 s9 ?_
    refine r_iconst c218_101 ?_
    obtain ⟨s10, h⟩ := h
    obtain ⟨s11, h⟩ := h
    refine r_ia c218_102 s10 s11 ?_
    refine r_ishl c218_103 ?_
    refine r_iconst c218_104 ?_
    refine r_isub c218_105 ?_
    refine r_iload c218_106 rfl ?_
    refine r_ishl c218_108 ?_
    refine r_istore c218_109 (Nat.le_of_ble_eq_true rfl) ?_
    refine r_iload_n c218_111 rfl ?_
    refine r_iload c218_112 rfl ?_
    refine r_iand c218_114 ?_
    refine r_ifP (P := (jand l3 (jshl (w32 ((jshl (1 : Int) (M b7 (Int.toNat (0 : Int)))) - (1 : Int))) l5)) = (0 : Int)) c218_115 rfl (fun hc => ?_) (fun hc => ?_)
    · replace h := h.1 hc
      refine r_aload_n c218_121 rfl ?_
      obtain ⟨s12, h⟩ := h
      obtain ⟨b13, h⟩ := h
      obtain ⟨s14, h⟩ := h
      obtain ⟨s15, h⟩ := h
      refine r_getR c218_122 s12 s14 s15 ?_
      refine r_iload_n c218_125 rfl ?_
      refine r_iload c218_126 rfl ?_
      obtain ⟨s16, h⟩ := h
      obtain ⟨s17, h⟩ := h
      refine r_ias c218_128 s16 s17 ?_
      refine r_aload_n c218_129 rfl ?_
      refine r_iload_n c218_130 rfl ?_
      refine r_iload_n c218_131 rfl ?_
      refine r_iconst c218_132 ?_
      refine r_iadd c218_133 ?_
      refine r_iload_n c218_134 rfl ?_
      refine r_iload c218_135 rfl ?_
      refine r_ior c218_137 ?_
      refine r_iload c218_138 rfl ?_
      refine r_aload_n c218_140 rfl ?_
      refine r_iload_n c218_141 rfl ?_
      refine r_iload c218_142 rfl ?_
      obtain ⟨s18, h⟩ := h
      exact r_call c218_144 rfl rfl (Nat.le_of_ble_eq_true rfl) (okc_r rfl rfl s18) h
    · replace h := h.2 hc
      refine r_goto c218_118 ?_
      exact h
theorem t218_147 {d : Nat} {l0 : Nat} {l1 : Int} {l2 : Int} {l3 : Int} {l4 : Int} {l5 : Int} {l6 : Int} {t0 : Nat} {t1 : Int} {t2 : Int} {t3 : Int} {t4 : Int} {t5 : Int} {M : Mem} {K : KK} {Q : RR → Mem → KK → Prop} (h : isO K.1 t0 12 = true ∧ Wm d 218 [vR t0, vI t1, vI t2, vI t3, vI (w32 (t4 + t5))] M K (Bk d 218 148 151 218 [vR l0, vI l1, vI l2, vI l3, vI l4, vI l5, vI l6] [] Q)) : Wp (d + 1) 218 147 [vR l0, vI l1, vI l2, vI l3, vI l4, vI l5, vI l6] [vI t5, vI t4, vI t3, vI t2, vI t1, vR t0] M K Q := by
  refine r_iadd c218_147 ?_
  obtain ⟨s1, h⟩ := h
  exact r_call c218_148 rfl rfl (Nat.le_of_ble_eq_true rfl) (okc_r rfl rfl s1) h
theorem t218_151 {d : Nat} {l0 : Nat} {l1 : Int} {l2 : Int} {l3 : Int} {l4 : Int} {l5 : Int} {l6 : Int} {M : Mem} {K : KK} {Q : RR → Mem → KK → Prop} (h : Wp d 218 66 [vR l0, vI l1, vI l2, vI l3, vI l4, vI (w32 (l5 + 1)), vI l6] [] M K Q) : Wp d 218 151 [vR l0, vI l1, vI l2, vI l3, vI l4, vI l5, vI l6] [] M K Q := by
  refine r_iinc c218_151 rfl ?_
  refine r_goto c218_154 ?_
  exact h
theorem t218_157 {d : Nat} {l0 : Nat} {l1 : Int} {l2 : Int} {l3 : Int} {l4 : Int} {l5 : Int} {l6 : PV} {M : Mem} {K : KK} {Q : RR → Mem → KK → Prop} (h : isO K.1 l0 12 = true ∧ ∃ b2 : Nat, (M l0 42) = (b2 : Int) ∧ 0 < b2 ∧ isO K.1 b2 20 = true ∧ (0 ≤ l2 ∧ l2 < (ln b2 : Int)) ∧ isO K.1 l0 12 = true ∧ Wm d 218 [vR l0, vI l1, vI (w32 (l2 + (1 : Int))), vI l3, vI l4] (mset M b2 (Int.toNat l2) (-1 : Int)) K (Bk d 218 172 175 218 [vR l0, vI l1, vI l2, vI l3, vI l4, vI l5, l6] [] Q)) : Wp (d + 1) 218 157 [vR l0, vI l1, vI l2, vI l3, vI l4, vI l5, l6] [] M K Q := by
  refine r_aload_n c218_157 rfl ?_
  obtain ⟨s1, h⟩ := h
  obtain ⟨b2, h⟩ := h
  obtain ⟨s3, h⟩ := h
  obtain ⟨s4, h⟩ := h
  refine r_getR c218_158 s1 s3 s4 ?_
  refine r_iload_n c218_161 rfl ?_
  refine r_iconst c218_162 ?_
  obtain ⟨s5, h⟩ := h
  obtain ⟨s6, h⟩ := h
  refine r_ias c218_163 s5 s6 ?_
  refine r_aload_n c218_164 rfl ?_
  refine r_iload_n c218_165 rfl ?_
  refine r_iload_n c218_166 rfl ?_
  refine r_iconst c218_167 ?_
  refine r_iadd c218_168 ?_
  refine r_iload_n c218_169 rfl ?_
  refine r_iload c218_170 rfl ?_
  obtain ⟨s7, h⟩ := h
  exact r_call c218_172 rfl rfl (Nat.le_of_ble_eq_true rfl) (okc_r rfl rfl s7) h
theorem t218_175 {d : Nat} {l0 : Nat} {l1 : Int} {l2 : Int} {l3 : Int} {l4 : Int} {l5 : Int} {l6 : PV} {M : Mem} {K : KK} {Q : RR → Mem → KK → Prop} (h : Q (.inl none) M K) : Wp d 218 175 [vR l0, vI l1, vI l2, vI l3, vI l4, vI l5, l6] [] M K Q := by
  exact r_ret c218_175 h
theorem t219_0 {d : Nat} {l0 : Nat} {l1 : Int} {M : Mem} {K : KK} {Q : RR → Mem → KK → Prop} (h : isO K.1 l0 12 = true ∧ isO K.1 l0 12 = true ∧ ∃ b3 : Nat, ((mset M l0 45 (-1 : Int)) l0 44) = (b3 : Int) ∧ 0 < b3 ∧ isO K.1 l0 12 = true ∧ ∃ b7 : Nat, ((mset M l0 45 (-1 : Int)) l0 12) = (b7 : Int) ∧ 0 < b7 ∧ isO K.1 b7 20 = true ∧ (0 ≤ (1 : Int) ∧ (1 : Int) < (ln b7 : Int)) ∧ isO K.1 b3 20 = true ∧ (0 ≤ ((mset M l0 45 (-1 : Int)) b7 (Int.toNat (1 : Int))) ∧ ((mset M l0 45 (-1 : Int)) b7 (Int.toNat (1 : Int))) < (ln b3 : Int)) ∧ isO K.1 l0 12 = true ∧ ∃ b15 : Nat, ((mset (mset M l0 45 (-1 : Int)) b3 (Int.toNat ((mset M l0 45 (-1 : Int)) b7 (Int.toNat (1 : Int)))) (0 : Int)) l0 12) = (b15 : Int) ∧ 0 < b15 ∧ isO K.1 b15 20 = true ∧ (0 ≤ (1 : Int) ∧ (1 : Int) < (ln b15 : Int)) ∧ Wp d 219 26 [vR l0, vI l1, vI (w32 (((mset (mset M l0 45 (-1 : Int)) b3 (Int.toNat ((mset M l0 45 (-1 : Int)) b7 (Int.toNat (1 : Int)))) (0 : Int)) b15 (Int.toNat (1 : Int))) - (1 : Int))), vU, vU] [] (mset (mset M l0 45 (-1 : Int)) b3 (Int.toNat ((mset M l0 45 (-1 : Int)) b7 (Int.toNat (1 : Int)))) (0 : Int)) K Q) : Wp d 219 0 [vR l0, vI l1, vU, vU, vU] [] M K Q := by
  refine r_aload_n c219_0 rfl ?_
  refine r_iconst c219_1 ?_
  obtain ⟨s1, h⟩ := h
  refine r_putI c219_2 s1 ?_
  refine r_aload_n c219_5 rfl ?_
  obtain ⟨s2, h⟩ := h
  obtain ⟨b3, h⟩ := h
  obtain ⟨s4, h⟩ := h
  obtain ⟨s5, h⟩ := h
  refine r_getR c219_6 s2 s4 s5 ?_
  refine r_aload_n c219_9 rfl ?_
  obtain ⟨s6, h⟩ := h
  obtain ⟨b7, h⟩ := h
  obtain ⟨s8, h⟩ := h
  obtain ⟨s9, h⟩ := h
  refine r_getR c219_10 s6 s8 s9 ?_
  refine r_iconst c219_13 ?_
  obtain ⟨s10, h⟩ := h
  obtain ⟨s11, h⟩ := h
  refine r_ia c219_14 s10 s11 ?_
  refine r_iconst c219_15 ?_
  obtain ⟨s12, h⟩ := h
  obtain ⟨s13, h⟩ := h
  refine r_ias c219_16 s12 s13 ?_
  refine r_aload_n c219_17 rfl ?_
  obtain ⟨s14, h⟩ := h
  obtain ⟨b15, h⟩ := h
  obtain ⟨s16, h⟩ := h
  obtain ⟨s17, h⟩ := h
  refine r_getR c219_18 s14 s16 s17 ?_
  refine r_iconst c219_21 ?_
  obtain ⟨s18, h⟩ := h
  obtain ⟨s19, h⟩ := h
  refine r_ia c219_22 s18 s19 ?_
  refine r_iconst c219_23 ?_
  refine r_isub c219_24 ?_
  refine r_istore_n c219_25 (Nat.le_of_ble_eq_true rfl) ?_
  exact h
theorem t219_26 {d : Nat} {l0 : Nat} {l1 : Int} {l2 : Int} {l3 : PV} {l4 : PV} {M : Mem} {K : KK} {Q : RR → Mem → KK → Prop} (h : (l2 < (0 : Int) → isO K.1 l0 12 = true ∧ Wm d 218 [vR l0, vI l1, vI (0 : Int), vI (0 : Int), vI (0 : Int)] M K (Bk d 219 108 111 218 [vR l0, vI l1, vI l2, l3, l4] [] Q)) ∧ (¬ (l2 < (0 : Int)) → Wp (d + 1) 219 35 [vR l0, vI l1, vI l2, vI (0 : Int), vI (0 : Int)] [] M K Q)) : Wp (d + 1) 219 26 [vR l0, vI l1, vI l2, l3, l4] [] M K Q := by
  refine r_iload_n c219_26 rfl ?_
  refine r_ifP (P := l2 < (0 : Int)) c219_27 rfl (fun hc => ?_) (fun hc => ?_)
  · replace h := h.1 hc
    refine r_aload_n c219_103 rfl ?_
    refine r_iload_n c219_104 rfl ?_
    refine r_iconst c219_105 ?_
    refine r_iconst c219_106 ?_
    refine r_iconst c219_107 ?_
    obtain ⟨s1, h⟩ := h
    exact r_call c219_108 rfl rfl (Nat.le_of_ble_eq_true rfl) (okc_r rfl rfl s1) h
  · replace h := h.2 hc
    refine r_iconst c219_30 ?_
    refine r_istore_n c219_31 (Nat.le_of_ble_eq_true rfl) ?_
    refine r_iconst c219_32 ?_
    refine r_istore c219_33 (Nat.le_of_ble_eq_true rfl) ?_
    exact h
theorem t219_35 {d : Nat} {l0 : Nat} {l1 : Int} {l2 : Int} {l3 : Int} {l4 : Int} {M : Mem} {K : KK} {Q : RR → Mem → KK → Prop} (h : isO K.1 l0 12 = true ∧ ∃ b2 : Nat, (M l0 20) = (b2 : Int) ∧ 0 < b2 ∧ (Nat.ble 30 (tg b2) = true ∧ isO K.1 b2 (tg b2) = true) ∧ (0 ≤ l2 ∧ l2 < (ln b2 : Int)) ∧ ∃ b7 : Nat, (M b2 (Int.toNat l2)) = (b7 : Int) ∧ 0 < b7 ∧ isO K.1 b7 20 = true ∧ (0 ≤ (0 : Int) ∧ (0 : Int) < (ln b7 : Int)) ∧ isO K.1 l0 12 = true ∧ ∃ b13 : Nat, (M l0 12) = (b13 : Int) ∧ 0 < b13 ∧ isO K.1 b13 20 = true ∧ (0 ≤ (0 : Int) ∧ (0 : Int) < (ln b13 : Int)) ∧ ((M b13 (Int.toNat (0 : Int))) < (w32 (l4 + (M b7 (Int.toNat (0 : Int))))) → Wp (d + 1) 219 81 [vR l0, vI l1, vI l2, vI l3, vI l4] [] M K Q) ∧ (¬ ((M b13 (Int.toNat (0 : Int))) < (w32 (l4 + (M b7 (Int.toNat (0 : Int)))))) → Wm d 156 [vI l1, vI l2] M K (Bk d 219 57 60 156 [vR l0, vI l1, vI l2, vI l3, vI l4] [] Q))) : Wp (d + 1) 219 35 [vR l0, vI l1, vI l2, vI l3, vI l4] [] M K Q := by
  refine r_iload c219_35 rfl ?_
  refine r_aload_n c219_37 rfl ?_
  obtain ⟨s1, h⟩ := h
  obtain ⟨b2, h⟩ := h
  obtain ⟨s3, h⟩ := h
  obtain ⟨s4, h⟩ := h
  refine r_getR c219_38 s1 s3 s4 ?_
  refine r_iload_n c219_41 rfl ?_
  obtain ⟨s5, h⟩ := h
  obtain ⟨s6, h⟩ := h
  obtain ⟨b7, h⟩ := h
  obtain ⟨s8, h⟩ := h
  obtain ⟨s9, h⟩ := h
  refine r_aa c219_42 s5 s6 s8 s9 ?_
  refine r_iconst c219_43 ?_
  obtain ⟨s10, h⟩ := h
  obtain ⟨s11, h⟩ := h
  refine r_ia c219_44 s10 s11 ?_
  refine r_iadd c219_45 ?_
  refine r_aload_n c219_46 rfl ?_
  obtain ⟨s12, h⟩ := h
  obtain ⟨b13, h⟩ := h
  obtain ⟨s14, h⟩ := h
  obtain ⟨s15, h⟩ := h
  refine r_getR c219_47 s12 s14 s15 ?_
  refine r_iconst c219_50 ?_
  obtain ⟨s16, h⟩ := h
  obtain ⟨s17, h⟩ := h
  refine r_ia c219_51 s16 s17 ?_
  refine r_icmpP (P := (M b13 (Int.toNat (0 : Int))) < (w32 (l4 + (M b7 (Int.toNat (0 : Int)))))) c219_52 rfl (fun hc => ?_) (fun hc => ?_)
  · replace h := h.1 hc
    exact h
  · replace h := h.2 hc
    refine r_iload_n c219_55 rfl ?_
    refine r_iload_n c219_56 rfl ?_
    exact r_call c219_57 rfl rfl (Nat.le_of_ble_eq_true rfl) (okc_s rfl rfl rfl) h
theorem t219_60 {d : Nat} {l0 : Nat} {l1 : Int} {l2 : Int} {l3 : Int} {l4 : Int} {t0 : Int} {M : Mem} {K : KK} {Q : RR → Mem → KK → Prop} (h : (t0 = (0 : Int) → Wp (d + 1) 219 81 [vR l0, vI l1, vI l2, vI l3, vI l4] [] M K Q) ∧ (¬ (t0 = (0 : Int)) → isO K.1 l0 12 = true ∧ Wm d 217 [vR l0, vI l2, vI l4] M K (Bk d 219 68 71 217 [vR l0, vI l1, vI l2, vI l3, vI l4] [vI l3] Q))) : Wp (d + 1) 219 60 [vR l0, vI l1, vI l2, vI l3, vI l4] [vI t0] M K Q := by
  refine r_ifP (P := t0 = (0 : Int)) c219_60 rfl (fun hc => ?_) (fun hc => ?_)
  · replace h := h.1 hc
    exact h
  · replace h := h.2 hc
    refine r_iload_n c219_63 rfl ?_
    refine r_aload_n c219_64 rfl ?_
    refine r_iload_n c219_65 rfl ?_
    refine r_iload c219_66 rfl ?_
    obtain ⟨s1, h⟩ := h
    exact r_call c219_68 rfl rfl (Nat.le_of_ble_eq_true rfl) (okc_r rfl rfl s1) h
theorem t219_71 {d : Nat} {l0 : Nat} {l1 : Int} {l2 : Int} {l3 : Int} {l4 : Int} {t0 : Int} {t1 : Int} {M : Mem} {K : KK} {Q : RR → Mem → KK → Prop} (h : Wm d 155 [vI t0, vI t1] M K (Bk d 219 71 74 155 [vR l0, vI l1, vI l2, vI l3, vI l4] [] Q)) : Wp (d + 1) 219 71 [vR l0, vI l1, vI l2, vI l3, vI l4] [vI t1, vI t0] M K Q := by
  exact r_call c219_71 rfl rfl (Nat.le_of_ble_eq_true rfl) (okc_s rfl rfl rfl) h
theorem t219_74 {d : Nat} {l0 : Nat} {l1 : Int} {l2 : Int} {l3 : Int} {l4 : Int} {t0 : Int} {M : Mem} {K : KK} {Q : RR → Mem → KK → Prop} (h : Wp d 219 35 [vR l0, vI l1, vI l2, vI t0, vI (w32 (l4 + 1))] [] M K Q) : Wp d 219 74 [vR l0, vI l1, vI l2, vI l3, vI l4] [vI t0] M K Q := by
  refine r_istore_n c219_74 (Nat.le_of_ble_eq_true rfl) ?_
  refine r_iinc c219_75 rfl ?_
  refine r_goto c219_78 ?_
  exact h
theorem t219_81 {d : Nat} {l0 : Nat} {l1 : Int} {l2 : Int} {l3 : Int} {l4 : Int} {M : Mem} {K : KK} {Q : RR → Mem → KK → Prop} (h : isO K.1 l0 12 = true ∧ ∃ b2 : Nat, (M l0 44) = (b2 : Int) ∧ 0 < b2 ∧ isO K.1 l0 12 = true ∧ ∃ b6 : Nat, (M l0 44) = (b6 : Int) ∧ 0 < b6 ∧ isO K.1 b6 20 = true ∧ (0 ≤ (w32 (l2 + (1 : Int))) ∧ (w32 (l2 + (1 : Int))) < (ln b6 : Int)) ∧ isO K.1 b2 20 = true ∧ (0 ≤ l2 ∧ l2 < (ln b2 : Int)) ∧ Wp d 219 26 [vR l0, vI l1, vI (w32 (l2 + (-1))), vI l3, vI l4] [] (mset M b2 (Int.toNat l2) (w32 ((M b6 (Int.toNat (w32 (l2 + (1 : Int))))) + l3))) K Q) : Wp d 219 81 [vR l0, vI l1, vI l2, vI l3, vI l4] [] M K Q := by
  refine r_aload_n c219_81 rfl ?_
  obtain ⟨s1, h⟩ := h
  obtain ⟨b2, h⟩ := h
  obtain ⟨s3, h⟩ := h
  obtain ⟨s4, h⟩ := h
  refine r_getR c219_82 s1 s3 s4 ?_
  refine r_iload_n c219_85 rfl ?_
  refine r_aload_n c219_86 rfl ?_
  obtain ⟨s5, h⟩ := h
  obtain ⟨b6, h⟩ := h
  obtain ⟨s7, h⟩ := h
  obtain ⟨s8, h⟩ := h
  refine r_getR c219_87 s5 s7 s8 ?_
  refine r_iload_n c219_90 rfl ?_
  refine r_iconst c219_91 ?_
  refine r_iadd c219_92 ?_
  obtain ⟨s9, h⟩ := h
  obtain ⟨s10, h⟩ := h
  refine r_ia c219_93 s9 s10 ?_
  refine r_iload_n c219_94 rfl ?_
  refine r_iadd c219_95 ?_
  obtain ⟨s11, h⟩ := h
  obtain ⟨s12, h⟩ := h
  refine r_ias c219_96 s11 s12 ?_
  refine r_iinc c219_97 rfl ?_
  refine r_goto c219_100 ?_
  exact h
theorem t219_111 {d : Nat} {l0 : Nat} {l1 : Int} {l2 : Int} {l3 : PV} {l4 : PV} {M : Mem} {K : KK} {Q : RR → Mem → KK → Prop} (h : Q (.inl none) M K) : Wp d 219 111 [vR l0, vI l1, vI l2, l3, l4] [] M K Q := by
  exact r_ret c219_111 h
theorem t220_0 {d : Nat} {l0 : Nat} {l1 : Int} {M : Mem} {K : KK} {Q : RR → Mem → KK → Prop} (h : isO K.1 l0 12 = true ∧ isO K.1 l0 12 = true ∧ Wm d 209 [vR l0, vI l1] (mset M l0 0 (0 : Int)) K (Bk d 220 8 11 209 [vR l0, vI l1] [vR l0] Q)) : Wp (d + 1) 220 0 [vR l0, vI l1] [] M K Q := by
  refine r_aload_n c220_0 rfl ?_
  refine r_iconst c220_1 ?_
  obtain ⟨s1, h⟩ := h
  refine r_putI c220_2 s1 ?_
  refine r_aload_n c220_5 rfl ?_
  refine r_aload_n c220_6 rfl ?_
  refine r_iload_n c220_7 rfl ?_
  obtain ⟨s2, h⟩ := h
  exact r_call c220_8 rfl rfl (Nat.le_of_ble_eq_true rfl) (okc_r rfl rfl s2) h
theorem t220_11 {d : Nat} {l0 : Nat} {l1 : Int} {t0 : Nat} {t1 : Int} {M : Mem} {K : KK} {Q : RR → Mem → KK → Prop} (h : (¬ t1 = (0 : Int) → Wp d 220 19 [vR l0, vI l1] [vI (0 : Int), vR t0] M K Q) ∧ (¬ (¬ t1 = (0 : Int)) → Wp d 220 19 [vR l0, vI l1] [vI (1 : Int), vR t0] M K Q)) : Wp d 220 11 [vR l0, vI l1] [vI t1, vR t0] M K Q := by
  refine r_ifP (P := ¬ t1 = (0 : Int)) c220_11 rfl (fun hc => ?_) (fun hc => ?_)
  · replace h := h.1 hc
    refine r_iconst c220_18 ?_
    exact h
  · replace h := h.2 hc
    refine r_iconst c220_14 ?_
    refine r_goto c220_15 ?_
    exact h
theorem t220_19 {d : Nat} {l0 : Nat} {l1 : Int} {t0 : Nat} {t1 : Int} {M : Mem} {K : KK} {Q : RR → Mem → KK → Prop} (h : isO K.1 t0 12 = true ∧ Wm d 152 [vR t0, vI t1, vI (1 : Int), vI (1 : Int)] M K (Bk d 220 21 24 152 [vR l0, vI l1] [] Q)) : Wp (d + 1) 220 19 [vR l0, vI l1] [vI t1, vR t0] M K Q := by
  refine r_iconst c220_19 ?_
  refine r_iconst c220_20 ?_
  obtain ⟨s1, h⟩ := h
  exact r_call c220_21 rfl rfl (Nat.le_of_ble_eq_true rfl) (okc_r rfl rfl s1) h
theorem t220_24 {d : Nat} {l0 : Nat} {l1 : Int} {t0 : Int} {M : Mem} {K : KK} {Q : RR → Mem → KK → Prop} (h : (t0 = (0 : Int) → isO K.1 l0 12 = true ∧ Wm d 219 [vR l0, vI l1] M K (Bk d 220 31 34 219 [vR l0, vI l1] [] Q)) ∧ (¬ (t0 = (0 : Int)) → Q (.inl (some (vI (0 : Int)))) M K)) : Wp (d + 1) 220 24 [vR l0, vI l1] [vI t0] M K Q := by
  refine r_ifP (P := t0 = (0 : Int)) c220_24 rfl (fun hc => ?_) (fun hc => ?_)
  · replace h := h.1 hc
    refine r_aload_n c220_29 rfl ?_
    refine r_iload_n c220_30 rfl ?_
    obtain ⟨s1, h⟩ := h
    exact r_call c220_31 rfl rfl (Nat.le_of_ble_eq_true rfl) (okc_r rfl rfl s1) h
  · replace h := h.2 hc
    refine r_iconst c220_27 ?_
    exact r_iret c220_28 (Or.inl rfl) h
theorem t220_34 {d : Nat} {l0 : Nat} {l1 : Int} {M : Mem} {K : KK} {Q : RR → Mem → KK → Prop} (h : isO K.1 l0 12 = true ∧ Q (.inl (some (vI (M l0 45)))) M K) : Wp d 220 34 [vR l0, vI l1] [] M K Q := by
  refine r_aload_n c220_34 rfl ?_
  obtain ⟨s1, h⟩ := h
  refine r_getI c220_35 s1 ?_
  exact r_iret c220_38 (Or.inl rfl) h
theorem t221_0 {d : Nat} {l0 : Nat} {l1 : Int} {l2 : Int} {M : Mem} {K : KK} {Q : RR → Mem → KK → Prop} (h : isO K.1 l0 12 = true ∧ isO K.1 l0 12 = true ∧ Wm d 208 [vR l0, vI l2] (mset M l0 0 (0 : Int)) K (Bk d 221 8 11 208 [vR l0, vI l1, vI l2] [vR l0] Q)) : Wp (d + 1) 221 0 [vR l0, vI l1, vI l2] [] M K Q := by
  refine r_aload_n c221_0 rfl ?_
  refine r_iconst c221_1 ?_
  obtain ⟨s1, h⟩ := h
  refine r_putI c221_2 s1 ?_
  refine r_aload_n c221_5 rfl ?_
  refine r_aload_n c221_6 rfl ?_
  refine r_iload_n c221_7 rfl ?_
  obtain ⟨s2, h⟩ := h
  exact r_call c221_8 rfl rfl (Nat.le_of_ble_eq_true rfl) (okc_r rfl rfl s2) h
theorem t221_11 {d : Nat} {l0 : Nat} {l1 : Int} {l2 : Int} {t0 : Nat} {t1 : Int} {M : Mem} {K : KK} {Q : RR → Mem → KK → Prop} (h : (¬ t1 = (0 : Int) → Wp d 221 19 [vR l0, vI l1, vI l2] [vI (0 : Int), vR t0] M K Q) ∧ (¬ (¬ t1 = (0 : Int)) → Wp d 221 19 [vR l0, vI l1, vI l2] [vI (1 : Int), vR t0] M K Q)) : Wp d 221 11 [vR l0, vI l1, vI l2] [vI t1, vR t0] M K Q := by
  refine r_ifP (P := ¬ t1 = (0 : Int)) c221_11 rfl (fun hc => ?_) (fun hc => ?_)
  · replace h := h.1 hc
    refine r_iconst c221_18 ?_
    exact h
  · replace h := h.2 hc
    refine r_iconst c221_14 ?_
    refine r_goto c221_15 ?_
    exact h
theorem t221_19 {d : Nat} {l0 : Nat} {l1 : Int} {l2 : Int} {t0 : Nat} {t1 : Int} {M : Mem} {K : KK} {Q : RR → Mem → KK → Prop} (h : isO K.1 t0 12 = true ∧ Wm d 152 [vR t0, vI t1, vI (1 : Int), vI (0 : Int)] M K (Bk d 221 21 24 152 [vR l0, vI l1, vI l2] [] Q)) : Wp (d + 1) 221 19 [vR l0, vI l1, vI l2] [vI t1, vR t0] M K Q := by
  refine r_iconst c221_19 ?_
  refine r_iconst c221_20 ?_
  obtain ⟨s1, h⟩ := h
  exact r_call c221_21 rfl rfl (Nat.le_of_ble_eq_true rfl) (okc_r rfl rfl s1) h
theorem t221_24 {d : Nat} {l0 : Nat} {l1 : Int} {l2 : Int} {t0 : Int} {M : Mem} {K : KK} {Q : RR → Mem → KK → Prop} (h : (¬ t0 = (0 : Int) → Wp (d + 1) 221 49 [vR l0, vI l1, vI l2] [] M K Q) ∧ (¬ (¬ t0 = (0 : Int)) → isO K.1 l0 12 = true ∧ Wm d 209 [vR l0, vI l1] M K (Bk d 221 30 33 209 [vR l0, vI l1, vI l2] [vR l0] Q))) : Wp (d + 1) 221 24 [vR l0, vI l1, vI l2] [vI t0] M K Q := by
  refine r_ifP (P := ¬ t0 = (0 : Int)) c221_24 rfl (fun hc => ?_) (fun hc => ?_)
  · replace h := h.1 hc
    exact h
  · replace h := h.2 hc
    refine r_aload_n c221_27 rfl ?_
    refine r_aload_n c221_28 rfl ?_
    refine r_iload_n c221_29 rfl ?_
    obtain ⟨s1, h⟩ := h
    exact r_call c221_30 rfl rfl (Nat.le_of_ble_eq_true rfl) (okc_r rfl rfl s1) h
theorem t221_33 {d : Nat} {l0 : Nat} {l1 : Int} {l2 : Int} {t0 : Nat} {t1 : Int} {M : Mem} {K : KK} {Q : RR → Mem → KK → Prop} (h : (¬ t1 = (0 : Int) → Wp d 221 41 [vR l0, vI l1, vI l2] [vI (0 : Int), vR t0] M K Q) ∧ (¬ (¬ t1 = (0 : Int)) → Wp d 221 41 [vR l0, vI l1, vI l2] [vI (1 : Int), vR t0] M K Q)) : Wp d 221 33 [vR l0, vI l1, vI l2] [vI t1, vR t0] M K Q := by
  refine r_ifP (P := ¬ t1 = (0 : Int)) c221_33 rfl (fun hc => ?_) (fun hc => ?_)
  · replace h := h.1 hc
    refine r_iconst c221_40 ?_
    exact h
  · replace h := h.2 hc
    refine r_iconst c221_36 ?_
    refine r_goto c221_37 ?_
    exact h
theorem t221_41 {d : Nat} {l0 : Nat} {l1 : Int} {l2 : Int} {t0 : Nat} {t1 : Int} {M : Mem} {K : KK} {Q : RR → Mem → KK → Prop} (h : isO K.1 t0 12 = true ∧ Wm d 152 [vR t0, vI t1, vI (2 : Int), vI (1 : Int)] M K (Bk d 221 43 46 152 [vR l0, vI l1, vI l2] [] Q)) : Wp (d + 1) 221 41 [vR l0, vI l1, vI l2] [vI t1, vR t0] M K Q := by
  refine r_iconst c221_41 ?_
  refine r_iconst c221_42 ?_
  obtain ⟨s1, h⟩ := h
  exact r_call c221_43 rfl rfl (Nat.le_of_ble_eq_true rfl) (okc_r rfl rfl s1) h
theorem t221_46 {d : Nat} {l0 : Nat} {l1 : Int} {l2 : Int} {t0 : Int} {M : Mem} {K : KK} {Q : RR → Mem → KK → Prop} (h : (t0 = (0 : Int) → isO K.1 l0 12 = true ∧ Wm d 219 [vR l0, vI l1] M K (Bk d 221 53 56 219 [vR l0, vI l1, vI l2] [] Q)) ∧ (¬ (t0 = (0 : Int)) → Wp (d + 1) 221 49 [vR l0, vI l1, vI l2] [] M K Q)) : Wp (d + 1) 221 46 [vR l0, vI l1, vI l2] [vI t0] M K Q := by
  refine r_ifP (P := t0 = (0 : Int)) c221_46 rfl (fun hc => ?_) (fun hc => ?_)
  · replace h := h.1 hc
    refine r_aload_n c221_51 rfl ?_
    refine r_iload_n c221_52 rfl ?_
    obtain ⟨s1, h⟩ := h
    exact r_call c221_53 rfl rfl (Nat.le_of_ble_eq_true rfl) (okc_r rfl rfl s1) h
  · replace h := h.2 hc
    exact h
theorem t221_49 {d : Nat} {l0 : Nat} {l1 : Int} {l2 : Int} {M : Mem} {K : KK} {Q : RR → Mem → KK → Prop} (h : Q (.inl (some (vI (0 : Int)))) M K) : Wp d 221 49 [vR l0, vI l1, vI l2] [] M K Q := by
  refine r_iconst c221_49 ?_
  exact r_iret c221_50 (Or.inl rfl) h
theorem t221_56 {d : Nat} {l0 : Nat} {l1 : Int} {l2 : Int} {M : Mem} {K : KK} {Q : RR → Mem → KK → Prop} (h : isO K.1 l0 12 = true ∧ ∃ b2 : Nat, (M l0 43) = (b2 : Int) ∧ 0 < b2 ∧ isO K.1 b2 20 = true ∧ (0 ≤ l2 ∧ l2 < (ln b2 : Int)) ∧ Q (.inl (some (vI (M b2 (Int.toNat l2))))) M K) : Wp d 221 56 [vR l0, vI l1, vI l2] [] M K Q := by
  refine r_aload_n c221_56 rfl ?_
  obtain ⟨s1, h⟩ := h
  obtain ⟨b2, h⟩ := h
  obtain ⟨s3, h⟩ := h
  obtain ⟨s4, h⟩ := h
  refine r_getR c221_57 s1 s3 s4 ?_
  refine r_iload_n c221_60 rfl ?_
  obtain ⟨s5, h⟩ := h
  obtain ⟨s6, h⟩ := h
  refine r_ia c221_61 s5 s6 ?_
  exact r_iret c221_62 (Or.inl rfl) h
theorem t222_0 {d : Nat} {l0 : Nat} {l1 : Int} {l2 : Int} {M : Mem} {K : KK} {Q : RR → Mem → KK → Prop} (h : isO K.1 l0 12 = true ∧ ∃ b2 : Nat, (M l0 31) = (b2 : Int) ∧ 0 < b2 ∧ isO K.1 b2 20 = true ∧ (0 ≤ (w32 ((0 : Int) + l1)) ∧ (w32 ((0 : Int) + l1)) < (ln b2 : Int)) ∧ (¬ (M b2 (Int.toNat (w32 ((0 : Int) + l1)))) = (-1 : Int) → isO K.1 l0 12 = true ∧ ∃ b8 : Nat, (M l0 31) = (b8 : Int) ∧ 0 < b8 ∧ isO K.1 b8 20 = true ∧ (0 ≤ (w32 ((12 : Int) + l1)) ∧ (w32 ((12 : Int) + l1)) < (ln b8 : Int)) ∧ ((w32 ((M b8 (Int.toNat (w32 ((12 : Int) + l1)))) + l2)) ≤ (9 : Int) → isO K.1 l0 12 = true ∧ ∃ b14 : Nat, (M l0 31) = (b14 : Int) ∧ 0 < b14 ∧ isO K.1 b14 20 = true ∧ (0 ≤ (w32 ((6 : Int) + l1)) ∧ (w32 ((6 : Int) + l1)) < (ln b14 : Int)) ∧ isO K.1 l0 12 = true ∧ ∃ b20 : Nat, (M l0 31) = (b20 : Int) ∧ 0 < b20 ∧ isO K.1 b20 20 = true ∧ (0 ≤ (w32 ((0 : Int) + l1)) ∧ (w32 ((0 : Int) + l1)) < (ln b20 : Int)) ∧ isO K.1 l0 12 = true ∧ ∃ b26 : Nat, (M l0 31) = (b26 : Int) ∧ 0 < b26 ∧ isO K.1 b26 20 = true ∧ (0 ≤ (w32 ((6 : Int) + l1)) ∧ (w32 ((6 : Int) + l1)) < (ln b26 : Int)) ∧ isO K.1 l0 12 = true ∧ ∃ b32 : Nat, (M l0 31) = (b32 : Int) ∧ 0 < b32 ∧ isO K.1 l0 12 = true ∧ Wm d 193 [vR l0, vR b32] M K (Bk d 222 73 76 193 [vR l0, vI l1, vI l2] [vI (M b26 (Int.toNat (w32 ((6 : Int) + l1)))), vI (M b20 (Int.toNat (w32 ((0 : Int) + l1)))), vI l1, vR l0, vI (M b14 (Int.toNat (w32 ((6 : Int) + l1))))] Q)) ∧ (¬ ((w32 ((M b8 (Int.toNat (w32 ((12 : Int) + l1)))) + l2)) ≤ (9 : Int)) → Q (.inl (some (vI (-1 : Int)))) M K)) ∧ (¬ (¬ (M b2 (Int.toNat (w32 ((0 : Int) + l1)))) = (-1 : Int)) → (¬ l2 = (0 : Int) → Wp (d + 1) 222 21 [vR l0, vI l1, vI l2] [vI (-1 : Int)] M K Q) ∧ (¬ (¬ l2 = (0 : Int)) → Wp (d + 1) 222 21 [vR l0, vI l1, vI l2] [vI (0 : Int)] M K Q))) : Wp (d + 1) 222 0 [vR l0, vI l1, vI l2] [] M K Q := by
  refine r_aload_n c222_0 rfl ?_
  obtain ⟨s1, h⟩ := h
  obtain ⟨b2, h⟩ := h
  obtain ⟨s3, h⟩ := h
  obtain ⟨s4, h⟩ := h
  refine r_getR c222_1 s1 s3 s4 ?_
  refine r_iconst c222_4 ?_
  refine r_iload_n c222_5 rfl ?_
  refine r_iadd c222_6 ?_
  obtain ⟨s5, h⟩ := h
  obtain ⟨s6, h⟩ := h
  refine r_ia c222_7 s5 s6 ?_
  refine r_iconst c222_8 ?_
  refine r_icmpP (P := ¬ (M b2 (Int.toNat (w32 ((0 : Int) + l1)))) = (-1 : Int)) c222_9 rfl (fun hc => ?_) (fun hc => ?_)
  · replace h := h.1 hc
    refine r_aload_n c222_22 rfl ?_
    obtain ⟨s7, h⟩ := h
    obtain ⟨b8, h⟩ := h
    obtain ⟨s9, h⟩ := h
    obtain ⟨s10, h⟩ := h
    refine r_getR c222_23 s7 s9 s10 ?_
    refine r_bipush c222_26 ?_
    refine r_iload_n c222_28 rfl ?_
    refine r_iadd c222_29 ?_
    obtain ⟨s11, h⟩ := h
    obtain ⟨s12, h⟩ := h
    refine r_ia c222_30 s11 s12 ?_
    refine r_iload_n c222_31 rfl ?_
    refine r_iadd c222_32 ?_
    refine r_bipush c222_33 ?_
    refine r_icmpP (P := (w32 ((M b8 (Int.toNat (w32 ((12 : Int) + l1)))) + l2)) ≤ (9 : Int)) c222_35 rfl (fun hc => ?_) (fun hc => ?_)
    · replace h := h.1 hc
      refine r_aload_n c222_40 rfl ?_
      obtain ⟨s13, h⟩ := h
      obtain ⟨b14, h⟩ := h
      obtain ⟨s15, h⟩ := h
      obtain ⟨s16, h⟩ := h
      refine r_getR c222_41 s13 s15 s16 ?_
      refine r_bipush c222_44 ?_
      refine r_iload_n c222_46 rfl ?_
      refine r_iadd c222_47 ?_
      obtain ⟨s17, h⟩ := h
      obtain ⟨s18, h⟩ := h
      refine r_ia c222_48 s17 s18 ?_
      refine r_aload_n c222_49 rfl ?_
      refine r_iload_n c222_50 rfl ?_
      refine r_aload_n c222_51 rfl ?_
      obtain ⟨s19, h⟩ := h
      obtain ⟨b20, h⟩ := h
      obtain ⟨s21, h⟩ := h
      obtain ⟨s22, h⟩ := h
      refine r_getR c222_52 s19 s21 s22 ?_
      refine r_iconst c222_55 ?_
      refine r_iload_n c222_56 rfl ?_
      refine r_iadd c222_57 ?_
      obtain ⟨s23, h⟩ := h
      obtain ⟨s24, h⟩ := h
      refine r_ia c222_58 s23 s24 ?_
      refine r_aload_n c222_59 rfl ?_
      obtain ⟨s25, h⟩ := h
      obtain ⟨b26, h⟩ := h
      obtain ⟨s27, h⟩ := h
      obtain ⟨s28, h⟩ := h
      refine r_getR c222_60 s25 s27 s28 ?_
      refine r_bipush c222_63 ?_
      refine r_iload_n c222_65 rfl ?_
      refine r_iadd c222_66 ?_
      obtain ⟨s29, h⟩ := h
      obtain ⟨s30, h⟩ := h
      refine r_ia c222_67 s29 s30 ?_
      refine r_aload_n c222_68 rfl ?_
      refine r_aload_n c222_69 rfl ?_
      obtain ⟨s31, h⟩ := h
      obtain ⟨b32, h⟩ := h
      obtain ⟨s33, h⟩ := h
      obtain ⟨s34, h⟩ := h
      refine r_getR c222_70 s31 s33 s34 ?_
      obtain ⟨s35, h⟩ := h
      exact r_call c222_73 rfl rfl (Nat.le_of_ble_eq_true rfl) (okc_r rfl rfl s35) h
    · replace h := h.2 hc
      refine r_iconst c222_38 ?_
      exact r_iret c222_39 (Or.inl rfl) h
  · replace h := h.2 hc
    refine r_iload_n c222_12 rfl ?_
    refine r_ifP (P := ¬ l2 = (0 : Int)) c222_13 rfl (fun hc => ?_) (fun hc => ?_)
    · replace h := h.1 hc
      refine r_iconst c222_20 ?_
      exact h
    · replace h := h.2 hc
      refine r_iconst c222_16 ?_
      refine r_goto c222_17 ?_
      exact h
theorem t222_21 {d : Nat} {l0 : Nat} {l1 : Int} {l2 : Int} {t0 : Int} {M : Mem} {K : KK} {Q : RR → Mem → KK → Prop} (h : Q (.inl (some (vI t0))) M K) : Wp d 222 21 [vR l0, vI l1, vI l2] [vI t0] M K Q := by
  exact r_iret c222_21 (Or.inl rfl) h
theorem t222_76 {d : Nat} {l0 : Nat} {l1 : Int} {l2 : Int} {t0 : Int} {t1 : Nat} {t2 : Int} {t3 : Int} {t4 : Int} {t5 : Int} {M : Mem} {K : KK} {Q : RR → Mem → KK → Prop} (h : isO K.1 l0 12 = true ∧ ∃ b2 : Nat, (M l0 31) = (b2 : Int) ∧ 0 < b2 ∧ isO K.1 b2 20 = true ∧ (0 ≤ (w32 ((12 : Int) + l1)) ∧ (w32 ((12 : Int) + l1)) < (ln b2 : Int)) ∧ isO K.1 l0 12 = true ∧ ∃ b8 : Nat, (M l0 31) = (b8 : Int) ∧ 0 < b8 ∧ isO K.1 b8 20 = true ∧ (0 ≤ (w32 ((18 : Int) + l1)) ∧ (w32 ((18 : Int) + l1)) < (ln b8 : Int)) ∧ isO K.1 l0 12 = true ∧ ∃ b14 : Nat, (M l0 31) = (b14 : Int) ∧ 0 < b14 ∧ isO K.1 b14 20 = true ∧ (0 ≤ (24 : Int) ∧ (24 : Int) < (ln b14 : Int)) ∧ isO K.1 t1 12 = true ∧ Wm d 194 [vR t1, vI t2, vI t3, vI t4, vI t5, vI (w32 ((M b2 (Int.toNat (w32 ((12 : Int) + l1)))) + l2)), vI (M b8 (Int.toNat (w32 ((18 : Int) + l1)))), vI (M b14 (Int.toNat (24 : Int)))] M K (Bk d 222 103 106 194 [vR l0, vI l1, vI l2] [vI t0] Q)) : Wp (d + 1) 222 76 [vR l0, vI l1, vI l2] [vI t5, vI t4, vI t3, vI t2, vR t1, vI t0] M K Q := by
  refine r_aload_n c222_76 rfl ?_
  obtain ⟨s1, h⟩ := h
  obtain ⟨b2, h⟩ := h
  obtain ⟨s3, h⟩ := h
  obtain ⟨s4, h⟩ := h
  refine r_getR c222_77 s1 s3 s4 ?_
  refine r_bipush c222_80 ?_
  refine r_iload_n c222_82 rfl ?_
  refine r_iadd c222_83 ?_
  obtain ⟨s5, h⟩ := h
  obtain ⟨s6, h⟩ := h
  refine r_ia c222_84 s5 s6 ?_
  refine r_iload_n c222_85 rfl ?_
  refine r_iadd c222_86 ?_
  refine r_aload_n c222_87 rfl ?_
  obtain ⟨s7, h⟩ := h
  obtain ⟨b8, h⟩ := h
  obtain ⟨s9, h⟩ := h
  obtain ⟨s10, h⟩ := h
  refine r_getR c222_88 s7 s9 s10 ?_
  refine r_bipush c222_91 ?_
  refine r_iload_n c222_93 rfl ?_
  refine r_iadd c222_94 ?_
  obtain ⟨s11, h⟩ := h
  obtain ⟨s12, h⟩ := h
  refine r_ia c222_95 s11 s12 ?_
  refine r_aload_n c222_96 rfl ?_
  obtain ⟨s13, h⟩ := h
  obtain ⟨b14, h⟩ := h
  obtain ⟨s15, h⟩ := h
  obtain ⟨s16, h⟩ := h
  refine r_getR c222_97 s13 s15 s16 ?_
  refine r_bipush c222_100 ?_
  obtain ⟨s17, h⟩ := h
  obtain ⟨s18, h⟩ := h
  refine r_ia c222_102 s17 s18 ?_
  obtain ⟨s19, h⟩ := h
  exact r_call c222_103 rfl rfl (Nat.le_of_ble_eq_true rfl) (okc_r rfl rfl s19) h
theorem t222_106 {d : Nat} {l0 : Nat} {l1 : Int} {l2 : Int} {t0 : Int} {t1 : Int} {M : Mem} {K : KK} {Q : RR → Mem → KK → Prop} (h : Wm d 154 [vI t0, vI t1] M K (Bk d 222 106 109 154 [vR l0, vI l1, vI l2] [] Q)) : Wp (d + 1) 222 106 [vR l0, vI l1, vI l2] [vI t1, vI t0] M K Q := by
  exact r_call c222_106 rfl rfl (Nat.le_of_ble_eq_true rfl) (okc_s rfl rfl rfl) h
theorem t222_109 {d : Nat} {l0 : Nat} {l1 : Int} {l2 : Int} {t0 : Int} {M : Mem} {K : KK} {Q : RR → Mem → KK → Prop} (h : Q (.inl (some (vI t0))) M K) : Wp d 222 109 [vR l0, vI l1, vI l2] [vI t0] M K Q := by
  exact r_iret c222_109 (Or.inl rfl) h
theorem t223_0 {d : Nat} {l0 : Nat} {M : Mem} {K : KK} {Q : RR → Mem → KK → Prop} (h : Wp d 223 2 [vR l0, vI (0 : Int), vU, vU, vU] [] M K Q) : Wp d 223 0 [vR l0, vU, vU, vU, vU] [] M K Q := by
  refine r_iconst c223_0 ?_
  refine r_istore_n c223_1 (Nat.le_of_ble_eq_true rfl) ?_
  exact h
theorem t223_2 {d : Nat} {l0 : Nat} {l1 : Int} {M : Mem} {K : KK} {Q : RR → Mem → KK → Prop} (h : ((20 : Int) < l1 → isO K.1 l0 12 = true ∧ ∃ b2 : Nat, (M l0 12) = (b2 : Int) ∧ 0 < b2 ∧ isO K.1 b2 20 = true ∧ (0 ≤ (1 : Int) ∧ (1 : Int) < (ln b2 : Int)) ∧ Wp d 223 45 [vR l0, vI (w32 ((M b2 (Int.toNat (1 : Int))) - (1 : Int))), vU, vU, vU] [] M K Q) ∧ (¬ ((20 : Int) < l1) → isO K.1 l0 12 = true ∧ ∃ b8 : Nat, (M l0 46) = (b8 : Int) ∧ 0 < b8 ∧ isO K.1 l0 12 = true ∧ ∃ b12 : Nat, (M l0 12) = (b12 : Int) ∧ 0 < b12 ∧ isO K.1 b12 20 = true ∧ (0 ≤ (1 : Int) ∧ (1 : Int) < (ln b12 : Int)) ∧ (Nat.ble 30 (tg b8) = true ∧ isO K.1 b8 (tg b8) = true) ∧ (0 ≤ (M b12 (Int.toNat (1 : Int))) ∧ (M b12 (Int.toNat (1 : Int))) < (ln b8 : Int)) ∧ ∃ b19 : Nat, (M b8 (Int.toNat (M b12 (Int.toNat (1 : Int))))) = (b19 : Int) ∧ 0 < b19 ∧ (¬ l1 = (0 : Int) → Wp d 223 29 [vR l0, vI l1, vU, vU, vU] [vI (-1 : Int), vI l1, vR b19] M K Q) ∧ (¬ (¬ l1 = (0 : Int)) → Wp d 223 29 [vR l0, vI l1, vU, vU, vU] [vI (0 : Int), vI l1, vR b19] M K Q))) : Wp d 223 2 [vR l0, vI l1, vU, vU, vU] [] M K Q := by
  refine r_iload_n c223_2 rfl ?_
  refine r_bipush c223_3 ?_
  refine r_icmpP (P := (20 : Int) < l1) c223_5 rfl (fun hc => ?_) (fun hc => ?_)
  · replace h := h.1 hc
    refine r_aload_n c223_36 rfl ?_
    obtain ⟨s1, h⟩ := h
    obtain ⟨b2, h⟩ := h
    obtain ⟨s3, h⟩ := h
    obtain ⟨s4, h⟩ := h
    refine r_getR c223_37 s1 s3 s4 ?_
    refine r_iconst c223_40 ?_
    obtain ⟨s5, h⟩ := h
    obtain ⟨s6, h⟩ := h
    refine r_ia c223_41 s5 s6 ?_
    refine r_iconst c223_42 ?_
    refine r_isub c223_43 ?_
    refine r_istore_n c223_44 (Nat.le_of_ble_eq_true rfl) ?_
    exact h
  · replace h := h.2 hc
    refine r_aload_n c223_8 rfl ?_
    obtain ⟨s7, h⟩ := h
    obtain ⟨b8, h⟩ := h
    obtain ⟨s9, h⟩ := h
    obtain ⟨s10, h⟩ := h
    refine r_getR c223_9 s7 s9 s10 ?_
    refine r_aload_n c223_12 rfl ?_
    obtain ⟨s11, h⟩ := h
    obtain ⟨b12, h⟩ := h
    obtain ⟨s13, h⟩ := h
    obtain ⟨s14, h⟩ := h
    refine r_getR c223_13 s11 s13 s14 ?_
    refine r_iconst c223_16 ?_
    obtain ⟨s15, h⟩ := h
    obtain ⟨s16, h⟩ := h
    refine r_ia c223_17 s15 s16 ?_
    obtain ⟨s17, h⟩ := h
    obtain ⟨s18, h⟩ := h
    obtain ⟨b19, h⟩ := h
    obtain ⟨s20, h⟩ := h
    obtain ⟨s21, h⟩ := h
    refine r_aa c223_18 s17 s18 s20 s21 ?_
    refine r_iload_n c223_19 rfl ?_
    refine r_iload_n c223_20 rfl ?_
    refine r_ifP (P := ¬ l1 = (0 : Int)) c223_21 rfl (fun hc => ?_) (fun hc => ?_)
    · replace h := h.1 hc
      refine r_iconst c223_28 ?_
      exact h
    · replace h := h.2 hc
      refine r_iconst c223_24 ?_
      refine r_goto c223_25 ?_
      exact h
theorem t223_29 {d : Nat} {l0 : Nat} {l1 : Int} {t0 : Nat} {t1 : Int} {t2 : Int} {M : Mem} {K : KK} {Q : RR → Mem → KK → Prop} (h : isO K.1 t0 20 = true ∧ (0 ≤ t1 ∧ t1 < (ln t0 : Int)) ∧ Wp d 223 2 [vR l0, vI (w32 (l1 + 1)), vU, vU, vU] [] (mset M t0 (Int.toNat t1) t2) K Q) : Wp d 223 29 [vR l0, vI l1, vU, vU, vU] [vI t2, vI t1, vR t0] M K Q := by
  obtain ⟨s1, h⟩ := h
  obtain ⟨s2, h⟩ := h
  refine r_ias c223_29 s1 s2 ?_
  refine r_iinc c223_30 rfl ?_
  refine r_goto c223_33 ?_
  exact h
theorem t223_45 {d : Nat} {l0 : Nat} {l1 : Int} {l2 : PV} {l3 : PV} {l4 : PV} {M : Mem} {K : KK} {Q : RR → Mem → KK → Prop} (h : (l1 < (0 : Int) → Q (.inl none) M K) ∧ (¬ (l1 < (0 : Int)) → Wp d 223 51 [vR l0, vI l1, vI (0 : Int), l3, l4] [] M K Q)) : Wp d 223 45 [vR l0, vI l1, l2, l3, l4] [] M K Q := by
  refine r_iload_n c223_45 rfl ?_
  refine r_ifP (P := l1 < (0 : Int)) c223_46 rfl (fun hc => ?_) (fun hc => ?_)
  · replace h := h.1 hc
    exact r_ret c223_149 h
  · replace h := h.2 hc
    refine r_iconst c223_49 ?_
    refine r_istore_n c223_50 (Nat.le_of_ble_eq_true rfl) ?_
    exact h
theorem t223_51 {d : Nat} {l0 : Nat} {l1 : Int} {l2 : Int} {l3 : PV} {l4 : PV} {M : Mem} {K : KK} {Q : RR → Mem → KK → Prop} (h : ((20 : Int) < l2 → Wp d 223 45 [vR l0, vI (w32 (l1 + (-1))), vI l2, l3, l4] [] M K Q) ∧ (¬ ((20 : Int) < l2) → Wp d 223 62 [vR l0, vI l1, vI l2, vI (-1 : Int), vI (0 : Int)] [] M K Q)) : Wp d 223 51 [vR l0, vI l1, vI l2, l3, l4] [] M K Q := by
  refine r_iload_n c223_51 rfl ?_
  refine r_bipush c223_52 ?_
  refine r_icmpP (P := (20 : Int) < l2) c223_54 rfl (fun hc => ?_) (fun hc => ?_)
  · replace h := h.1 hc
    refine r_iinc c223_143 rfl ?_
    refine r_goto c223_146 ?_
    exact h
  · replace h := h.2 hc
    refine r_iconst c223_57 ?_
    refine r_istore_n c223_58 (Nat.le_of_ble_eq_true rfl) ?_
    refine r_iconst c223_59 ?_
    refine r_istore c223_60 (Nat.le_of_ble_eq_true rfl) ?_
    exact h
theorem t223_62 {d : Nat} {l0 : Nat} {l1 : Int} {l2 : Int} {l3 : Int} {l4 : Int} {M : Mem} {K : KK} {Q : RR → Mem → KK → Prop} (h : (l2 < l4 → isO K.1 l0 12 = true ∧ ∃ b2 : Nat, (M l0 46) = (b2 : Int) ∧ 0 < b2 ∧ (Nat.ble 30 (tg b2) = true ∧ isO K.1 b2 (tg b2) = true) ∧ (0 ≤ l1 ∧ l1 < (ln b2 : Int)) ∧ ∃ b7 : Nat, (M b2 (Int.toNat l1)) = (b7 : Int) ∧ 0 < b7 ∧ isO K.1 b7 20 = true ∧ (0 ≤ l2 ∧ l2 < (ln b7 : Int)) ∧ Wp (d + 1) 223 51 [vR l0, vI l1, vI (w32 (l2 + 1)), vI l3, vI l4] [] (mset M b7 (Int.toNat l2) l3) K Q) ∧ (¬ (l2 < l4) → isO K.1 l0 12 = true ∧ Wm d 222 [vR l0, vI l1, vI l4] M K (Bk d 223 72 75 222 [vR l0, vI l1, vI l2, vI l3, vI l4] [] Q))) : Wp (d + 1) 223 62 [vR l0, vI l1, vI l2, vI l3, vI l4] [] M K Q := by
  refine r_iload c223_62 rfl ?_
  refine r_iload_n c223_64 rfl ?_
  refine r_icmpP (P := l2 < l4) c223_65 rfl (fun hc => ?_) (fun hc => ?_)
  · replace h := h.1 hc
    refine r_aload_n c223_128 rfl ?_
    obtain ⟨s1, h⟩ := h
    obtain ⟨b2, h⟩ := h
    obtain ⟨s3, h⟩ := h
    obtain ⟨s4, h⟩ := h
    refine r_getR c223_129 s1 s3 s4 ?_
    refine r_iload_n c223_132 rfl ?_
    obtain ⟨s5, h⟩ := h
    obtain ⟨s6, h⟩ := h
    obtain ⟨b7, h⟩ := h
    obtain ⟨s8, h⟩ := h
    obtain ⟨s9, h⟩ := h
    refine r_aa c223_133 s5 s6 s8 s9 ?_
    refine r_iload_n c223_134 rfl ?_
    refine r_iload_n c223_135 rfl ?_
    obtain ⟨s10, h⟩ := h
    obtain ⟨s11, h⟩ := h
    refine r_ias c223_136 s10 s11 ?_
    refine r_iinc c223_137 rfl ?_
    refine r_goto c223_140 ?_
    exact h
  · replace h := h.2 hc
    refine r_aload_n c223_68 rfl ?_
    refine r_iload_n c223_69 rfl ?_
    refine r_iload c223_70 rfl ?_
    obtain ⟨s12, h⟩ := h
    exact r_call c223_72 rfl rfl (Nat.le_of_ble_eq_true rfl) (okc_r rfl rfl s12) h
theorem t223_75 {d : Nat} {l0 : Nat} {l1 : Int} {l2 : Int} {l3 : Int} {l4 : Int} {t0 : Int} {M : Mem} {K : KK} {Q : RR → Mem → KK → Prop} (h : (t0 = (-1 : Int) → Wp (d + 1) 223 122 [vR l0, vI l1, vI l2, vI l3, vI l4] [] M K Q) ∧ (¬ (t0 = (-1 : Int)) → isO K.1 l0 12 = true ∧ ∃ b2 : Nat, (M l0 46) = (b2 : Int) ∧ 0 < b2 ∧ (Nat.ble 30 (tg b2) = true ∧ isO K.1 b2 (tg b2) = true) ∧ (0 ≤ (w32 (l1 + (1 : Int))) ∧ (w32 (l1 + (1 : Int))) < (ln b2 : Int)) ∧ ∃ b7 : Nat, (M b2 (Int.toNat (w32 (l1 + (1 : Int))))) = (b7 : Int) ∧ 0 < b7 ∧ isO K.1 b7 20 = true ∧ (0 ≤ (w32 (l2 - l4)) ∧ (w32 (l2 - l4)) < (ln b7 : Int)) ∧ ((M b7 (Int.toNat (w32 (l2 - l4)))) = (-1 : Int) → Wp (d + 1) 223 122 [vR l0, vI l1, vI l2, vI l3, vI l4] [] M K Q) ∧ (¬ ((M b7 (Int.toNat (w32 (l2 - l4)))) = (-1 : Int)) → isO K.1 l0 12 = true ∧ Wm d 222 [vR l0, vI l1, vI l4] M K (Bk d 223 101 104 222 [vR l0, vI l1, vI l2, vI l3, vI l4] [vI l3] Q)))) : Wp (d + 1) 223 75 [vR l0, vI l1, vI l2, vI l3, vI l4] [vI t0] M K Q := by
  refine r_iconst c223_75 ?_
  refine r_icmpP (P := t0 = (-1 : Int)) c223_76 rfl (fun hc => ?_) (fun hc => ?_)
  · replace h := h.1 hc
    exact h
  · replace h := h.2 hc
    refine r_aload_n c223_79 rfl ?_
    obtain ⟨s1, h⟩ := h
    obtain ⟨b2, h⟩ := h
    obtain ⟨s3, h⟩ := h
    obtain ⟨s4, h⟩ := h
    refine r_getR c223_80 s1 s3 s4 ?_
    refine r_iload_n c223_83 rfl ?_
    refine r_iconst c223_84 ?_
    refine r_iadd c223_85 ?_
    obtain ⟨s5, h⟩ := h
    obtain ⟨s6, h⟩ := h
    obtain ⟨b7, h⟩ := h
    obtain ⟨s8, h⟩ := h
    obtain ⟨s9, h⟩ := h
    refine r_aa c223_86 s5 s6 s8 s9 ?_
    refine r_iload_n c223_87 rfl ?_
    refine r_iload c223_88 rfl ?_
    refine r_isub c223_90 ?_
    obtain ⟨s10, h⟩ := h
    obtain ⟨s11, h⟩ := h
    refine r_ia c223_91 s10 s11 ?_
    refine r_iconst c223_92 ?_
    refine r_icmpP (P := (M b7 (Int.toNat (w32 (l2 - l4)))) = (-1 : Int)) c223_93 rfl (fun hc => ?_) (fun hc => ?_)
    · replace h := h.1 hc
      exact h
    · replace h := h.2 hc
      refine r_iload_n c223_96 rfl ?_
      refine r_aload_n c223_97 rfl ?_
      refine r_iload_n c223_98 rfl ?_
      refine r_iload c223_99 rfl ?_
      obtain ⟨s12, h⟩ := h
      exact r_call c223_101 rfl rfl (Nat.le_of_ble_eq_true rfl) (okc_r rfl rfl s12) h
theorem t223_104 {d : Nat} {l0 : Nat} {l1 : Int} {l2 : Int} {l3 : Int} {l4 : Int} {t0 : Int} {t1 : Int} {M : Mem} {K : KK} {Q : RR → Mem → KK → Prop} (h : isO K.1 l0 12 = true ∧ ∃ b2 : Nat, (M l0 46) = (b2 : Int) ∧ 0 < b2 ∧ (Nat.ble 30 (tg b2) = true ∧ isO K.1 b2 (tg b2) = true) ∧ (0 ≤ (w32 (l1 + (1 : Int))) ∧ (w32 (l1 + (1 : Int))) < (ln b2 : Int)) ∧ ∃ b7 : Nat, (M b2 (Int.toNat (w32 (l1 + (1 : Int))))) = (b7 : Int) ∧ 0 < b7 ∧ isO K.1 b7 20 = true ∧ (0 ≤ (w32 (l2 - l4)) ∧ (w32 (l2 - l4)) < (ln b7 : Int)) ∧ Wm d 155 [vI t0, vI (w32 (t1 + (M b7 (Int.toNat (w32 (l2 - l4))))))] M K (Bk d 223 118 121 155 [vR l0, vI l1, vI l2, vI l3, vI l4] [] Q)) : Wp (d + 1) 223 104 [vR l0, vI l1, vI l2, vI l3, vI l4] [vI t1, vI t0] M K Q := by
  refine r_aload_n c223_104 rfl ?_
  obtain ⟨s1, h⟩ := h
  obtain ⟨b2, h⟩ := h
  obtain ⟨s3, h⟩ := h
  obtain ⟨s4, h⟩ := h
  refine r_getR c223_105 s1 s3 s4 ?_
  refine r_iload_n c223_108 rfl ?_
  refine r_iconst c223_109 ?_
  refine r_iadd c223_110 ?_
  obtain ⟨s5, h⟩ := h
  obtain ⟨s6, h⟩ := h
  obtain ⟨b7, h⟩ := h
  obtain ⟨s8, h⟩ := h
  obtain ⟨s9, h⟩ := h
  refine r_aa c223_111 s5 s6 s8 s9 ?_
  refine r_iload_n c223_112 rfl ?_
  refine r_iload c223_113 rfl ?_
  refine r_isub c223_115 ?_
  obtain ⟨s10, h⟩ := h
  obtain ⟨s11, h⟩ := h
  refine r_ia c223_116 s10 s11 ?_
  refine r_iadd c223_117 ?_
  exact r_call c223_118 rfl rfl (Nat.le_of_ble_eq_true rfl) (okc_s rfl rfl rfl) h
theorem t223_121 {d : Nat} {l0 : Nat} {l1 : Int} {l2 : Int} {l3 : Int} {l4 : Int} {t0 : Int} {M : Mem} {K : KK} {Q : RR → Mem → KK → Prop} (h : Wp d 223 122 [vR l0, vI l1, vI l2, vI t0, vI l4] [] M K Q) : Wp d 223 121 [vR l0, vI l1, vI l2, vI l3, vI l4] [vI t0] M K Q := by
  refine r_istore_n c223_121 (Nat.le_of_ble_eq_true rfl) ?_
  exact h
theorem t223_122 {d : Nat} {l0 : Nat} {l1 : Int} {l2 : Int} {l3 : Int} {l4 : Int} {M : Mem} {K : KK} {Q : RR → Mem → KK → Prop} (h : Wp d 223 62 [vR l0, vI l1, vI l2, vI l3, vI (w32 (l4 + 1))] [] M K Q) : Wp d 223 122 [vR l0, vI l1, vI l2, vI l3, vI l4] [] M K Q := by
  refine r_iinc c223_122 rfl ?_
  refine r_goto c223_125 ?_
  exact h
theorem t224_0 {d : Nat} {l0 : Nat} {l1 : Int} {M : Mem} {K : KK} {Q : RR → Mem → KK → Prop} (h : isO K.1 l0 12 = true ∧ Wm d 153 [vI l1, vI (0 : Int), vI (20 : Int)] (mset M l0 0 (0 : Int)) K (Bk d 224 10 13 153 [vR l0, vI l1] [vR l0] Q)) : Wp (d + 1) 224 0 [vR l0, vI l1] [] M K Q := by
  refine r_aload_n c224_0 rfl ?_
  refine r_iconst c224_1 ?_
  obtain ⟨s1, h⟩ := h
  refine r_putI c224_2 s1 ?_
  refine r_aload_n c224_5 rfl ?_
  refine r_iload_n c224_6 rfl ?_
  refine r_iconst c224_7 ?_
  refine r_bipush c224_8 ?_
  exact r_call c224_10 rfl rfl (Nat.le_of_ble_eq_true rfl) (okc_s rfl rfl rfl) h
theorem t224_13 {d : Nat} {l0 : Nat} {l1 : Int} {t0 : Nat} {t1 : Int} {M : Mem} {K : KK} {Q : RR → Mem → KK → Prop} (h : (¬ t1 = (0 : Int) → Wp d 224 21 [vR l0, vI l1] [vI (0 : Int), vR t0] M K Q) ∧ (¬ (¬ t1 = (0 : Int)) → Wp d 224 21 [vR l0, vI l1] [vI (1 : Int), vR t0] M K Q)) : Wp d 224 13 [vR l0, vI l1] [vI t1, vR t0] M K Q := by
  refine r_ifP (P := ¬ t1 = (0 : Int)) c224_13 rfl (fun hc => ?_) (fun hc => ?_)
  · replace h := h.1 hc
    refine r_iconst c224_20 ?_
    exact h
  · replace h := h.2 hc
    refine r_iconst c224_16 ?_
    refine r_goto c224_17 ?_
    exact h
theorem t224_21 {d : Nat} {l0 : Nat} {l1 : Int} {t0 : Nat} {t1 : Int} {M : Mem} {K : KK} {Q : RR → Mem → KK → Prop} (h : isO K.1 t0 12 = true ∧ Wm d 152 [vR t0, vI t1, vI (1 : Int), vI (1 : Int)] M K (Bk d 224 23 26 152 [vR l0, vI l1] [] Q)) : Wp (d + 1) 224 21 [vR l0, vI l1] [vI t1, vR t0] M K Q := by
  refine r_iconst c224_21 ?_
  refine r_iconst c224_22 ?_
  obtain ⟨s1, h⟩ := h
  exact r_call c224_23 rfl rfl (Nat.le_of_ble_eq_true rfl) (okc_r rfl rfl s1) h
theorem t224_26 {d : Nat} {l0 : Nat} {l1 : Int} {t0 : Int} {M : Mem} {K : KK} {Q : RR → Mem → KK → Prop} (h : (t0 = (0 : Int) → isO K.1 l0 12 = true ∧ Wm d 223 [vR l0] M K (Bk d 224 32 35 223 [vR l0, vI l1] [] Q)) ∧ (¬ (t0 = (0 : Int)) → Q (.inl (some (vI (0 : Int)))) M K)) : Wp (d + 1) 224 26 [vR l0, vI l1] [vI t0] M K Q := by
  refine r_ifP (P := t0 = (0 : Int)) c224_26 rfl (fun hc => ?_) (fun hc => ?_)
  · replace h := h.1 hc
    refine r_aload_n c224_31 rfl ?_
    obtain ⟨s1, h⟩ := h
    exact r_call c224_32 rfl rfl (Nat.le_of_ble_eq_true rfl) (okc_r rfl rfl s1) h
  · replace h := h.2 hc
    refine r_iconst c224_29 ?_
    exact r_iret c224_30 (Or.inl rfl) h
theorem t224_35 {d : Nat} {l0 : Nat} {l1 : Int} {M : Mem} {K : KK} {Q : RR → Mem → KK → Prop} (h : isO K.1 l0 12 = true ∧ ∃ b2 : Nat, (M l0 46) = (b2 : Int) ∧ 0 < b2 ∧ (Nat.ble 30 (tg b2) = true ∧ isO K.1 b2 (tg b2) = true) ∧ (0 ≤ (0 : Int) ∧ (0 : Int) < (ln b2 : Int)) ∧ ∃ b7 : Nat, (M b2 (Int.toNat (0 : Int))) = (b7 : Int) ∧ 0 < b7 ∧ isO K.1 b7 20 = true ∧ (0 ≤ l1 ∧ l1 < (ln b7 : Int)) ∧ Q (.inl (some (vI (M b7 (Int.toNat l1))))) M K) : Wp d 224 35 [vR l0, vI l1] [] M K Q := by
  refine r_aload_n c224_35 rfl ?_
  obtain ⟨s1, h⟩ := h
  obtain ⟨b2, h⟩ := h
  obtain ⟨s3, h⟩ := h
  obtain ⟨s4, h⟩ := h
  refine r_getR c224_36 s1 s3 s4 ?_
  refine r_iconst c224_39 ?_
  obtain ⟨s5, h⟩ := h
  obtain ⟨s6, h⟩ := h
  obtain ⟨b7, h⟩ := h
  obtain ⟨s8, h⟩ := h
  obtain ⟨s9, h⟩ := h
  refine r_aa c224_40 s5 s6 s8 s9 ?_
  refine r_iload_n c224_41 rfl ?_
  obtain ⟨s10, h⟩ := h
  obtain ⟨s11, h⟩ := h
  refine r_ia c224_42 s10 s11 ?_
  exact r_iret c224_43 (Or.inl rfl) h
theorem t225_0 {d : Nat} {l0 : Nat} {l1 : Int} {l2 : Int} {M : Mem} {K : KK} {Q : RR → Mem → KK → Prop} (h : isO K.1 l0 12 = true ∧ isO K.1 l0 12 = true ∧ Wm d 208 [vR l0, vI l2] (mset M l0 0 (0 : Int)) K (Bk d 225 8 11 208 [vR l0, vI l1, vI l2, vU, vU, vU] [vR l0] Q)) : Wp (d + 1) 225 0 [vR l0, vI l1, vI l2, vU, vU, vU] [] M K Q := by
  refine r_aload_n c225_0 rfl ?_
  refine r_iconst c225_1 ?_
  obtain ⟨s1, h⟩ := h
  refine r_putI c225_2 s1 ?_
  refine r_aload_n c225_5 rfl ?_
  refine r_aload_n c225_6 rfl ?_
  refine r_iload_n c225_7 rfl ?_
  obtain ⟨s2, h⟩ := h
  exact r_call c225_8 rfl rfl (Nat.le_of_ble_eq_true rfl) (okc_r rfl rfl s2) h
theorem t225_11 {d : Nat} {l0 : Nat} {l1 : Int} {l2 : Int} {t0 : Nat} {t1 : Int} {M : Mem} {K : KK} {Q : RR → Mem → KK → Prop} (h : (¬ t1 = (0 : Int) → Wp d 225 19 [vR l0, vI l1, vI l2, vU, vU, vU] [vI (0 : Int), vR t0] M K Q) ∧ (¬ (¬ t1 = (0 : Int)) → Wp d 225 19 [vR l0, vI l1, vI l2, vU, vU, vU] [vI (1 : Int), vR t0] M K Q)) : Wp d 225 11 [vR l0, vI l1, vI l2, vU, vU, vU] [vI t1, vR t0] M K Q := by
  refine r_ifP (P := ¬ t1 = (0 : Int)) c225_11 rfl (fun hc => ?_) (fun hc => ?_)
  · replace h := h.1 hc
    refine r_iconst c225_18 ?_
    exact h
  · replace h := h.2 hc
    refine r_iconst c225_14 ?_
    refine r_goto c225_15 ?_
    exact h
theorem t225_19 {d : Nat} {l0 : Nat} {l1 : Int} {l2 : Int} {t0 : Nat} {t1 : Int} {M : Mem} {K : KK} {Q : RR → Mem → KK → Prop} (h : isO K.1 t0 12 = true ∧ Wm d 152 [vR t0, vI t1, vI (1 : Int), vI (0 : Int)] M K (Bk d 225 21 24 152 [vR l0, vI l1, vI l2, vU, vU, vU] [] Q)) : Wp (d + 1) 225 19 [vR l0, vI l1, vI l2, vU, vU, vU] [vI t1, vR t0] M K Q := by
  refine r_iconst c225_19 ?_
  refine r_iconst c225_20 ?_
  obtain ⟨s1, h⟩ := h
  exact r_call c225_21 rfl rfl (Nat.le_of_ble_eq_true rfl) (okc_r rfl rfl s1) h
theorem t225_24 {d : Nat} {l0 : Nat} {l1 : Int} {l2 : Int} {t0 : Int} {M : Mem} {K : KK} {Q : RR → Mem → KK → Prop} (h : (¬ t0 = (0 : Int) → Wp (d + 1) 225 51 [vR l0, vI l1, vI l2, vU, vU, vU] [] M K Q) ∧ (¬ (¬ t0 = (0 : Int)) → Wm d 153 [vI l1, vI (0 : Int), vI (20 : Int)] M K (Bk d 225 32 35 153 [vR l0, vI l1, vI l2, vU, vU, vU] [vR l0] Q))) : Wp (d + 1) 225 24 [vR l0, vI l1, vI l2, vU, vU, vU] [vI t0] M K Q := by
  refine r_ifP (P := ¬ t0 = (0 : Int)) c225_24 rfl (fun hc => ?_) (fun hc => ?_)
  · replace h := h.1 hc
    exact h
  · replace h := h.2 hc
    refine r_aload_n c225_27 rfl ?_
    refine r_iload_n c225_28 rfl ?_
    refine r_iconst c225_29 ?_
    refine r_bipush c225_30 ?_
    exact r_call c225_32 rfl rfl (Nat.le_of_ble_eq_true rfl) (okc_s rfl rfl rfl) h
theorem t225_35 {d : Nat} {l0 : Nat} {l1 : Int} {l2 : Int} {t0 : Nat} {t1 : Int} {M : Mem} {K : KK} {Q : RR → Mem → KK → Prop} (h : (¬ t1 = (0 : Int) → Wp d 225 43 [vR l0, vI l1, vI l2, vU, vU, vU] [vI (0 : Int), vR t0] M K Q) ∧ (¬ (¬ t1 = (0 : Int)) → Wp d 225 43 [vR l0, vI l1, vI l2, vU, vU, vU] [vI (1 : Int), vR t0] M K Q)) : Wp d 225 35 [vR l0, vI l1, vI l2, vU, vU, vU] [vI t1, vR t0] M K Q := by
  refine r_ifP (P := ¬ t1 = (0 : Int)) c225_35 rfl (fun hc => ?_) (fun hc => ?_)
  · replace h := h.1 hc
    refine r_iconst c225_42 ?_
    exact h
  · replace h := h.2 hc
    refine r_iconst c225_38 ?_
    refine r_goto c225_39 ?_
    exact h
theorem t225_43 {d : Nat} {l0 : Nat} {l1 : Int} {l2 : Int} {t0 : Nat} {t1 : Int} {M : Mem} {K : KK} {Q : RR → Mem → KK → Prop} (h : isO K.1 t0 12 = true ∧ Wm d 152 [vR t0, vI t1, vI (2 : Int), vI (1 : Int)] M K (Bk d 225 45 48 152 [vR l0, vI l1, vI l2, vU, vU, vU] [] Q)) : Wp (d + 1) 225 43 [vR l0, vI l1, vI l2, vU, vU, vU] [vI t1, vR t0] M K Q := by
  refine r_iconst c225_43 ?_
  refine r_iconst c225_44 ?_
  obtain ⟨s1, h⟩ := h
  exact r_call c225_45 rfl rfl (Nat.le_of_ble_eq_true rfl) (okc_r rfl rfl s1) h
theorem t225_48 {d : Nat} {l0 : Nat} {l1 : Int} {l2 : Int} {t0 : Int} {M : Mem} {K : KK} {Q : RR → Mem → KK → Prop} (h : (t0 = (0 : Int) → isO K.1 l0 12 = true ∧ Wm d 223 [vR l0] M K (Bk d 225 54 57 223 [vR l0, vI l1, vI l2, vU, vU, vU] [] Q)) ∧ (¬ (t0 = (0 : Int)) → Wp (d + 1) 225 51 [vR l0, vI l1, vI l2, vU, vU, vU] [] M K Q)) : Wp (d + 1) 225 48 [vR l0, vI l1, vI l2, vU, vU, vU] [vI t0] M K Q := by
  refine r_ifP (P := t0 = (0 : Int)) c225_48 rfl (fun hc => ?_) (fun hc => ?_)
  · replace h := h.1 hc
    refine r_aload_n c225_53 rfl ?_
    obtain ⟨s1, h⟩ := h
    exact r_call c225_54 rfl rfl (Nat.le_of_ble_eq_true rfl) (okc_r rfl rfl s1) h
  · replace h := h.2 hc
    exact h
theorem t225_51 {d : Nat} {l0 : Nat} {l1 : Int} {l2 : Int} {M : Mem} {K : KK} {Q : RR → Mem → KK → Prop} (h : Q (.inl (some (vI (0 : Int)))) M K) : Wp d 225 51 [vR l0, vI l1, vI l2, vU, vU, vU] [] M K Q := by
  refine r_iconst c225_51 ?_
  exact r_iret c225_52 (Or.inl rfl) h
theorem t225_57 {d : Nat} {l0 : Nat} {l1 : Int} {l2 : Int} {M : Mem} {K : KK} {Q : RR → Mem → KK → Prop} (h : isO K.1 l0 12 = true ∧ ∃ b2 : Nat, (M l0 46) = (b2 : Int) ∧ 0 < b2 ∧ (Nat.ble 30 (tg b2) = true ∧ isO K.1 b2 (tg b2) = true) ∧ (0 ≤ (0 : Int) ∧ (0 : Int) < (ln b2 : Int)) ∧ ∃ b7 : Nat, (M b2 (Int.toNat (0 : Int))) = (b7 : Int) ∧ 0 < b7 ∧ isO K.1 b7 20 = true ∧ (0 ≤ l1 ∧ l1 < (ln b7 : Int)) ∧ (¬ (M b7 (Int.toNat l1)) = (-1 : Int) → Wp d 225 79 [vR l0, vI l1, vI l2, vI l1, vI (0 : Int), vI (0 : Int)] [] M K Q) ∧ (¬ (¬ (M b7 (Int.toNat l1)) = (-1 : Int)) → Q (.inl (some (vI (-1 : Int)))) M K)) : Wp d 225 57 [vR l0, vI l1, vI l2, vU, vU, vU] [] M K Q := by
  refine r_aload_n c225_57 rfl ?_
  obtain ⟨s1, h⟩ := h
  obtain ⟨b2, h⟩ := h
  obtain ⟨s3, h⟩ := h
  obtain ⟨s4, h⟩ := h
  refine r_getR c225_58 s1 s3 s4 ?_
  refine r_iconst c225_61 ?_
  obtain ⟨s5, h⟩ := h
  obtain ⟨s6, h⟩ := h
  obtain ⟨b7, h⟩ := h
  obtain ⟨s8, h⟩ := h
  obtain ⟨s9, h⟩ := h
  refine r_aa c225_62 s5 s6 s8 s9 ?_
  refine r_iload_n c225_63 rfl ?_
  obtain ⟨s10, h⟩ := h
  obtain ⟨s11, h⟩ := h
  refine r_ia c225_64 s10 s11 ?_
  refine r_iconst c225_65 ?_
  refine r_icmpP (P := ¬ (M b7 (Int.toNat l1)) = (-1 : Int)) c225_66 rfl (fun hc => ?_) (fun hc => ?_)
  · replace h := h.1 hc
    refine r_iload_n c225_71 rfl ?_
    refine r_istore_n c225_72 (Nat.le_of_ble_eq_true rfl) ?_
    refine r_iconst c225_73 ?_
    refine r_istore c225_74 (Nat.le_of_ble_eq_true rfl) ?_
    refine r_iconst c225_76 ?_
    refine r_istore c225_77 (Nat.le_of_ble_eq_true rfl) ?_
    exact h
  · replace h := h.2 hc
    refine r_iconst c225_69 ?_
    exact r_iret c225_70 (Or.inl rfl) h
theorem t225_79 {d : Nat} {l0 : Nat} {l1 : Int} {l2 : Int} {l3 : Int} {l4 : Int} {l5 : Int} {M : Mem} {K : KK} {Q : RR → Mem → KK → Prop} (h : (l2 < l5 → Q (.inl (some (vI l4))) M K) ∧ (¬ (l2 < l5) → Wp d 225 88 [vR l0, vI l1, vI l2, vI l3, vI (0 : Int), vI l5] [] M K Q)) : Wp d 225 79 [vR l0, vI l1, vI l2, vI l3, vI l4, vI l5] [] M K Q := by
  refine r_iload c225_79 rfl ?_
  refine r_iload_n c225_81 rfl ?_
  refine r_icmpP (P := l2 < l5) c225_82 rfl (fun hc => ?_) (fun hc => ?_)
  · replace h := h.1 hc
    refine r_iload c225_170 rfl ?_
    exact r_iret c225_172 (Or.inl rfl) h
  · replace h := h.2 hc
    refine r_iconst c225_85 ?_
    refine r_istore c225_86 (Nat.le_of_ble_eq_true rfl) ?_
    exact h
theorem t225_88 {d : Nat} {l0 : Nat} {l1 : Int} {l2 : Int} {l3 : Int} {l4 : Int} {l5 : Int} {M : Mem} {K : KK} {Q : RR → Mem → KK → Prop} (h : isO K.1 l0 12 = true ∧ Wm d 222 [vR l0, vI l5, vI l4] M K (Bk d 225 93 96 222 [vR l0, vI l1, vI l2, vI l3, vI l4, vI l5] [] Q)) : Wp (d + 1) 225 88 [vR l0, vI l1, vI l2, vI l3, vI l4, vI l5] [] M K Q := by
  refine r_aload_n c225_88 rfl ?_
  refine r_iload c225_89 rfl ?_
  refine r_iload c225_91 rfl ?_
  obtain ⟨s1, h⟩ := h
  exact r_call c225_93 rfl rfl (Nat.le_of_ble_eq_true rfl) (okc_r rfl rfl s1) h
theorem t225_96 {d : Nat} {l0 : Nat} {l1 : Int} {l2 : Int} {l3 : Int} {l4 : Int} {l5 : Int} {t0 : Int} {M : Mem} {K : KK} {Q : RR → Mem → KK → Prop} (h : (t0 = (-1 : Int) → Wp (d + 1) 225 153 [vR l0, vI l1, vI l2, vI l3, vI l4, vI l5] [] M K Q) ∧ (¬ (t0 = (-1 : Int)) → isO K.1 l0 12 = true ∧ ∃ b2 : Nat, (M l0 46) = (b2 : Int) ∧ 0 < b2 ∧ (Nat.ble 30 (tg b2) = true ∧ isO K.1 b2 (tg b2) = true) ∧ (0 ≤ (w32 (l5 + (1 : Int))) ∧ (w32 (l5 + (1 : Int))) < (ln b2 : Int)) ∧ ∃ b7 : Nat, (M b2 (Int.toNat (w32 (l5 + (1 : Int))))) = (b7 : Int) ∧ 0 < b7 ∧ isO K.1 b7 20 = true ∧ (0 ≤ (w32 (l3 - l4)) ∧ (w32 (l3 - l4)) < (ln b7 : Int)) ∧ ((M b7 (Int.toNat (w32 (l3 - l4)))) = (-1 : Int) → Wp (d + 1) 225 153 [vR l0, vI l1, vI l2, vI l3, vI l4, vI l5] [] M K Q) ∧ (¬ ((M b7 (Int.toNat (w32 (l3 - l4)))) = (-1 : Int)) → isO K.1 l0 12 = true ∧ Wm d 222 [vR l0, vI l5, vI l4] M K (Bk d 225 123 126 222 [vR l0, vI l1, vI l2, vI l3, vI l4, vI l5] [] Q)))) : Wp (d + 1) 225 96 [vR l0, vI l1, vI l2, vI l3, vI l4, vI l5] [vI t0] M K Q := by
  refine r_iconst c225_96 ?_
  refine r_icmpP (P := t0 = (-1 : Int)) c225_97 rfl (fun hc => ?_) (fun hc => ?_)
  · replace h := h.1 hc
    exact h
  · replace h := h.2 hc
    refine r_aload_n c225_100 rfl ?_
    obtain ⟨s1, h⟩ := h
    obtain ⟨b2, h⟩ := h
    obtain ⟨s3, h⟩ := h
    obtain ⟨s4, h⟩ := h
    refine r_getR c225_101 s1 s3 s4 ?_
    refine r_iload c225_104 rfl ?_
    refine r_iconst c225_106 ?_
    refine r_iadd c225_107 ?_
    obtain ⟨s5, h⟩ := h
    obtain ⟨s6, h⟩ := h
    obtain ⟨b7, h⟩ := h
    obtain ⟨s8, h⟩ := h
    obtain ⟨s9, h⟩ := h
    refine r_aa c225_108 s5 s6 s8 s9 ?_
    refine r_iload_n c225_109 rfl ?_
    refine r_iload c225_110 rfl ?_
    refine r_isub c225_112 ?_
    obtain ⟨s10, h⟩ := h
    obtain ⟨s11, h⟩ := h
    refine r_ia c225_113 s10 s11 ?_
    refine r_iconst c225_114 ?_
    refine r_icmpP (P := (M b7 (Int.toNat (w32 (l3 - l4)))) = (-1 : Int)) c225_115 rfl (fun hc => ?_) (fun hc => ?_)
    · replace h := h.1 hc
      exact h
    · replace h := h.2 hc
      refine r_aload_n c225_118 rfl ?_
      refine r_iload c225_119 rfl ?_
      refine r_iload c225_121 rfl ?_
      obtain ⟨s12, h⟩ := h
      exact r_call c225_123 rfl rfl (Nat.le_of_ble_eq_true rfl) (okc_r rfl rfl s12) h
theorem t225_126 {d : Nat} {l0 : Nat} {l1 : Int} {l2 : Int} {l3 : Int} {l4 : Int} {l5 : Int} {t0 : Int} {M : Mem} {K : KK} {Q : RR → Mem → KK → Prop} (h : isO K.1 l0 12 = true ∧ ∃ b2 : Nat, (M l0 46) = (b2 : Int) ∧ 0 < b2 ∧ (Nat.ble 30 (tg b2) = true ∧ isO K.1 b2 (tg b2) = true) ∧ (0 ≤ (w32 (l5 + (1 : Int))) ∧ (w32 (l5 + (1 : Int))) < (ln b2 : Int)) ∧ ∃ b7 : Nat, (M b2 (Int.toNat (w32 (l5 + (1 : Int))))) = (b7 : Int) ∧ 0 < b7 ∧ isO K.1 b7 20 = true ∧ (0 ≤ (w32 (l3 - l4)) ∧ (w32 (l3 - l4)) < (ln b7 : Int)) ∧ isO K.1 l0 12 = true ∧ ∃ b13 : Nat, (M l0 46) = (b13 : Int) ∧ 0 < b13 ∧ (Nat.ble 30 (tg b13) = true ∧ isO K.1 b13 (tg b13) = true) ∧ (0 ≤ l5 ∧ l5 < (ln b13 : Int)) ∧ ∃ b18 : Nat, (M b13 (Int.toNat l5)) = (b18 : Int) ∧ 0 < b18 ∧ isO K.1 b18 20 = true ∧ (0 ≤ l3 ∧ l3 < (ln b18 : Int)) ∧ ((w32 (t0 + (M b7 (Int.toNat (w32 (l3 - l4)))))) = (M b18 (Int.toNat l3)) → Wp d 225 79 [vR l0, vI l1, vI l2, vI (w32 (l3 - l4)), vI l4, vI (w32 (l5 + 1))] [] M K Q) ∧ (¬ ((w32 (t0 + (M b7 (Int.toNat (w32 (l3 - l4)))))) = (M b18 (Int.toNat l3))) → Wp d 225 153 [vR l0, vI l1, vI l2, vI l3, vI l4, vI l5] [] M K Q)) : Wp d 225 126 [vR l0, vI l1, vI l2, vI l3, vI l4, vI l5] [vI t0] M K Q := by
  refine r_aload_n c225_126 rfl ?_
  obtain ⟨s1, h⟩ := h
  obtain ⟨b2, h⟩ := h
  obtain ⟨s3, h⟩ := h
  obtain ⟨s4, h⟩ := h
  refine r_getR c225_127 s1 s3 s4 ?_
  refine r_iload c225_130 rfl ?_
  refine r_iconst c225_132 ?_
  refine r_iadd c225_133 ?_
  obtain ⟨s5, h⟩ := h
  obtain ⟨s6, h⟩ := h
  obtain ⟨b7, h⟩ := h
  obtain ⟨s8, h⟩ := h
  obtain ⟨s9, h⟩ := h
  refine r_aa c225_134 s5 s6 s8 s9 ?_
  refine r_iload_n c225_135 rfl ?_
  refine r_iload c225_136 rfl ?_
  refine r_isub c225_138 ?_
  obtain ⟨s10, h⟩ := h
  obtain ⟨s11, h⟩ := h
  refine r_ia c225_139 s10 s11 ?_
  refine r_iadd c225_140 ?_
  refine r_aload_n c225_141 rfl ?_
  obtain ⟨s12, h⟩ := h
  obtain ⟨b13, h⟩ := h
  obtain ⟨s14, h⟩ := h
  obtain ⟨s15, h⟩ := h
  refine r_getR c225_142 s12 s14 s15 ?_
  refine r_iload c225_145 rfl ?_
  obtain ⟨s16, h⟩ := h
  obtain ⟨s17, h⟩ := h
  obtain ⟨b18, h⟩ := h
  obtain ⟨s19, h⟩ := h
  obtain ⟨s20, h⟩ := h
  refine r_aa c225_147 s16 s17 s19 s20 ?_
  refine r_iload_n c225_148 rfl ?_
  obtain ⟨s21, h⟩ := h
  obtain ⟨s22, h⟩ := h
  refine r_ia c225_149 s21 s22 ?_
  refine r_icmpP (P := (w32 (t0 + (M b7 (Int.toNat (w32 (l3 - l4)))))) = (M b18 (Int.toNat l3))) c225_150 rfl (fun hc => ?_) (fun hc => ?_)
  · replace h := h.1 hc
    refine r_iload_n c225_159 rfl ?_
    refine r_iload c225_160 rfl ?_
    refine r_isub c225_162 ?_
    refine r_istore_n c225_163 (Nat.le_of_ble_eq_true rfl) ?_
    refine r_iinc c225_164 rfl ?_
    refine r_goto c225_167 ?_
    exact h
  · replace h := h.2 hc
    exact h
theorem t225_153 {d : Nat} {l0 : Nat} {l1 : Int} {l2 : Int} {l3 : Int} {l4 : Int} {l5 : Int} {M : Mem} {K : KK} {Q : RR → Mem → KK → Prop} (h : Wp d 225 88 [vR l0, vI l1, vI l2, vI l3, vI (w32 (l4 + 1)), vI l5] [] M K Q) : Wp d 225 153 [vR l0, vI l1, vI l2, vI l3, vI l4, vI l5] [] M K Q := by
  refine r_iinc c225_153 rfl ?_
  refine r_goto c225_156 ?_
  exact h
theorem t226_0 {d : Nat} {l0 : Nat} {l1 : Nat} {l2 : Int} {l3 : Int} {l4 : Int} {l5 : Int} {l6 : Int} {l7 : Int} {l8 : Int} {l9 : Int} {M : Mem} {K : KK} {Q : RR → Mem → KK → Prop} (h : (¬ l5 = (0 : Int) → isO K.1 l1 20 = true ∧ (0 ≤ (w32 ((0 : Int) + l2)) ∧ (w32 ((0 : Int) + l2)) < (ln l1 : Int)) ∧ isO K.1 l0 12 = true ∧ Wm d 194 [vR l0, vI l2, vI (M l1 (Int.toNat (w32 ((0 : Int) + l2)))), vI l6, vI (0 : Int), vI l8, vI l9, vI l7] M K (Bk d 226 35 38 194 [vR l0, vR l1, vI l2, vI l3, vI l4, vI l5, vI l6, vI l7, vI l8, vI l9, vU, vU] [vI l6, vI (0 : Int)] Q)) ∧ (¬ (¬ l5 = (0 : Int)) → (¬ l6 = (0 : Int) → Wp (d + 1) 226 15 [vR l0, vR l1, vI l2, vI l3, vI l4, vI l5, vI l6, vI l7, vI l8, vI l9, vU, vU] [vL (0 : Int)] M K Q) ∧ (¬ (¬ l6 = (0 : Int)) → Wp (d + 1) 226 15 [vR l0, vR l1, vI l2, vI l3, vI l4, vI l5, vI l6, vI l7, vI l8, vI l9, vU, vU] [vL (1 : Int)] M K Q))) : Wp (d + 1) 226 0 [vR l0, vR l1, vI l2, vI l3, vI l4, vI l5, vI l6, vI l7, vI l8, vI l9, vU, vU] [] M K Q := by
  refine r_iload c226_0 rfl ?_
  refine r_ifP (P := ¬ l5 = (0 : Int)) c226_2 rfl (fun hc => ?_) (fun hc => ?_)
  · replace h := h.1 hc
    refine r_iconst c226_16 ?_
    refine r_iload c226_17 rfl ?_
    refine r_aload_n c226_19 rfl ?_
    refine r_iload_n c226_20 rfl ?_
    refine r_aload_n c226_21 rfl ?_
    refine r_iconst c226_22 ?_
    refine r_iload_n c226_23 rfl ?_
    refine r_iadd c226_24 ?_
    obtain ⟨s1, h⟩ := h
    obtain ⟨s2, h⟩ := h
    refine r_ia c226_25 s1 s2 ?_
    refine r_iload c226_26 rfl ?_
    refine r_iconst c226_28 ?_
    refine r_iload c226_29 rfl ?_
    refine r_iload c226_31 rfl ?_
    refine r_iload c226_33 rfl ?_
    obtain ⟨s3, h⟩ := h
    exact r_call c226_35 rfl rfl (Nat.le_of_ble_eq_true rfl) (okc_r rfl rfl s3) h
  · replace h := h.2 hc
    refine r_iload c226_5 rfl ?_
    refine r_ifP (P := ¬ l6 = (0 : Int)) c226_7 rfl (fun hc => ?_) (fun hc => ?_)
    · replace h := h.1 hc
      refine r_lconst c226_14 ?_
      exact h
    · replace h := h.2 hc
      refine r_lconst c226_10 ?_
      refine r_goto c226_11 ?_
      exact h
theorem t226_15 {d : Nat} {l0 : Nat} {l1 : Nat} {l2 : Int} {l3 : Int} {l4 : Int} {l5 : Int} {l6 : Int} {l7 : Int} {l8 : Int} {l9 : Int} {t0 : Int} {M : Mem} {K : KK} {Q : RR → Mem → KK → Prop} (h : Q (.inl (some (vL t0))) M K) : Wp d 226 15 [vR l0, vR l1, vI l2, vI l3, vI l4, vI l5, vI l6, vI l7, vI l8, vI l9, vU, vU] [vL t0] M K Q := by
  exact r_lret c226_15 h
theorem t226_38 {d : Nat} {l0 : Nat} {l1 : Nat} {l2 : Int} {l3 : Int} {l4 : Int} {l5 : Int} {l6 : Int} {l7 : Int} {l8 : Int} {l9 : Int} {t0 : Int} {t1 : Int} {t2 : Int} {M : Mem} {K : KK} {Q : RR → Mem → KK → Prop} (h : Wm d 155 [vI t0, vI (w32 (t1 - t2))] M K (Bk d 226 39 42 155 [vR l0, vR l1, vI l2, vI l3, vI l4, vI l5, vI l6, vI l7, vI l8, vI l9, vU, vU] [] Q)) : Wp (d + 1) 226 38 [vR l0, vR l1, vI l2, vI l3, vI l4, vI l5, vI l6, vI l7, vI l8, vI l9, vU, vU] [vI t2, vI t1, vI t0] M K Q := by
  refine r_isub c226_38 ?_
  exact r_call c226_39 rfl rfl (Nat.le_of_ble_eq_true rfl) (okc_s rfl rfl rfl) h
theorem t226_42 {d : Nat} {l0 : Nat} {l1 : Nat} {l2 : Int} {l3 : Int} {l4 : Int} {l5 : Int} {l6 : Int} {l7 : Int} {l8 : Int} {l9 : Int} {t0 : Int} {M : Mem} {K : KK} {Q : RR → Mem → KK → Prop} (h : isO K.1 l1 20 = true ∧ (0 ≤ (w32 ((0 : Int) + l2)) ∧ (w32 ((0 : Int) + l2)) < (ln l1 : Int)) ∧ isO K.1 l0 12 = true ∧ Wm d 194 [vR l0, vI l2, vI (M l1 (Int.toNat (w32 ((0 : Int) + l2)))), vI l6, vI l4, vI l8, vI l9, vI l7] M K (Bk d 226 64 67 194 [vR l0, vR l1, vI l2, vI l3, vI l4, vI l5, vI l6, vI l7, vI l8, vI l9, vI t0, vU] [vI l6, vI (0 : Int)] Q)) : Wp (d + 1) 226 42 [vR l0, vR l1, vI l2, vI l3, vI l4, vI l5, vI l6, vI l7, vI l8, vI l9, vU, vU] [vI t0] M K Q := by
  refine r_istore c226_42 (Nat.le_of_ble_eq_true rfl) ?_
  refine r_iconst c226_44 ?_
  refine r_iload c226_45 rfl ?_
  refine r_aload_n c226_47 rfl ?_
  refine r_iload_n c226_48 rfl ?_
  refine r_aload_n c226_49 rfl ?_
  refine r_iconst c226_50 ?_
  refine r_iload_n c226_51 rfl ?_
  refine r_iadd c226_52 ?_
  obtain ⟨s1, h⟩ := h
  obtain ⟨s2, h⟩ := h
  refine r_ia c226_53 s1 s2 ?_
  refine r_iload c226_54 rfl ?_
  refine r_iload c226_56 rfl ?_
  refine r_iload c226_58 rfl ?_
  refine r_iload c226_60 rfl ?_
  refine r_iload c226_62 rfl ?_
  obtain ⟨s3, h⟩ := h
  exact r_call c226_64 rfl rfl (Nat.le_of_ble_eq_true rfl) (okc_r rfl rfl s3) h
theorem t226_67 {d : Nat} {l0 : Nat} {l1 : Nat} {l2 : Int} {l3 : Int} {l4 : Int} {l5 : Int} {l6 : Int} {l7 : Int} {l8 : Int} {l9 : Int} {l10 : Int} {t0 : Int} {t1 : Int} {t2 : Int} {M : Mem} {K : KK} {Q : RR → Mem → KK → Prop} (h : Wm d 155 [vI t0, vI (w32 (t1 - t2))] M K (Bk d 226 68 71 155 [vR l0, vR l1, vI l2, vI l3, vI l4, vI l5, vI l6, vI l7, vI l8, vI l9, vI l10, vU] [] Q)) : Wp (d + 1) 226 67 [vR l0, vR l1, vI l2, vI l3, vI l4, vI l5, vI l6, vI l7, vI l8, vI l9, vI l10, vU] [vI t2, vI t1, vI t0] M K Q := by
  refine r_isub c226_67 ?_
  exact r_call c226_68 rfl rfl (Nat.le_of_ble_eq_true rfl) (okc_s rfl rfl rfl) h
theorem t226_71 {d : Nat} {l0 : Nat} {l1 : Nat} {l2 : Int} {l3 : Int} {l4 : Int} {l5 : Int} {l6 : Int} {l7 : Int} {l8 : Int} {l9 : Int} {l10 : Int} {t0 : Int} {M : Mem} {K : KK} {Q : RR → Mem → KK → Prop} (h : isO K.1 l0 12 = true ∧ Wm d 226 [vR l0, vR l1, vI l2, vI l3, vI l4, vI (w32 (l5 - (1 : Int))), vI t0, vI (w32 (l7 + (1 : Int))), vI (0 : Int), vI (0 : Int)] M K (Bk d 226 93 96 226 [vR l0, vR l1, vI l2, vI l3, vI l4, vI l5, vI l6, vI l7, vI l8, vI l9, vI l10, vI t0] [vL l3] Q)) : Wp (d + 1) 226 71 [vR l0, vR l1, vI l2, vI l3, vI l4, vI l5, vI l6, vI l7, vI l8, vI l9, vI l10, vU] [vI t0] M K Q := by
  refine r_istore c226_71 (Nat.le_of_ble_eq_true rfl) ?_
  refine r_iload_n c226_73 rfl ?_
  refine r_i2l c226_74 ?_
  refine r_aload_n c226_75 rfl ?_
  refine r_aload_n c226_76 rfl ?_
  refine r_iload_n c226_77 rfl ?_
  refine r_iload_n c226_78 rfl ?_
  refine r_iload c226_79 rfl ?_
  refine r_iload c226_81 rfl ?_
  refine r_iconst c226_83 ?_
  refine r_isub c226_84 ?_
  refine r_iload c226_85 rfl ?_
  refine r_iload c226_87 rfl ?_
  refine r_iconst c226_89 ?_
  refine r_iadd c226_90 ?_
  refine r_iconst c226_91 ?_
  refine r_iconst c226_92 ?_
  obtain ⟨s1, h⟩ := h
  exact r_call c226_93 rfl rfl (Nat.le_of_ble_eq_true rfl) (okc_r rfl rfl s1) h
theorem t226_96 {d : Nat} {l0 : Nat} {l1 : Nat} {l2 : Int} {l3 : Int} {l4 : Int} {l5 : Int} {l6 : Int} {l7 : Int} {l8 : Int} {l9 : Int} {l10 : Int} {l11 : Int} {t0 : Int} {t1 : Int} {M : Mem} {K : KK} {Q : RR → Mem → KK → Prop} (h : isO K.1 l0 12 = true ∧ Wm d 226 [vR l0, vR l1, vI l2, vI l3, vI l4, vI (w32 (l5 - (1 : Int))), vI l10, vI (w32 (l7 + (1 : Int))), vI (0 : Int), vI (0 : Int)] M K (Bk d 226 120 123 226 [vR l0, vR l1, vI l2, vI l3, vI l4, vI l5, vI l6, vI l7, vI l8, vI l9, vI l10, vI l11] [vL (w32 ((16 : Int) - l3)), vL (w64 (t0 * t1))] Q)) : Wp (d + 1) 226 96 [vR l0, vR l1, vI l2, vI l3, vI l4, vI l5, vI l6, vI l7, vI l8, vI l9, vI l10, vI l11] [vL t1, vL t0] M K Q := by
  refine r_lmul c226_96 ?_
  refine r_bipush c226_97 ?_
  refine r_iload_n c226_99 rfl ?_
  refine r_isub c226_100 ?_
  refine r_i2l c226_101 ?_
  refine r_aload_n c226_102 rfl ?_
  refine r_aload_n c226_103 rfl ?_
  refine r_iload_n c226_104 rfl ?_
  refine r_iload_n c226_105 rfl ?_
  refine r_iload c226_106 rfl ?_
  refine r_iload c226_108 rfl ?_
  refine r_iconst c226_110 ?_
  refine r_isub c226_111 ?_
  refine r_iload c226_112 rfl ?_
  refine r_iload c226_114 rfl ?_
  refine r_iconst c226_116 ?_
  refine r_iadd c226_117 ?_
  refine r_iconst c226_118 ?_
  refine r_iconst c226_119 ?_
  obtain ⟨s1, h⟩ := h
  exact r_call c226_120 rfl rfl (Nat.le_of_ble_eq_true rfl) (okc_r rfl rfl s1) h
theorem t226_123 {d : Nat} {l0 : Nat} {l1 : Nat} {l2 : Int} {l3 : Int} {l4 : Int} {l5 : Int} {l6 : Int} {l7 : Int} {l8 : Int} {l9 : Int} {l10 : Int} {l11 : Int} {t0 : Int} {t1 : Int} {t2 : Int} {M : Mem} {K : KK} {Q : RR → Mem → KK → Prop} (h : Q (.inl (some (vL (w64 (t0 + (w64 (t1 * t2))))))) M K) : Wp d 226 123 [vR l0, vR l1, vI l2, vI l3, vI l4, vI l5, vI l6, vI l7, vI l8, vI l9, vI l10, vI l11] [vL t2, vL t1, vL t0] M K Q := by
  refine r_lmul c226_123 ?_
  refine r_ladd c226_124 ?_
  exact r_lret c226_125 h
theorem t227_0 {d : Nat} {l0 : Nat} {l1 : Int} {l2 : Int} {l3 : Int} {l4 : Int} {l5 : Int} {M : Mem} {K : KK} {Q : RR → Mem → KK → Prop} (h : isO K.1 l0 12 = true ∧ isO K.1 l0 12 = true ∧ Wm d 208 [vR l0, vI l1] (mset M l0 0 (0 : Int)) K (Bk d 227 8 11 208 [vR l0, vI l1, vI l2, vI l3, vI l4, vI l5, vU, vU, vU, vU, vU, vU, vU, vU, vU, vU] [vR l0] Q)) : Wp (d + 1) 227 0 [vR l0, vI l1, vI l2, vI l3, vI l4, vI l5, vU, vU, vU, vU, vU, vU, vU, vU, vU, vU] [] M K Q := by
  refine r_aload_n c227_0 rfl ?_
  refine r_iconst c227_1 ?_
  obtain ⟨s1, h⟩ := h
  refine r_putI c227_2 s1 ?_
  refine r_aload_n c227_5 rfl ?_
  refine r_aload_n c227_6 rfl ?_
  refine r_iload_n c227_7 rfl ?_
  obtain ⟨s2, h⟩ := h
  exact r_call c227_8 rfl rfl (Nat.le_of_ble_eq_true rfl) (okc_r rfl rfl s2) h
theorem t227_11 {d : Nat} {l0 : Nat} {l1 : Int} {l2 : Int} {l3 : Int} {l4 : Int} {l5 : Int} {t0 : Nat} {t1 : Int} {M : Mem} {K : KK} {Q : RR → Mem → KK → Prop} (h : (¬ t1 = (0 : Int) → Wp d 227 19 [vR l0, vI l1, vI l2, vI l3, vI l4, vI l5, vU, vU, vU, vU, vU, vU, vU, vU, vU, vU] [vI (0 : Int), vR t0] M K Q) ∧ (¬ (¬ t1 = (0 : Int)) → Wp d 227 19 [vR l0, vI l1, vI l2, vI l3, vI l4, vI l5, vU, vU, vU, vU, vU, vU, vU, vU, vU, vU] [vI (1 : Int), vR t0] M K Q)) : Wp d 227 11 [vR l0, vI l1, vI l2, vI l3, vI l4, vI l5, vU, vU, vU, vU, vU, vU, vU, vU, vU, vU] [vI t1, vR t0] M K Q := by
  refine r_ifP (P := ¬ t1 = (0 : Int)) c227_11 rfl (fun hc => ?_) (fun hc => ?_)
  · replace h := h.1 hc
    refine r_iconst c227_18 ?_
    exact h
  · replace h := h.2 hc
    refine r_iconst c227_14 ?_
    refine r_goto c227_15 ?_
    exact h
theorem t227_19 {d : Nat} {l0 : Nat} {l1 : Int} {l2 : Int} {l3 : Int} {l4 : Int} {l5 : Int} {t0 : Nat} {t1 : Int} {M : Mem} {K : KK} {Q : RR → Mem → KK → Prop} (h : isO K.1 t0 12 = true ∧ Wm d 152 [vR t0, vI t1, vI (1 : Int), vI (0 : Int)] M K (Bk d 227 21 24 152 [vR l0, vI l1, vI l2, vI l3, vI l4, vI l5, vU, vU, vU, vU, vU, vU, vU, vU, vU, vU] [] Q)) : Wp (d + 1) 227 19 [vR l0, vI l1, vI l2, vI l3, vI l4, vI l5, vU, vU, vU, vU, vU, vU, vU, vU, vU, vU] [vI t1, vR t0] M K Q := by
  refine r_iconst c227_19 ?_
  refine r_iconst c227_20 ?_
  obtain ⟨s1, h⟩ := h
  exact r_call c227_21 rfl rfl (Nat.le_of_ble_eq_true rfl) (okc_r rfl rfl s1) h
theorem t227_24 {d : Nat} {l0 : Nat} {l1 : Int} {l2 : Int} {l3 : Int} {l4 : Int} {l5 : Int} {t0 : Int} {M : Mem} {K : KK} {Q : RR → Mem → KK → Prop} (h : (¬ t0 = (0 : Int) → Wp (d + 1) 227 82 [vR l0, vI l1, vI l2, vI l3, vI l4, vI l5, vU, vU, vU, vU, vU, vU, vU, vU, vU, vU] [] M K Q) ∧ (¬ (¬ t0 = (0 : Int)) → Wm d 153 [vI l2, vI (0 : Int), vI (16 : Int)] M K (Bk d 227 32 35 153 [vR l0, vI l1, vI l2, vI l3, vI l4, vI l5, vU, vU, vU, vU, vU, vU, vU, vU, vU, vU] [vR l0] Q))) : Wp (d + 1) 227 24 [vR l0, vI l1, vI l2, vI l3, vI l4, vI l5, vU, vU, vU, vU, vU, vU, vU, vU, vU, vU] [vI t0] M K Q := by
  refine r_ifP (P := ¬ t0 = (0 : Int)) c227_24 rfl (fun hc => ?_) (fun hc => ?_)
  · replace h := h.1 hc
    exact h
  · replace h := h.2 hc
    refine r_aload_n c227_27 rfl ?_
    refine r_iload_n c227_28 rfl ?_
    refine r_iconst c227_29 ?_
    refine r_bipush c227_30 ?_
    exact r_call c227_32 rfl rfl (Nat.le_of_ble_eq_true rfl) (okc_s rfl rfl rfl) h
theorem t227_35 {d : Nat} {l0 : Nat} {l1 : Int} {l2 : Int} {l3 : Int} {l4 : Int} {l5 : Int} {t0 : Nat} {t1 : Int} {M : Mem} {K : KK} {Q : RR → Mem → KK → Prop} (h : (t1 = (0 : Int) → Wp (d + 1) 227 69 [vR l0, vI l1, vI l2, vI l3, vI l4, vI l5, vU, vU, vU, vU, vU, vU, vU, vU, vU, vU] [vR t0] M K Q) ∧ (¬ (t1 = (0 : Int)) → Wm d 153 [vI l3, vI (0 : Int), vI (9 : Int)] M K (Bk d 227 42 45 153 [vR l0, vI l1, vI l2, vI l3, vI l4, vI l5, vU, vU, vU, vU, vU, vU, vU, vU, vU, vU] [vR t0] Q))) : Wp (d + 1) 227 35 [vR l0, vI l1, vI l2, vI l3, vI l4, vI l5, vU, vU, vU, vU, vU, vU, vU, vU, vU, vU] [vI t1, vR t0] M K Q := by
  refine r_ifP (P := t1 = (0 : Int)) c227_35 rfl (fun hc => ?_) (fun hc => ?_)
  · replace h := h.1 hc
    exact h
  · replace h := h.2 hc
    refine r_iload_n c227_38 rfl ?_
    refine r_iconst c227_39 ?_
    refine r_bipush c227_40 ?_
    exact r_call c227_42 rfl rfl (Nat.le_of_ble_eq_true rfl) (okc_s rfl rfl rfl) h
theorem t227_45 {d : Nat} {l0 : Nat} {l1 : Int} {l2 : Int} {l3 : Int} {l4 : Int} {l5 : Int} {t0 : Nat} {t1 : Int} {M : Mem} {K : KK} {Q : RR → Mem → KK → Prop} (h : (t1 = (0 : Int) → Wp (d + 1) 227 69 [vR l0, vI l1, vI l2, vI l3, vI l4, vI l5, vU, vU, vU, vU, vU, vU, vU, vU, vU, vU] [vR t0] M K Q) ∧ (¬ (t1 = (0 : Int)) → Wm d 153 [vI l4, vI (0 : Int), vI (8 : Int)] M K (Bk d 227 53 56 153 [vR l0, vI l1, vI l2, vI l3, vI l4, vI l5, vU, vU, vU, vU, vU, vU, vU, vU, vU, vU] [vR t0] Q))) : Wp (d + 1) 227 45 [vR l0, vI l1, vI l2, vI l3, vI l4, vI l5, vU, vU, vU, vU, vU, vU, vU, vU, vU, vU] [vI t1, vR t0] M K Q := by
  refine r_ifP (P := t1 = (0 : Int)) c227_45 rfl (fun hc => ?_) (fun hc => ?_)
  · replace h := h.1 hc
    exact h
  · replace h := h.2 hc
    refine r_iload c227_48 rfl ?_
    refine r_iconst c227_50 ?_
    refine r_bipush c227_51 ?_
    exact r_call c227_53 rfl rfl (Nat.le_of_ble_eq_true rfl) (okc_s rfl rfl rfl) h
theorem t227_56 {d : Nat} {l0 : Nat} {l1 : Int} {l2 : Int} {l3 : Int} {l4 : Int} {l5 : Int} {t0 : Nat} {t1 : Int} {M : Mem} {K : KK} {Q : RR → Mem → KK → Prop} (h : (t1 = (0 : Int) → Wp (d + 1) 227 69 [vR l0, vI l1, vI l2, vI l3, vI l4, vI l5, vU, vU, vU, vU, vU, vU, vU, vU, vU, vU] [vR t0] M K Q) ∧ (¬ (t1 = (0 : Int)) → Wm d 153 [vI l5, vI (0 : Int), vI (1 : Int)] M K (Bk d 227 63 66 153 [vR l0, vI l1, vI l2, vI l3, vI l4, vI l5, vU, vU, vU, vU, vU, vU, vU, vU, vU, vU] [vR t0] Q))) : Wp (d + 1) 227 56 [vR l0, vI l1, vI l2, vI l3, vI l4, vI l5, vU, vU, vU, vU, vU, vU, vU, vU, vU, vU] [vI t1, vR t0] M K Q := by
  refine r_ifP (P := t1 = (0 : Int)) c227_56 rfl (fun hc => ?_) (fun hc => ?_)
  · replace h := h.1 hc
    exact h
  · replace h := h.2 hc
    refine r_iload c227_59 rfl ?_
    refine r_iconst c227_61 ?_
    refine r_iconst c227_62 ?_
    exact r_call c227_63 rfl rfl (Nat.le_of_ble_eq_true rfl) (okc_s rfl rfl rfl) h
theorem t227_66 {d : Nat} {l0 : Nat} {l1 : Int} {l2 : Int} {l3 : Int} {l4 : Int} {l5 : Int} {t0 : Nat} {t1 : Int} {M : Mem} {K : KK} {Q : RR → Mem → KK → Prop} (h : (¬ t1 = (0 : Int) → Wp d 227 74 [vR l0, vI l1, vI l2, vI l3, vI l4, vI l5, vU, vU, vU, vU, vU, vU, vU, vU, vU, vU] [vI (0 : Int), vR t0] M K Q) ∧ (¬ (¬ t1 = (0 : Int)) → Wp d 227 69 [vR l0, vI l1, vI l2, vI l3, vI l4, vI l5, vU, vU, vU, vU, vU, vU, vU, vU, vU, vU] [vR t0] M K Q)) : Wp d 227 66 [vR l0, vI l1, vI l2, vI l3, vI l4, vI l5, vU, vU, vU, vU, vU, vU, vU, vU, vU, vU] [vI t1, vR t0] M K Q := by
  refine r_ifP (P := ¬ t1 = (0 : Int)) c227_66 rfl (fun hc => ?_) (fun hc => ?_)
  · replace h := h.1 hc
    refine r_iconst c227_73 ?_
    exact h
  · replace h := h.2 hc
    exact h
theorem t227_69 {d : Nat} {l0 : Nat} {l1 : Int} {l2 : Int} {l3 : Int} {l4 : Int} {l5 : Int} {t0 : Nat} {M : Mem} {K : KK} {Q : RR → Mem → KK → Prop} (h : Wp d 227 74 [vR l0, vI l1, vI l2, vI l3, vI l4, vI l5, vU, vU, vU, vU, vU, vU, vU, vU, vU, vU] [vI (1 : Int), vR t0] M K Q) : Wp d 227 69 [vR l0, vI l1, vI l2, vI l3, vI l4, vI l5, vU, vU, vU, vU, vU, vU, vU, vU, vU, vU] [vR t0] M K Q := by
  refine r_iconst c227_69 ?_
  refine r_goto c227_70 ?_
  exact h
theorem t227_74 {d : Nat} {l0 : Nat} {l1 : Int} {l2 : Int} {l3 : Int} {l4 : Int} {l5 : Int} {t0 : Nat} {t1 : Int} {M : Mem} {K : KK} {Q : RR → Mem → KK → Prop} (h : isO K.1 t0 12 = true ∧ Wm d 152 [vR t0, vI t1, vI (2 : Int), vI (1 : Int)] M K (Bk d 227 76 79 152 [vR l0, vI l1, vI l2, vI l3, vI l4, vI l5, vU, vU, vU, vU, vU, vU, vU, vU, vU, vU] [] Q)) : Wp (d + 1) 227 74 [vR l0, vI l1, vI l2, vI l3, vI l4, vI l5, vU, vU, vU, vU, vU, vU, vU, vU, vU, vU] [vI t1, vR t0] M K Q := by
  refine r_iconst c227_74 ?_
  refine r_iconst c227_75 ?_
  obtain ⟨s1, h⟩ := h
  exact r_call c227_76 rfl rfl (Nat.le_of_ble_eq_true rfl) (okc_r rfl rfl s1) h
theorem t227_79 {d : Nat} {l0 : Nat} {l1 : Int} {l2 : Int} {l3 : Int} {l4 : Int} {l5 : Int} {t0 : Int} {M : Mem} {K : KK} {Q : RR → Mem → KK → Prop} (h : (t0 = (0 : Int) → isO K.1 l0 12 = true ∧ ∃ b2 : Nat, (M l0 31) = (b2 : Int) ∧ 0 < b2 ∧ isO K.1 b2 20 = true ∧ (0 ≤ (w32 ((0 : Int) + l1)) ∧ (w32 ((0 : Int) + l1)) < (ln b2 : Int)) ∧ (¬ (M b2 (Int.toNat (w32 ((0 : Int) + l1)))) = (-1 : Int) → isO K.1 l0 12 = true ∧ ∃ b8 : Nat, (M l0 31) = (b8 : Int) ∧ 0 < b8 ∧ isO K.1 l0 12 = true ∧ ∃ b12 : Nat, (M l0 31) = (b12 : Int) ∧ 0 < b12 ∧ isO K.1 b12 20 = true ∧ (0 ≤ (w32 ((6 : Int) + l1)) ∧ (w32 ((6 : Int) + l1)) < (ln b12 : Int)) ∧ isO K.1 l0 12 = true ∧ ∃ b18 : Nat, (M l0 31) = (b18 : Int) ∧ 0 < b18 ∧ isO K.1 b18 20 = true ∧ (0 ≤ (24 : Int) ∧ (24 : Int) < (ln b18 : Int)) ∧ isO K.1 l0 12 = true ∧ ∃ b24 : Nat, (M l0 31) = (b24 : Int) ∧ 0 < b24 ∧ isO K.1 b24 20 = true ∧ (0 ≤ (w32 ((12 : Int) + l1)) ∧ (w32 ((12 : Int) + l1)) < (ln b24 : Int)) ∧ isO K.1 l0 12 = true ∧ ∃ b30 : Nat, (M l0 31) = (b30 : Int) ∧ 0 < b30 ∧ isO K.1 b30 20 = true ∧ (0 ≤ (w32 ((18 : Int) + l1)) ∧ (w32 ((18 : Int) + l1)) < (ln b30 : Int)) ∧ isO K.1 l0 12 = true ∧ Wm d 226 [vR l0, vR b8, vI l1, vI l2, vI l3, vI l4, vI (M b12 (Int.toNat (w32 ((6 : Int) + l1)))), vI (M b18 (Int.toNat (24 : Int))), vI (M b24 (Int.toNat (w32 ((12 : Int) + l1)))), vI (M b30 (Int.toNat (w32 ((18 : Int) + l1))))] M K (Bk d 227 169 172 226 [vR l0, vI l1, vI l2, vI l3, vI l4, vI l5, vL (jlshl (1 : Int) (w32 ((4 : Int) * l4))), vU, vU, vU, vU, vU, vU, vU, vU, vU] [] Q)) ∧ (¬ (¬ (M b2 (Int.toNat (w32 ((0 : Int) + l1)))) = (-1 : Int)) → isO K.1 l0 12 = true ∧ ∃ b37 : Nat, (M l0 31) = (b37 : Int) ∧ 0 < b37 ∧ isO K.1 b37 20 = true ∧ (0 ≤ (w32 ((6 : Int) + l1)) ∧ (w32 ((6 : Int) + l1)) < (ln b37 : Int)) ∧ (¬ (M b37 (Int.toNat (w32 ((6 : Int) + l1)))) = (0 : Int) → Wp (d + 1) 227 172 [vR l0, vI l1, vI l2, vI l3, vI l4, vI l5, vL (jlshl (1 : Int) (w32 ((4 : Int) * l4))), vU, vU, vU, vU, vU, vU, vU, vU, vU] [vL (0 : Int)] M K Q) ∧ (¬ (¬ (M b37 (Int.toNat (w32 ((6 : Int) + l1)))) = (0 : Int)) → Wp (d + 1) 227 172 [vR l0, vI l1, vI l2, vI l3, vI l4, vI l5, vL (jlshl (1 : Int) (w32 ((4 : Int) * l4))), vU, vU, vU, vU, vU, vU, vU, vU, vU] [vL (jlshl (1 : Int) (w32 ((4 : Int) * l4)))] M K Q))) ∧ (¬ (t0 = (0 : Int)) → Wp (d + 1) 227 82 [vR l0, vI l1, vI l2, vI l3, vI l4, vI l5, vU, vU, vU, vU, vU, vU, vU, vU, vU, vU] [] M K Q)) : Wp (d + 1) 227 79 [vR l0, vI l1, vI l2, vI l3, vI l4, vI l5, vU, vU, vU, vU, vU, vU, vU, vU, vU, vU] [vI t0] M K Q := by
  refine r_ifP (P := t0 = (0 : Int)) c227_79 rfl (fun hc => ?_) (fun hc => ?_)
  · replace h := h.1 hc
    refine r_lconst c227_84 ?_
    refine r_iconst c227_85 ?_
    refine r_iload c227_86 rfl ?_
    refine r_imul c227_88 ?_
    refine r_lshl c227_89 ?_
    refine r_lstore c227_90 (Nat.le_of_ble_eq_true rfl) ?_
    refine r_aload_n c227_92 rfl ?_
    obtain ⟨s1, h⟩ := h
    obtain ⟨b2, h⟩ := h
    obtain ⟨s3, h⟩ := h
    obtain ⟨s4, h⟩ := h
    refine r_getR c227_93 s1 s3 s4 ?_
    refine r_iconst c227_96 ?_
    refine r_iload_n c227_97 rfl ?_
    refine r_iadd c227_98 ?_
    obtain ⟨s5, h⟩ := h
    obtain ⟨s6, h⟩ := h
    refine r_ia c227_99 s5 s6 ?_
    refine r_iconst c227_100 ?_
    refine r_icmpP (P := ¬ (M b2 (Int.toNat (w32 ((0 : Int) + l1)))) = (-1 : Int)) c227_101 rfl (fun hc => ?_) (fun hc => ?_)
    · replace h := h.1 hc
      refine r_aload_n c227_125 rfl ?_
      refine r_aload_n c227_126 rfl ?_
      obtain ⟨s7, h⟩ := h
      obtain ⟨b8, h⟩ := h
      obtain ⟨s9, h⟩ := h
      obtain ⟨s10, h⟩ := h
      refine r_getR c227_127 s7 s9 s10 ?_
      refine r_iload_n c227_130 rfl ?_
      refine r_iload_n c227_131 rfl ?_
      refine r_iload_n c227_132 rfl ?_
      refine r_iload c227_133 rfl ?_
      refine r_aload_n c227_135 rfl ?_
      obtain ⟨s11, h⟩ := h
      obtain ⟨b12, h⟩ := h
      obtain ⟨s13, h⟩ := h
      obtain ⟨s14, h⟩ := h
      refine r_getR c227_136 s11 s13 s14 ?_
      refine r_bipush c227_139 ?_
      refine r_iload_n c227_141 rfl ?_
      refine r_iadd c227_142 ?_
      obtain ⟨s15, h⟩ := h
      obtain ⟨s16, h⟩ := h
      refine r_ia c227_143 s15 s16 ?_
      refine r_aload_n c227_144 rfl ?_
      obtain ⟨s17, h⟩ := h
      obtain ⟨b18, h⟩ := h
      obtain ⟨s19, h⟩ := h
      obtain ⟨s20, h⟩ := h
      refine r_getR c227_145 s17 s19 s20 ?_
      refine r_bipush c227_148 ?_
      obtain ⟨s21, h⟩ := h
      obtain ⟨s22, h⟩ := h
      refine r_ia c227_150 s21 s22 ?_
      refine r_aload_n c227_151 rfl ?_
      obtain ⟨s23, h⟩ := h
      obtain ⟨b24, h⟩ := h
      obtain ⟨s25, h⟩ := h
      obtain ⟨s26, h⟩ := h
      refine r_getR c227_152 s23 s25 s26 ?_
      refine r_bipush c227_155 ?_
      refine r_iload_n c227_157 rfl ?_
      refine r_iadd c227_158 ?_
      obtain ⟨s27, h⟩ := h
      obtain ⟨s28, h⟩ := h
      refine r_ia c227_159 s27 s28 ?_
      refine r_aload_n c227_160 rfl ?_
      obtain ⟨s29, h⟩ := h
      obtain ⟨b30, h⟩ := h
      obtain ⟨s31, h⟩ := h
      obtain ⟨s32, h⟩ := h
      refine r_getR c227_161 s29 s31 s32 ?_
      refine r_bipush c227_164 ?_
      refine r_iload_n c227_166 rfl ?_
      refine r_iadd c227_167 ?_
      obtain ⟨s33, h⟩ := h
      obtain ⟨s34, h⟩ := h
      refine r_ia c227_168 s33 s34 ?_
      obtain ⟨s35, h⟩ := h
      exact r_call c227_169 rfl rfl (Nat.le_of_ble_eq_true rfl) (okc_r rfl rfl s35) h
    · replace h := h.2 hc
      refine r_aload_n c227_104 rfl ?_
      obtain ⟨s36, h⟩ := h
      obtain ⟨b37, h⟩ := h
      obtain ⟨s38, h⟩ := h
      obtain ⟨s39, h⟩ := h
      refine r_getR c227_105 s36 s38 s39 ?_
      refine r_bipush c227_108 ?_
      refine r_iload_n c227_110 rfl ?_
      refine r_iadd c227_111 ?_
      obtain ⟨s40, h⟩ := h
      obtain ⟨s41, h⟩ := h
      refine r_ia c227_112 s40 s41 ?_
      refine r_ifP (P := ¬ (M b37 (Int.toNat (w32 ((6 : Int) + l1)))) = (0 : Int)) c227_113 rfl (fun hc => ?_) (fun hc => ?_)
      · replace h := h.1 hc
        refine r_lconst c227_121 ?_
        refine r_goto c227_122 ?_
        exact h
      · replace h := h.2 hc
        refine r_lload c227_116 rfl ?_
        refine r_goto c227_118 ?_
        exact h
  · replace h := h.2 hc
    exact h
theorem t227_82 {d : Nat} {l0 : Nat} {l1 : Int} {l2 : Int} {l3 : Int} {l4 : Int} {l5 : Int} {M : Mem} {K : KK} {Q : RR → Mem → KK → Prop} (h : Q (.inl (some (vL (0 : Int)))) M K) : Wp d 227 82 [vR l0, vI l1, vI l2, vI l3, vI l4, vI l5, vU, vU, vU, vU, vU, vU, vU, vU, vU, vU] [] M K Q := by
  refine r_lconst c227_82 ?_
  exact r_lret c227_83 h
theorem t227_172 {d : Nat} {l0 : Nat} {l1 : Int} {l2 : Int} {l3 : Int} {l4 : Int} {l5 : Int} {l6 : Int} {t0 : Int} {M : Mem} {K : KK} {Q : RR → Mem → KK → Prop} (h : Wp d 227 182 [vR l0, vI l1, vI l2, vI l3, vI l4, vI l5, vL l6, vU, vL t0, vU, vL l6, vU, vL t0, vU, vU, vU] [] M K Q) : Wp d 227 172 [vR l0, vI l1, vI l2, vI l3, vI l4, vI l5, vL l6, vU, vU, vU, vU, vU, vU, vU, vU, vU] [vL t0] M K Q := by
  refine r_lstore c227_172 (Nat.le_of_ble_eq_true rfl) ?_
  refine r_lload c227_174 rfl ?_
  refine r_lstore c227_176 (Nat.le_of_ble_eq_true rfl) ?_
  refine r_lload c227_178 rfl ?_
  refine r_lstore c227_180 (Nat.le_of_ble_eq_true rfl) ?_
  exact h
theorem t227_182 {d : Nat} {l0 : Nat} {l1 : Int} {l2 : Int} {l3 : Int} {l4 : Int} {l5 : Int} {l6 : Int} {l8 : Int} {l10 : Int} {l12 : Int} {l14 : PV} {M : Mem} {K : KK} {Q : RR → Mem → KK → Prop} (h : ((jcmp l12 (0 : Int)) = (0 : Int) → (¬ l5 = (0 : Int) → l10 ≠ 0 ∧ Wp d 227 225 [vR l0, vI l1, vI l2, vI l3, vI l4, vI l5, vL l6, vU, vL l8, vU, vL l10, vU, vL l12, vU, l14, vU] [vL (w64 (Int.tdiv l6 l10))] M K Q) ∧ (¬ (¬ l5 = (0 : Int)) → l10 ≠ 0 ∧ Wp d 227 225 [vR l0, vI l1, vI l2, vI l3, vI l4, vI l5, vL l6, vU, vL l8, vU, vL l10, vU, vL l12, vU, l14, vU] [vL (w64 (Int.tdiv l8 l10))] M K Q)) ∧ (¬ ((jcmp l12 (0 : Int)) = (0 : Int)) → l12 ≠ 0 ∧ Wp d 227 182 [vR l0, vI l1, vI l2, vI l3, vI l4, vI l5, vL l6, vU, vL l8, vU, vL l12, vU, vL (Int.tmod l10 l12), vU, vL (Int.tmod l10 l12), vU] [] M K Q)) : Wp d 227 182 [vR l0, vI l1, vI l2, vI l3, vI l4, vI l5, vL l6, vU, vL l8, vU, vL l10, vU, vL l12, vU, l14, vU] [] M K Q := by
  refine r_lload c227_182 rfl ?_
  refine r_lconst c227_184 ?_
  refine r_lcmp c227_185 ?_
  refine r_ifP (P := (jcmp l12 (0 : Int)) = (0 : Int)) c227_186 rfl (fun hc => ?_) (fun hc => ?_)
  · replace h := h.1 hc
    refine r_iload c227_207 rfl ?_
    refine r_ifP (P := ¬ l5 = (0 : Int)) c227_209 rfl (fun hc => ?_) (fun hc => ?_)
    · replace h := h.1 hc
      refine r_lload c227_220 rfl ?_
      refine r_lload c227_222 rfl ?_
      obtain ⟨s1, h⟩ := h
      refine r_ldiv c227_224 s1 ?_
      exact h
    · replace h := h.2 hc
      refine r_lload c227_212 rfl ?_
      refine r_lload c227_214 rfl ?_
      obtain ⟨s2, h⟩ := h
      refine r_ldiv c227_216 s2 ?_
      refine r_goto c227_217 ?_
      exact h
  · replace h := h.2 hc
    refine r_lload c227_189 rfl ?_
    refine r_lload c227_191 rfl ?_
    obtain ⟨s3, h⟩ := h
    refine r_lrem c227_193 s3 ?_
    refine r_lstore c227_194 (Nat.le_of_ble_eq_true rfl) ?_
    refine r_lload c227_196 rfl ?_
    refine r_lstore c227_198 (Nat.le_of_ble_eq_true rfl) ?_
    refine r_lload c227_200 rfl ?_
    refine r_lstore c227_202 (Nat.le_of_ble_eq_true rfl) ?_
    refine r_goto c227_204 ?_
    exact h
theorem t227_225 {d : Nat} {l0 : Nat} {l1 : Int} {l2 : Int} {l3 : Int} {l4 : Int} {l5 : Int} {l6 : Int} {l8 : Int} {l10 : Int} {l12 : Int} {l14 : PV} {t0 : Int} {M : Mem} {K : KK} {Q : RR → Mem → KK → Prop} (h : Q (.inl (some (vL t0))) M K) : Wp d 227 225 [vR l0, vI l1, vI l2, vI l3, vI l4, vI l5, vL l6, vU, vL l8, vU, vL l10, vU, vL l12, vU, l14, vU] [vL t0] M K Q := by
  exact r_lret c227_225 h
theorem t228_0 {d : Nat} {l0 : Nat} {l1 : Int} {l2 : Int} {M : Mem} {K : KK} {Q : RR → Mem → KK → Prop} (h : Wp d 228 5 [vR l0, vI l1, vI l2, vI (0 : Int), vI (0 : Int)] [] M K Q) : Wp d 228 0 [vR l0, vI l1, vI l2, vU, vU] [] M K Q := by
  refine r_iconst c228_0 ?_
  refine r_istore_n c228_1 (Nat.le_of_ble_eq_true rfl) ?_
  refine r_iconst c228_2 ?_
  refine r_istore c228_3 (Nat.le_of_ble_eq_true rfl) ?_
  exact h
theorem t228_5 {d : Nat} {l0 : Nat} {l1 : Int} {l2 : Int} {l3 : Int} {l4 : Int} {M : Mem} {K : KK} {Q : RR → Mem → KK → Prop} (h : isO K.1 l0 12 = true ∧ ∃ b2 : Nat, (M l0 12) = (b2 : Int) ∧ 0 < b2 ∧ isO K.1 b2 20 = true ∧ (0 ≤ (2 : Int) ∧ (2 : Int) < (ln b2 : Int)) ∧ ((M b2 (Int.toNat (2 : Int))) ≤ l4 → Wp (d + 1) 228 48 [vR l0, vI l1, vI l2, vI l3, vI (0 : Int)] [] M K Q) ∧ (¬ ((M b2 (Int.toNat (2 : Int))) ≤ l4) → Wm d 156 [vI l1, vI l4] M K (Bk d 228 20 23 156 [vR l0, vI l1, vI l2, vI l3, vI l4] [vI l3] Q))) : Wp (d + 1) 228 5 [vR l0, vI l1, vI l2, vI l3, vI l4] [] M K Q := by
  refine r_iload c228_5 rfl ?_
  refine r_aload_n c228_7 rfl ?_
  obtain ⟨s1, h⟩ := h
  obtain ⟨b2, h⟩ := h
  obtain ⟨s3, h⟩ := h
  obtain ⟨s4, h⟩ := h
  refine r_getR c228_8 s1 s3 s4 ?_
  refine r_iconst c228_11 ?_
  obtain ⟨s5, h⟩ := h
  obtain ⟨s6, h⟩ := h
  refine r_ia c228_12 s5 s6 ?_
  refine r_icmpP (P := (M b2 (Int.toNat (2 : Int))) ≤ l4) c228_13 rfl (fun hc => ?_) (fun hc => ?_)
  · replace h := h.1 hc
    refine r_iconst c228_45 ?_
    refine r_istore c228_46 (Nat.le_of_ble_eq_true rfl) ?_
    exact h
  · replace h := h.2 hc
    refine r_iload_n c228_16 rfl ?_
    refine r_iload_n c228_17 rfl ?_
    refine r_iload c228_18 rfl ?_
    exact r_call c228_20 rfl rfl (Nat.le_of_ble_eq_true rfl) (okc_s rfl rfl rfl) h
theorem t228_23 {d : Nat} {l0 : Nat} {l1 : Int} {l2 : Int} {l3 : Int} {l4 : Int} {t0 : Int} {t1 : Int} {M : Mem} {K : KK} {Q : RR → Mem → KK → Prop} (h : (t1 = (0 : Int) → Wp d 228 37 [vR l0, vI l1, vI l2, vI l3, vI l4] [vI (0 : Int), vI t0] M K Q) ∧ (¬ (t1 = (0 : Int)) → isO K.1 l0 12 = true ∧ ∃ b2 : Nat, (M l0 16) = (b2 : Int) ∧ 0 < b2 ∧ isO K.1 b2 20 = true ∧ (0 ≤ l4 ∧ l4 < (ln b2 : Int)) ∧ Wp d 228 37 [vR l0, vI l1, vI l2, vI l3, vI l4] [vI (M b2 (Int.toNat l4)), vI t0] M K Q)) : Wp d 228 23 [vR l0, vI l1, vI l2, vI l3, vI l4] [vI t1, vI t0] M K Q := by
  refine r_ifP (P := t1 = (0 : Int)) c228_23 rfl (fun hc => ?_) (fun hc => ?_)
  · replace h := h.1 hc
    refine r_iconst c228_36 ?_
    exact h
  · replace h := h.2 hc
    refine r_aload_n c228_26 rfl ?_
    obtain ⟨s1, h⟩ := h
    obtain ⟨b2, h⟩ := h
    obtain ⟨s3, h⟩ := h
    obtain ⟨s4, h⟩ := h
    refine r_getR c228_27 s1 s3 s4 ?_
    refine r_iload c228_30 rfl ?_
    obtain ⟨s5, h⟩ := h
    obtain ⟨s6, h⟩ := h
    refine r_ia c228_32 s5 s6 ?_
    refine r_goto c228_33 ?_
    exact h
theorem t228_37 {d : Nat} {l0 : Nat} {l1 : Int} {l2 : Int} {l3 : Int} {l4 : Int} {t0 : Int} {t1 : Int} {M : Mem} {K : KK} {Q : RR → Mem → KK → Prop} (h : Wp d 228 5 [vR l0, vI l1, vI l2, vI (w32 (t0 + t1)), vI (w32 (l4 + 1))] [] M K Q) : Wp d 228 37 [vR l0, vI l1, vI l2, vI l3, vI l4] [vI t1, vI t0] M K Q := by
  refine r_iadd c228_37 ?_
  refine r_istore_n c228_38 (Nat.le_of_ble_eq_true rfl) ?_
  refine r_iinc c228_39 rfl ?_
  refine r_goto c228_42 ?_
  exact h
theorem t228_48 {d : Nat} {l0 : Nat} {l1 : Int} {l2 : Int} {l3 : Int} {l4 : Int} {M : Mem} {K : KK} {Q : RR → Mem → KK → Prop} (h : isO K.1 l0 12 = true ∧ ((M l0 35) ≤ l4 → (¬ l3 = l2 → Wp (d + 1) 228 109 [vR l0, vI l1, vI l2, vI l3, vI l4] [vI (0 : Int)] M K Q) ∧ (¬ (¬ l3 = l2) → Wp (d + 1) 228 109 [vR l0, vI l1, vI l2, vI l3, vI l4] [vI (1 : Int)] M K Q)) ∧ (¬ ((M l0 35) ≤ l4) → isO K.1 l0 12 = true ∧ ∃ b3 : Nat, (M l0 25) = (b3 : Int) ∧ 0 < b3 ∧ (Nat.ble 30 (tg b3) = true ∧ isO K.1 b3 (tg b3) = true) ∧ (0 ≤ l4 ∧ l4 < (ln b3 : Int)) ∧ ∃ b8 : Nat, (M b3 (Int.toNat l4)) = (b8 : Int) ∧ 0 < b8 ∧ isO K.1 b8 20 = true ∧ (0 ≤ (0 : Int) ∧ (0 : Int) < (ln b8 : Int)) ∧ Wm d 156 [vI l1, vI (M b8 (Int.toNat (0 : Int)))] M K (Bk d 228 67 70 156 [vR l0, vI l1, vI l2, vI l3, vI l4] [] Q))) : Wp (d + 1) 228 48 [vR l0, vI l1, vI l2, vI l3, vI l4] [] M K Q := by
  refine r_iload c228_48 rfl ?_
  refine r_aload_n c228_50 rfl ?_
  obtain ⟨s1, h⟩ := h
  refine r_getI c228_51 s1 ?_
  refine r_icmpP (P := (M l0 35) ≤ l4) c228_54 rfl (fun hc => ?_) (fun hc => ?_)
  · replace h := h.1 hc
    refine r_iload_n c228_99 rfl ?_
    refine r_iload_n c228_100 rfl ?_
    refine r_icmpP (P := ¬ l3 = l2) c228_101 rfl (fun hc => ?_) (fun hc => ?_)
    · replace h := h.1 hc
      refine r_iconst c228_108 ?_
      exact h
    · replace h := h.2 hc
      refine r_iconst c228_104 ?_
      refine r_goto c228_105 ?_
      exact h
  · replace h := h.2 hc
    refine r_iload_n c228_57 rfl ?_
    refine r_aload_n c228_58 rfl ?_
    obtain ⟨s2, h⟩ := h
    obtain ⟨b3, h⟩ := h
    obtain ⟨s4, h⟩ := h
    obtain ⟨s5, h⟩ := h
    refine r_getR c228_59 s2 s4 s5 ?_
    refine r_iload c228_62 rfl ?_
    obtain ⟨s6, h⟩ := h
    obtain ⟨s7, h⟩ := h
    obtain ⟨b8, h⟩ := h
    obtain ⟨s9, h⟩ := h
    obtain ⟨s10, h⟩ := h
    refine r_aa c228_64 s6 s7 s9 s10 ?_
    refine r_iconst c228_65 ?_
    obtain ⟨s11, h⟩ := h
    obtain ⟨s12, h⟩ := h
    refine r_ia c228_66 s11 s12 ?_
    exact r_call c228_67 rfl rfl (Nat.le_of_ble_eq_true rfl) (okc_s rfl rfl rfl) h
theorem t228_70 {d : Nat} {l0 : Nat} {l1 : Int} {l2 : Int} {l3 : Int} {l4 : Int} {t0 : Int} {M : Mem} {K : KK} {Q : RR → Mem → KK → Prop} (h : isO K.1 l0 12 = true ∧ ∃ b2 : Nat, (M l0 25) = (b2 : Int) ∧ 0 < b2 ∧ (Nat.ble 30 (tg b2) = true ∧ isO K.1 b2 (tg b2) = true) ∧ (0 ≤ l4 ∧ l4 < (ln b2 : Int)) ∧ ∃ b7 : Nat, (M b2 (Int.toNat l4)) = (b7 : Int) ∧ 0 < b7 ∧ isO K.1 b7 20 = true ∧ (0 ≤ (1 : Int) ∧ (1 : Int) < (ln b7 : Int)) ∧ (¬ (M b7 (Int.toNat (1 : Int))) = (1 : Int) → Wp d 228 88 [vR l0, vI l1, vI l2, vI l3, vI l4] [vI (0 : Int), vI t0] M K Q) ∧ (¬ (¬ (M b7 (Int.toNat (1 : Int))) = (1 : Int)) → Wp d 228 88 [vR l0, vI l1, vI l2, vI l3, vI l4] [vI (1 : Int), vI t0] M K Q)) : Wp d 228 70 [vR l0, vI l1, vI l2, vI l3, vI l4] [vI t0] M K Q := by
  refine r_aload_n c228_70 rfl ?_
  obtain ⟨s1, h⟩ := h
  obtain ⟨b2, h⟩ := h
  obtain ⟨s3, h⟩ := h
  obtain ⟨s4, h⟩ := h
  refine r_getR c228_71 s1 s3 s4 ?_
  refine r_iload c228_74 rfl ?_
  obtain ⟨s5, h⟩ := h
  obtain ⟨s6, h⟩ := h
  obtain ⟨b7, h⟩ := h
  obtain ⟨s8, h⟩ := h
  obtain ⟨s9, h⟩ := h
  refine r_aa c228_76 s5 s6 s8 s9 ?_
  refine r_iconst c228_77 ?_
  obtain ⟨s10, h⟩ := h
  obtain ⟨s11, h⟩ := h
  refine r_ia c228_78 s10 s11 ?_
  refine r_iconst c228_79 ?_
  refine r_icmpP (P := ¬ (M b7 (Int.toNat (1 : Int))) = (1 : Int)) c228_80 rfl (fun hc => ?_) (fun hc => ?_)
  · replace h := h.1 hc
    refine r_iconst c228_87 ?_
    exact h
  · replace h := h.2 hc
    refine r_iconst c228_83 ?_
    refine r_goto c228_84 ?_
    exact h
theorem t228_88 {d : Nat} {l0 : Nat} {l1 : Int} {l2 : Int} {l3 : Int} {l4 : Int} {t0 : Int} {t1 : Int} {M : Mem} {K : KK} {Q : RR → Mem → KK → Prop} (h : (t0 = t1 → Wp d 228 48 [vR l0, vI l1, vI l2, vI l3, vI (w32 (l4 + 1))] [] M K Q) ∧ (¬ (t0 = t1) → Q (.inl (some (vI (0 : Int)))) M K)) : Wp d 228 88 [vR l0, vI l1, vI l2, vI l3, vI l4] [vI t1, vI t0] M K Q := by
  refine r_icmpP (P := t0 = t1) c228_88 rfl (fun hc => ?_) (fun hc => ?_)
  · replace h := h.1 hc
    refine r_iinc c228_93 rfl ?_
    refine r_goto c228_96 ?_
    exact h
  · replace h := h.2 hc
    refine r_iconst c228_91 ?_
    exact r_iret c228_92 (by decide) h
theorem t228_109 {d : Nat} {l0 : Nat} {l1 : Int} {l2 : Int} {l3 : Int} {l4 : Int} {t0 : Int} {M : Mem} {K : KK} {Q : RR → Mem → KK → Prop} (h : (t0 = 0 ∨ t0 = 1) ∧ Q (.inl (some (vI t0))) M K) : Wp d 228 109 [vR l0, vI l1, vI l2, vI l3, vI l4] [vI t0] M K Q := by
  obtain ⟨s1, h⟩ := h
  exact r_iret c228_109 (Or.inr s1) h
theorem t229_0 {d : Nat} {l0 : Nat} {l1 : Int} {l2 : Int} {M : Mem} {K : KK} {Q : RR → Mem → KK → Prop} (h : isO K.1 l0 12 = true ∧ Wm d 153 [vI l1, vI (0 : Int), vI (72 : Int)] (mset M l0 0 (0 : Int)) K (Bk d 229 10 13 153 [vR l0, vI l1, vI l2, vU, vU, vU, vU, vU] [vR l0] Q)) : Wp (d + 1) 229 0 [vR l0, vI l1, vI l2, vU, vU, vU, vU, vU] [] M K Q := by
  refine r_aload_n c229_0 rfl ?_
  refine r_iconst c229_1 ?_
  obtain ⟨s1, h⟩ := h
  refine r_putI c229_2 s1 ?_
  refine r_aload_n c229_5 rfl ?_
  refine r_iload_n c229_6 rfl ?_
  refine r_iconst c229_7 ?_
  refine r_bipush c229_8 ?_
  exact r_call c229_10 rfl rfl (Nat.le_of_ble_eq_true rfl) (okc_s rfl rfl rfl) h
theorem t229_13 {d : Nat} {l0 : Nat} {l1 : Int} {l2 : Int} {t0 : Nat} {t1 : Int} {M : Mem} {K : KK} {Q : RR → Mem → KK → Prop} (h : (t1 = (0 : Int) → Wp (d + 1) 229 25 [vR l0, vI l1, vI l2, vU, vU, vU, vU, vU] [vR t0] M K Q) ∧ (¬ (t1 = (0 : Int)) → Wm d 153 [vI l2, vI (0 : Int), vI (3 : Int)] M K (Bk d 229 19 22 153 [vR l0, vI l1, vI l2, vU, vU, vU, vU, vU] [vR t0] Q))) : Wp (d + 1) 229 13 [vR l0, vI l1, vI l2, vU, vU, vU, vU, vU] [vI t1, vR t0] M K Q := by
  refine r_ifP (P := t1 = (0 : Int)) c229_13 rfl (fun hc => ?_) (fun hc => ?_)
  · replace h := h.1 hc
    exact h
  · replace h := h.2 hc
    refine r_iload_n c229_16 rfl ?_
    refine r_iconst c229_17 ?_
    refine r_iconst c229_18 ?_
    exact r_call c229_19 rfl rfl (Nat.le_of_ble_eq_true rfl) (okc_s rfl rfl rfl) h
theorem t229_22 {d : Nat} {l0 : Nat} {l1 : Int} {l2 : Int} {t0 : Nat} {t1 : Int} {M : Mem} {K : KK} {Q : RR → Mem → KK → Prop} (h : (¬ t1 = (0 : Int) → Wp d 229 30 [vR l0, vI l1, vI l2, vU, vU, vU, vU, vU] [vI (0 : Int), vR t0] M K Q) ∧ (¬ (¬ t1 = (0 : Int)) → Wp d 229 25 [vR l0, vI l1, vI l2, vU, vU, vU, vU, vU] [vR t0] M K Q)) : Wp d 229 22 [vR l0, vI l1, vI l2, vU, vU, vU, vU, vU] [vI t1, vR t0] M K Q := by
  refine r_ifP (P := ¬ t1 = (0 : Int)) c229_22 rfl (fun hc => ?_) (fun hc => ?_)
  · replace h := h.1 hc
    refine r_iconst c229_29 ?_
    exact h
  · replace h := h.2 hc
    exact h
theorem t229_25 {d : Nat} {l0 : Nat} {l1 : Int} {l2 : Int} {t0 : Nat} {M : Mem} {K : KK} {Q : RR → Mem → KK → Prop} (h : Wp d 229 30 [vR l0, vI l1, vI l2, vU, vU, vU, vU, vU] [vI (1 : Int), vR t0] M K Q) : Wp d 229 25 [vR l0, vI l1, vI l2, vU, vU, vU, vU, vU] [vR t0] M K Q := by
  refine r_iconst c229_25 ?_
  refine r_goto c229_26 ?_
  exact h
theorem t229_30 {d : Nat} {l0 : Nat} {l1 : Int} {l2 : Int} {t0 : Nat} {t1 : Int} {M : Mem} {K : KK} {Q : RR → Mem → KK → Prop} (h : isO K.1 t0 12 = true ∧ Wm d 152 [vR t0, vI t1, vI (1 : Int), vI (1 : Int)] M K (Bk d 229 32 35 152 [vR l0, vI l1, vI l2, vU, vU, vU, vU, vU] [] Q)) : Wp (d + 1) 229 30 [vR l0, vI l1, vI l2, vU, vU, vU, vU, vU] [vI t1, vR t0] M K Q := by
  refine r_iconst c229_30 ?_
  refine r_iconst c229_31 ?_
  obtain ⟨s1, h⟩ := h
  exact r_call c229_32 rfl rfl (Nat.le_of_ble_eq_true rfl) (okc_r rfl rfl s1) h
theorem t229_35 {d : Nat} {l0 : Nat} {l1 : Int} {l2 : Int} {t0 : Int} {M : Mem} {K : KK} {Q : RR → Mem → KK → Prop} (h : (t0 = (0 : Int) → isO K.1 l0 12 = true ∧ ∃ b2 : Nat, (M l0 12) = (b2 : Int) ∧ 0 < b2 ∧ isO K.1 b2 20 = true ∧ (0 ≤ (2 : Int) ∧ (2 : Int) < (ln b2 : Int)) ∧ Wp d 229 63 [vR l0, vI l1, vI l2, vI (0 : Int), vI (-1 : Int), vI (w32 ((jshl (1 : Int) (M b2 (Int.toNat (2 : Int)))) - (1 : Int))), vI (0 : Int), vI (0 : Int)] [] M K Q) ∧ (¬ (t0 = (0 : Int)) → Q (.inl (some (vI (0 : Int)))) M K)) : Wp d 229 35 [vR l0, vI l1, vI l2, vU, vU, vU, vU, vU] [vI t0] M K Q := by
  refine r_ifP (P := t0 = (0 : Int)) c229_35 rfl (fun hc => ?_) (fun hc => ?_)
  · replace h := h.1 hc
    refine r_iconst c229_40 ?_
    refine r_istore_n c229_41 (Nat.le_of_ble_eq_true rfl) ?_
    refine r_iconst c229_42 ?_
    refine r_istore c229_43 (Nat.le_of_ble_eq_true rfl) ?_
    refine r_iconst c229_45 ?_
    refine r_aload_n c229_46 rfl ?_
    obtain ⟨s1, h⟩ := h
    obtain ⟨b2, h⟩ := h
    obtain ⟨s3, h⟩ := h
    obtain ⟨s4, h⟩ := h
    refine r_getR c229_47 s1 s3 s4 ?_
    refine r_iconst c229_50 ?_
    obtain ⟨s5, h⟩ := h
    obtain ⟨s6, h⟩ := h
    refine r_ia c229_51 s5 s6 ?_
    refine r_ishl c229_52 ?_
    refine r_iconst c229_53 ?_
    refine r_isub c229_54 ?_
    refine r_istore c229_55 (Nat.le_of_ble_eq_true rfl) ?_
    refine r_iconst c229_57 ?_
    refine r_istore c229_58 (Nat.le_of_ble_eq_true rfl) ?_
    refine r_iconst c229_60 ?_
    refine r_istore c229_61 (Nat.le_of_ble_eq_true rfl) ?_
    exact h
  · replace h := h.2 hc
    refine r_iconst c229_38 ?_
    exact r_iret c229_39 (Or.inl rfl) h
theorem t229_63 {d : Nat} {l0 : Nat} {l1 : Int} {l2 : Int} {l3 : Int} {l4 : Int} {l5 : Int} {l6 : Int} {l7 : Int} {M : Mem} {K : KK} {Q : RR → Mem → KK → Prop} (h : isO K.1 l0 12 = true ∧ ∃ b2 : Nat, (M l0 12) = (b2 : Int) ∧ 0 < b2 ∧ isO K.1 b2 20 = true ∧ (0 ≤ (2 : Int) ∧ (2 : Int) < (ln b2 : Int)) ∧ ((jshl (1 : Int) (M b2 (Int.toNat (2 : Int)))) ≤ l7 → ((2 : Int) ≤ l2 → (¬ l3 = (0 : Int) → (¬ l2 = (2 : Int) → isO K.1 l0 12 = true ∧ ∃ b8 : Nat, (M l0 12) = (b8 : Int) ∧ 0 < b8 ∧ isO K.1 b8 20 = true ∧ (0 ≤ (2 : Int) ∧ (2 : Int) < (ln b8 : Int)) ∧ Wp (d + 1) 229 172 [vR l0, vI l1, vI l2, vI l3, vI l4, vI l5, vI l6, vI l7] [vI (w32 ((w32 ((jshl (1 : Int) (M b8 (Int.toNat (2 : Int)))) - (1 : Int))) - l6))] M K Q) ∧ (¬ (¬ l2 = (2 : Int)) → Wp (d + 1) 229 172 [vR l0, vI l1, vI l2, vI l3, vI l4, vI l5, vI l6, vI l7] [vI l5] M K Q)) ∧ (¬ (¬ l3 = (0 : Int)) → Wp (d + 1) 229 172 [vR l0, vI l1, vI l2, vI l3, vI l4, vI l5, vI l6, vI l7] [vI (0 : Int)] M K Q)) ∧ (¬ ((2 : Int) ≤ l2) → (¬ l2 = (0 : Int) → Wp (d + 1) 229 140 [vR l0, vI l1, vI l2, vI l3, vI l4, vI l5, vI l6, vI l7] [vI l4] M K Q) ∧ (¬ (¬ l2 = (0 : Int)) → Wp (d + 1) 229 140 [vR l0, vI l1, vI l2, vI l3, vI l4, vI l5, vI l6, vI l7] [vI l3] M K Q))) ∧ (¬ ((jshl (1 : Int) (M b2 (Int.toNat (2 : Int)))) ≤ l7) → isO K.1 l0 12 = true ∧ Wm d 228 [vR l0, vI l7, vI l1] M K (Bk d 229 80 83 228 [vR l0, vI l1, vI l2, vI l3, vI l4, vI l5, vI l6, vI l7] [] Q))) : Wp (d + 1) 229 63 [vR l0, vI l1, vI l2, vI l3, vI l4, vI l5, vI l6, vI l7] [] M K Q := by
  refine r_iload c229_63 rfl ?_
  refine r_iconst c229_65 ?_
  refine r_aload_n c229_66 rfl ?_
  obtain ⟨s1, h⟩ := h
  obtain ⟨b2, h⟩ := h
  obtain ⟨s3, h⟩ := h
  obtain ⟨s4, h⟩ := h
  refine r_getR c229_67 s1 s3 s4 ?_
  refine r_iconst c229_70 ?_
  obtain ⟨s5, h⟩ := h
  obtain ⟨s6, h⟩ := h
  refine r_ia c229_71 s5 s6 ?_
  refine r_ishl c229_72 ?_
  refine r_icmpP (P := (jshl (1 : Int) (M b2 (Int.toNat (2 : Int)))) ≤ l7) c229_73 rfl (fun hc => ?_) (fun hc => ?_)
  · replace h := h.1 hc
    refine r_iload_n c229_125 rfl ?_
    refine r_iconst c229_126 ?_
    refine r_icmpP (P := (2 : Int) ≤ l2) c229_127 rfl (fun hc => ?_) (fun hc => ?_)
    · replace h := h.1 hc
      refine r_iload_n c229_141 rfl ?_
      refine r_ifP (P := ¬ l3 = (0 : Int)) c229_142 rfl (fun hc => ?_) (fun hc => ?_)
      · replace h := h.1 hc
        refine r_iload_n c229_149 rfl ?_
        refine r_iconst c229_150 ?_
        refine r_icmpP (P := ¬ l2 = (2 : Int)) c229_151 rfl (fun hc => ?_) (fun hc => ?_)
        · replace h := h.1 hc
          refine r_iconst c229_159 ?_
          refine r_aload_n c229_160 rfl ?_
          obtain ⟨s7, h⟩ := h
          obtain ⟨b8, h⟩ := h
          obtain ⟨s9, h⟩ := h
          obtain ⟨s10, h⟩ := h
          refine r_getR c229_161 s7 s9 s10 ?_
          refine r_iconst c229_164 ?_
          obtain ⟨s11, h⟩ := h
          obtain ⟨s12, h⟩ := h
          refine r_ia c229_165 s11 s12 ?_
          refine r_ishl c229_166 ?_
          refine r_iconst c229_167 ?_
          refine r_isub c229_168 ?_
          refine r_iload c229_169 rfl ?_
          refine r_isub c229_171 ?_
          exact h
        · replace h := h.2 hc
          refine r_iload c229_154 rfl ?_
          refine r_goto c229_156 ?_
          exact h
      · replace h := h.2 hc
        refine r_iconst c229_145 ?_
        refine r_goto c229_146 ?_
        exact h
    · replace h := h.2 hc
      refine r_iload_n c229_130 rfl ?_
      refine r_ifP (P := ¬ l2 = (0 : Int)) c229_131 rfl (fun hc => ?_) (fun hc => ?_)
      · replace h := h.1 hc
        refine r_iload c229_138 rfl ?_
        exact h
      · replace h := h.2 hc
        refine r_iload_n c229_134 rfl ?_
        refine r_goto c229_135 ?_
        exact h
  · replace h := h.2 hc
    refine r_aload_n c229_76 rfl ?_
    refine r_iload c229_77 rfl ?_
    refine r_iload_n c229_79 rfl ?_
    obtain ⟨s13, h⟩ := h
    exact r_call c229_80 rfl rfl (Nat.le_of_ble_eq_true rfl) (okc_r rfl rfl s13) h
theorem t229_83 {d : Nat} {l0 : Nat} {l1 : Int} {l2 : Int} {l3 : Int} {l4 : Int} {l5 : Int} {l6 : Int} {l7 : Int} {t0 : Int} {M : Mem} {K : KK} {Q : RR → Mem → KK → Prop} (h : (¬ t0 = (0 : Int) → (¬ l3 = (0 : Int) → Wp d 229 100 [vR l0, vI l1, vI l2, vI l3, vI l4, vI l5, vI l6, vI l7] [vI l4] M K Q) ∧ (¬ (¬ l3 = (0 : Int)) → Wp d 229 100 [vR l0, vI l1, vI l2, vI l3, vI l4, vI l5, vI l6, vI l7] [vI l7] M K Q)) ∧ (¬ (¬ t0 = (0 : Int)) → Wp d 229 119 [vR l0, vI l1, vI l2, vI l3, vI l4, vI l5, vI l6, vI l7] [] M K Q)) : Wp d 229 83 [vR l0, vI l1, vI l2, vI l3, vI l4, vI l5, vI l6, vI l7] [vI t0] M K Q := by
  refine r_ifP (P := ¬ t0 = (0 : Int)) c229_83 rfl (fun hc => ?_) (fun hc => ?_)
  · replace h := h.1 hc
    refine r_iload_n c229_89 rfl ?_
    refine r_ifP (P := ¬ l3 = (0 : Int)) c229_90 rfl (fun hc => ?_) (fun hc => ?_)
    · replace h := h.1 hc
      refine r_iload c229_98 rfl ?_
      exact h
    · replace h := h.2 hc
      refine r_iload c229_93 rfl ?_
      refine r_goto c229_95 ?_
      exact h
  · replace h := h.2 hc
    refine r_goto c229_86 ?_
    exact h
theorem t229_100 {d : Nat} {l0 : Nat} {l1 : Int} {l2 : Int} {l3 : Int} {l4 : Int} {l5 : Int} {l6 : Int} {l7 : Int} {t0 : Int} {M : Mem} {K : KK} {Q : RR → Mem → KK → Prop} (h : Wp d 229 119 [vR l0, vI l1, vI l2, vI (w32 (l3 + 1)), vI t0, vI (jand l5 l7), vI (jor l6 l7), vI l7] [] M K Q) : Wp d 229 100 [vR l0, vI l1, vI l2, vI l3, vI l4, vI l5, vI l6, vI l7] [vI t0] M K Q := by
  refine r_istore c229_100 (Nat.le_of_ble_eq_true rfl) ?_
  refine r_iload c229_102 rfl ?_
  refine r_iload c229_104 rfl ?_
  refine r_iand c229_106 ?_
  refine r_istore c229_107 (Nat.le_of_ble_eq_true rfl) ?_
  refine r_iload c229_109 rfl ?_
  refine r_iload c229_111 rfl ?_
  refine r_ior c229_113 ?_
  refine r_istore c229_114 (Nat.le_of_ble_eq_true rfl) ?_
  refine r_iinc c229_116 rfl ?_
  exact h
theorem t229_119 {d : Nat} {l0 : Nat} {l1 : Int} {l2 : Int} {l3 : Int} {l4 : Int} {l5 : Int} {l6 : Int} {l7 : Int} {M : Mem} {K : KK} {Q : RR → Mem → KK → Prop} (h : Wp d 229 63 [vR l0, vI l1, vI l2, vI l3, vI l4, vI l5, vI l6, vI (w32 (l7 + 1))] [] M K Q) : Wp d 229 119 [vR l0, vI l1, vI l2, vI l3, vI l4, vI l5, vI l6, vI l7] [] M K Q := by
  refine r_iinc c229_119 rfl ?_
  refine r_goto c229_122 ?_
  exact h
theorem t229_140 {d : Nat} {l0 : Nat} {l1 : Int} {l2 : Int} {l3 : Int} {l4 : Int} {l5 : Int} {l6 : Int} {l7 : Int} {t0 : Int} {M : Mem} {K : KK} {Q : RR → Mem → KK → Prop} (h : Q (.inl (some (vI t0))) M K) : Wp d 229 140 [vR l0, vI l1, vI l2, vI l3, vI l4, vI l5, vI l6, vI l7] [vI t0] M K Q := by
  exact r_iret c229_140 (Or.inl rfl) h
theorem t229_172 {d : Nat} {l0 : Nat} {l1 : Int} {l2 : Int} {l3 : Int} {l4 : Int} {l5 : Int} {l6 : Int} {l7 : Int} {t0 : Int} {M : Mem} {K : KK} {Q : RR → Mem → KK → Prop} (h : Q (.inl (some (vI t0))) M K) : Wp d 229 172 [vR l0, vI l1, vI l2, vI l3, vI l4, vI l5, vI l6, vI l7] [vI t0] M K Q := by
  exact r_iret c229_172 (Or.inl rfl) h
theorem t230_0 {d : Nat} {l0 : Nat} {l1 : Int} {M : Mem} {K : KK} {Q : RR → Mem → KK → Prop} (h : Wp d 230 2 [vR l0, vI l1, vI (0 : Int)] [] M K Q) : Wp d 230 0 [vR l0, vI l1, vU] [] M K Q := by
  refine r_iconst c230_0 ?_
  refine r_istore_n c230_1 (Nat.le_of_ble_eq_true rfl) ?_
  exact h
theorem t230_2 {d : Nat} {l0 : Nat} {l1 : Int} {l2 : Int} {M : Mem} {K : KK} {Q : RR → Mem → KK → Prop} (h : isO K.1 l0 12 = true ∧ ((M l0 35) ≤ l2 → Q (.inl (some (vI (0 : Int)))) M K) ∧ (¬ ((M l0 35) ≤ l2) → isO K.1 l0 12 = true ∧ ∃ b3 : Nat, (M l0 25) = (b3 : Int) ∧ 0 < b3 ∧ (Nat.ble 30 (tg b3) = true ∧ isO K.1 b3 (tg b3) = true) ∧ (0 ≤ l2 ∧ l2 < (ln b3 : Int)) ∧ ∃ b8 : Nat, (M b3 (Int.toNat l2)) = (b8 : Int) ∧ 0 < b8 ∧ isO K.1 b8 20 = true ∧ (0 ≤ (0 : Int) ∧ (0 : Int) < (ln b8 : Int)) ∧ (¬ (M b8 (Int.toNat (0 : Int))) = l1 → Wp d 230 2 [vR l0, vI l1, vI (w32 (l2 + 1))] [] M K Q) ∧ (¬ (¬ (M b8 (Int.toNat (0 : Int))) = l1) → Q (.inl (some (vI (1 : Int)))) M K))) : Wp d 230 2 [vR l0, vI l1, vI l2] [] M K Q := by
  refine r_iload_n c230_2 rfl ?_
  refine r_aload_n c230_3 rfl ?_
  obtain ⟨s1, h⟩ := h
  refine r_getI c230_4 s1 ?_
  refine r_icmpP (P := (M l0 35) ≤ l2) c230_7 rfl (fun hc => ?_) (fun hc => ?_)
  · replace h := h.1 hc
    refine r_iconst c230_30 ?_
    exact r_iret c230_31 (by decide) h
  · replace h := h.2 hc
    refine r_aload_n c230_10 rfl ?_
    obtain ⟨s2, h⟩ := h
    obtain ⟨b3, h⟩ := h
    obtain ⟨s4, h⟩ := h
    obtain ⟨s5, h⟩ := h
    refine r_getR c230_11 s2 s4 s5 ?_
    refine r_iload_n c230_14 rfl ?_
    obtain ⟨s6, h⟩ := h
    obtain ⟨s7, h⟩ := h
    obtain ⟨b8, h⟩ := h
    obtain ⟨s9, h⟩ := h
    obtain ⟨s10, h⟩ := h
    refine r_aa c230_15 s6 s7 s9 s10 ?_
    refine r_iconst c230_16 ?_
    obtain ⟨s11, h⟩ := h
    obtain ⟨s12, h⟩ := h
    refine r_ia c230_17 s11 s12 ?_
    refine r_iload_n c230_18 rfl ?_
    refine r_icmpP (P := ¬ (M b8 (Int.toNat (0 : Int))) = l1) c230_19 rfl (fun hc => ?_) (fun hc => ?_)
    · replace h := h.1 hc
      refine r_iinc c230_24 rfl ?_
      refine r_goto c230_27 ?_
      exact h
    · replace h := h.2 hc
      refine r_iconst c230_22 ?_
      exact r_iret c230_23 (by decide) h
theorem t231_0 {d : Nat} {l0 : Nat} {l1 : Int} {l2 : Int} {M : Mem} {K : KK} {Q : RR → Mem → KK → Prop} (h : isO K.1 l0 12 = true ∧ Wm d 153 [vI l1, vI (0 : Int), vI (72 : Int)] (mset M l0 0 (0 : Int)) K (Bk d 231 10 13 153 [vR l0, vI l1, vI l2, vU, vU, vU, vU, vU, vU] [vR l0] Q)) : Wp (d + 1) 231 0 [vR l0, vI l1, vI l2, vU, vU, vU, vU, vU, vU] [] M K Q := by
  refine r_aload_n c231_0 rfl ?_
  refine r_iconst c231_1 ?_
  obtain ⟨s1, h⟩ := h
  refine r_putI c231_2 s1 ?_
  refine r_aload_n c231_5 rfl ?_
  refine r_iload_n c231_6 rfl ?_
  refine r_iconst c231_7 ?_
  refine r_bipush c231_8 ?_
  exact r_call c231_10 rfl rfl (Nat.le_of_ble_eq_true rfl) (okc_s rfl rfl rfl) h
theorem t231_13 {d : Nat} {l0 : Nat} {l1 : Int} {l2 : Int} {t0 : Nat} {t1 : Int} {M : Mem} {K : KK} {Q : RR → Mem → KK → Prop} (h : (t1 = (0 : Int) → Wp (d + 1) 231 25 [vR l0, vI l1, vI l2, vU, vU, vU, vU, vU, vU] [vR t0] M K Q) ∧ (¬ (t1 = (0 : Int)) → Wm d 153 [vI l2, vI (0 : Int), vI (1 : Int)] M K (Bk d 231 19 22 153 [vR l0, vI l1, vI l2, vU, vU, vU, vU, vU, vU] [vR t0] Q))) : Wp (d + 1) 231 13 [vR l0, vI l1, vI l2, vU, vU, vU, vU, vU, vU] [vI t1, vR t0] M K Q := by
  refine r_ifP (P := t1 = (0 : Int)) c231_13 rfl (fun hc => ?_) (fun hc => ?_)
  · replace h := h.1 hc
    exact h
  · replace h := h.2 hc
    refine r_iload_n c231_16 rfl ?_
    refine r_iconst c231_17 ?_
    refine r_iconst c231_18 ?_
    exact r_call c231_19 rfl rfl (Nat.le_of_ble_eq_true rfl) (okc_s rfl rfl rfl) h
theorem t231_22 {d : Nat} {l0 : Nat} {l1 : Int} {l2 : Int} {t0 : Nat} {t1 : Int} {M : Mem} {K : KK} {Q : RR → Mem → KK → Prop} (h : (¬ t1 = (0 : Int) → Wp d 231 30 [vR l0, vI l1, vI l2, vU, vU, vU, vU, vU, vU] [vI (0 : Int), vR t0] M K Q) ∧ (¬ (¬ t1 = (0 : Int)) → Wp d 231 25 [vR l0, vI l1, vI l2, vU, vU, vU, vU, vU, vU] [vR t0] M K Q)) : Wp d 231 22 [vR l0, vI l1, vI l2, vU, vU, vU, vU, vU, vU] [vI t1, vR t0] M K Q := by
  refine r_ifP (P := ¬ t1 = (0 : Int)) c231_22 rfl (fun hc => ?_) (fun hc => ?_)
  · replace h := h.1 hc
    refine r_iconst c231_29 ?_
    exact h
  · replace h := h.2 hc
    exact h
theorem t231_25 {d : Nat} {l0 : Nat} {l1 : Int} {l2 : Int} {t0 : Nat} {M : Mem} {K : KK} {Q : RR → Mem → KK → Prop} (h : Wp d 231 30 [vR l0, vI l1, vI l2, vU, vU, vU, vU, vU, vU] [vI (1 : Int), vR t0] M K Q) : Wp d 231 25 [vR l0, vI l1, vI l2, vU, vU, vU, vU, vU, vU] [vR t0] M K Q := by
  refine r_iconst c231_25 ?_
  refine r_goto c231_26 ?_
  exact h
theorem t231_30 {d : Nat} {l0 : Nat} {l1 : Int} {l2 : Int} {t0 : Nat} {t1 : Int} {M : Mem} {K : KK} {Q : RR → Mem → KK → Prop} (h : isO K.1 t0 12 = true ∧ Wm d 152 [vR t0, vI t1, vI (1 : Int), vI (1 : Int)] M K (Bk d 231 32 35 152 [vR l0, vI l1, vI l2, vU, vU, vU, vU, vU, vU] [] Q)) : Wp (d + 1) 231 30 [vR l0, vI l1, vI l2, vU, vU, vU, vU, vU, vU] [vI t1, vR t0] M K Q := by
  refine r_iconst c231_30 ?_
  refine r_iconst c231_31 ?_
  obtain ⟨s1, h⟩ := h
  exact r_call c231_32 rfl rfl (Nat.le_of_ble_eq_true rfl) (okc_r rfl rfl s1) h
theorem t231_35 {d : Nat} {l0 : Nat} {l1 : Int} {l2 : Int} {t0 : Int} {M : Mem} {K : KK} {Q : RR → Mem → KK → Prop} (h : (t0 = (0 : Int) → Wp d 231 48 [vR l0, vI l1, vI l2, vI (-1 : Int), vI (-1 : Int), vI (0 : Int), vU, vU, vU] [] M K Q) ∧ (¬ (t0 = (0 : Int)) → Q (.inl (some (vI (0 : Int)))) M K)) : Wp d 231 35 [vR l0, vI l1, vI l2, vU, vU, vU, vU, vU, vU] [vI t0] M K Q := by
  refine r_ifP (P := t0 = (0 : Int)) c231_35 rfl (fun hc => ?_) (fun hc => ?_)
  · replace h := h.1 hc
    refine r_iconst c231_40 ?_
    refine r_istore_n c231_41 (Nat.le_of_ble_eq_true rfl) ?_
    refine r_iconst c231_42 ?_
    refine r_istore c231_43 (Nat.le_of_ble_eq_true rfl) ?_
    refine r_iconst c231_45 ?_
    refine r_istore c231_46 (Nat.le_of_ble_eq_true rfl) ?_
    exact h
  · replace h := h.2 hc
    refine r_iconst c231_38 ?_
    exact r_iret c231_39 (Or.inl rfl) h
theorem t231_48 {d : Nat} {l0 : Nat} {l1 : Int} {l2 : Int} {l3 : Int} {l4 : Int} {l5 : Int} {l6 : PV} {l7 : PV} {l8 : PV} {M : Mem} {K : KK} {Q : RR → Mem → KK → Prop} (h : isO K.1 l0 12 = true ∧ ∃ b2 : Nat, (M l0 12) = (b2 : Int) ∧ 0 < b2 ∧ isO K.1 b2 20 = true ∧ (0 ≤ (2 : Int) ∧ (2 : Int) < (ln b2 : Int)) ∧ ((M b2 (Int.toNat (2 : Int))) ≤ l5 → (¬ l2 = (0 : Int) → Wp (d + 1) 231 185 [vR l0, vI l1, vI l2, vI l3, vI l4, vI l5, l6, l7, l8] [vI l4] M K Q) ∧ (¬ (¬ l2 = (0 : Int)) → Wp (d + 1) 231 185 [vR l0, vI l1, vI l2, vI l3, vI l4, vI l5, l6, l7, l8] [vI l3] M K Q)) ∧ (¬ ((M b2 (Int.toNat (2 : Int))) ≤ l5) → isO K.1 l0 12 = true ∧ Wm d 230 [vR l0, vI l5] M K (Bk d 231 62 65 230 [vR l0, vI l1, vI l2, vI l3, vI l4, vI l5, l6, l7, l8] [] Q))) : Wp (d + 1) 231 48 [vR l0, vI l1, vI l2, vI l3, vI l4, vI l5, l6, l7, l8] [] M K Q := by
  refine r_iload c231_48 rfl ?_
  refine r_aload_n c231_50 rfl ?_
  obtain ⟨s1, h⟩ := h
  obtain ⟨b2, h⟩ := h
  obtain ⟨s3, h⟩ := h
  obtain ⟨s4, h⟩ := h
  refine r_getR c231_51 s1 s3 s4 ?_
  refine r_iconst c231_54 ?_
  obtain ⟨s5, h⟩ := h
  obtain ⟨s6, h⟩ := h
  refine r_ia c231_55 s5 s6 ?_
  refine r_icmpP (P := (M b2 (Int.toNat (2 : Int))) ≤ l5) c231_56 rfl (fun hc => ?_) (fun hc => ?_)
  · replace h := h.1 hc
    refine r_iload_n c231_175 rfl ?_
    refine r_ifP (P := ¬ l2 = (0 : Int)) c231_176 rfl (fun hc => ?_) (fun hc => ?_)
    · replace h := h.1 hc
      refine r_iload c231_183 rfl ?_
      exact h
    · replace h := h.2 hc
      refine r_iload_n c231_179 rfl ?_
      refine r_goto c231_180 ?_
      exact h
  · replace h := h.2 hc
    refine r_aload_n c231_59 rfl ?_
    refine r_iload c231_60 rfl ?_
    obtain ⟨s7, h⟩ := h
    exact r_call c231_62 rfl rfl (Nat.le_of_ble_eq_true rfl) (okc_r rfl rfl s7) h
theorem t231_65 {d : Nat} {l0 : Nat} {l1 : Int} {l2 : Int} {l3 : Int} {l4 : Int} {l5 : Int} {l6 : PV} {l7 : PV} {l8 : PV} {t0 : Int} {M : Mem} {K : KK} {Q : RR → Mem → KK → Prop} (h : (t0 = (0 : Int) → Wp d 231 80 [vR l0, vI l1, vI l2, vI l3, vI l4, vI l5, vI (0 : Int), vI (0 : Int), vI (0 : Int)] [] M K Q) ∧ (¬ (t0 = (0 : Int)) → Wp d 231 169 [vR l0, vI l1, vI l2, vI l3, vI l4, vI l5, l6, l7, l8] [] M K Q)) : Wp d 231 65 [vR l0, vI l1, vI l2, vI l3, vI l4, vI l5, l6, l7, l8] [vI t0] M K Q := by
  refine r_ifP (P := t0 = (0 : Int)) c231_65 rfl (fun hc => ?_) (fun hc => ?_)
  · replace h := h.1 hc
    refine r_iconst c231_71 ?_
    refine r_istore c231_72 (Nat.le_of_ble_eq_true rfl) ?_
    refine r_iconst c231_74 ?_
    refine r_istore c231_75 (Nat.le_of_ble_eq_true rfl) ?_
    refine r_iconst c231_77 ?_
    refine r_istore c231_78 (Nat.le_of_ble_eq_true rfl) ?_
    exact h
  · replace h := h.2 hc
    refine r_goto c231_68 ?_
    exact h
theorem t231_80 {d : Nat} {l0 : Nat} {l1 : Int} {l2 : Int} {l3 : Int} {l4 : Int} {l5 : Int} {l6 : Int} {l7 : Int} {l8 : Int} {M : Mem} {K : KK} {Q : RR → Mem → KK → Prop} (h : isO K.1 l0 12 = true ∧ ∃ b2 : Nat, (M l0 12) = (b2 : Int) ∧ 0 < b2 ∧ isO K.1 b2 20 = true ∧ (0 ≤ (2 : Int) ∧ (2 : Int) < (ln b2 : Int)) ∧ ((jshl (1 : Int) (M b2 (Int.toNat (2 : Int)))) ≤ l8 → Wm d 155 [vI l6, vI (w32 (l7 - l6))] M K (Bk d 231 142 145 155 [vR l0, vI l1, vI l2, vI l3, vI l4, vI l5, vI l6, vI l7, vI l8] [] Q)) ∧ (¬ ((jshl (1 : Int) (M b2 (Int.toNat (2 : Int)))) ≤ l8) → isO K.1 l0 12 = true ∧ Wm d 228 [vR l0, vI l8, vI l1] M K (Bk d 231 97 100 228 [vR l0, vI l1, vI l2, vI l3, vI l4, vI l5, vI l6, vI l7, vI l8] [] Q))) : Wp (d + 1) 231 80 [vR l0, vI l1, vI l2, vI l3, vI l4, vI l5, vI l6, vI l7, vI l8] [] M K Q := by
  refine r_iload c231_80 rfl ?_
  refine r_iconst c231_82 ?_
  refine r_aload_n c231_83 rfl ?_
  obtain ⟨s1, h⟩ := h
  obtain ⟨b2, h⟩ := h
  obtain ⟨s3, h⟩ := h
  obtain ⟨s4, h⟩ := h
  refine r_getR c231_84 s1 s3 s4 ?_
  refine r_iconst c231_87 ?_
  obtain ⟨s5, h⟩ := h
  obtain ⟨s6, h⟩ := h
  refine r_ia c231_88 s5 s6 ?_
  refine r_ishl c231_89 ?_
  refine r_icmpP (P := (jshl (1 : Int) (M b2 (Int.toNat (2 : Int)))) ≤ l8) c231_90 rfl (fun hc => ?_) (fun hc => ?_)
  · replace h := h.1 hc
    refine r_iload c231_135 rfl ?_
    refine r_iload c231_137 rfl ?_
    refine r_iload c231_139 rfl ?_
    refine r_isub c231_141 ?_
    exact r_call c231_142 rfl rfl (Nat.le_of_ble_eq_true rfl) (okc_s rfl rfl rfl) h
  · replace h := h.2 hc
    refine r_aload_n c231_93 rfl ?_
    refine r_iload c231_94 rfl ?_
    refine r_iload_n c231_96 rfl ?_
    obtain ⟨s7, h⟩ := h
    exact r_call c231_97 rfl rfl (Nat.le_of_ble_eq_true rfl) (okc_r rfl rfl s7) h
theorem t231_100 {d : Nat} {l0 : Nat} {l1 : Int} {l2 : Int} {l3 : Int} {l4 : Int} {l5 : Int} {l6 : Int} {l7 : Int} {l8 : Int} {t0 : Int} {M : Mem} {K : KK} {Q : RR → Mem → KK → Prop} (h : (¬ t0 = (0 : Int) → Wm d 156 [vI l8, vI l5] M K (Bk d 231 115 118 156 [vR l0, vI l1, vI l2, vI l3, vI l4, vI l5, vI l6, vI (w32 (l7 + 1)), vI l8] [vI l6] Q)) ∧ (¬ (¬ t0 = (0 : Int)) → Wp (d + 1) 231 129 [vR l0, vI l1, vI l2, vI l3, vI l4, vI l5, vI l6, vI l7, vI l8] [] M K Q)) : Wp (d + 1) 231 100 [vR l0, vI l1, vI l2, vI l3, vI l4, vI l5, vI l6, vI l7, vI l8] [vI t0] M K Q := by
  refine r_ifP (P := ¬ t0 = (0 : Int)) c231_100 rfl (fun hc => ?_) (fun hc => ?_)
  · replace h := h.1 hc
    refine r_iinc c231_106 rfl ?_
    refine r_iload c231_109 rfl ?_
    refine r_iload c231_111 rfl ?_
    refine r_iload c231_113 rfl ?_
    exact r_call c231_115 rfl rfl (Nat.le_of_ble_eq_true rfl) (okc_s rfl rfl rfl) h
  · replace h := h.2 hc
    refine r_goto c231_103 ?_
    exact h
theorem t231_118 {d : Nat} {l0 : Nat} {l1 : Int} {l2 : Int} {l3 : Int} {l4 : Int} {l5 : Int} {l6 : Int} {l7 : Int} {l8 : Int} {t0 : Int} {t1 : Int} {M : Mem} {K : KK} {Q : RR → Mem → KK → Prop} (h : (t1 = (0 : Int) → Wp d 231 126 [vR l0, vI l1, vI l2, vI l3, vI l4, vI l5, vI l6, vI l7, vI l8] [vI (0 : Int), vI t0] M K Q) ∧ (¬ (t1 = (0 : Int)) → Wp d 231 126 [vR l0, vI l1, vI l2, vI l3, vI l4, vI l5, vI l6, vI l7, vI l8] [vI (1 : Int), vI t0] M K Q)) : Wp d 231 118 [vR l0, vI l1, vI l2, vI l3, vI l4, vI l5, vI l6, vI l7, vI l8] [vI t1, vI t0] M K Q := by
  refine r_ifP (P := t1 = (0 : Int)) c231_118 rfl (fun hc => ?_) (fun hc => ?_)
  · replace h := h.1 hc
    refine r_iconst c231_125 ?_
    exact h
  · replace h := h.2 hc
    refine r_iconst c231_121 ?_
    refine r_goto c231_122 ?_
    exact h
theorem t231_126 {d : Nat} {l0 : Nat} {l1 : Int} {l2 : Int} {l3 : Int} {l4 : Int} {l5 : Int} {l6 : Int} {l7 : Int} {l8 : Int} {t0 : Int} {t1 : Int} {M : Mem} {K : KK} {Q : RR → Mem → KK → Prop} (h : Wp d 231 129 [vR l0, vI l1, vI l2, vI l3, vI l4, vI l5, vI (w32 (t0 + t1)), vI l7, vI l8] [] M K Q) : Wp d 231 126 [vR l0, vI l1, vI l2, vI l3, vI l4, vI l5, vI l6, vI l7, vI l8] [vI t1, vI t0] M K Q := by
  refine r_iadd c231_126 ?_
  refine r_istore c231_127 (Nat.le_of_ble_eq_true rfl) ?_
  exact h
theorem t231_129 {d : Nat} {l0 : Nat} {l1 : Int} {l2 : Int} {l3 : Int} {l4 : Int} {l5 : Int} {l6 : Int} {l7 : Int} {l8 : Int} {M : Mem} {K : KK} {Q : RR → Mem → KK → Prop} (h : Wp d 231 80 [vR l0, vI l1, vI l2, vI l3, vI l4, vI l5, vI l6, vI l7, vI (w32 (l8 + 1))] [] M K Q) : Wp d 231 129 [vR l0, vI l1, vI l2, vI l3, vI l4, vI l5, vI l6, vI l7, vI l8] [] M K Q := by
  refine r_iinc c231_129 rfl ?_
  refine r_goto c231_132 ?_
  exact h
theorem t231_145 {d : Nat} {l0 : Nat} {l1 : Int} {l2 : Int} {l3 : Int} {l4 : Int} {l5 : Int} {l6 : Int} {l7 : Int} {l8 : Int} {t0 : Int} {M : Mem} {K : KK} {Q : RR → Mem → KK → Prop} (h : (l3 = (-1 : Int) → Wp d 231 162 [vR l0, vI l1, vI l2, vI l3, vI l4, vI l5, vI l6, vI l7, vI t0] [] M K Q) ∧ (¬ (l3 = (-1 : Int)) → (t0 < l4 → Wp d 231 162 [vR l0, vI l1, vI l2, vI l3, vI l4, vI l5, vI l6, vI l7, vI t0] [] M K Q) ∧ (¬ (t0 < l4) → Wp d 231 169 [vR l0, vI l1, vI l2, vI l3, vI l4, vI l5, vI l6, vI l7, vI t0] [] M K Q))) : Wp d 231 145 [vR l0, vI l1, vI l2, vI l3, vI l4, vI l5, vI l6, vI l7, vI l8] [vI t0] M K Q := by
  refine r_istore c231_145 (Nat.le_of_ble_eq_true rfl) ?_
  refine r_iload_n c231_147 rfl ?_
  refine r_iconst c231_148 ?_
  refine r_icmpP (P := l3 = (-1 : Int)) c231_149 rfl (fun hc => ?_) (fun hc => ?_)
  · replace h := h.1 hc
    exact h
  · replace h := h.2 hc
    refine r_iload c231_152 rfl ?_
    refine r_iload c231_154 rfl ?_
    refine r_icmpP (P := t0 < l4) c231_156 rfl (fun hc => ?_) (fun hc => ?_)
    · replace h := h.1 hc
      exact h
    · replace h := h.2 hc
      refine r_goto c231_159 ?_
      exact h
theorem t231_162 {d : Nat} {l0 : Nat} {l1 : Int} {l2 : Int} {l3 : Int} {l4 : Int} {l5 : Int} {l6 : Int} {l7 : Int} {l8 : Int} {M : Mem} {K : KK} {Q : RR → Mem → KK → Prop} (h : Wp d 231 169 [vR l0, vI l1, vI l2, vI l5, vI l8, vI l5, vI l6, vI l7, vI l8] [] M K Q) : Wp d 231 162 [vR l0, vI l1, vI l2, vI l3, vI l4, vI l5, vI l6, vI l7, vI l8] [] M K Q := by
  refine r_iload c231_162 rfl ?_
  refine r_istore_n c231_164 (Nat.le_of_ble_eq_true rfl) ?_
  refine r_iload c231_165 rfl ?_
  refine r_istore c231_167 (Nat.le_of_ble_eq_true rfl) ?_
  exact h
theorem t231_169 {d : Nat} {l0 : Nat} {l1 : Int} {l2 : Int} {l3 : Int} {l4 : Int} {l5 : Int} {l6 : PV} {l7 : PV} {l8 : PV} {M : Mem} {K : KK} {Q : RR → Mem → KK → Prop} (h : Wp d 231 48 [vR l0, vI l1, vI l2, vI l3, vI l4, vI (w32 (l5 + 1)), l6, l7, l8] [] M K Q) : Wp d 231 169 [vR l0, vI l1, vI l2, vI l3, vI l4, vI l5, l6, l7, l8] [] M K Q := by
  refine r_iinc c231_169 rfl ?_
  refine r_goto c231_172 ?_
  exact h
theorem t231_185 {d : Nat} {l0 : Nat} {l1 : Int} {l2 : Int} {l3 : Int} {l4 : Int} {l5 : Int} {l6 : PV} {l7 : PV} {l8 : PV} {t0 : Int} {M : Mem} {K : KK} {Q : RR → Mem → KK → Prop} (h : Q (.inl (some (vI t0))) M K) : Wp d 231 185 [vR l0, vI l1, vI l2, vI l3, vI l4, vI l5, l6, l7, l8] [vI t0] M K Q := by
  exact r_iret c231_185 (Or.inl rfl) h
theorem t232_0 {d : Nat} {l0 : Int} {l1 : Int} {M : Mem} {K : KK} {Q : RR → Mem → KK → Prop} (h : (l0 ≤ l1 → Wp d 232 14 [vI l0, vI l1] [vI (w32 (l1 - l0))] M K Q) ∧ (¬ (l0 ≤ l1) → Wp d 232 14 [vI l0, vI l1] [vI (w32 (l0 - l1))] M K Q)) : Wp d 232 0 [vI l0, vI l1] [] M K Q := by
  refine r_iload_n c232_0 rfl ?_
  refine r_iload_n c232_1 rfl ?_
  refine r_icmpP (P := l0 ≤ l1) c232_2 rfl (fun hc => ?_) (fun hc => ?_)
  · replace h := h.1 hc
    refine r_iload_n c232_11 rfl ?_
    refine r_iload_n c232_12 rfl ?_
    refine r_isub c232_13 ?_
    exact h
  · replace h := h.2 hc
    refine r_iload_n c232_5 rfl ?_
    refine r_iload_n c232_6 rfl ?_
    refine r_isub c232_7 ?_
    refine r_goto c232_8 ?_
    exact h
theorem t232_14 {d : Nat} {l0 : Int} {l1 : Int} {t0 : Int} {M : Mem} {K : KK} {Q : RR → Mem → KK → Prop} (h : Q (.inl (some (vI t0))) M K) : Wp d 232 14 [vI l0, vI l1] [vI t0] M K Q := by
  exact r_iret c232_14 (Or.inl rfl) h
theorem t233_0 {d : Nat} {l0 : Int} {M : Mem} {K : KK} {Q : RR → Mem → KK → Prop} (h : Wp d 233 4 [vI l0, vI (0 : Int), vI (0 : Int)] [] M K Q) : Wp d 233 0 [vI l0, vU, vU] [] M K Q := by
  refine r_iconst c233_0 ?_
  refine r_istore_n c233_1 (Nat.le_of_ble_eq_true rfl) ?_
  refine r_iconst c233_2 ?_
  refine r_istore_n c233_3 (Nat.le_of_ble_eq_true rfl) ?_
  exact h
theorem t233_4 {d : Nat} {l0 : Int} {l1 : Int} {l2 : Int} {M : Mem} {K : KK} {Q : RR → Mem → KK → Prop} (h : ((12 : Int) ≤ l2 → Q (.inl (some (vI l1))) M K) ∧ (¬ ((12 : Int) ≤ l2) → Wp d 233 4 [vI l0, vI (w32 (l1 + (jand (jshr l0 l2) (1 : Int)))), vI (w32 (l2 + 1))] [] M K Q)) : Wp d 233 4 [vI l0, vI l1, vI l2] [] M K Q := by
  refine r_iload_n c233_4 rfl ?_
  refine r_bipush c233_5 ?_
  refine r_icmpP (P := (12 : Int) ≤ l2) c233_7 rfl (fun hc => ?_) (fun hc => ?_)
  · replace h := h.1 hc
    refine r_iload_n c233_24 rfl ?_
    exact r_iret c233_25 (Or.inl rfl) h
  · replace h := h.2 hc
    refine r_iload_n c233_10 rfl ?_
    refine r_iload_n c233_11 rfl ?_
    refine r_iload_n c233_12 rfl ?_
    refine r_ishr c233_13 ?_
    refine r_iconst c233_14 ?_
    refine r_iand c233_15 ?_
    refine r_iadd c233_16 ?_
    refine r_istore_n c233_17 (Nat.le_of_ble_eq_true rfl) ?_
    refine r_iinc c233_18 rfl ?_
    refine r_goto c233_21 ?_
    exact h
theorem t234_0 {d : Nat} {l0 : Nat} {l1 : Int} {M : Mem} {K : KK} {Q : RR → Mem → KK → Prop} (h : Wp d 234 4 [vR l0, vI l1, vI (0 : Int), vI (0 : Int), vU] [] M K Q) : Wp d 234 0 [vR l0, vI l1, vU, vU, vU] [] M K Q := by
  refine r_iconst c234_0 ?_
  refine r_istore_n c234_1 (Nat.le_of_ble_eq_true rfl) ?_
  refine r_iconst c234_2 ?_
  refine r_istore_n c234_3 (Nat.le_of_ble_eq_true rfl) ?_
  exact h
theorem t234_4 {d : Nat} {l0 : Nat} {l1 : Int} {l2 : Int} {l3 : Int} {l4 : PV} {M : Mem} {K : KK} {Q : RR → Mem → KK → Prop} (h : isO K.1 l0 12 = true ∧ ∃ b2 : Nat, (M l0 12) = (b2 : Int) ∧ 0 < b2 ∧ isO K.1 b2 20 = true ∧ (0 ≤ (0 : Int) ∧ (0 : Int) < (ln b2 : Int)) ∧ ((M b2 (Int.toNat (0 : Int))) ≤ l3 → Q (.inl (some (vI l2))) M K) ∧ (¬ ((M b2 (Int.toNat (0 : Int))) ≤ l3) → Wp d 234 17 [vR l0, vI l1, vI l2, vI l3, vI (0 : Int)] [] M K Q)) : Wp d 234 4 [vR l0, vI l1, vI l2, vI l3, l4] [] M K Q := by
  refine r_iload_n c234_4 rfl ?_
  refine r_aload_n c234_5 rfl ?_
  obtain ⟨s1, h⟩ := h
  obtain ⟨b2, h⟩ := h
  obtain ⟨s3, h⟩ := h
  obtain ⟨s4, h⟩ := h
  refine r_getR c234_6 s1 s3 s4 ?_
  refine r_iconst c234_9 ?_
  obtain ⟨s5, h⟩ := h
  obtain ⟨s6, h⟩ := h
  refine r_ia c234_10 s5 s6 ?_
  refine r_icmpP (P := (M b2 (Int.toNat (0 : Int))) ≤ l3) c234_11 rfl (fun hc => ?_) (fun hc => ?_)
  · replace h := h.1 hc
    refine r_iload_n c234_74 rfl ?_
    exact r_iret c234_75 (Or.inl rfl) h
  · replace h := h.2 hc
    refine r_iconst c234_14 ?_
    refine r_istore c234_15 (Nat.le_of_ble_eq_true rfl) ?_
    exact h
theorem t234_17 {d : Nat} {l0 : Nat} {l1 : Int} {l2 : Int} {l3 : Int} {l4 : Int} {M : Mem} {K : KK} {Q : RR → Mem → KK → Prop} (h : isO K.1 l0 12 = true ∧ ∃ b2 : Nat, (M l0 12) = (b2 : Int) ∧ 0 < b2 ∧ isO K.1 b2 20 = true ∧ (0 ≤ (0 : Int) ∧ (0 : Int) < (ln b2 : Int)) ∧ ((M b2 (Int.toNat (0 : Int))) ≤ l4 → Wp (d + 1) 234 4 [vR l0, vI l1, vI l2, vI (w32 (l3 + 1)), vI l4] [] M K Q) ∧ (¬ ((M b2 (Int.toNat (0 : Int))) ≤ l4) → Wm d 156 [vI l1, vI l3] M K (Bk d 234 31 34 156 [vR l0, vI l1, vI l2, vI l3, vI l4] [vI l2] Q))) : Wp (d + 1) 234 17 [vR l0, vI l1, vI l2, vI l3, vI l4] [] M K Q := by
  refine r_iload c234_17 rfl ?_
  refine r_aload_n c234_19 rfl ?_
  obtain ⟨s1, h⟩ := h
  obtain ⟨b2, h⟩ := h
  obtain ⟨s3, h⟩ := h
  obtain ⟨s4, h⟩ := h
  refine r_getR c234_20 s1 s3 s4 ?_
  refine r_iconst c234_23 ?_
  obtain ⟨s5, h⟩ := h
  obtain ⟨s6, h⟩ := h
  refine r_ia c234_24 s5 s6 ?_
  refine r_icmpP (P := (M b2 (Int.toNat (0 : Int))) ≤ l4) c234_25 rfl (fun hc => ?_) (fun hc => ?_)
  · replace h := h.1 hc
    refine r_iinc c234_68 rfl ?_
    refine r_goto c234_71 ?_
    exact h
  · replace h := h.2 hc
    refine r_iload_n c234_28 rfl ?_
    refine r_iload_n c234_29 rfl ?_
    refine r_iload_n c234_30 rfl ?_
    exact r_call c234_31 rfl rfl (Nat.le_of_ble_eq_true rfl) (okc_s rfl rfl rfl) h
theorem t234_34 {d : Nat} {l0 : Nat} {l1 : Int} {l2 : Int} {l3 : Int} {l4 : Int} {t0 : Int} {t1 : Int} {M : Mem} {K : KK} {Q : RR → Mem → KK → Prop} (h : (t1 = (0 : Int) → Wp (d + 1) 234 59 [vR l0, vI l1, vI l2, vI l3, vI l4] [vI t0] M K Q) ∧ (¬ (t1 = (0 : Int)) → Wm d 232 [vI l3, vI l4] M K (Bk d 234 40 43 232 [vR l0, vI l1, vI l2, vI l3, vI l4] [vI t0] Q))) : Wp (d + 1) 234 34 [vR l0, vI l1, vI l2, vI l3, vI l4] [vI t1, vI t0] M K Q := by
  refine r_ifP (P := t1 = (0 : Int)) c234_34 rfl (fun hc => ?_) (fun hc => ?_)
  · replace h := h.1 hc
    exact h
  · replace h := h.2 hc
    refine r_iload_n c234_37 rfl ?_
    refine r_iload c234_38 rfl ?_
    exact r_call c234_40 rfl rfl (Nat.le_of_ble_eq_true rfl) (okc_s rfl rfl rfl) h
theorem t234_43 {d : Nat} {l0 : Nat} {l1 : Int} {l2 : Int} {l3 : Int} {l4 : Int} {t0 : Int} {t1 : Int} {M : Mem} {K : KK} {Q : RR → Mem → KK → Prop} (h : isO K.1 l0 12 = true ∧ ∃ b2 : Nat, (M l0 12) = (b2 : Int) ∧ 0 < b2 ∧ isO K.1 b2 20 = true ∧ (0 ≤ (5 : Int) ∧ (5 : Int) < (ln b2 : Int)) ∧ ((M b2 (Int.toNat (5 : Int))) < t1 → Wp d 234 59 [vR l0, vI l1, vI l2, vI l3, vI l4] [vI t0] M K Q) ∧ (¬ ((M b2 (Int.toNat (5 : Int))) < t1) → Wp d 234 60 [vR l0, vI l1, vI l2, vI l3, vI l4] [vI (jshl (1 : Int) l4), vI t0] M K Q)) : Wp d 234 43 [vR l0, vI l1, vI l2, vI l3, vI l4] [vI t1, vI t0] M K Q := by
  refine r_aload_n c234_43 rfl ?_
  obtain ⟨s1, h⟩ := h
  obtain ⟨b2, h⟩ := h
  obtain ⟨s3, h⟩ := h
  obtain ⟨s4, h⟩ := h
  refine r_getR c234_44 s1 s3 s4 ?_
  refine r_iconst c234_47 ?_
  obtain ⟨s5, h⟩ := h
  obtain ⟨s6, h⟩ := h
  refine r_ia c234_48 s5 s6 ?_
  refine r_icmpP (P := (M b2 (Int.toNat (5 : Int))) < t1) c234_49 rfl (fun hc => ?_) (fun hc => ?_)
  · replace h := h.1 hc
    exact h
  · replace h := h.2 hc
    refine r_iconst c234_52 ?_
    refine r_iload c234_53 rfl ?_
    refine r_ishl c234_55 ?_
    refine r_goto c234_56 ?_
    exact h
theorem t234_59 {d : Nat} {l0 : Nat} {l1 : Int} {l2 : Int} {l3 : Int} {l4 : Int} {t0 : Int} {M : Mem} {K : KK} {Q : RR → Mem → KK → Prop} (h : Wp d 234 60 [vR l0, vI l1, vI l2, vI l3, vI l4] [vI (0 : Int), vI t0] M K Q) : Wp d 234 59 [vR l0, vI l1, vI l2, vI l3, vI l4] [vI t0] M K Q := by
  refine r_iconst c234_59 ?_
  exact h
theorem t234_60 {d : Nat} {l0 : Nat} {l1 : Int} {l2 : Int} {l3 : Int} {l4 : Int} {t0 : Int} {t1 : Int} {M : Mem} {K : KK} {Q : RR → Mem → KK → Prop} (h : Wp d 234 17 [vR l0, vI l1, vI (jor t0 t1), vI l3, vI (w32 (l4 + 1))] [] M K Q) : Wp d 234 60 [vR l0, vI l1, vI l2, vI l3, vI l4] [vI t1, vI t0] M K Q := by
  refine r_ior c234_60 ?_
  refine r_istore_n c234_61 (Nat.le_of_ble_eq_true rfl) ?_
  refine r_iinc c234_62 rfl ?_
  refine r_goto c234_65 ?_
  exact h
theorem t235_0 {d : Nat} {l0 : Nat} {M : Mem} {K : KK} {Q : RR → Mem → KK → Prop} (h : Wp d 235 4 [vR l0, vI (0 : Int), vI (0 : Int)] [] M K Q) : Wp d 235 0 [vR l0, vU, vU] [] M K Q := by
  refine r_iconst c235_0 ?_
  refine r_istore_n c235_1 (Nat.le_of_ble_eq_true rfl) ?_
  refine r_iconst c235_2 ?_
  refine r_istore_n c235_3 (Nat.le_of_ble_eq_true rfl) ?_
  exact h
theorem t235_4 {d : Nat} {l0 : Nat} {l1 : Int} {l2 : Int} {M : Mem} {K : KK} {Q : RR → Mem → KK → Prop} (h : isO K.1 l0 12 = true ∧ ∃ b2 : Nat, (M l0 12) = (b2 : Int) ∧ 0 < b2 ∧ isO K.1 b2 20 = true ∧ (0 ≤ (0 : Int) ∧ (0 : Int) < (ln b2 : Int)) ∧ ((M b2 (Int.toNat (0 : Int))) ≤ l2 → Q (.inl (some (vI l1))) M K) ∧ (¬ ((M b2 (Int.toNat (0 : Int))) ≤ l2) → isO K.1 l0 12 = true ∧ ∃ b8 : Nat, (M l0 31) = (b8 : Int) ∧ 0 < b8 ∧ isO K.1 l0 12 = true ∧ Wm d 196 [vR l0, vR b8, vI l2] M K (Bk d 235 21 24 196 [vR l0, vI l1, vI l2] [vI l1] Q))) : Wp (d + 1) 235 4 [vR l0, vI l1, vI l2] [] M K Q := by
  refine r_iload_n c235_4 rfl ?_
  refine r_aload_n c235_5 rfl ?_
  obtain ⟨s1, h⟩ := h
  obtain ⟨b2, h⟩ := h
  obtain ⟨s3, h⟩ := h
  obtain ⟨s4, h⟩ := h
  refine r_getR c235_6 s1 s3 s4 ?_
  refine r_iconst c235_9 ?_
  obtain ⟨s5, h⟩ := h
  obtain ⟨s6, h⟩ := h
  refine r_ia c235_10 s5 s6 ?_
  refine r_icmpP (P := (M b2 (Int.toNat (0 : Int))) ≤ l2) c235_11 rfl (fun hc => ?_) (fun hc => ?_)
  · replace h := h.1 hc
    refine r_iload_n c235_43 rfl ?_
    exact r_iret c235_44 (Or.inl rfl) h
  · replace h := h.2 hc
    refine r_iload_n c235_14 rfl ?_
    refine r_aload_n c235_15 rfl ?_
    refine r_aload_n c235_16 rfl ?_
    obtain ⟨s7, h⟩ := h
    obtain ⟨b8, h⟩ := h
    obtain ⟨s9, h⟩ := h
    obtain ⟨s10, h⟩ := h
    refine r_getR c235_17 s7 s9 s10 ?_
    refine r_iload_n c235_20 rfl ?_
    obtain ⟨s11, h⟩ := h
    exact r_call c235_21 rfl rfl (Nat.le_of_ble_eq_true rfl) (okc_r rfl rfl s11) h
theorem t235_24 {d : Nat} {l0 : Nat} {l1 : Int} {l2 : Int} {t0 : Int} {t1 : Int} {M : Mem} {K : KK} {Q : RR → Mem → KK → Prop} (h : (¬ t1 = (-1 : Int) → Wp d 235 35 [vR l0, vI l1, vI l2] [vI (jshl (1 : Int) l2), vI t0] M K Q) ∧ (¬ (¬ t1 = (-1 : Int)) → Wp d 235 35 [vR l0, vI l1, vI l2] [vI (0 : Int), vI t0] M K Q)) : Wp d 235 24 [vR l0, vI l1, vI l2] [vI t1, vI t0] M K Q := by
  refine r_iconst c235_24 ?_
  refine r_icmpP (P := ¬ t1 = (-1 : Int)) c235_25 rfl (fun hc => ?_) (fun hc => ?_)
  · replace h := h.1 hc
    refine r_iconst c235_32 ?_
    refine r_iload_n c235_33 rfl ?_
    refine r_ishl c235_34 ?_
    exact h
  · replace h := h.2 hc
    refine r_iconst c235_28 ?_
    refine r_goto c235_29 ?_
    exact h
theorem t235_35 {d : Nat} {l0 : Nat} {l1 : Int} {l2 : Int} {t0 : Int} {t1 : Int} {M : Mem} {K : KK} {Q : RR → Mem → KK → Prop} (h : Wp d 235 4 [vR l0, vI (jor t0 t1), vI (w32 (l2 + 1))] [] M K Q) : Wp d 235 35 [vR l0, vI l1, vI l2] [vI t1, vI t0] M K Q := by
  refine r_ior c235_35 ?_
  refine r_istore_n c235_36 (Nat.le_of_ble_eq_true rfl) ?_
  refine r_iinc c235_37 rfl ?_
  refine r_goto c235_40 ?_
  exact h
theorem t236_0 {d : Nat} {l0 : Nat} {M : Mem} {K : KK} {Q : RR → Mem → KK → Prop} (h : isO K.1 l0 12 = true ∧ isO K.1 l0 12 = true ∧ ∃ b3 : Nat, ((mset M l0 0 (0 : Int)) l0 12) = (b3 : Int) ∧ 0 < b3 ∧ isO K.1 b3 20 = true ∧ (0 ≤ (0 : Int) ∧ (0 : Int) < (ln b3 : Int)) ∧ Wp d 236 18 [vR l0, vI (w32 ((jshl (1 : Int) ((mset M l0 0 (0 : Int)) b3 (Int.toNat (0 : Int)))) - (1 : Int))), vI (w32 ((jshl (1 : Int) ((mset M l0 0 (0 : Int)) b3 (Int.toNat (0 : Int)))) - (1 : Int)))] [] (mset M l0 0 (0 : Int)) K Q) : Wp d 236 0 [vR l0, vU, vU] [] M K Q := by
  refine r_aload_n c236_0 rfl ?_
  refine r_iconst c236_1 ?_
  obtain ⟨s1, h⟩ := h
  refine r_putI c236_2 s1 ?_
  refine r_iconst c236_5 ?_
  refine r_aload_n c236_6 rfl ?_
  obtain ⟨s2, h⟩ := h
  obtain ⟨b3, h⟩ := h
  obtain ⟨s4, h⟩ := h
  obtain ⟨s5, h⟩ := h
  refine r_getR c236_7 s2 s4 s5 ?_
  refine r_iconst c236_10 ?_
  obtain ⟨s6, h⟩ := h
  obtain ⟨s7, h⟩ := h
  refine r_ia c236_11 s6 s7 ?_
  refine r_ishl c236_12 ?_
  refine r_iconst c236_13 ?_
  refine r_isub c236_14 ?_
  refine r_istore_n c236_15 (Nat.le_of_ble_eq_true rfl) ?_
  refine r_iload_n c236_16 rfl ?_
  refine r_istore_n c236_17 (Nat.le_of_ble_eq_true rfl) ?_
  exact h
theorem t236_18 {d : Nat} {l0 : Nat} {l1 : Int} {l2 : Int} {M : Mem} {K : KK} {Q : RR → Mem → KK → Prop} (h : (l2 < (0 : Int) → Q (.inl (some (vI l1))) M K) ∧ (¬ (l2 < (0 : Int)) → Wm d 233 [vI l2] M K (Bk d 236 23 26 233 [vR l0, vI l1, vI l2] [] Q))) : Wp (d + 1) 236 18 [vR l0, vI l1, vI l2] [] M K Q := by
  refine r_iload_n c236_18 rfl ?_
  refine r_ifP (P := l2 < (0 : Int)) c236_19 rfl (fun hc => ?_) (fun hc => ?_)
  · replace h := h.1 hc
    refine r_iload_n c236_60 rfl ?_
    exact r_iret c236_61 (Or.inl rfl) h
  · replace h := h.2 hc
    refine r_iload_n c236_22 rfl ?_
    exact r_call c236_23 rfl rfl (Nat.le_of_ble_eq_true rfl) (okc_s rfl rfl rfl) h
theorem t236_26 {d : Nat} {l0 : Nat} {l1 : Int} {l2 : Int} {t0 : Int} {M : Mem} {K : KK} {Q : RR → Mem → KK → Prop} (h : Wm d 233 [vI l1] M K (Bk d 236 27 30 233 [vR l0, vI l1, vI l2] [vI t0] Q)) : Wp (d + 1) 236 26 [vR l0, vI l1, vI l2] [vI t0] M K Q := by
  refine r_iload_n c236_26 rfl ?_
  exact r_call c236_27 rfl rfl (Nat.le_of_ble_eq_true rfl) (okc_s rfl rfl rfl) h
theorem t236_30 {d : Nat} {l0 : Nat} {l1 : Int} {l2 : Int} {t0 : Int} {t1 : Int} {M : Mem} {K : KK} {Q : RR → Mem → KK → Prop} (h : (t1 < t0 → Wp (d + 1) 236 52 [vR l0, vI l1, vI l2] [] M K Q) ∧ (¬ (t1 < t0) → isO K.1 l0 12 = true ∧ Wm d 235 [vR l0] M K (Bk d 236 34 37 235 [vR l0, vI l1, vI l2] [] Q))) : Wp (d + 1) 236 30 [vR l0, vI l1, vI l2] [vI t1, vI t0] M K Q := by
  refine r_icmpP (P := t1 < t0) c236_30 rfl (fun hc => ?_) (fun hc => ?_)
  · replace h := h.1 hc
    exact h
  · replace h := h.2 hc
    refine r_aload_n c236_33 rfl ?_
    obtain ⟨s1, h⟩ := h
    exact r_call c236_34 rfl rfl (Nat.le_of_ble_eq_true rfl) (okc_r rfl rfl s1) h
theorem t236_37 {d : Nat} {l0 : Nat} {l1 : Int} {l2 : Int} {t0 : Int} {M : Mem} {K : KK} {Q : RR → Mem → KK → Prop} (h : isO K.1 l0 12 = true ∧ Wm d 234 [vR l0, vI l2] M K (Bk d 236 39 42 234 [vR l0, vI l1, vI l2] [vI t0] Q)) : Wp (d + 1) 236 37 [vR l0, vI l1, vI l2] [vI t0] M K Q := by
  refine r_aload_n c236_37 rfl ?_
  refine r_iload_n c236_38 rfl ?_
  obtain ⟨s1, h⟩ := h
  exact r_call c236_39 rfl rfl (Nat.le_of_ble_eq_true rfl) (okc_r rfl rfl s1) h
theorem t236_42 {d : Nat} {l0 : Nat} {l1 : Int} {l2 : Int} {t0 : Int} {t1 : Int} {M : Mem} {K : KK} {Q : RR → Mem → KK → Prop} (h : (¬ (jand t0 (jxor t1 (-1 : Int))) = (0 : Int) → Wp d 236 52 [vR l0, vI l1, vI l2] [] M K Q) ∧ (¬ (¬ (jand t0 (jxor t1 (-1 : Int))) = (0 : Int)) → Wp d 236 53 [vR l0, vI l1, vI l2] [vI l2] M K Q)) : Wp d 236 42 [vR l0, vI l1, vI l2] [vI t1, vI t0] M K Q := by
  refine r_iconst c236_42 ?_
  refine r_ixor c236_43 ?_
  refine r_iand c236_44 ?_
  refine r_ifP (P := ¬ (jand t0 (jxor t1 (-1 : Int))) = (0 : Int)) c236_45 rfl (fun hc => ?_) (fun hc => ?_)
  · replace h := h.1 hc
    exact h
  · replace h := h.2 hc
    refine r_iload_n c236_48 rfl ?_
    refine r_goto c236_49 ?_
    exact h
theorem t236_52 {d : Nat} {l0 : Nat} {l1 : Int} {l2 : Int} {M : Mem} {K : KK} {Q : RR → Mem → KK → Prop} (h : Wp d 236 53 [vR l0, vI l1, vI l2] [vI l1] M K Q) : Wp d 236 52 [vR l0, vI l1, vI l2] [] M K Q := by
  refine r_iload_n c236_52 rfl ?_
  exact h
theorem t236_53 {d : Nat} {l0 : Nat} {l1 : Int} {l2 : Int} {t0 : Int} {M : Mem} {K : KK} {Q : RR → Mem → KK → Prop} (h : Wp d 236 18 [vR l0, vI t0, vI (w32 (l2 + (-1)))] [] M K Q) : Wp d 236 53 [vR l0, vI l1, vI l2] [vI t0] M K Q := by
  refine r_istore_n c236_53 (Nat.le_of_ble_eq_true rfl) ?_
  refine r_iinc c236_54 rfl ?_
  refine r_goto c236_57 ?_
  exact h
theorem t237_0 {d : Nat} {l0 : Nat} {l1 : Int} {M : Mem} {K : KK} {Q : RR → Mem → KK → Prop} (h : isO K.1 l0 12 = true ∧ isO K.1 l0 12 = true ∧ ∃ b3 : Nat, ((mset M l0 0 (0 : Int)) l0 12) = (b3 : Int) ∧ 0 < b3 ∧ isO K.1 b3 20 = true ∧ (0 ≤ (0 : Int) ∧ (0 : Int) < (ln b3 : Int)) ∧ Wm d 153 [vI l1, vI (0 : Int), vI (w32 ((jshl (1 : Int) ((mset M l0 0 (0 : Int)) b3 (Int.toNat (0 : Int)))) - (1 : Int)))] (mset M l0 0 (0 : Int)) K (Bk d 237 18 21 153 [vR l0, vI l1] [vR l0] Q)) : Wp (d + 1) 237 0 [vR l0, vI l1] [] M K Q := by
  refine r_aload_n c237_0 rfl ?_
  refine r_iconst c237_1 ?_
  obtain ⟨s1, h⟩ := h
  refine r_putI c237_2 s1 ?_
  refine r_aload_n c237_5 rfl ?_
  refine r_iload_n c237_6 rfl ?_
  refine r_iconst c237_7 ?_
  refine r_iconst c237_8 ?_
  refine r_aload_n c237_9 rfl ?_
  obtain ⟨s2, h⟩ := h
  obtain ⟨b3, h⟩ := h
  obtain ⟨s4, h⟩ := h
  obtain ⟨s5, h⟩ := h
  refine r_getR c237_10 s2 s4 s5 ?_
  refine r_iconst c237_13 ?_
  obtain ⟨s6, h⟩ := h
  obtain ⟨s7, h⟩ := h
  refine r_ia c237_14 s6 s7 ?_
  refine r_ishl c237_15 ?_
  refine r_iconst c237_16 ?_
  refine r_isub c237_17 ?_
  exact r_call c237_18 rfl rfl (Nat.le_of_ble_eq_true rfl) (okc_s rfl rfl rfl) h
theorem t237_21 {d : Nat} {l0 : Nat} {l1 : Int} {t0 : Nat} {t1 : Int} {M : Mem} {K : KK} {Q : RR → Mem → KK → Prop} (h : (¬ t1 = (0 : Int) → Wp d 237 29 [vR l0, vI l1] [vI (0 : Int), vR t0] M K Q) ∧ (¬ (¬ t1 = (0 : Int)) → Wp d 237 29 [vR l0, vI l1] [vI (1 : Int), vR t0] M K Q)) : Wp d 237 21 [vR l0, vI l1] [vI t1, vR t0] M K Q := by
  refine r_ifP (P := ¬ t1 = (0 : Int)) c237_21 rfl (fun hc => ?_) (fun hc => ?_)
  · replace h := h.1 hc
    refine r_iconst c237_28 ?_
    exact h
  · replace h := h.2 hc
    refine r_iconst c237_24 ?_
    refine r_goto c237_25 ?_
    exact h
theorem t237_29 {d : Nat} {l0 : Nat} {l1 : Int} {t0 : Nat} {t1 : Int} {M : Mem} {K : KK} {Q : RR → Mem → KK → Prop} (h : isO K.1 t0 12 = true ∧ Wm d 152 [vR t0, vI t1, vI (1 : Int), vI (1 : Int)] M K (Bk d 237 31 34 152 [vR l0, vI l1] [] Q)) : Wp (d + 1) 237 29 [vR l0, vI l1] [vI t1, vR t0] M K Q := by
  refine r_iconst c237_29 ?_
  refine r_iconst c237_30 ?_
  obtain ⟨s1, h⟩ := h
  exact r_call c237_31 rfl rfl (Nat.le_of_ble_eq_true rfl) (okc_r rfl rfl s1) h
theorem t237_34 {d : Nat} {l0 : Nat} {l1 : Int} {t0 : Int} {M : Mem} {K : KK} {Q : RR → Mem → KK → Prop} (h : (t0 = (0 : Int) → isO K.1 l0 12 = true ∧ Wm d 234 [vR l0, vI l1] M K (Bk d 237 41 44 234 [vR l0, vI l1] [] Q)) ∧ (¬ (t0 = (0 : Int)) → Q (.inl (some (vI (0 : Int)))) M K)) : Wp (d + 1) 237 34 [vR l0, vI l1] [vI t0] M K Q := by
  refine r_ifP (P := t0 = (0 : Int)) c237_34 rfl (fun hc => ?_) (fun hc => ?_)
  · replace h := h.1 hc
    refine r_aload_n c237_39 rfl ?_
    refine r_iload_n c237_40 rfl ?_
    obtain ⟨s1, h⟩ := h
    exact r_call c237_41 rfl rfl (Nat.le_of_ble_eq_true rfl) (okc_r rfl rfl s1) h
  · replace h := h.2 hc
    refine r_iconst c237_37 ?_
    exact r_iret c237_38 (Or.inl rfl) h
theorem t237_44 {d : Nat} {l0 : Nat} {l1 : Int} {t0 : Int} {M : Mem} {K : KK} {Q : RR → Mem → KK → Prop} (h : Q (.inl (some (vI t0))) M K) : Wp d 237 44 [vR l0, vI l1] [vI t0] M K Q := by
  exact r_iret c237_44 (Or.inl rfl) h
theorem t238_0 {d : Nat} {l0 : Nat} {l1 : Int} {l2 : Int} {M : Mem} {K : KK} {Q : RR → Mem → KK → Prop} (h : Wm d 232 [vI l1, vI l2] M K (Bk d 238 2 5 232 [vR l0, vI l1, vI l2] [] Q)) : Wp (d + 1) 238 0 [vR l0, vI l1, vI l2] [] M K Q := by
  refine r_iload_n c238_0 rfl ?_
  refine r_iload_n c238_1 rfl ?_
  exact r_call c238_2 rfl rfl (Nat.le_of_ble_eq_true rfl) (okc_s rfl rfl rfl) h
theorem t238_5 {d : Nat} {l0 : Nat} {l1 : Int} {l2 : Int} {t0 : Int} {M : Mem} {K : KK} {Q : RR → Mem → KK → Prop} (h : isO K.1 l0 12 = true ∧ ∃ b2 : Nat, (M l0 12) = (b2 : Int) ∧ 0 < b2 ∧ isO K.1 b2 20 = true ∧ (0 ≤ (5 : Int) ∧ (5 : Int) < (ln b2 : Int)) ∧ ((M b2 (Int.toNat (5 : Int))) < t0 → Wp d 238 20 [vR l0, vI l1, vI l2] [vI (99 : Int)] M K Q) ∧ (¬ ((M b2 (Int.toNat (5 : Int))) < t0) → Wp d 238 20 [vR l0, vI l1, vI l2] [vI (0 : Int)] M K Q)) : Wp d 238 5 [vR l0, vI l1, vI l2] [vI t0] M K Q := by
  refine r_aload_n c238_5 rfl ?_
  obtain ⟨s1, h⟩ := h
  obtain ⟨b2, h⟩ := h
  obtain ⟨s3, h⟩ := h
  obtain ⟨s4, h⟩ := h
  refine r_getR c238_6 s1 s3 s4 ?_
  refine r_iconst c238_9 ?_
  obtain ⟨s5, h⟩ := h
  obtain ⟨s6, h⟩ := h
  refine r_ia c238_10 s5 s6 ?_
  refine r_icmpP (P := (M b2 (Int.toNat (5 : Int))) < t0) c238_11 rfl (fun hc => ?_) (fun hc => ?_)
  · replace h := h.1 hc
    refine r_bipush c238_18 ?_
    exact h
  · replace h := h.2 hc
    refine r_iconst c238_14 ?_
    refine r_goto c238_15 ?_
    exact h
theorem t238_20 {d : Nat} {l0 : Nat} {l1 : Int} {l2 : Int} {t0 : Int} {M : Mem} {K : KK} {Q : RR → Mem → KK → Prop} (h : isO K.1 l0 12 = true ∧ ∃ b2 : Nat, (M l0 31) = (b2 : Int) ∧ 0 < b2 ∧ isO K.1 l0 12 = true ∧ ∃ b6 : Nat, (M l0 31) = (b6 : Int) ∧ 0 < b6 ∧ isO K.1 l0 12 = true ∧ Wm d 196 [vR l0, vR b6, vI l1] M K (Bk d 238 32 35 196 [vR l0, vI l1, vI l2] [vI (6 : Int), vR b2, vI t0] Q)) : Wp (d + 1) 238 20 [vR l0, vI l1, vI l2] [vI t0] M K Q := by
  refine r_aload_n c238_20 rfl ?_
  obtain ⟨s1, h⟩ := h
  obtain ⟨b2, h⟩ := h
  obtain ⟨s3, h⟩ := h
  obtain ⟨s4, h⟩ := h
  refine r_getR c238_21 s1 s3 s4 ?_
  refine r_bipush c238_24 ?_
  refine r_aload_n c238_26 rfl ?_
  refine r_aload_n c238_27 rfl ?_
  obtain ⟨s5, h⟩ := h
  obtain ⟨b6, h⟩ := h
  obtain ⟨s7, h⟩ := h
  obtain ⟨s8, h⟩ := h
  refine r_getR c238_28 s5 s7 s8 ?_
  refine r_iload_n c238_31 rfl ?_
  obtain ⟨s9, h⟩ := h
  exact r_call c238_32 rfl rfl (Nat.le_of_ble_eq_true rfl) (okc_r rfl rfl s9) h
theorem t238_35 {d : Nat} {l0 : Nat} {l1 : Int} {l2 : Int} {t0 : Int} {t1 : Nat} {t2 : Int} {t3 : Int} {M : Mem} {K : KK} {Q : RR → Mem → KK → Prop} (h : isO K.1 t1 20 = true ∧ (0 ≤ (w32 (t2 + t3)) ∧ (w32 (t2 + t3)) < (ln t1 : Int)) ∧ Q (.inl (some (vI (w32 (t0 - (M t1 (Int.toNat (w32 (t2 + t3))))))))) M K) : Wp d 238 35 [vR l0, vI l1, vI l2] [vI t3, vI t2, vR t1, vI t0] M K Q := by
  refine r_iadd c238_35 ?_
  obtain ⟨s1, h⟩ := h
  obtain ⟨s2, h⟩ := h
  refine r_ia c238_36 s1 s2 ?_
  refine r_isub c238_37 ?_
  exact r_iret c238_38 (Or.inl rfl) h
theorem t239_0 {d : Nat} {l0 : Nat} {l1 : Int} {l2 : Int} {M : Mem} {K : KK} {Q : RR → Mem → KK → Prop} (h : Wp d 239 2 [vR l0, vI l1, vI l2, vI (0 : Int)] [] M K Q) : Wp d 239 0 [vR l0, vI l1, vI l2, vU] [] M K Q := by
  refine r_iconst c239_0 ?_
  refine r_istore_n c239_1 (Nat.le_of_ble_eq_true rfl) ?_
  exact h
theorem t239_2 {d : Nat} {l0 : Nat} {l1 : Int} {l2 : Int} {l3 : Int} {M : Mem} {K : KK} {Q : RR → Mem → KK → Prop} (h : isO K.1 l0 12 = true ∧ ∃ b2 : Nat, (M l0 12) = (b2 : Int) ∧ 0 < b2 ∧ isO K.1 b2 20 = true ∧ (0 ≤ (0 : Int) ∧ (0 : Int) < (ln b2 : Int)) ∧ ((M b2 (Int.toNat (0 : Int))) ≤ l3 → Q (.inl (some (vI (1 : Int)))) M K) ∧ (¬ ((M b2 (Int.toNat (0 : Int))) ≤ l3) → isO K.1 l0 12 = true ∧ ∃ b8 : Nat, (M l0 31) = (b8 : Int) ∧ 0 < b8 ∧ isO K.1 l0 12 = true ∧ Wm d 196 [vR l0, vR b8, vI l3] M K (Bk d 239 18 21 196 [vR l0, vI l1, vI l2, vI l3] [] Q))) : Wp (d + 1) 239 2 [vR l0, vI l1, vI l2, vI l3] [] M K Q := by
  refine r_iload_n c239_2 rfl ?_
  refine r_aload_n c239_3 rfl ?_
  obtain ⟨s1, h⟩ := h
  obtain ⟨b2, h⟩ := h
  obtain ⟨s3, h⟩ := h
  obtain ⟨s4, h⟩ := h
  refine r_getR c239_4 s1 s3 s4 ?_
  refine r_iconst c239_7 ?_
  obtain ⟨s5, h⟩ := h
  obtain ⟨s6, h⟩ := h
  refine r_ia c239_8 s5 s6 ?_
  refine r_icmpP (P := (M b2 (Int.toNat (0 : Int))) ≤ l3) c239_9 rfl (fun hc => ?_) (fun hc => ?_)
  · replace h := h.1 hc
    refine r_iconst c239_63 ?_
    exact r_iret c239_64 (by decide) h
  · replace h := h.2 hc
    refine r_aload_n c239_12 rfl ?_
    refine r_aload_n c239_13 rfl ?_
    obtain ⟨s7, h⟩ := h
    obtain ⟨b8, h⟩ := h
    obtain ⟨s9, h⟩ := h
    obtain ⟨s10, h⟩ := h
    refine r_getR c239_14 s7 s9 s10 ?_
    refine r_iload_n c239_17 rfl ?_
    obtain ⟨s11, h⟩ := h
    exact r_call c239_18 rfl rfl (Nat.le_of_ble_eq_true rfl) (okc_r rfl rfl s11) h
theorem t239_21 {d : Nat} {l0 : Nat} {l1 : Int} {l2 : Int} {l3 : Int} {t0 : Int} {M : Mem} {K : KK} {Q : RR → Mem → KK → Prop} (h : (t0 = (-1 : Int) → Wp (d + 1) 239 40 [vR l0, vI l1, vI l2, vI l3] [] M K Q) ∧ (¬ (t0 = (-1 : Int)) → isO K.1 l0 12 = true ∧ Wm d 238 [vR l0, vI l3, vI l2] M K (Bk d 239 28 31 238 [vR l0, vI l1, vI l2, vI l3] [] Q))) : Wp (d + 1) 239 21 [vR l0, vI l1, vI l2, vI l3] [vI t0] M K Q := by
  refine r_iconst c239_21 ?_
  refine r_icmpP (P := t0 = (-1 : Int)) c239_22 rfl (fun hc => ?_) (fun hc => ?_)
  · replace h := h.1 hc
    exact h
  · replace h := h.2 hc
    refine r_aload_n c239_25 rfl ?_
    refine r_iload_n c239_26 rfl ?_
    refine r_iload_n c239_27 rfl ?_
    obtain ⟨s1, h⟩ := h
    exact r_call c239_28 rfl rfl (Nat.le_of_ble_eq_true rfl) (okc_r rfl rfl s1) h
theorem t239_31 {d : Nat} {l0 : Nat} {l1 : Int} {l2 : Int} {l3 : Int} {t0 : Int} {M : Mem} {K : KK} {Q : RR → Mem → KK → Prop} (h : isO K.1 l0 12 = true ∧ Wm d 238 [vR l0, vI l1, vI l2] M K (Bk d 239 34 37 238 [vR l0, vI l1, vI l2, vI l3] [vI t0] Q)) : Wp (d + 1) 239 31 [vR l0, vI l1, vI l2, vI l3] [vI t0] M K Q := by
  refine r_aload_n c239_31 rfl ?_
  refine r_iload_n c239_32 rfl ?_
  refine r_iload_n c239_33 rfl ?_
  obtain ⟨s1, h⟩ := h
  exact r_call c239_34 rfl rfl (Nat.le_of_ble_eq_true rfl) (okc_r rfl rfl s1) h
theorem t239_37 {d : Nat} {l0 : Nat} {l1 : Int} {l2 : Int} {l3 : Int} {t0 : Int} {t1 : Int} {M : Mem} {K : KK} {Q : RR → Mem → KK → Prop} (h : (t1 < t0 → Wp d 239 55 [vR l0, vI l1, vI l2, vI l3] [] M K Q) ∧ (¬ (t1 < t0) → Wp d 239 40 [vR l0, vI l1, vI l2, vI l3] [] M K Q)) : Wp d 239 37 [vR l0, vI l1, vI l2, vI l3] [vI t1, vI t0] M K Q := by
  refine r_icmpP (P := t1 < t0) c239_37 rfl (fun hc => ?_) (fun hc => ?_)
  · replace h := h.1 hc
    exact h
  · replace h := h.2 hc
    exact h
theorem t239_40 {d : Nat} {l0 : Nat} {l1 : Int} {l2 : Int} {l3 : Int} {M : Mem} {K : KK} {Q : RR → Mem → KK → Prop} (h : isO K.1 l0 12 = true ∧ Wm d 238 [vR l0, vI l1, vI l3] M K (Bk d 239 43 46 238 [vR l0, vI l1, vI l2, vI l3] [] Q)) : Wp (d + 1) 239 40 [vR l0, vI l1, vI l2, vI l3] [] M K Q := by
  refine r_aload_n c239_40 rfl ?_
  refine r_iload_n c239_41 rfl ?_
  refine r_iload_n c239_42 rfl ?_
  obtain ⟨s1, h⟩ := h
  exact r_call c239_43 rfl rfl (Nat.le_of_ble_eq_true rfl) (okc_r rfl rfl s1) h
theorem t239_46 {d : Nat} {l0 : Nat} {l1 : Int} {l2 : Int} {l3 : Int} {t0 : Int} {M : Mem} {K : KK} {Q : RR → Mem → KK → Prop} (h : isO K.1 l0 12 = true ∧ Wm d 238 [vR l0, vI l1, vI l2] M K (Bk d 239 49 52 238 [vR l0, vI l1, vI l2, vI l3] [vI t0] Q)) : Wp (d + 1) 239 46 [vR l0, vI l1, vI l2, vI l3] [vI t0] M K Q := by
  refine r_aload_n c239_46 rfl ?_
  refine r_iload_n c239_47 rfl ?_
  refine r_iload_n c239_48 rfl ?_
  obtain ⟨s1, h⟩ := h
  exact r_call c239_49 rfl rfl (Nat.le_of_ble_eq_true rfl) (okc_r rfl rfl s1) h
theorem t239_52 {d : Nat} {l0 : Nat} {l1 : Int} {l2 : Int} {l3 : Int} {t0 : Int} {t1 : Int} {M : Mem} {K : KK} {Q : RR → Mem → KK → Prop} (h : (t1 ≤ t0 → Wp d 239 2 [vR l0, vI l1, vI l2, vI (w32 (l3 + 1))] [] M K Q) ∧ (¬ (t1 ≤ t0) → Wp d 239 55 [vR l0, vI l1, vI l2, vI l3] [] M K Q)) : Wp d 239 52 [vR l0, vI l1, vI l2, vI l3] [vI t1, vI t0] M K Q := by
  refine r_icmpP (P := t1 ≤ t0) c239_52 rfl (fun hc => ?_) (fun hc => ?_)
  · replace h := h.1 hc
    refine r_iinc c239_57 rfl ?_
    refine r_goto c239_60 ?_
    exact h
  · replace h := h.2 hc
    exact h
theorem t239_55 {d : Nat} {l0 : Nat} {l1 : Int} {l2 : Int} {l3 : Int} {M : Mem} {K : KK} {Q : RR → Mem → KK → Prop} (h : Q (.inl (some (vI (0 : Int)))) M K) : Wp d 239 55 [vR l0, vI l1, vI l2, vI l3] [] M K Q := by
  refine r_iconst c239_55 ?_
  exact r_iret c239_56 (by decide) h
theorem t240_0 {d : Nat} {l0 : Nat} {l1 : Int} {M : Mem} {K : KK} {Q : RR → Mem → KK → Prop} (h : isO K.1 l0 12 = true ∧ Wm d 153 [vI l1, vI (0 : Int), vI (2 : Int)] (mset M l0 0 (0 : Int)) K (Bk d 240 9 12 153 [vR l0, vI l1, vU, vU, vU, vU, vU] [vR l0] Q)) : Wp (d + 1) 240 0 [vR l0, vI l1, vU, vU, vU, vU, vU] [] M K Q := by
  refine r_aload_n c240_0 rfl ?_
  refine r_iconst c240_1 ?_
  obtain ⟨s1, h⟩ := h
  refine r_putI c240_2 s1 ?_
  refine r_aload_n c240_5 rfl ?_
  refine r_iload_n c240_6 rfl ?_
  refine r_iconst c240_7 ?_
  refine r_iconst c240_8 ?_
  exact r_call c240_9 rfl rfl (Nat.le_of_ble_eq_true rfl) (okc_s rfl rfl rfl) h
theorem t240_12 {d : Nat} {l0 : Nat} {l1 : Int} {t0 : Nat} {t1 : Int} {M : Mem} {K : KK} {Q : RR → Mem → KK → Prop} (h : (¬ t1 = (0 : Int) → Wp d 240 20 [vR l0, vI l1, vU, vU, vU, vU, vU] [vI (0 : Int), vR t0] M K Q) ∧ (¬ (¬ t1 = (0 : Int)) → Wp d 240 20 [vR l0, vI l1, vU, vU, vU, vU, vU] [vI (1 : Int), vR t0] M K Q)) : Wp d 240 12 [vR l0, vI l1, vU, vU, vU, vU, vU] [vI t1, vR t0] M K Q := by
  refine r_ifP (P := ¬ t1 = (0 : Int)) c240_12 rfl (fun hc => ?_) (fun hc => ?_)
  · replace h := h.1 hc
    refine r_iconst c240_19 ?_
    exact h
  · replace h := h.2 hc
    refine r_iconst c240_15 ?_
    refine r_goto c240_16 ?_
    exact h
theorem t240_20 {d : Nat} {l0 : Nat} {l1 : Int} {t0 : Nat} {t1 : Int} {M : Mem} {K : KK} {Q : RR → Mem → KK → Prop} (h : isO K.1 t0 12 = true ∧ Wm d 152 [vR t0, vI t1, vI (1 : Int), vI (1 : Int)] M K (Bk d 240 22 25 152 [vR l0, vI l1, vU, vU, vU, vU, vU] [] Q)) : Wp (d + 1) 240 20 [vR l0, vI l1, vU, vU, vU, vU, vU] [vI t1, vR t0] M K Q := by
  refine r_iconst c240_20 ?_
  refine r_iconst c240_21 ?_
  obtain ⟨s1, h⟩ := h
  exact r_call c240_22 rfl rfl (Nat.le_of_ble_eq_true rfl) (okc_r rfl rfl s1) h
theorem t240_25 {d : Nat} {l0 : Nat} {l1 : Int} {t0 : Int} {M : Mem} {K : KK} {Q : RR → Mem → KK → Prop} (h : (t0 = (0 : Int) → Wp d 240 40 [vR l0, vI l1, vI (0 : Int), vI (-1 : Int), vI (0 : Int), vI (0 : Int), vU] [] M K Q) ∧ (¬ (t0 = (0 : Int)) → Q (.inl (some (vI (0 : Int)))) M K)) : Wp d 240 25 [vR l0, vI l1, vU, vU, vU, vU, vU] [vI t0] M K Q := by
  refine r_ifP (P := t0 = (0 : Int)) c240_25 rfl (fun hc => ?_) (fun hc => ?_)
  · replace h := h.1 hc
    refine r_iconst c240_30 ?_
    refine r_istore_n c240_31 (Nat.le_of_ble_eq_true rfl) ?_
    refine r_iconst c240_32 ?_
    refine r_istore_n c240_33 (Nat.le_of_ble_eq_true rfl) ?_
    refine r_iconst c240_34 ?_
    refine r_istore c240_35 (Nat.le_of_ble_eq_true rfl) ?_
    refine r_iconst c240_37 ?_
    refine r_istore c240_38 (Nat.le_of_ble_eq_true rfl) ?_
    exact h
  · replace h := h.2 hc
    refine r_iconst c240_28 ?_
    exact r_iret c240_29 (Or.inl rfl) h
theorem t240_40 {d : Nat} {l0 : Nat} {l1 : Int} {l2 : Int} {l3 : Int} {l4 : Int} {l5 : Int} {l6 : PV} {M : Mem} {K : KK} {Q : RR → Mem → KK → Prop} (h : isO K.1 l0 12 = true ∧ ∃ b2 : Nat, (M l0 12) = (b2 : Int) ∧ 0 < b2 ∧ isO K.1 b2 20 = true ∧ (0 ≤ (0 : Int) ∧ (0 : Int) < (ln b2 : Int)) ∧ ((M b2 (Int.toNat (0 : Int))) ≤ l5 → (¬ l1 = (0 : Int) → (¬ l1 = (1 : Int) → Wp d 240 163 [vR l0, vI l1, vI l2, vI l3, vI l4, vI l5, l6] [vI l4] M K Q) ∧ (¬ (¬ l1 = (1 : Int)) → Wp d 240 163 [vR l0, vI l1, vI l2, vI l3, vI l4, vI l5, l6] [vI l3] M K Q)) ∧ (¬ (¬ l1 = (0 : Int)) → Wp d 240 163 [vR l0, vI l1, vI l2, vI l3, vI l4, vI l5, l6] [vI l2] M K Q)) ∧ (¬ ((M b2 (Int.toNat (0 : Int))) ≤ l5) → Wp d 240 54 [vR l0, vI l1, vI l2, vI l3, vI l4, vI l5, vI (0 : Int)] [] M K Q)) : Wp d 240 40 [vR l0, vI l1, vI l2, vI l3, vI l4, vI l5, l6] [] M K Q := by
  refine r_iload c240_40 rfl ?_
  refine r_aload_n c240_42 rfl ?_
  obtain ⟨s1, h⟩ := h
  obtain ⟨b2, h⟩ := h
  obtain ⟨s3, h⟩ := h
  obtain ⟨s4, h⟩ := h
  refine r_getR c240_43 s1 s3 s4 ?_
  refine r_iconst c240_46 ?_
  obtain ⟨s5, h⟩ := h
  obtain ⟨s6, h⟩ := h
  refine r_ia c240_47 s5 s6 ?_
  refine r_icmpP (P := (M b2 (Int.toNat (0 : Int))) ≤ l5) c240_48 rfl (fun hc => ?_) (fun hc => ?_)
  · replace h := h.1 hc
    refine r_iload_n c240_144 rfl ?_
    refine r_ifP (P := ¬ l1 = (0 : Int)) c240_145 rfl (fun hc => ?_) (fun hc => ?_)
    · replace h := h.1 hc
      refine r_iload_n c240_152 rfl ?_
      refine r_iconst c240_153 ?_
      refine r_icmpP (P := ¬ l1 = (1 : Int)) c240_154 rfl (fun hc => ?_) (fun hc => ?_)
      · replace h := h.1 hc
        refine r_iload c240_161 rfl ?_
        exact h
      · replace h := h.2 hc
        refine r_iload_n c240_157 rfl ?_
        refine r_goto c240_158 ?_
        exact h
    · replace h := h.2 hc
      refine r_iload_n c240_148 rfl ?_
      refine r_goto c240_149 ?_
      exact h
  · replace h := h.2 hc
    refine r_iconst c240_51 ?_
    refine r_istore c240_52 (Nat.le_of_ble_eq_true rfl) ?_
    exact h
theorem t240_54 {d : Nat} {l0 : Nat} {l1 : Int} {l2 : Int} {l3 : Int} {l4 : Int} {l5 : Int} {l6 : Int} {M : Mem} {K : KK} {Q : RR → Mem → KK → Prop} (h : isO K.1 l0 12 = true ∧ ∃ b2 : Nat, (M l0 12) = (b2 : Int) ∧ 0 < b2 ∧ isO K.1 b2 20 = true ∧ (0 ≤ (0 : Int) ∧ (0 : Int) < (ln b2 : Int)) ∧ ((M b2 (Int.toNat (0 : Int))) ≤ l6 → Wp (d + 1) 240 138 [vR l0, vI l1, vI l2, vI l3, vI l4, vI l5, vI l6] [] M K Q) ∧ (¬ ((M b2 (Int.toNat (0 : Int))) ≤ l6) → isO K.1 l0 12 = true ∧ ∃ b8 : Nat, (M l0 31) = (b8 : Int) ∧ 0 < b8 ∧ isO K.1 l0 12 = true ∧ Wm d 196 [vR l0, vR b8, vI l5] M K (Bk d 240 72 75 196 [vR l0, vI l1, vI l2, vI l3, vI l4, vI l5, vI l6] [] Q))) : Wp (d + 1) 240 54 [vR l0, vI l1, vI l2, vI l3, vI l4, vI l5, vI l6] [] M K Q := by
  refine r_iload c240_54 rfl ?_
  refine r_aload_n c240_56 rfl ?_
  obtain ⟨s1, h⟩ := h
  obtain ⟨b2, h⟩ := h
  obtain ⟨s3, h⟩ := h
  obtain ⟨s4, h⟩ := h
  refine r_getR c240_57 s1 s3 s4 ?_
  refine r_iconst c240_60 ?_
  obtain ⟨s5, h⟩ := h
  obtain ⟨s6, h⟩ := h
  refine r_ia c240_61 s5 s6 ?_
  refine r_icmpP (P := (M b2 (Int.toNat (0 : Int))) ≤ l6) c240_62 rfl (fun hc => ?_) (fun hc => ?_)
  · replace h := h.1 hc
    exact h
  · replace h := h.2 hc
    refine r_aload_n c240_65 rfl ?_
    refine r_aload_n c240_66 rfl ?_
    obtain ⟨s7, h⟩ := h
    obtain ⟨b8, h⟩ := h
    obtain ⟨s9, h⟩ := h
    obtain ⟨s10, h⟩ := h
    refine r_getR c240_67 s7 s9 s10 ?_
    refine r_iload c240_70 rfl ?_
    obtain ⟨s11, h⟩ := h
    exact r_call c240_72 rfl rfl (Nat.le_of_ble_eq_true rfl) (okc_r rfl rfl s11) h
theorem t240_75 {d : Nat} {l0 : Nat} {l1 : Int} {l2 : Int} {l3 : Int} {l4 : Int} {l5 : Int} {l6 : Int} {t0 : Int} {M : Mem} {K : KK} {Q : RR → Mem → KK → Prop} (h : (t0 = (-1 : Int) → Wp (d + 1) 240 138 [vR l0, vI l1, vI l2, vI l3, vI l4, vI l5, vI l6] [] M K Q) ∧ (¬ (t0 = (-1 : Int)) → isO K.1 l0 12 = true ∧ Wm d 239 [vR l0, vI l5, vI l6] M K (Bk d 240 84 87 239 [vR l0, vI l1, vI l2, vI l3, vI l4, vI l5, vI l6] [] Q))) : Wp (d + 1) 240 75 [vR l0, vI l1, vI l2, vI l3, vI l4, vI l5, vI l6] [vI t0] M K Q := by
  refine r_iconst c240_75 ?_
  refine r_icmpP (P := t0 = (-1 : Int)) c240_76 rfl (fun hc => ?_) (fun hc => ?_)
  · replace h := h.1 hc
    exact h
  · replace h := h.2 hc
    refine r_aload_n c240_79 rfl ?_
    refine r_iload c240_80 rfl ?_
    refine r_iload c240_82 rfl ?_
    obtain ⟨s1, h⟩ := h
    exact r_call c240_84 rfl rfl (Nat.le_of_ble_eq_true rfl) (okc_r rfl rfl s1) h
theorem t240_87 {d : Nat} {l0 : Nat} {l1 : Int} {l2 : Int} {l3 : Int} {l4 : Int} {l5 : Int} {l6 : Int} {t0 : Int} {M : Mem} {K : KK} {Q : RR → Mem → KK → Prop} (h : (¬ t0 = (0 : Int) → (¬ l2 = (0 : Int) → Wp (d + 1) 240 110 [vR l0, vI l1, vI l2, vI l3, vI l4, vI l5, vI l6] [vI l4] M K Q) ∧ (¬ (¬ l2 = (0 : Int)) → isO K.1 l0 12 = true ∧ Wm d 238 [vR l0, vI l5, vI l6] M K (Bk d 240 102 105 238 [vR l0, vI l1, vI l2, vI l3, vI l4, vI l5, vI l6] [] Q))) ∧ (¬ (¬ t0 = (0 : Int)) → Wp (d + 1) 240 132 [vR l0, vI l1, vI l2, vI l3, vI l4, vI l5, vI l6] [] M K Q)) : Wp (d + 1) 240 87 [vR l0, vI l1, vI l2, vI l3, vI l4, vI l5, vI l6] [vI t0] M K Q := by
  refine r_ifP (P := ¬ t0 = (0 : Int)) c240_87 rfl (fun hc => ?_) (fun hc => ?_)
  · replace h := h.1 hc
    refine r_iload_n c240_93 rfl ?_
    refine r_ifP (P := ¬ l2 = (0 : Int)) c240_94 rfl (fun hc => ?_) (fun hc => ?_)
    · replace h := h.1 hc
      refine r_iload c240_108 rfl ?_
      exact h
    · replace h := h.2 hc
      refine r_aload_n c240_97 rfl ?_
      refine r_iload c240_98 rfl ?_
      refine r_iload c240_100 rfl ?_
      obtain ⟨s1, h⟩ := h
      exact r_call c240_102 rfl rfl (Nat.le_of_ble_eq_true rfl) (okc_r rfl rfl s1) h
  · replace h := h.2 hc
    refine r_goto c240_90 ?_
    exact h
theorem t240_105 {d : Nat} {l0 : Nat} {l1 : Int} {l2 : Int} {l3 : Int} {l4 : Int} {l5 : Int} {l6 : Int} {t0 : Int} {M : Mem} {K : KK} {Q : RR → Mem → KK → Prop} (h : Wp d 240 110 [vR l0, vI l1, vI l2, vI l3, vI l4, vI l5, vI l6] [vI t0] M K Q) : Wp d 240 105 [vR l0, vI l1, vI l2, vI l3, vI l4, vI l5, vI l6] [vI t0] M K Q := by
  refine r_goto c240_105 ?_
  exact h
theorem t240_110 {d : Nat} {l0 : Nat} {l1 : Int} {l2 : Int} {l3 : Int} {l4 : Int} {l5 : Int} {l6 : Int} {t0 : Int} {M : Mem} {K : KK} {Q : RR → Mem → KK → Prop} (h : (¬ l2 = (0 : Int) → Wp d 240 128 [vR l0, vI l1, vI l2, vI l3, vI t0, vI l5, vI l6] [vI l3] M K Q) ∧ (¬ (¬ l2 = (0 : Int)) → Wp d 240 128 [vR l0, vI l1, vI l2, vI l3, vI t0, vI l5, vI l6] [vI (w32 ((w32 ((100 : Int) * l5)) + l6))] M K Q)) : Wp d 240 110 [vR l0, vI l1, vI l2, vI l3, vI l4, vI l5, vI l6] [vI t0] M K Q := by
  refine r_istore c240_110 (Nat.le_of_ble_eq_true rfl) ?_
  refine r_iload_n c240_112 rfl ?_
  refine r_ifP (P := ¬ l2 = (0 : Int)) c240_113 rfl (fun hc => ?_) (fun hc => ?_)
  · replace h := h.1 hc
    refine r_iload_n c240_127 rfl ?_
    exact h
  · replace h := h.2 hc
    refine r_bipush c240_116 ?_
    refine r_iload c240_118 rfl ?_
    refine r_imul c240_120 ?_
    refine r_iload c240_121 rfl ?_
    refine r_iadd c240_123 ?_
    refine r_goto c240_124 ?_
    exact h
theorem t240_128 {d : Nat} {l0 : Nat} {l1 : Int} {l2 : Int} {l3 : Int} {l4 : Int} {l5 : Int} {l6 : Int} {t0 : Int} {M : Mem} {K : KK} {Q : RR → Mem → KK → Prop} (h : Wp d 240 132 [vR l0, vI l1, vI (w32 (l2 + 1)), vI t0, vI l4, vI l5, vI l6] [] M K Q) : Wp d 240 128 [vR l0, vI l1, vI l2, vI l3, vI l4, vI l5, vI l6] [vI t0] M K Q := by
  refine r_istore_n c240_128 (Nat.le_of_ble_eq_true rfl) ?_
  refine r_iinc c240_129 rfl ?_
  exact h
theorem t240_132 {d : Nat} {l0 : Nat} {l1 : Int} {l2 : Int} {l3 : Int} {l4 : Int} {l5 : Int} {l6 : Int} {M : Mem} {K : KK} {Q : RR → Mem → KK → Prop} (h : Wp d 240 54 [vR l0, vI l1, vI l2, vI l3, vI l4, vI l5, vI (w32 (l6 + 1))] [] M K Q) : Wp d 240 132 [vR l0, vI l1, vI l2, vI l3, vI l4, vI l5, vI l6] [] M K Q := by
  refine r_iinc c240_132 rfl ?_
  refine r_goto c240_135 ?_
  exact h
theorem t240_138 {d : Nat} {l0 : Nat} {l1 : Int} {l2 : Int} {l3 : Int} {l4 : Int} {l5 : Int} {l6 : Int} {M : Mem} {K : KK} {Q : RR → Mem → KK → Prop} (h : Wp d 240 40 [vR l0, vI l1, vI l2, vI l3, vI l4, vI (w32 (l5 + 1)), vI l6] [] M K Q) : Wp d 240 138 [vR l0, vI l1, vI l2, vI l3, vI l4, vI l5, vI l6] [] M K Q := by
  refine r_iinc c240_138 rfl ?_
  refine r_goto c240_141 ?_
  exact h
theorem t240_163 {d : Nat} {l0 : Nat} {l1 : Int} {l2 : Int} {l3 : Int} {l4 : Int} {l5 : Int} {l6 : PV} {t0 : Int} {M : Mem} {K : KK} {Q : RR → Mem → KK → Prop} (h : Q (.inl (some (vI t0))) M K) : Wp d 240 163 [vR l0, vI l1, vI l2, vI l3, vI l4, vI l5, l6] [vI t0] M K Q := by
  exact r_iret c240_163 (Or.inl rfl) h
theorem t241_0 {d : Nat} {l0 : Nat} {l1 : Int} {l2 : Int} {l3 : Int} {M : Mem} {K : KK} {Q : RR → Mem → KK → Prop} (h : isO K.1 l0 12 = true ∧ isO K.1 l0 12 = true ∧ Wm d 208 [vR l0, vI l1] (mset M l0 0 (0 : Int)) K (Bk d 241 8 11 208 [vR l0, vI l1, vI l2, vI l3, vU, vU, vU, vU, vU, vU] [vR l0] Q)) : Wp (d + 1) 241 0 [vR l0, vI l1, vI l2, vI l3, vU, vU, vU, vU, vU, vU] [] M K Q := by
  refine r_aload_n c241_0 rfl ?_
  refine r_iconst c241_1 ?_
  obtain ⟨s1, h⟩ := h
  refine r_putI c241_2 s1 ?_
  refine r_aload_n c241_5 rfl ?_
  refine r_aload_n c241_6 rfl ?_
  refine r_iload_n c241_7 rfl ?_
  obtain ⟨s2, h⟩ := h
  exact r_call c241_8 rfl rfl (Nat.le_of_ble_eq_true rfl) (okc_r rfl rfl s2) h
theorem t241_11 {d : Nat} {l0 : Nat} {l1 : Int} {l2 : Int} {l3 : Int} {t0 : Nat} {t1 : Int} {M : Mem} {K : KK} {Q : RR → Mem → KK → Prop} (h : (¬ t1 = (0 : Int) → Wp d 241 19 [vR l0, vI l1, vI l2, vI l3, vU, vU, vU, vU, vU, vU] [vI (0 : Int), vR t0] M K Q) ∧ (¬ (¬ t1 = (0 : Int)) → Wp d 241 19 [vR l0, vI l1, vI l2, vI l3, vU, vU, vU, vU, vU, vU] [vI (1 : Int), vR t0] M K Q)) : Wp d 241 11 [vR l0, vI l1, vI l2, vI l3, vU, vU, vU, vU, vU, vU] [vI t1, vR t0] M K Q := by
  refine r_ifP (P := ¬ t1 = (0 : Int)) c241_11 rfl (fun hc => ?_) (fun hc => ?_)
  · replace h := h.1 hc
    refine r_iconst c241_18 ?_
    exact h
  · replace h := h.2 hc
    refine r_iconst c241_14 ?_
    refine r_goto c241_15 ?_
    exact h
theorem t241_19 {d : Nat} {l0 : Nat} {l1 : Int} {l2 : Int} {l3 : Int} {t0 : Nat} {t1 : Int} {M : Mem} {K : KK} {Q : RR → Mem → KK → Prop} (h : isO K.1 t0 12 = true ∧ Wm d 152 [vR t0, vI t1, vI (1 : Int), vI (0 : Int)] M K (Bk d 241 21 24 152 [vR l0, vI l1, vI l2, vI l3, vU, vU, vU, vU, vU, vU] [] Q)) : Wp (d + 1) 241 19 [vR l0, vI l1, vI l2, vI l3, vU, vU, vU, vU, vU, vU] [vI t1, vR t0] M K Q := by
  refine r_iconst c241_19 ?_
  refine r_iconst c241_20 ?_
  obtain ⟨s1, h⟩ := h
  exact r_call c241_21 rfl rfl (Nat.le_of_ble_eq_true rfl) (okc_r rfl rfl s1) h
theorem t241_24 {d : Nat} {l0 : Nat} {l1 : Int} {l2 : Int} {l3 : Int} {t0 : Int} {M : Mem} {K : KK} {Q : RR → Mem → KK → Prop} (h : (¬ t0 = (0 : Int) → Wp (d + 1) 241 60 [vR l0, vI l1, vI l2, vI l3, vU, vU, vU, vU, vU, vU] [] M K Q) ∧ (¬ (¬ t0 = (0 : Int)) → isO K.1 l0 12 = true ∧ Wm d 209 [vR l0, vI l2] M K (Bk d 241 30 33 209 [vR l0, vI l1, vI l2, vI l3, vU, vU, vU, vU, vU, vU] [vR l0] Q))) : Wp (d + 1) 241 24 [vR l0, vI l1, vI l2, vI l3, vU, vU, vU, vU, vU, vU] [vI t0] M K Q := by
  refine r_ifP (P := ¬ t0 = (0 : Int)) c241_24 rfl (fun hc => ?_) (fun hc => ?_)
  · replace h := h.1 hc
    exact h
  · replace h := h.2 hc
    refine r_aload_n c241_27 rfl ?_
    refine r_aload_n c241_28 rfl ?_
    refine r_iload_n c241_29 rfl ?_
    obtain ⟨s1, h⟩ := h
    exact r_call c241_30 rfl rfl (Nat.le_of_ble_eq_true rfl) (okc_r rfl rfl s1) h
theorem t241_33 {d : Nat} {l0 : Nat} {l1 : Int} {l2 : Int} {l3 : Int} {t0 : Nat} {t1 : Int} {M : Mem} {K : KK} {Q : RR → Mem → KK → Prop} (h : (t1 = (0 : Int) → Wp (d + 1) 241 47 [vR l0, vI l1, vI l2, vI l3, vU, vU, vU, vU, vU, vU] [vR t0] M K Q) ∧ (¬ (t1 = (0 : Int)) → Wm d 153 [vI l3, vI (0 : Int), vI (999 : Int)] M K (Bk d 241 41 44 153 [vR l0, vI l1, vI l2, vI l3, vU, vU, vU, vU, vU, vU] [vR t0] Q))) : Wp (d + 1) 241 33 [vR l0, vI l1, vI l2, vI l3, vU, vU, vU, vU, vU, vU] [vI t1, vR t0] M K Q := by
  refine r_ifP (P := t1 = (0 : Int)) c241_33 rfl (fun hc => ?_) (fun hc => ?_)
  · replace h := h.1 hc
    exact h
  · replace h := h.2 hc
    refine r_iload_n c241_36 rfl ?_
    refine r_iconst c241_37 ?_
    refine r_sipush c241_38 ?_
    exact r_call c241_41 rfl rfl (Nat.le_of_ble_eq_true rfl) (okc_s rfl rfl rfl) h
theorem t241_44 {d : Nat} {l0 : Nat} {l1 : Int} {l2 : Int} {l3 : Int} {t0 : Nat} {t1 : Int} {M : Mem} {K : KK} {Q : RR → Mem → KK → Prop} (h : (¬ t1 = (0 : Int) → Wp d 241 52 [vR l0, vI l1, vI l2, vI l3, vU, vU, vU, vU, vU, vU] [vI (0 : Int), vR t0] M K Q) ∧ (¬ (¬ t1 = (0 : Int)) → Wp d 241 47 [vR l0, vI l1, vI l2, vI l3, vU, vU, vU, vU, vU, vU] [vR t0] M K Q)) : Wp d 241 44 [vR l0, vI l1, vI l2, vI l3, vU, vU, vU, vU, vU, vU] [vI t1, vR t0] M K Q := by
  refine r_ifP (P := ¬ t1 = (0 : Int)) c241_44 rfl (fun hc => ?_) (fun hc => ?_)
  · replace h := h.1 hc
    refine r_iconst c241_51 ?_
    exact h
  · replace h := h.2 hc
    exact h
theorem t241_47 {d : Nat} {l0 : Nat} {l1 : Int} {l2 : Int} {l3 : Int} {t0 : Nat} {M : Mem} {K : KK} {Q : RR → Mem → KK → Prop} (h : Wp d 241 52 [vR l0, vI l1, vI l2, vI l3, vU, vU, vU, vU, vU, vU] [vI (1 : Int), vR t0] M K Q) : Wp d 241 47 [vR l0, vI l1, vI l2, vI l3, vU, vU, vU, vU, vU, vU] [vR t0] M K Q := by
  refine r_iconst c241_47 ?_
  refine r_goto c241_48 ?_
  exact h
theorem t241_52 {d : Nat} {l0 : Nat} {l1 : Int} {l2 : Int} {l3 : Int} {t0 : Nat} {t1 : Int} {M : Mem} {K : KK} {Q : RR → Mem → KK → Prop} (h : isO K.1 t0 12 = true ∧ Wm d 152 [vR t0, vI t1, vI (2 : Int), vI (1 : Int)] M K (Bk d 241 54 57 152 [vR l0, vI l1, vI l2, vI l3, vU, vU, vU, vU, vU, vU] [] Q)) : Wp (d + 1) 241 52 [vR l0, vI l1, vI l2, vI l3, vU, vU, vU, vU, vU, vU] [vI t1, vR t0] M K Q := by
  refine r_iconst c241_52 ?_
  refine r_iconst c241_53 ?_
  obtain ⟨s1, h⟩ := h
  exact r_call c241_54 rfl rfl (Nat.le_of_ble_eq_true rfl) (okc_r rfl rfl s1) h
theorem t241_57 {d : Nat} {l0 : Nat} {l1 : Int} {l2 : Int} {l3 : Int} {t0 : Int} {M : Mem} {K : KK} {Q : RR → Mem → KK → Prop} (h : (t0 = (0 : Int) → Wm d 156 [vI l2, vI l1] M K (Bk d 241 64 67 156 [vR l0, vI l1, vI l2, vI l3, vU, vU, vU, vU, vU, vU] [] Q)) ∧ (¬ (t0 = (0 : Int)) → Wp (d + 1) 241 60 [vR l0, vI l1, vI l2, vI l3, vU, vU, vU, vU, vU, vU] [] M K Q)) : Wp (d + 1) 241 57 [vR l0, vI l1, vI l2, vI l3, vU, vU, vU, vU, vU, vU] [vI t0] M K Q := by
  refine r_ifP (P := t0 = (0 : Int)) c241_57 rfl (fun hc => ?_) (fun hc => ?_)
  · replace h := h.1 hc
    refine r_iload_n c241_62 rfl ?_
    refine r_iload_n c241_63 rfl ?_
    exact r_call c241_64 rfl rfl (Nat.le_of_ble_eq_true rfl) (okc_s rfl rfl rfl) h
  · replace h := h.2 hc
    exact h
theorem t241_60 {d : Nat} {l0 : Nat} {l1 : Int} {l2 : Int} {l3 : Int} {M : Mem} {K : KK} {Q : RR → Mem → KK → Prop} (h : Q (.inl (some (vI (0 : Int)))) M K) : Wp d 241 60 [vR l0, vI l1, vI l2, vI l3, vU, vU, vU, vU, vU, vU] [] M K Q := by
  refine r_iconst c241_60 ?_
  exact r_iret c241_61 (Or.inl rfl) h
theorem t241_67 {d : Nat} {l0 : Nat} {l1 : Int} {l2 : Int} {l3 : Int} {t0 : Int} {M : Mem} {K : KK} {Q : RR → Mem → KK → Prop} (h : (¬ t0 = (0 : Int) → Wp d 241 84 [vR l0, vI l1, vI l2, vI l3, vI (0 : Int), vI l3, vI (0 : Int), vI (0 : Int), vU, vU] [] M K Q) ∧ (¬ (¬ t0 = (0 : Int)) → Q (.inl (some (vI (0 : Int)))) M K)) : Wp d 241 67 [vR l0, vI l1, vI l2, vI l3, vU, vU, vU, vU, vU, vU] [vI t0] M K Q := by
  refine r_ifP (P := ¬ t0 = (0 : Int)) c241_67 rfl (fun hc => ?_) (fun hc => ?_)
  · replace h := h.1 hc
    refine r_iconst c241_72 ?_
    refine r_istore c241_73 (Nat.le_of_ble_eq_true rfl) ?_
    refine r_iload_n c241_75 rfl ?_
    refine r_istore c241_76 (Nat.le_of_ble_eq_true rfl) ?_
    refine r_iconst c241_78 ?_
    refine r_istore c241_79 (Nat.le_of_ble_eq_true rfl) ?_
    refine r_iconst c241_81 ?_
    refine r_istore c241_82 (Nat.le_of_ble_eq_true rfl) ?_
    exact h
  · replace h := h.2 hc
    refine r_iconst c241_70 ?_
    exact r_iret c241_71 (Or.inl rfl) h
theorem t241_84 {d : Nat} {l0 : Nat} {l1 : Int} {l2 : Int} {l3 : Int} {l4 : Int} {l5 : Int} {l6 : Int} {l7 : Int} {M : Mem} {K : KK} {Q : RR → Mem → KK → Prop} (h : isO K.1 l0 12 = true ∧ ∃ b2 : Nat, (M l0 12) = (b2 : Int) ∧ 0 < b2 ∧ isO K.1 b2 20 = true ∧ (0 ≤ (1 : Int) ∧ (1 : Int) < (ln b2 : Int)) ∧ ((M b2 (Int.toNat (1 : Int))) ≤ l7 → Wp (d + 1) 241 131 [vR l0, vI l1, vI l2, vI l3, vI l4, vI l5, vI l6, vI (0 : Int), vU, vU] [] M K Q) ∧ (¬ ((M b2 (Int.toNat (1 : Int))) ≤ l7) → Wm d 156 [vI l2, vI l7] M K (Bk d 241 100 103 156 [vR l0, vI l1, vI l2, vI l3, vI l4, vI l5, vI l6, vI l7, vU, vU] [vI l4] Q))) : Wp (d + 1) 241 84 [vR l0, vI l1, vI l2, vI l3, vI l4, vI l5, vI l6, vI l7, vU, vU] [] M K Q := by
  refine r_iload c241_84 rfl ?_
  refine r_aload_n c241_86 rfl ?_
  obtain ⟨s1, h⟩ := h
  obtain ⟨b2, h⟩ := h
  obtain ⟨s3, h⟩ := h
  obtain ⟨s4, h⟩ := h
  refine r_getR c241_87 s1 s3 s4 ?_
  refine r_iconst c241_90 ?_
  obtain ⟨s5, h⟩ := h
  obtain ⟨s6, h⟩ := h
  refine r_ia c241_91 s5 s6 ?_
  refine r_icmpP (P := (M b2 (Int.toNat (1 : Int))) ≤ l7) c241_92 rfl (fun hc => ?_) (fun hc => ?_)
  · replace h := h.1 hc
    refine r_iconst c241_128 ?_
    refine r_istore c241_129 (Nat.le_of_ble_eq_true rfl) ?_
    exact h
  · replace h := h.2 hc
    refine r_iload c241_95 rfl ?_
    refine r_iload_n c241_97 rfl ?_
    refine r_iload c241_98 rfl ?_
    exact r_call c241_100 rfl rfl (Nat.le_of_ble_eq_true rfl) (okc_s rfl rfl rfl) h
theorem t241_103 {d : Nat} {l0 : Nat} {l1 : Int} {l2 : Int} {l3 : Int} {l4 : Int} {l5 : Int} {l6 : Int} {l7 : Int} {t0 : Int} {t1 : Int} {M : Mem} {K : KK} {Q : RR → Mem → KK → Prop} (h : (t1 = (0 : Int) → Wp d 241 119 [vR l0, vI l1, vI l2, vI l3, vI l4, vI l5, vI l6, vI l7, vU, vU] [vI (0 : Int), vI t0] M K Q) ∧ (¬ (t1 = (0 : Int)) → isO K.1 l0 12 = true ∧ ∃ b2 : Nat, (M l0 20) = (b2 : Int) ∧ 0 < b2 ∧ (Nat.ble 30 (tg b2) = true ∧ isO K.1 b2 (tg b2) = true) ∧ (0 ≤ l7 ∧ l7 < (ln b2 : Int)) ∧ ∃ b7 : Nat, (M b2 (Int.toNat l7)) = (b7 : Int) ∧ 0 < b7 ∧ isO K.1 b7 20 = true ∧ (0 ≤ (0 : Int) ∧ (0 : Int) < (ln b7 : Int)) ∧ Wp d 241 119 [vR l0, vI l1, vI l2, vI l3, vI l4, vI l5, vI l6, vI l7, vU, vU] [vI (M b7 (Int.toNat (0 : Int))), vI t0] M K Q)) : Wp d 241 103 [vR l0, vI l1, vI l2, vI l3, vI l4, vI l5, vI l6, vI l7, vU, vU] [vI t1, vI t0] M K Q := by
  refine r_ifP (P := t1 = (0 : Int)) c241_103 rfl (fun hc => ?_) (fun hc => ?_)
  · replace h := h.1 hc
    refine r_iconst c241_118 ?_
    exact h
  · replace h := h.2 hc
    refine r_aload_n c241_106 rfl ?_
    obtain ⟨s1, h⟩ := h
    obtain ⟨b2, h⟩ := h
    obtain ⟨s3, h⟩ := h
    obtain ⟨s4, h⟩ := h
    refine r_getR c241_107 s1 s3 s4 ?_
    refine r_iload c241_110 rfl ?_
    obtain ⟨s5, h⟩ := h
    obtain ⟨s6, h⟩ := h
    obtain ⟨b7, h⟩ := h
    obtain ⟨s8, h⟩ := h
    obtain ⟨s9, h⟩ := h
    refine r_aa c241_112 s5 s6 s8 s9 ?_
    refine r_iconst c241_113 ?_
    obtain ⟨s10, h⟩ := h
    obtain ⟨s11, h⟩ := h
    refine r_ia c241_114 s10 s11 ?_
    refine r_goto c241_115 ?_
    exact h
theorem t241_119 {d : Nat} {l0 : Nat} {l1 : Int} {l2 : Int} {l3 : Int} {l4 : Int} {l5 : Int} {l6 : Int} {l7 : Int} {t0 : Int} {t1 : Int} {M : Mem} {K : KK} {Q : RR → Mem → KK → Prop} (h : Wp d 241 84 [vR l0, vI l1, vI l2, vI l3, vI (w32 (t0 + t1)), vI l5, vI l6, vI (w32 (l7 + 1)), vU, vU] [] M K Q) : Wp d 241 119 [vR l0, vI l1, vI l2, vI l3, vI l4, vI l5, vI l6, vI l7, vU, vU] [vI t1, vI t0] M K Q := by
  refine r_iadd c241_119 ?_
  refine r_istore c241_120 (Nat.le_of_ble_eq_true rfl) ?_
  refine r_iinc c241_122 rfl ?_
  refine r_goto c241_125 ?_
  exact h
theorem t241_131 {d : Nat} {l0 : Nat} {l1 : Int} {l2 : Int} {l3 : Int} {l4 : Int} {l5 : Int} {l6 : Int} {l7 : Int} {l8 : PV} {l9 : PV} {M : Mem} {K : KK} {Q : RR → Mem → KK → Prop} (h : isO K.1 l0 12 = true ∧ ∃ b2 : Nat, (M l0 12) = (b2 : Int) ∧ 0 < b2 ∧ isO K.1 b2 20 = true ∧ (0 ≤ (1 : Int) ∧ (1 : Int) < (ln b2 : Int)) ∧ ((M b2 (Int.toNat (1 : Int))) ≤ l7 → isO K.1 l0 12 = true ∧ ∃ b8 : Nat, (M l0 20) = (b8 : Int) ∧ 0 < b8 ∧ (Nat.ble 30 (tg b8) = true ∧ isO K.1 b8 (tg b8) = true) ∧ (0 ≤ l1 ∧ l1 < (ln b8 : Int)) ∧ ∃ b13 : Nat, (M b8 (Int.toNat l1)) = (b13 : Int) ∧ 0 < b13 ∧ isO K.1 b13 20 = true ∧ (0 ≤ (0 : Int) ∧ (0 : Int) < (ln b13 : Int)) ∧ l4 ≠ 0 ∧ (l5 ≤ l6 → Wp (d + 1) 241 265 [vR l0, vI l1, vI l2, vI l3, vI l4, vI l5, vI l6, vI l7, l8, l9] [vI (0 : Int), vI (w32 (Int.tdiv (w32 (l3 * (M b13 (Int.toNat (0 : Int))))) l4))] M K Q) ∧ (¬ (l5 ≤ l6) → Wp (d + 1) 241 265 [vR l0, vI l1, vI l2, vI l3, vI l4, vI l5, vI l6, vI l7, l8, l9] [vI (1 : Int), vI (w32 (Int.tdiv (w32 (l3 * (M b13 (Int.toNat (0 : Int))))) l4))] M K Q)) ∧ (¬ ((M b2 (Int.toNat (1 : Int))) ≤ l7) → Wm d 156 [vI l2, vI l7] M K (Bk d 241 145 148 156 [vR l0, vI l1, vI l2, vI l3, vI l4, vI l5, vI l6, vI l7, l8, l9] [] Q))) : Wp (d + 1) 241 131 [vR l0, vI l1, vI l2, vI l3, vI l4, vI l5, vI l6, vI l7, l8, l9] [] M K Q := by
  refine r_iload c241_131 rfl ?_
  refine r_aload_n c241_133 rfl ?_
  obtain ⟨s1, h⟩ := h
  obtain ⟨b2, h⟩ := h
  obtain ⟨s3, h⟩ := h
  obtain ⟨s4, h⟩ := h
  refine r_getR c241_134 s1 s3 s4 ?_
  refine r_iconst c241_137 ?_
  obtain ⟨s5, h⟩ := h
  obtain ⟨s6, h⟩ := h
  refine r_ia c241_138 s5 s6 ?_
  refine r_icmpP (P := (M b2 (Int.toNat (1 : Int))) ≤ l7) c241_139 rfl (fun hc => ?_) (fun hc => ?_)
  · replace h := h.1 hc
    refine r_iload_n c241_240 rfl ?_
    refine r_aload_n c241_241 rfl ?_
    obtain ⟨s7, h⟩ := h
    obtain ⟨b8, h⟩ := h
    obtain ⟨s9, h⟩ := h
    obtain ⟨s10, h⟩ := h
    refine r_getR c241_242 s7 s9 s10 ?_
    refine r_iload_n c241_245 rfl ?_
    obtain ⟨s11, h⟩ := h
    obtain ⟨s12, h⟩ := h
    obtain ⟨b13, h⟩ := h
    obtain ⟨s14, h⟩ := h
    obtain ⟨s15, h⟩ := h
    refine r_aa c241_246 s11 s12 s14 s15 ?_
    refine r_iconst c241_247 ?_
    obtain ⟨s16, h⟩ := h
    obtain ⟨s17, h⟩ := h
    refine r_ia c241_248 s16 s17 ?_
    refine r_imul c241_249 ?_
    refine r_iload c241_250 rfl ?_
    obtain ⟨s18, h⟩ := h
    refine r_idiv c241_252 s18 ?_
    refine r_iload c241_253 rfl ?_
    refine r_iload c241_255 rfl ?_
    refine r_icmpP (P := l5 ≤ l6) c241_257 rfl (fun hc => ?_) (fun hc => ?_)
    · replace h := h.1 hc
      refine r_iconst c241_264 ?_
      exact h
    · replace h := h.2 hc
      refine r_iconst c241_260 ?_
      refine r_goto c241_261 ?_
      exact h
  · replace h := h.2 hc
    refine r_iload_n c241_142 rfl ?_
    refine r_iload c241_143 rfl ?_
    exact r_call c241_145 rfl rfl (Nat.le_of_ble_eq_true rfl) (okc_s rfl rfl rfl) h
theorem t241_148 {d : Nat} {l0 : Nat} {l1 : Int} {l2 : Int} {l3 : Int} {l4 : Int} {l5 : Int} {l6 : Int} {l7 : Int} {l8 : PV} {l9 : PV} {t0 : Int} {M : Mem} {K : KK} {Q : RR → Mem → KK → Prop} (h : (¬ t0 = (0 : Int) → isO K.1 l0 12 = true ∧ ∃ b2 : Nat, (M l0 20) = (b2 : Int) ∧ 0 < b2 ∧ (Nat.ble 30 (tg b2) = true ∧ isO K.1 b2 (tg b2) = true) ∧ (0 ≤ l1 ∧ l1 < (ln b2 : Int)) ∧ ∃ b7 : Nat, (M b2 (Int.toNat l1)) = (b7 : Int) ∧ 0 < b7 ∧ isO K.1 b7 20 = true ∧ (0 ≤ (0 : Int) ∧ (0 : Int) < (ln b7 : Int)) ∧ l4 ≠ 0 ∧ isO K.1 l0 12 = true ∧ ∃ b14 : Nat, (M l0 20) = (b14 : Int) ∧ 0 < b14 ∧ (Nat.ble 30 (tg b14) = true ∧ isO K.1 b14 (tg b14) = true) ∧ (0 ≤ l7 ∧ l7 < (ln b14 : Int)) ∧ ∃ b19 : Nat, (M b14 (Int.toNat l7)) = (b19 : Int) ∧ 0 < b19 ∧ isO K.1 b19 20 = true ∧ (0 ≤ (0 : Int) ∧ (0 : Int) < (ln b19 : Int)) ∧ l4 ≠ 0 ∧ isO K.1 l0 12 = true ∧ ∃ b26 : Nat, (M l0 20) = (b26 : Int) ∧ 0 < b26 ∧ (Nat.ble 30 (tg b26) = true ∧ isO K.1 b26 (tg b26) = true) ∧ (0 ≤ l7 ∧ l7 < (ln b26 : Int)) ∧ ∃ b31 : Nat, (M b26 (Int.toNat l7)) = (b31 : Int) ∧ 0 < b31 ∧ isO K.1 b31 20 = true ∧ (0 ≤ (0 : Int) ∧ (0 : Int) < (ln b31 : Int)) ∧ l4 ≠ 0 ∧ ((Int.tmod (w32 (l3 * (M b7 (Int.toNat (0 : Int))))) l4) < (Int.tmod (w32 (l3 * (M b19 (Int.toNat (0 : Int))))) l4) → Wp d 241 226 [vR l0, vI l1, vI l2, vI l3, vI l4, vI (w32 (l5 - (w32 (Int.tdiv (w32 (l3 * (M b31 (Int.toNat (0 : Int))))) l4)))), vI l6, vI l7, vI (Int.tmod (w32 (l3 * (M b7 (Int.toNat (0 : Int))))) l4), vI (Int.tmod (w32 (l3 * (M b19 (Int.toNat (0 : Int))))) l4)] [vI l6] M K Q) ∧ (¬ ((Int.tmod (w32 (l3 * (M b7 (Int.toNat (0 : Int))))) l4) < (Int.tmod (w32 (l3 * (M b19 (Int.toNat (0 : Int))))) l4)) → (¬ (Int.tmod (w32 (l3 * (M b19 (Int.toNat (0 : Int))))) l4) = (Int.tmod (w32 (l3 * (M b7 (Int.toNat (0 : Int))))) l4) → Wp d 241 230 [vR l0, vI l1, vI l2, vI l3, vI l4, vI (w32 (l5 - (w32 (Int.tdiv (w32 (l3 * (M b31 (Int.toNat (0 : Int))))) l4)))), vI l6, vI l7, vI (Int.tmod (w32 (l3 * (M b7 (Int.toNat (0 : Int))))) l4), vI (Int.tmod (w32 (l3 * (M b19 (Int.toNat (0 : Int))))) l4)] [vI l6] M K Q) ∧ (¬ (¬ (Int.tmod (w32 (l3 * (M b19 (Int.toNat (0 : Int))))) l4) = (Int.tmod (w32 (l3 * (M b7 (Int.toNat (0 : Int))))) l4)) → (l1 ≤ l7 → Wp d 241 230 [vR l0, vI l1, vI l2, vI l3, vI l4, vI (w32 (l5 - (w32 (Int.tdiv (w32 (l3 * (M b31 (Int.toNat (0 : Int))))) l4)))), vI l6, vI l7, vI (Int.tmod (w32 (l3 * (M b7 (Int.toNat (0 : Int))))) l4), vI (Int.tmod (w32 (l3 * (M b19 (Int.toNat (0 : Int))))) l4)] [vI l6] M K Q) ∧ (¬ (l1 ≤ l7) → Wp d 241 226 [vR l0, vI l1, vI l2, vI l3, vI l4, vI (w32 (l5 - (w32 (Int.tdiv (w32 (l3 * (M b31 (Int.toNat (0 : Int))))) l4)))), vI l6, vI l7, vI (Int.tmod (w32 (l3 * (M b7 (Int.toNat (0 : Int))))) l4), vI (Int.tmod (w32 (l3 * (M b19 (Int.toNat (0 : Int))))) l4)] [vI l6] M K Q)))) ∧ (¬ (¬ t0 = (0 : Int)) → Wp d 241 234 [vR l0, vI l1, vI l2, vI l3, vI l4, vI l5, vI l6, vI l7, l8, l9] [] M K Q)) : Wp d 241 148 [vR l0, vI l1, vI l2, vI l3, vI l4, vI l5, vI l6, vI l7, l8, l9] [vI t0] M K Q := by
  refine r_ifP (P := ¬ t0 = (0 : Int)) c241_148 rfl (fun hc => ?_) (fun hc => ?_)
  · replace h := h.1 hc
    refine r_iload_n c241_154 rfl ?_
    refine r_aload_n c241_155 rfl ?_
    obtain ⟨s1, h⟩ := h
    obtain ⟨b2, h⟩ := h
    obtain ⟨s3, h⟩ := h
    obtain ⟨s4, h⟩ := h
    refine r_getR c241_156 s1 s3 s4 ?_
    refine r_iload_n c241_159 rfl ?_
    obtain ⟨s5, h⟩ := h
    obtain ⟨s6, h⟩ := h
    obtain ⟨b7, h⟩ := h
    obtain ⟨s8, h⟩ := h
    obtain ⟨s9, h⟩ := h
    refine r_aa c241_160 s5 s6 s8 s9 ?_
    refine r_iconst c241_161 ?_
    obtain ⟨s10, h⟩ := h
    obtain ⟨s11, h⟩ := h
    refine r_ia c241_162 s10 s11 ?_
    refine r_imul c241_163 ?_
    refine r_iload c241_164 rfl ?_
    obtain ⟨s12, h⟩ := h
    refine r_irem c241_166 s12 ?_
    refine r_istore c241_167 (Nat.le_of_ble_eq_true rfl) ?_
    refine r_iload_n c241_169 rfl ?_
    refine r_aload_n c241_170 rfl ?_
    obtain ⟨s13, h⟩ := h
    obtain ⟨b14, h⟩ := h
    obtain ⟨s15, h⟩ := h
    obtain ⟨s16, h⟩ := h
    refine r_getR c241_171 s13 s15 s16 ?_
    refine r_iload c241_174 rfl ?_
    obtain ⟨s17, h⟩ := h
    obtain ⟨s18, h⟩ := h
    obtain ⟨b19, h⟩ := h
    obtain ⟨s20, h⟩ := h
    obtain ⟨s21, h⟩ := h
    refine r_aa c241_176 s17 s18 s20 s21 ?_
    refine r_iconst c241_177 ?_
    obtain ⟨s22, h⟩ := h
    obtain ⟨s23, h⟩ := h
    refine r_ia c241_178 s22 s23 ?_
    refine r_imul c241_179 ?_
    refine r_iload c241_180 rfl ?_
    obtain ⟨s24, h⟩ := h
    refine r_irem c241_182 s24 ?_
    refine r_istore c241_183 (Nat.le_of_ble_eq_true rfl) ?_
    refine r_iload c241_185 rfl ?_
    refine r_iload_n c241_187 rfl ?_
    refine r_aload_n c241_188 rfl ?_
    obtain ⟨s25, h⟩ := h
    obtain ⟨b26, h⟩ := h
    obtain ⟨s27, h⟩ := h
    obtain ⟨s28, h⟩ := h
    refine r_getR c241_189 s25 s27 s28 ?_
    refine r_iload c241_192 rfl ?_
    obtain ⟨s29, h⟩ := h
    obtain ⟨s30, h⟩ := h
    obtain ⟨b31, h⟩ := h
    obtain ⟨s32, h⟩ := h
    obtain ⟨s33, h⟩ := h
    refine r_aa c241_194 s29 s30 s32 s33 ?_
    refine r_iconst c241_195 ?_
    obtain ⟨s34, h⟩ := h
    obtain ⟨s35, h⟩ := h
    refine r_ia c241_196 s34 s35 ?_
    refine r_imul c241_197 ?_
    refine r_iload c241_198 rfl ?_
    obtain ⟨s36, h⟩ := h
    refine r_idiv c241_200 s36 ?_
    refine r_isub c241_201 ?_
    refine r_istore c241_202 (Nat.le_of_ble_eq_true rfl) ?_
    refine r_iload c241_204 rfl ?_
    refine r_iload c241_206 rfl ?_
    refine r_iload c241_208 rfl ?_
    refine r_icmpP (P := (Int.tmod (w32 (l3 * (M b7 (Int.toNat (0 : Int))))) l4) < (Int.tmod (w32 (l3 * (M b19 (Int.toNat (0 : Int))))) l4)) c241_210 rfl (fun hc => ?_) (fun hc => ?_)
    · replace h := h.1 hc
      exact h
    · replace h := h.2 hc
      refine r_iload c241_213 rfl ?_
      refine r_iload c241_215 rfl ?_
      refine r_icmpP (P := ¬ (Int.tmod (w32 (l3 * (M b19 (Int.toNat (0 : Int))))) l4) = (Int.tmod (w32 (l3 * (M b7 (Int.toNat (0 : Int))))) l4)) c241_217 rfl (fun hc => ?_) (fun hc => ?_)
      · replace h := h.1 hc
        exact h
      · replace h := h.2 hc
        refine r_iload c241_220 rfl ?_
        refine r_iload_n c241_222 rfl ?_
        refine r_icmpP (P := l1 ≤ l7) c241_223 rfl (fun hc => ?_) (fun hc => ?_)
        · replace h := h.1 hc
          exact h
        · replace h := h.2 hc
          exact h
  · replace h := h.2 hc
    refine r_goto c241_151 ?_
    exact h
theorem t241_226 {d : Nat} {l0 : Nat} {l1 : Int} {l2 : Int} {l3 : Int} {l4 : Int} {l5 : Int} {l6 : Int} {l7 : Int} {l8 : Int} {l9 : Int} {t0 : Int} {M : Mem} {K : KK} {Q : RR → Mem → KK → Prop} (h : Wp d 241 231 [vR l0, vI l1, vI l2, vI l3, vI l4, vI l5, vI l6, vI l7, vI l8, vI l9] [vI (1 : Int), vI t0] M K Q) : Wp d 241 226 [vR l0, vI l1, vI l2, vI l3, vI l4, vI l5, vI l6, vI l7, vI l8, vI l9] [vI t0] M K Q := by
  refine r_iconst c241_226 ?_
  refine r_goto c241_227 ?_
  exact h
theorem t241_230 {d : Nat} {l0 : Nat} {l1 : Int} {l2 : Int} {l3 : Int} {l4 : Int} {l5 : Int} {l6 : Int} {l7 : Int} {l8 : Int} {l9 : Int} {t0 : Int} {M : Mem} {K : KK} {Q : RR → Mem → KK → Prop} (h : Wp d 241 231 [vR l0, vI l1, vI l2, vI l3, vI l4, vI l5, vI l6, vI l7, vI l8, vI l9] [vI (0 : Int), vI t0] M K Q) : Wp d 241 230 [vR l0, vI l1, vI l2, vI l3, vI l4, vI l5, vI l6, vI l7, vI l8, vI l9] [vI t0] M K Q := by
  refine r_iconst c241_230 ?_
  exact h
theorem t241_231 {d : Nat} {l0 : Nat} {l1 : Int} {l2 : Int} {l3 : Int} {l4 : Int} {l5 : Int} {l6 : Int} {l7 : Int} {l8 : Int} {l9 : Int} {t0 : Int} {t1 : Int} {M : Mem} {K : KK} {Q : RR → Mem → KK → Prop} (h : Wp d 241 234 [vR l0, vI l1, vI l2, vI l3, vI l4, vI l5, vI (w32 (t0 + t1)), vI l7, vI l8, vI l9] [] M K Q) : Wp d 241 231 [vR l0, vI l1, vI l2, vI l3, vI l4, vI l5, vI l6, vI l7, vI l8, vI l9] [vI t1, vI t0] M K Q := by
  refine r_iadd c241_231 ?_
  refine r_istore c241_232 (Nat.le_of_ble_eq_true rfl) ?_
  exact h
theorem t241_234 {d : Nat} {l0 : Nat} {l1 : Int} {l2 : Int} {l3 : Int} {l4 : Int} {l5 : Int} {l6 : Int} {l7 : Int} {l8 : PV} {l9 : PV} {M : Mem} {K : KK} {Q : RR → Mem → KK → Prop} (h : Wp d 241 131 [vR l0, vI l1, vI l2, vI l3, vI l4, vI l5, vI l6, vI (w32 (l7 + 1)), l8, l9] [] M K Q) : Wp d 241 234 [vR l0, vI l1, vI l2, vI l3, vI l4, vI l5, vI l6, vI l7, l8, l9] [] M K Q := by
  refine r_iinc c241_234 rfl ?_
  refine r_goto c241_237 ?_
  exact h
theorem t241_265 {d : Nat} {l0 : Nat} {l1 : Int} {l2 : Int} {l3 : Int} {l4 : Int} {l5 : Int} {l6 : Int} {l7 : Int} {l8 : PV} {l9 : PV} {t0 : Int} {t1 : Int} {M : Mem} {K : KK} {Q : RR → Mem → KK → Prop} (h : Q (.inl (some (vI (w32 (t0 + t1))))) M K) : Wp d 241 265 [vR l0, vI l1, vI l2, vI l3, vI l4, vI l5, vI l6, vI l7, l8, l9] [vI t1, vI t0] M K Q := by
  refine r_iadd c241_265 ?_
  exact r_iret c241_266 (Or.inl rfl) h
theorem t242_0 {d : Nat} {l0 : Nat} {l1 : Int} {M : Mem} {K : KK} {Q : RR → Mem → KK → Prop} (h : isO K.1 l0 12 = true ∧ Wm d 153 [vI l1, vI (0 : Int), vI (1 : Int)] (mset M l0 0 (0 : Int)) K (Bk d 242 9 12 153 [vR l0, vI l1, vU, vU, vU, vU] [vR l0] Q)) : Wp (d + 1) 242 0 [vR l0, vI l1, vU, vU, vU, vU] [] M K Q := by
  refine r_aload_n c242_0 rfl ?_
  refine r_iconst c242_1 ?_
  obtain ⟨s1, h⟩ := h
  refine r_putI c242_2 s1 ?_
  refine r_aload_n c242_5 rfl ?_
  refine r_iload_n c242_6 rfl ?_
  refine r_iconst c242_7 ?_
  refine r_iconst c242_8 ?_
  exact r_call c242_9 rfl rfl (Nat.le_of_ble_eq_true rfl) (okc_s rfl rfl rfl) h
theorem t242_12 {d : Nat} {l0 : Nat} {l1 : Int} {t0 : Nat} {t1 : Int} {M : Mem} {K : KK} {Q : RR → Mem → KK → Prop} (h : (¬ t1 = (0 : Int) → Wp d 242 20 [vR l0, vI l1, vU, vU, vU, vU] [vI (0 : Int), vR t0] M K Q) ∧ (¬ (¬ t1 = (0 : Int)) → Wp d 242 20 [vR l0, vI l1, vU, vU, vU, vU] [vI (1 : Int), vR t0] M K Q)) : Wp d 242 12 [vR l0, vI l1, vU, vU, vU, vU] [vI t1, vR t0] M K Q := by
  refine r_ifP (P := ¬ t1 = (0 : Int)) c242_12 rfl (fun hc => ?_) (fun hc => ?_)
  · replace h := h.1 hc
    refine r_iconst c242_19 ?_
    exact h
  · replace h := h.2 hc
    refine r_iconst c242_15 ?_
    refine r_goto c242_16 ?_
    exact h
theorem t242_20 {d : Nat} {l0 : Nat} {l1 : Int} {t0 : Nat} {t1 : Int} {M : Mem} {K : KK} {Q : RR → Mem → KK → Prop} (h : isO K.1 t0 12 = true ∧ Wm d 152 [vR t0, vI t1, vI (1 : Int), vI (1 : Int)] M K (Bk d 242 22 25 152 [vR l0, vI l1, vU, vU, vU, vU] [] Q)) : Wp (d + 1) 242 20 [vR l0, vI l1, vU, vU, vU, vU] [vI t1, vR t0] M K Q := by
  refine r_iconst c242_20 ?_
  refine r_iconst c242_21 ?_
  obtain ⟨s1, h⟩ := h
  exact r_call c242_22 rfl rfl (Nat.le_of_ble_eq_true rfl) (okc_r rfl rfl s1) h
theorem t242_25 {d : Nat} {l0 : Nat} {l1 : Int} {t0 : Int} {M : Mem} {K : KK} {Q : RR → Mem → KK → Prop} (h : (t0 = (0 : Int) → Wp d 242 40 [vR l0, vI l1, vI (0 : Int), vI (-1 : Int), vI (0 : Int), vI (0 : Int)] [] M K Q) ∧ (¬ (t0 = (0 : Int)) → Q (.inl (some (vI (0 : Int)))) M K)) : Wp d 242 25 [vR l0, vI l1, vU, vU, vU, vU] [vI t0] M K Q := by
  refine r_ifP (P := t0 = (0 : Int)) c242_25 rfl (fun hc => ?_) (fun hc => ?_)
  · replace h := h.1 hc
    refine r_iconst c242_30 ?_
    refine r_istore_n c242_31 (Nat.le_of_ble_eq_true rfl) ?_
    refine r_iconst c242_32 ?_
    refine r_istore_n c242_33 (Nat.le_of_ble_eq_true rfl) ?_
    refine r_iconst c242_34 ?_
    refine r_istore c242_35 (Nat.le_of_ble_eq_true rfl) ?_
    refine r_iconst c242_37 ?_
    refine r_istore c242_38 (Nat.le_of_ble_eq_true rfl) ?_
    exact h
  · replace h := h.2 hc
    refine r_iconst c242_28 ?_
    exact r_iret c242_29 (Or.inl rfl) h
theorem t242_40 {d : Nat} {l0 : Nat} {l1 : Int} {l2 : Int} {l3 : Int} {l4 : Int} {l5 : Int} {M : Mem} {K : KK} {Q : RR → Mem → KK → Prop} (h : isO K.1 l0 12 = true ∧ ∃ b2 : Nat, (M l0 12) = (b2 : Int) ∧ 0 < b2 ∧ isO K.1 b2 20 = true ∧ (0 ≤ (0 : Int) ∧ (0 : Int) < (ln b2 : Int)) ∧ ((M b2 (Int.toNat (0 : Int))) ≤ l5 → (¬ l1 = (0 : Int) → Wp (d + 1) 242 110 [vR l0, vI l1, vI l2, vI l3, vI l4, vI l5] [vI l3] M K Q) ∧ (¬ (¬ l1 = (0 : Int)) → Wp (d + 1) 242 110 [vR l0, vI l1, vI l2, vI l3, vI l4, vI l5] [vI l2] M K Q)) ∧ (¬ ((M b2 (Int.toNat (0 : Int))) ≤ l5) → isO K.1 l0 12 = true ∧ ∃ b8 : Nat, (M l0 31) = (b8 : Int) ∧ 0 < b8 ∧ isO K.1 l0 12 = true ∧ Wm d 196 [vR l0, vR b8, vI l5] M K (Bk d 242 58 61 196 [vR l0, vI l1, vI l2, vI l3, vI l4, vI l5] [] Q))) : Wp (d + 1) 242 40 [vR l0, vI l1, vI l2, vI l3, vI l4, vI l5] [] M K Q := by
  refine r_iload c242_40 rfl ?_
  refine r_aload_n c242_42 rfl ?_
  obtain ⟨s1, h⟩ := h
  obtain ⟨b2, h⟩ := h
  obtain ⟨s3, h⟩ := h
  obtain ⟨s4, h⟩ := h
  refine r_getR c242_43 s1 s3 s4 ?_
  refine r_iconst c242_46 ?_
  obtain ⟨s5, h⟩ := h
  obtain ⟨s6, h⟩ := h
  refine r_ia c242_47 s5 s6 ?_
  refine r_icmpP (P := (M b2 (Int.toNat (0 : Int))) ≤ l5) c242_48 rfl (fun hc => ?_) (fun hc => ?_)
  · replace h := h.1 hc
    refine r_iload_n c242_101 rfl ?_
    refine r_ifP (P := ¬ l1 = (0 : Int)) c242_102 rfl (fun hc => ?_) (fun hc => ?_)
    · replace h := h.1 hc
      refine r_iload_n c242_109 rfl ?_
      exact h
    · replace h := h.2 hc
      refine r_iload_n c242_105 rfl ?_
      refine r_goto c242_106 ?_
      exact h
  · replace h := h.2 hc
    refine r_aload_n c242_51 rfl ?_
    refine r_aload_n c242_52 rfl ?_
    obtain ⟨s7, h⟩ := h
    obtain ⟨b8, h⟩ := h
    obtain ⟨s9, h⟩ := h
    obtain ⟨s10, h⟩ := h
    refine r_getR c242_53 s7 s9 s10 ?_
    refine r_iload c242_56 rfl ?_
    obtain ⟨s11, h⟩ := h
    exact r_call c242_58 rfl rfl (Nat.le_of_ble_eq_true rfl) (okc_r rfl rfl s11) h
theorem t242_61 {d : Nat} {l0 : Nat} {l1 : Int} {l2 : Int} {l3 : Int} {l4 : Int} {l5 : Int} {t0 : Int} {M : Mem} {K : KK} {Q : RR → Mem → KK → Prop} (h : (¬ t0 = (-1 : Int) → Wp d 242 73 [vR l0, vI l1, vI l2, vI l3, vI l4, vI l5] [vI (0 : Int)] M K Q) ∧ (¬ (¬ t0 = (-1 : Int)) → Wp d 242 73 [vR l0, vI l1, vI l2, vI l3, vI l4, vI l5] [vI (w32 (l4 + (1 : Int)))] M K Q)) : Wp d 242 61 [vR l0, vI l1, vI l2, vI l3, vI l4, vI l5] [vI t0] M K Q := by
  refine r_iconst c242_61 ?_
  refine r_icmpP (P := ¬ t0 = (-1 : Int)) c242_62 rfl (fun hc => ?_) (fun hc => ?_)
  · replace h := h.1 hc
    refine r_iconst c242_72 ?_
    exact h
  · replace h := h.2 hc
    refine r_iload c242_65 rfl ?_
    refine r_iconst c242_67 ?_
    refine r_iadd c242_68 ?_
    refine r_goto c242_69 ?_
    exact h
theorem t242_73 {d : Nat} {l0 : Nat} {l1 : Int} {l2 : Int} {l3 : Int} {l4 : Int} {l5 : Int} {t0 : Int} {M : Mem} {K : KK} {Q : RR → Mem → KK → Prop} (h : (l2 < t0 → Wp d 242 95 [vR l0, vI l1, vI t0, vI (w32 ((w32 (l5 - t0)) + (1 : Int))), vI t0, vI l5] [] M K Q) ∧ (¬ (l2 < t0) → Wp d 242 95 [vR l0, vI l1, vI l2, vI l3, vI t0, vI l5] [] M K Q)) : Wp d 242 73 [vR l0, vI l1, vI l2, vI l3, vI l4, vI l5] [vI t0] M K Q := by
  refine r_istore c242_73 (Nat.le_of_ble_eq_true rfl) ?_
  refine r_iload c242_75 rfl ?_
  refine r_iload_n c242_77 rfl ?_
  refine r_icmpP (P := l2 < t0) c242_78 rfl (fun hc => ?_) (fun hc => ?_)
  · replace h := h.1 hc
    refine r_iload c242_84 rfl ?_
    refine r_istore_n c242_86 (Nat.le_of_ble_eq_true rfl) ?_
    refine r_iload c242_87 rfl ?_
    refine r_iload c242_89 rfl ?_
    refine r_isub c242_91 ?_
    refine r_iconst c242_92 ?_
    refine r_iadd c242_93 ?_
    refine r_istore_n c242_94 (Nat.le_of_ble_eq_true rfl) ?_
    exact h
  · replace h := h.2 hc
    refine r_goto c242_81 ?_
    exact h
theorem t242_95 {d : Nat} {l0 : Nat} {l1 : Int} {l2 : Int} {l3 : Int} {l4 : Int} {l5 : Int} {M : Mem} {K : KK} {Q : RR → Mem → KK → Prop} (h : Wp d 242 40 [vR l0, vI l1, vI l2, vI l3, vI l4, vI (w32 (l5 + 1))] [] M K Q) : Wp d 242 95 [vR l0, vI l1, vI l2, vI l3, vI l4, vI l5] [] M K Q := by
  refine r_iinc c242_95 rfl ?_
  refine r_goto c242_98 ?_
  exact h
theorem t242_110 {d : Nat} {l0 : Nat} {l1 : Int} {l2 : Int} {l3 : Int} {l4 : Int} {l5 : Int} {t0 : Int} {M : Mem} {K : KK} {Q : RR → Mem → KK → Prop} (h : Q (.inl (some (vI t0))) M K) : Wp d 242 110 [vR l0, vI l1, vI l2, vI l3, vI l4, vI l5] [vI t0] M K Q := by
  exact r_iret c242_110 (Or.inl rfl) h
theorem t243_0 {d : Nat} {l0 : Nat} {l1 : Int} {l2 : Int} {M : Mem} {K : KK} {Q : RR → Mem → KK → Prop} (h : isO K.1 l0 12 = true ∧ Wm d 153 [vI l1, vI (1 : Int), vI (12 : Int)] (mset M l0 0 (0 : Int)) K (Bk d 243 10 13 153 [vR l0, vI l1, vI l2, vU, vU, vU, vU, vU, vU] [vR l0] Q)) : Wp (d + 1) 243 0 [vR l0, vI l1, vI l2, vU, vU, vU, vU, vU, vU] [] M K Q := by
  refine r_aload_n c243_0 rfl ?_
  refine r_iconst c243_1 ?_
  obtain ⟨s1, h⟩ := h
  refine r_putI c243_2 s1 ?_
  refine r_aload_n c243_5 rfl ?_
  refine r_iload_n c243_6 rfl ?_
  refine r_iconst c243_7 ?_
  refine r_bipush c243_8 ?_
  exact r_call c243_10 rfl rfl (Nat.le_of_ble_eq_true rfl) (okc_s rfl rfl rfl) h
theorem t243_13 {d : Nat} {l0 : Nat} {l1 : Int} {l2 : Int} {t0 : Nat} {t1 : Int} {M : Mem} {K : KK} {Q : RR → Mem → KK → Prop} (h : (t1 = (0 : Int) → Wp (d + 1) 243 25 [vR l0, vI l1, vI l2, vU, vU, vU, vU, vU, vU] [vR t0] M K Q) ∧ (¬ (t1 = (0 : Int)) → Wm d 153 [vI l2, vI (0 : Int), vI (1 : Int)] M K (Bk d 243 19 22 153 [vR l0, vI l1, vI l2, vU, vU, vU, vU, vU, vU] [vR t0] Q))) : Wp (d + 1) 243 13 [vR l0, vI l1, vI l2, vU, vU, vU, vU, vU, vU] [vI t1, vR t0] M K Q := by
  refine r_ifP (P := t1 = (0 : Int)) c243_13 rfl (fun hc => ?_) (fun hc => ?_)
  · replace h := h.1 hc
    exact h
  · replace h := h.2 hc
    refine r_iload_n c243_16 rfl ?_
    refine r_iconst c243_17 ?_
    refine r_iconst c243_18 ?_
    exact r_call c243_19 rfl rfl (Nat.le_of_ble_eq_true rfl) (okc_s rfl rfl rfl) h
theorem t243_22 {d : Nat} {l0 : Nat} {l1 : Int} {l2 : Int} {t0 : Nat} {t1 : Int} {M : Mem} {K : KK} {Q : RR → Mem → KK → Prop} (h : (¬ t1 = (0 : Int) → Wp d 243 30 [vR l0, vI l1, vI l2, vU, vU, vU, vU, vU, vU] [vI (0 : Int), vR t0] M K Q) ∧ (¬ (¬ t1 = (0 : Int)) → Wp d 243 25 [vR l0, vI l1, vI l2, vU, vU, vU, vU, vU, vU] [vR t0] M K Q)) : Wp d 243 22 [vR l0, vI l1, vI l2, vU, vU, vU, vU, vU, vU] [vI t1, vR t0] M K Q := by
  refine r_ifP (P := ¬ t1 = (0 : Int)) c243_22 rfl (fun hc => ?_) (fun hc => ?_)
  · replace h := h.1 hc
    refine r_iconst c243_29 ?_
    exact h
  · replace h := h.2 hc
    exact h
theorem t243_25 {d : Nat} {l0 : Nat} {l1 : Int} {l2 : Int} {t0 : Nat} {M : Mem} {K : KK} {Q : RR → Mem → KK → Prop} (h : Wp d 243 30 [vR l0, vI l1, vI l2, vU, vU, vU, vU, vU, vU] [vI (1 : Int), vR t0] M K Q) : Wp d 243 25 [vR l0, vI l1, vI l2, vU, vU, vU, vU, vU, vU] [vR t0] M K Q := by
  refine r_iconst c243_25 ?_
  refine r_goto c243_26 ?_
  exact h
theorem t243_30 {d : Nat} {l0 : Nat} {l1 : Int} {l2 : Int} {t0 : Nat} {t1 : Int} {M : Mem} {K : KK} {Q : RR → Mem → KK → Prop} (h : isO K.1 t0 12 = true ∧ Wm d 152 [vR t0, vI t1, vI (1 : Int), vI (1 : Int)] M K (Bk d 243 32 35 152 [vR l0, vI l1, vI l2, vU, vU, vU, vU, vU, vU] [] Q)) : Wp (d + 1) 243 30 [vR l0, vI l1, vI l2, vU, vU, vU, vU, vU, vU] [vI t1, vR t0] M K Q := by
  refine r_iconst c243_30 ?_
  refine r_iconst c243_31 ?_
  obtain ⟨s1, h⟩ := h
  exact r_call c243_32 rfl rfl (Nat.le_of_ble_eq_true rfl) (okc_r rfl rfl s1) h
theorem t243_35 {d : Nat} {l0 : Nat} {l1 : Int} {l2 : Int} {t0 : Int} {M : Mem} {K : KK} {Q : RR → Mem → KK → Prop} (h : (t0 = (0 : Int) → Wp d 243 48 [vR l0, vI l1, vI l2, vI (-1 : Int), vI (-1 : Int), vI (0 : Int), vU, vU, vU] [] M K Q) ∧ (¬ (t0 = (0 : Int)) → Q (.inl (some (vI (0 : Int)))) M K)) : Wp d 243 35 [vR l0, vI l1, vI l2, vU, vU, vU, vU, vU, vU] [vI t0] M K Q := by
  refine r_ifP (P := t0 = (0 : Int)) c243_35 rfl (fun hc => ?_) (fun hc => ?_)
  · replace h := h.1 hc
    refine r_iconst c243_40 ?_
    refine r_istore_n c243_41 (Nat.le_of_ble_eq_true rfl) ?_
    refine r_iconst c243_42 ?_
    refine r_istore c243_43 (Nat.le_of_ble_eq_true rfl) ?_
    refine r_iconst c243_45 ?_
    refine r_istore c243_46 (Nat.le_of_ble_eq_true rfl) ?_
    exact h
  · replace h := h.2 hc
    refine r_iconst c243_38 ?_
    exact r_iret c243_39 (Or.inl rfl) h
theorem t243_48 {d : Nat} {l0 : Nat} {l1 : Int} {l2 : Int} {l3 : Int} {l4 : Int} {l5 : Int} {l6 : PV} {l7 : PV} {l8 : PV} {M : Mem} {K : KK} {Q : RR → Mem → KK → Prop} (h : isO K.1 l0 12 = true ∧ ∃ b2 : Nat, (M l0 12) = (b2 : Int) ∧ 0 < b2 ∧ isO K.1 b2 20 = true ∧ (0 ≤ (0 : Int) ∧ (0 : Int) < (ln b2 : Int)) ∧ ((M b2 (Int.toNat (0 : Int))) < (w32 (l5 + l1)) → (¬ l2 = (0 : Int) → Wp d 243 162 [vR l0, vI l1, vI l2, vI l3, vI l4, vI l5, l6, l7, l8] [vI l4] M K Q) ∧ (¬ (¬ l2 = (0 : Int)) → Wp d 243 162 [vR l0, vI l1, vI l2, vI l3, vI l4, vI l5, l6, l7, l8] [vI l3] M K Q)) ∧ (¬ ((M b2 (Int.toNat (0 : Int))) < (w32 (l5 + l1))) → Wp d 243 71 [vR l0, vI l1, vI l2, vI l3, vI l4, vI l5, vI (0 : Int), vI (1 : Int), vI l5] [] M K Q)) : Wp d 243 48 [vR l0, vI l1, vI l2, vI l3, vI l4, vI l5, l6, l7, l8] [] M K Q := by
  refine r_iload c243_48 rfl ?_
  refine r_iload_n c243_50 rfl ?_
  refine r_iadd c243_51 ?_
  refine r_aload_n c243_52 rfl ?_
  obtain ⟨s1, h⟩ := h
  obtain ⟨b2, h⟩ := h
  obtain ⟨s3, h⟩ := h
  obtain ⟨s4, h⟩ := h
  refine r_getR c243_53 s1 s3 s4 ?_
  refine r_iconst c243_56 ?_
  obtain ⟨s5, h⟩ := h
  obtain ⟨s6, h⟩ := h
  refine r_ia c243_57 s5 s6 ?_
  refine r_icmpP (P := (M b2 (Int.toNat (0 : Int))) < (w32 (l5 + l1))) c243_58 rfl (fun hc => ?_) (fun hc => ?_)
  · replace h := h.1 hc
    refine r_iload_n c243_152 rfl ?_
    refine r_ifP (P := ¬ l2 = (0 : Int)) c243_153 rfl (fun hc => ?_) (fun hc => ?_)
    · replace h := h.1 hc
      refine r_iload c243_160 rfl ?_
      exact h
    · replace h := h.2 hc
      refine r_iload_n c243_156 rfl ?_
      refine r_goto c243_157 ?_
      exact h
  · replace h := h.2 hc
    refine r_iconst c243_61 ?_
    refine r_istore c243_62 (Nat.le_of_ble_eq_true rfl) ?_
    refine r_iconst c243_64 ?_
    refine r_istore c243_65 (Nat.le_of_ble_eq_true rfl) ?_
    refine r_iload c243_67 rfl ?_
    refine r_istore c243_69 (Nat.le_of_ble_eq_true rfl) ?_
    exact h
theorem t243_71 {d : Nat} {l0 : Nat} {l1 : Int} {l2 : Int} {l3 : Int} {l4 : Int} {l5 : Int} {l6 : Int} {l7 : Int} {l8 : Int} {M : Mem} {K : KK} {Q : RR → Mem → KK → Prop} (h : ((w32 (l5 + l1)) ≤ l8 → (l7 = (0 : Int) → Wp (d + 1) 243 146 [vR l0, vI l1, vI l2, vI l3, vI l4, vI l5, vI l6, vI l7, vI l8] [] M K Q) ∧ (¬ (l7 = (0 : Int)) → (l4 < l6 → Wp (d + 1) 243 146 [vR l0, vI l1, vI l2, vI l5, vI l6, vI l5, vI l6, vI l7, vI l8] [] M K Q) ∧ (¬ (l4 < l6) → Wp (d + 1) 243 146 [vR l0, vI l1, vI l2, vI l3, vI l4, vI l5, vI l6, vI l7, vI l8] [] M K Q))) ∧ (¬ ((w32 (l5 + l1)) ≤ l8) → isO K.1 l0 12 = true ∧ ∃ b2 : Nat, (M l0 14) = (b2 : Int) ∧ 0 < b2 ∧ isO K.1 b2 20 = true ∧ (0 ≤ l8 ∧ l8 < (ln b2 : Int)) ∧ (l7 = (0 : Int) → Wp (d + 1) 243 115 [vR l0, vI l1, vI l2, vI l3, vI l4, vI l5, vI (w32 (l6 + (M b2 (Int.toNat l8)))), vI l7, vI l8] [] M K Q) ∧ (¬ (l7 = (0 : Int)) → isO K.1 l0 12 = true ∧ ∃ b8 : Nat, (M l0 31) = (b8 : Int) ∧ 0 < b8 ∧ isO K.1 l0 12 = true ∧ Wm d 196 [vR l0, vR b8, vI l8] M K (Bk d 243 104 107 196 [vR l0, vI l1, vI l2, vI l3, vI l4, vI l5, vI (w32 (l6 + (M b2 (Int.toNat l8)))), vI l7, vI l8] [] Q)))) : Wp (d + 1) 243 71 [vR l0, vI l1, vI l2, vI l3, vI l4, vI l5, vI l6, vI l7, vI l8] [] M K Q := by
  refine r_iload c243_71 rfl ?_
  refine r_iload c243_73 rfl ?_
  refine r_iload_n c243_75 rfl ?_
  refine r_iadd c243_76 ?_
  refine r_icmpP (P := (w32 (l5 + l1)) ≤ l8) c243_77 rfl (fun hc => ?_) (fun hc => ?_)
  · replace h := h.1 hc
    refine r_iload c243_124 rfl ?_
    refine r_ifP (P := l7 = (0 : Int)) c243_126 rfl (fun hc => ?_) (fun hc => ?_)
    · replace h := h.1 hc
      exact h
    · replace h := h.2 hc
      refine r_iload c243_129 rfl ?_
      refine r_iload c243_131 rfl ?_
      refine r_icmpP (P := l4 < l6) c243_133 rfl (fun hc => ?_) (fun hc => ?_)
      · replace h := h.1 hc
        refine r_iload c243_139 rfl ?_
        refine r_istore_n c243_141 (Nat.le_of_ble_eq_true rfl) ?_
        refine r_iload c243_142 rfl ?_
        refine r_istore c243_144 (Nat.le_of_ble_eq_true rfl) ?_
        exact h
      · replace h := h.2 hc
        refine r_goto c243_136 ?_
        exact h
  · replace h := h.2 hc
    refine r_iload c243_80 rfl ?_
    refine r_aload_n c243_82 rfl ?_
    obtain ⟨s1, h⟩ := h
    obtain ⟨b2, h⟩ := h
    obtain ⟨s3, h⟩ := h
    obtain ⟨s4, h⟩ := h
    refine r_getR c243_83 s1 s3 s4 ?_
    refine r_iload c243_86 rfl ?_
    obtain ⟨s5, h⟩ := h
    obtain ⟨s6, h⟩ := h
    refine r_ia c243_88 s5 s6 ?_
    refine r_iadd c243_89 ?_
    refine r_istore c243_90 (Nat.le_of_ble_eq_true rfl) ?_
    refine r_iload c243_92 rfl ?_
    refine r_ifP (P := l7 = (0 : Int)) c243_94 rfl (fun hc => ?_) (fun hc => ?_)
    · replace h := h.1 hc
      exact h
    · replace h := h.2 hc
      refine r_aload_n c243_97 rfl ?_
      refine r_aload_n c243_98 rfl ?_
      obtain ⟨s7, h⟩ := h
      obtain ⟨b8, h⟩ := h
      obtain ⟨s9, h⟩ := h
      obtain ⟨s10, h⟩ := h
      refine r_getR c243_99 s7 s9 s10 ?_
      refine r_iload c243_102 rfl ?_
      obtain ⟨s11, h⟩ := h
      exact r_call c243_104 rfl rfl (Nat.le_of_ble_eq_true rfl) (okc_r rfl rfl s11) h
theorem t243_107 {d : Nat} {l0 : Nat} {l1 : Int} {l2 : Int} {l3 : Int} {l4 : Int} {l5 : Int} {l6 : Int} {l7 : Int} {l8 : Int} {t0 : Int} {M : Mem} {K : KK} {Q : RR → Mem → KK → Prop} (h : (¬ t0 = (-1 : Int) → Wp d 243 115 [vR l0, vI l1, vI l2, vI l3, vI l4, vI l5, vI l6, vI l7, vI l8] [] M K Q) ∧ (¬ (¬ t0 = (-1 : Int)) → Wp d 243 116 [vR l0, vI l1, vI l2, vI l3, vI l4, vI l5, vI l6, vI l7, vI l8] [vI (1 : Int)] M K Q)) : Wp d 243 107 [vR l0, vI l1, vI l2, vI l3, vI l4, vI l5, vI l6, vI l7, vI l8] [vI t0] M K Q := by
  refine r_iconst c243_107 ?_
  refine r_icmpP (P := ¬ t0 = (-1 : Int)) c243_108 rfl (fun hc => ?_) (fun hc => ?_)
  · replace h := h.1 hc
    exact h
  · replace h := h.2 hc
    refine r_iconst c243_111 ?_
    refine r_goto c243_112 ?_
    exact h
theorem t243_115 {d : Nat} {l0 : Nat} {l1 : Int} {l2 : Int} {l3 : Int} {l4 : Int} {l5 : Int} {l6 : Int} {l7 : Int} {l8 : Int} {M : Mem} {K : KK} {Q : RR → Mem → KK → Prop} (h : Wp d 243 116 [vR l0, vI l1, vI l2, vI l3, vI l4, vI l5, vI l6, vI l7, vI l8] [vI (0 : Int)] M K Q) : Wp d 243 115 [vR l0, vI l1, vI l2, vI l3, vI l4, vI l5, vI l6, vI l7, vI l8] [] M K Q := by
  refine r_iconst c243_115 ?_
  exact h
theorem t243_116 {d : Nat} {l0 : Nat} {l1 : Int} {l2 : Int} {l3 : Int} {l4 : Int} {l5 : Int} {l6 : Int} {l7 : Int} {l8 : Int} {t0 : Int} {M : Mem} {K : KK} {Q : RR → Mem → KK → Prop} (h : Wp d 243 71 [vR l0, vI l1, vI l2, vI l3, vI l4, vI l5, vI l6, vI t0, vI (w32 (l8 + 1))] [] M K Q) : Wp d 243 116 [vR l0, vI l1, vI l2, vI l3, vI l4, vI l5, vI l6, vI l7, vI l8] [vI t0] M K Q := by
  refine r_istore c243_116 (Nat.le_of_ble_eq_true rfl) ?_
  refine r_iinc c243_118 rfl ?_
  refine r_goto c243_121 ?_
  exact h
theorem t243_146 {d : Nat} {l0 : Nat} {l1 : Int} {l2 : Int} {l3 : Int} {l4 : Int} {l5 : Int} {l6 : Int} {l7 : Int} {l8 : Int} {M : Mem} {K : KK} {Q : RR → Mem → KK → Prop} (h : Wp d 243 48 [vR l0, vI l1, vI l2, vI l3, vI l4, vI (w32 (l5 + 1)), vI l6, vI l7, vI l8] [] M K Q) : Wp d 243 146 [vR l0, vI l1, vI l2, vI l3, vI l4, vI l5, vI l6, vI l7, vI l8] [] M K Q := by
  refine r_iinc c243_146 rfl ?_
  refine r_goto c243_149 ?_
  exact h
theorem t243_162 {d : Nat} {l0 : Nat} {l1 : Int} {l2 : Int} {l3 : Int} {l4 : Int} {l5 : Int} {l6 : PV} {l7 : PV} {l8 : PV} {t0 : Int} {M : Mem} {K : KK} {Q : RR → Mem → KK → Prop} (h : Q (.inl (some (vI t0))) M K) : Wp d 243 162 [vR l0, vI l1, vI l2, vI l3, vI l4, vI l5, l6, l7, l8] [vI t0] M K Q := by
  exact r_iret c243_162 (Or.inl rfl) h
theorem t244_0 {d : Nat} {l0 : Nat} {l1 : Int} {M : Mem} {K : KK} {Q : RR → Mem → KK → Prop} (h : isO K.1 l0 12 = true ∧ Wm d 153 [vI l1, vI (0 : Int), vI (36 : Int)] (mset M l0 0 (0 : Int)) K (Bk d 244 10 13 153 [vR l0, vI l1, vU, vU, vU] [vR l0] Q)) : Wp (d + 1) 244 0 [vR l0, vI l1, vU, vU, vU] [] M K Q := by
  refine r_aload_n c244_0 rfl ?_
  refine r_iconst c244_1 ?_
  obtain ⟨s1, h⟩ := h
  refine r_putI c244_2 s1 ?_
  refine r_aload_n c244_5 rfl ?_
  refine r_iload_n c244_6 rfl ?_
  refine r_iconst c244_7 ?_
  refine r_bipush c244_8 ?_
  exact r_call c244_10 rfl rfl (Nat.le_of_ble_eq_true rfl) (okc_s rfl rfl rfl) h
theorem t244_13 {d : Nat} {l0 : Nat} {l1 : Int} {t0 : Nat} {t1 : Int} {M : Mem} {K : KK} {Q : RR → Mem → KK → Prop} (h : (¬ t1 = (0 : Int) → Wp d 244 21 [vR l0, vI l1, vU, vU, vU] [vI (0 : Int), vR t0] M K Q) ∧ (¬ (¬ t1 = (0 : Int)) → Wp d 244 21 [vR l0, vI l1, vU, vU, vU] [vI (1 : Int), vR t0] M K Q)) : Wp d 244 13 [vR l0, vI l1, vU, vU, vU] [vI t1, vR t0] M K Q := by
  refine r_ifP (P := ¬ t1 = (0 : Int)) c244_13 rfl (fun hc => ?_) (fun hc => ?_)
  · replace h := h.1 hc
    refine r_iconst c244_20 ?_
    exact h
  · replace h := h.2 hc
    refine r_iconst c244_16 ?_
    refine r_goto c244_17 ?_
    exact h
theorem t244_21 {d : Nat} {l0 : Nat} {l1 : Int} {t0 : Nat} {t1 : Int} {M : Mem} {K : KK} {Q : RR → Mem → KK → Prop} (h : isO K.1 t0 12 = true ∧ Wm d 152 [vR t0, vI t1, vI (1 : Int), vI (1 : Int)] M K (Bk d 244 23 26 152 [vR l0, vI l1, vU, vU, vU] [] Q)) : Wp (d + 1) 244 21 [vR l0, vI l1, vU, vU, vU] [vI t1, vR t0] M K Q := by
  refine r_iconst c244_21 ?_
  refine r_iconst c244_22 ?_
  obtain ⟨s1, h⟩ := h
  exact r_call c244_23 rfl rfl (Nat.le_of_ble_eq_true rfl) (okc_r rfl rfl s1) h
theorem t244_26 {d : Nat} {l0 : Nat} {l1 : Int} {t0 : Int} {M : Mem} {K : KK} {Q : RR → Mem → KK → Prop} (h : (t0 = (0 : Int) → isO K.1 l0 12 = true ∧ ∃ b2 : Nat, (M l0 31) = (b2 : Int) ∧ 0 < b2 ∧ isO K.1 l0 12 = true ∧ ∃ b6 : Nat, (M l0 32) = (b6 : Int) ∧ 0 < b6 ∧ Wm d 178 [vR b2, vR b6] M K (Bk d 244 39 42 178 [vR l0, vI l1, vU, vU, vU] [] Q)) ∧ (¬ (t0 = (0 : Int)) → Q (.inl (some (vI (0 : Int)))) M K)) : Wp (d + 1) 244 26 [vR l0, vI l1, vU, vU, vU] [vI t0] M K Q := by
  refine r_ifP (P := t0 = (0 : Int)) c244_26 rfl (fun hc => ?_) (fun hc => ?_)
  · replace h := h.1 hc
    refine r_aload_n c244_31 rfl ?_
    obtain ⟨s1, h⟩ := h
    obtain ⟨b2, h⟩ := h
    obtain ⟨s3, h⟩ := h
    obtain ⟨s4, h⟩ := h
    refine r_getR c244_32 s1 s3 s4 ?_
    refine r_aload_n c244_35 rfl ?_
    obtain ⟨s5, h⟩ := h
    obtain ⟨b6, h⟩ := h
    obtain ⟨s7, h⟩ := h
    obtain ⟨s8, h⟩ := h
    refine r_getR c244_36 s5 s7 s8 ?_
    exact r_call c244_39 rfl rfl (Nat.le_of_ble_eq_true rfl) (okc_s rfl rfl rfl) h
  · replace h := h.2 hc
    refine r_iconst c244_29 ?_
    exact r_iret c244_30 (Or.inl rfl) h
theorem t244_42 {d : Nat} {l0 : Nat} {l1 : Int} {M : Mem} {K : KK} {Q : RR → Mem → KK → Prop} (h : Wp d 244 44 [vR l0, vI l1, vI (0 : Int), vU, vU] [] M K Q) : Wp d 244 42 [vR l0, vI l1, vU, vU, vU] [] M K Q := by
  refine r_iconst c244_42 ?_
  refine r_istore_n c244_43 (Nat.le_of_ble_eq_true rfl) ?_
  exact h
theorem t244_44 {d : Nat} {l0 : Nat} {l1 : Int} {l2 : Int} {l3 : PV} {l4 : PV} {M : Mem} {K : KK} {Q : RR → Mem → KK → Prop} (h : ((200 : Int) < l2 → Q (.inl (some (vI (-1 : Int)))) M K) ∧ (¬ ((200 : Int) < l2) → Wp d 244 56 [vR l0, vI l1, vI l2, vI (0 : Int), vI (0 : Int)] [] M K Q)) : Wp d 244 44 [vR l0, vI l1, vI l2, l3, l4] [] M K Q := by
  refine r_iload_n c244_44 rfl ?_
  refine r_sipush c244_45 ?_
  refine r_icmpP (P := (200 : Int) < l2) c244_48 rfl (fun hc => ?_) (fun hc => ?_)
  · replace h := h.1 hc
    refine r_iconst c244_123 ?_
    exact r_iret c244_124 (Or.inl rfl) h
  · replace h := h.2 hc
    refine r_iconst c244_51 ?_
    refine r_istore_n c244_52 (Nat.le_of_ble_eq_true rfl) ?_
    refine r_iconst c244_53 ?_
    refine r_istore c244_54 (Nat.le_of_ble_eq_true rfl) ?_
    exact h
theorem t244_56 {d : Nat} {l0 : Nat} {l1 : Int} {l2 : Int} {l3 : Int} {l4 : Int} {M : Mem} {K : KK} {Q : RR → Mem → KK → Prop} (h : isO K.1 l0 12 = true ∧ ∃ b2 : Nat, (M l0 12) = (b2 : Int) ∧ 0 < b2 ∧ isO K.1 b2 20 = true ∧ (0 ≤ (1 : Int) ∧ (1 : Int) < (ln b2 : Int)) ∧ ((M b2 (Int.toNat (1 : Int))) ≤ l4 → (l3 < l1 → isO K.1 l0 12 = true ∧ ∃ b8 : Nat, (M l0 32) = (b8 : Int) ∧ 0 < b8 ∧ isO K.1 l0 12 = true ∧ Wm d 198 [vR l0, vR b8] M K (Bk d 244 114 117 198 [vR l0, vI l1, vI l2, vI l3, vI l4] [] Q)) ∧ (¬ (l3 < l1) → Q (.inl (some (vI l2))) M K)) ∧ (¬ ((M b2 (Int.toNat (1 : Int))) ≤ l4) → isO K.1 l0 12 = true ∧ ∃ b13 : Nat, (M l0 32) = (b13 : Int) ∧ 0 < b13 ∧ isO K.1 b13 20 = true ∧ (0 ≤ (w32 ((6 : Int) + l4)) ∧ (w32 ((6 : Int) + l4)) < (ln b13 : Int)) ∧ (¬ (M b13 (Int.toNat (w32 ((6 : Int) + l4)))) = (0 : Int) → Wp (d + 1) 244 94 [vR l0, vI l1, vI l2, vI l3, vI l4] [vI (0 : Int), vI l3] M K Q) ∧ (¬ (¬ (M b13 (Int.toNat (w32 ((6 : Int) + l4)))) = (0 : Int)) → isO K.1 l0 12 = true ∧ ∃ b19 : Nat, (M l0 20) = (b19 : Int) ∧ 0 < b19 ∧ (Nat.ble 30 (tg b19) = true ∧ isO K.1 b19 (tg b19) = true) ∧ (0 ≤ l4 ∧ l4 < (ln b19 : Int)) ∧ ∃ b24 : Nat, (M b19 (Int.toNat l4)) = (b24 : Int) ∧ 0 < b24 ∧ isO K.1 b24 20 = true ∧ (0 ≤ (0 : Int) ∧ (0 : Int) < (ln b24 : Int)) ∧ Wp (d + 1) 244 94 [vR l0, vI l1, vI l2, vI l3, vI l4] [vI (M b24 (Int.toNat (0 : Int))), vI l3] M K Q))) : Wp (d + 1) 244 56 [vR l0, vI l1, vI l2, vI l3, vI l4] [] M K Q := by
  refine r_iload c244_56 rfl ?_
  refine r_aload_n c244_58 rfl ?_
  obtain ⟨s1, h⟩ := h
  obtain ⟨b2, h⟩ := h
  obtain ⟨s3, h⟩ := h
  obtain ⟨s4, h⟩ := h
  refine r_getR c244_59 s1 s3 s4 ?_
  refine r_iconst c244_62 ?_
  obtain ⟨s5, h⟩ := h
  obtain ⟨s6, h⟩ := h
  refine r_ia c244_63 s5 s6 ?_
  refine r_icmpP (P := (M b2 (Int.toNat (1 : Int))) ≤ l4) c244_64 rfl (fun hc => ?_) (fun hc => ?_)
  · replace h := h.1 hc
    refine r_iload_n c244_102 rfl ?_
    refine r_iload_n c244_103 rfl ?_
    refine r_icmpP (P := l3 < l1) c244_104 rfl (fun hc => ?_) (fun hc => ?_)
    · replace h := h.1 hc
      refine r_aload_n c244_109 rfl ?_
      refine r_aload_n c244_110 rfl ?_
      obtain ⟨s7, h⟩ := h
      obtain ⟨b8, h⟩ := h
      obtain ⟨s9, h⟩ := h
      obtain ⟨s10, h⟩ := h
      refine r_getR c244_111 s7 s9 s10 ?_
      obtain ⟨s11, h⟩ := h
      exact r_call c244_114 rfl rfl (Nat.le_of_ble_eq_true rfl) (okc_r rfl rfl s11) h
    · replace h := h.2 hc
      refine r_iload_n c244_107 rfl ?_
      exact r_iret c244_108 (Or.inl rfl) h
  · replace h := h.2 hc
    refine r_iload_n c244_67 rfl ?_
    refine r_aload_n c244_68 rfl ?_
    obtain ⟨s12, h⟩ := h
    obtain ⟨b13, h⟩ := h
    obtain ⟨s14, h⟩ := h
    obtain ⟨s15, h⟩ := h
    refine r_getR c244_69 s12 s14 s15 ?_
    refine r_bipush c244_72 ?_
    refine r_iload c244_74 rfl ?_
    refine r_iadd c244_76 ?_
    obtain ⟨s16, h⟩ := h
    obtain ⟨s17, h⟩ := h
    refine r_ia c244_77 s16 s17 ?_
    refine r_ifP (P := ¬ (M b13 (Int.toNat (w32 ((6 : Int) + l4)))) = (0 : Int)) c244_78 rfl (fun hc => ?_) (fun hc => ?_)
    · replace h := h.1 hc
      refine r_iconst c244_93 ?_
      exact h
    · replace h := h.2 hc
      refine r_aload_n c244_81 rfl ?_
      obtain ⟨s18, h⟩ := h
      obtain ⟨b19, h⟩ := h
      obtain ⟨s20, h⟩ := h
      obtain ⟨s21, h⟩ := h
      refine r_getR c244_82 s18 s20 s21 ?_
      refine r_iload c244_85 rfl ?_
      obtain ⟨s22, h⟩ := h
      obtain ⟨s23, h⟩ := h
      obtain ⟨b24, h⟩ := h
      obtain ⟨s25, h⟩ := h
      obtain ⟨s26, h⟩ := h
      refine r_aa c244_87 s22 s23 s25 s26 ?_
      refine r_iconst c244_88 ?_
      obtain ⟨s27, h⟩ := h
      obtain ⟨s28, h⟩ := h
      refine r_ia c244_89 s27 s28 ?_
      refine r_goto c244_90 ?_
      exact h
theorem t244_94 {d : Nat} {l0 : Nat} {l1 : Int} {l2 : Int} {l3 : Int} {l4 : Int} {t0 : Int} {t1 : Int} {M : Mem} {K : KK} {Q : RR → Mem → KK → Prop} (h : Wp d 244 56 [vR l0, vI l1, vI l2, vI (w32 (t0 + t1)), vI (w32 (l4 + 1))] [] M K Q) : Wp d 244 94 [vR l0, vI l1, vI l2, vI l3, vI l4] [vI t1, vI t0] M K Q := by
  refine r_iadd c244_94 ?_
  refine r_istore_n c244_95 (Nat.le_of_ble_eq_true rfl) ?_
  refine r_iinc c244_96 rfl ?_
  refine r_goto c244_99 ?_
  exact h
theorem t244_117 {d : Nat} {l0 : Nat} {l1 : Int} {l2 : Int} {l3 : Int} {l4 : Int} {M : Mem} {K : KK} {Q : RR → Mem → KK → Prop} (h : Wp d 244 44 [vR l0, vI l1, vI (w32 (l2 + 1)), vI l3, vI l4] [] M K Q) : Wp d 244 117 [vR l0, vI l1, vI l2, vI l3, vI l4] [] M K Q := by
  refine r_iinc c244_117 rfl ?_
  refine r_goto c244_120 ?_
  exact h
theorem t245_0 {d : Nat} {l0 : Nat} {M : Mem} {K : KK} {Q : RR → Mem → KK → Prop} (h : isO K.1 l0 12 = true ∧ Wp d 245 9 [vR l0, vI (0 : Int), vI (0 : Int)] [] (mset M l0 0 (0 : Int)) K Q) : Wp d 245 0 [vR l0, vU, vU] [] M K Q := by
  refine r_aload_n c245_0 rfl ?_
  refine r_iconst c245_1 ?_
  obtain ⟨s1, h⟩ := h
  refine r_putI c245_2 s1 ?_
  refine r_iconst c245_5 ?_
  refine r_istore_n c245_6 (Nat.le_of_ble_eq_true rfl) ?_
  refine r_iconst c245_7 ?_
  refine r_istore_n c245_8 (Nat.le_of_ble_eq_true rfl) ?_
  exact h
theorem t245_9 {d : Nat} {l0 : Nat} {l1 : Int} {l2 : Int} {M : Mem} {K : KK} {Q : RR → Mem → KK → Prop} (h : isO K.1 l0 12 = true ∧ ∃ b2 : Nat, (M l0 12) = (b2 : Int) ∧ 0 < b2 ∧ isO K.1 b2 20 = true ∧ (0 ≤ (1 : Int) ∧ (1 : Int) < (ln b2 : Int)) ∧ ((M b2 (Int.toNat (1 : Int))) ≤ l2 → Q (.inl (some (vI l1))) M K) ∧ (¬ ((M b2 (Int.toNat (1 : Int))) ≤ l2) → isO K.1 l0 12 = true ∧ ∃ b8 : Nat, (M l0 31) = (b8 : Int) ∧ 0 < b8 ∧ isO K.1 b8 20 = true ∧ (0 ≤ (w32 ((0 : Int) + l2)) ∧ (w32 ((0 : Int) + l2)) < (ln b8 : Int)) ∧ (¬ (M b8 (Int.toNat (w32 ((0 : Int) + l2)))) = (-1 : Int) → isO K.1 l0 12 = true ∧ ∃ b14 : Nat, (M l0 31) = (b14 : Int) ∧ 0 < b14 ∧ isO K.1 b14 20 = true ∧ (0 ≤ (w32 ((12 : Int) + l2)) ∧ (w32 ((12 : Int) + l2)) < (ln b14 : Int)) ∧ Wp d 245 48 [vR l0, vI l1, vI l2] [vI (w32 ((9 : Int) - (M b14 (Int.toNat (w32 ((12 : Int) + l2)))))), vI l1] M K Q) ∧ (¬ (¬ (M b8 (Int.toNat (w32 ((0 : Int) + l2)))) = (-1 : Int)) → Wp d 245 48 [vR l0, vI l1, vI l2] [vI (0 : Int), vI l1] M K Q))) : Wp d 245 9 [vR l0, vI l1, vI l2] [] M K Q := by
  refine r_iload_n c245_9 rfl ?_
  refine r_aload_n c245_10 rfl ?_
  obtain ⟨s1, h⟩ := h
  obtain ⟨b2, h⟩ := h
  obtain ⟨s3, h⟩ := h
  obtain ⟨s4, h⟩ := h
  refine r_getR c245_11 s1 s3 s4 ?_
  refine r_iconst c245_14 ?_
  obtain ⟨s5, h⟩ := h
  obtain ⟨s6, h⟩ := h
  refine r_ia c245_15 s5 s6 ?_
  refine r_icmpP (P := (M b2 (Int.toNat (1 : Int))) ≤ l2) c245_16 rfl (fun hc => ?_) (fun hc => ?_)
  · replace h := h.1 hc
    refine r_iload_n c245_56 rfl ?_
    exact r_iret c245_57 (Or.inl rfl) h
  · replace h := h.2 hc
    refine r_iload_n c245_19 rfl ?_
    refine r_aload_n c245_20 rfl ?_
    obtain ⟨s7, h⟩ := h
    obtain ⟨b8, h⟩ := h
    obtain ⟨s9, h⟩ := h
    obtain ⟨s10, h⟩ := h
    refine r_getR c245_21 s7 s9 s10 ?_
    refine r_iconst c245_24 ?_
    refine r_iload_n c245_25 rfl ?_
    refine r_iadd c245_26 ?_
    obtain ⟨s11, h⟩ := h
    obtain ⟨s12, h⟩ := h
    refine r_ia c245_27 s11 s12 ?_
    refine r_iconst c245_28 ?_
    refine r_icmpP (P := ¬ (M b8 (Int.toNat (w32 ((0 : Int) + l2)))) = (-1 : Int)) c245_29 rfl (fun hc => ?_) (fun hc => ?_)
    · replace h := h.1 hc
      refine r_bipush c245_36 ?_
      refine r_aload_n c245_38 rfl ?_
      obtain ⟨s13, h⟩ := h
      obtain ⟨b14, h⟩ := h
      obtain ⟨s15, h⟩ := h
      obtain ⟨s16, h⟩ := h
      refine r_getR c245_39 s13 s15 s16 ?_
      refine r_bipush c245_42 ?_
      refine r_iload_n c245_44 rfl ?_
      refine r_iadd c245_45 ?_
      obtain ⟨s17, h⟩ := h
      obtain ⟨s18, h⟩ := h
      refine r_ia c245_46 s17 s18 ?_
      refine r_isub c245_47 ?_
      exact h
    · replace h := h.2 hc
      refine r_iconst c245_32 ?_
      refine r_goto c245_33 ?_
      exact h
theorem t245_48 {d : Nat} {l0 : Nat} {l1 : Int} {l2 : Int} {t0 : Int} {t1 : Int} {M : Mem} {K : KK} {Q : RR → Mem → KK → Prop} (h : Wp d 245 9 [vR l0, vI (w32 (t0 + t1)), vI (w32 (l2 + 1))] [] M K Q) : Wp d 245 48 [vR l0, vI l1, vI l2] [vI t1, vI t0] M K Q := by
  refine r_iadd c245_48 ?_
  refine r_istore_n c245_49 (Nat.le_of_ble_eq_true rfl) ?_
  refine r_iinc c245_50 rfl ?_
  refine r_goto c245_53 ?_
  exact h
theorem t246_0 {d : Nat} {l0 : Nat} {l1 : Int} {M : Mem} {K : KK} {Q : RR → Mem → KK → Prop} (h : isO K.1 l0 12 = true ∧ Wm d 153 [vI l1, vI (0 : Int), vI (1 : Int)] (mset M l0 0 (0 : Int)) K (Bk d 246 9 12 153 [vR l0, vI l1, vU, vU, vU] [vR l0] Q)) : Wp (d + 1) 246 0 [vR l0, vI l1, vU, vU, vU] [] M K Q := by
  refine r_aload_n c246_0 rfl ?_
  refine r_iconst c246_1 ?_
  obtain ⟨s1, h⟩ := h
  refine r_putI c246_2 s1 ?_
  refine r_aload_n c246_5 rfl ?_
  refine r_iload_n c246_6 rfl ?_
  refine r_iconst c246_7 ?_
  refine r_iconst c246_8 ?_
  exact r_call c246_9 rfl rfl (Nat.le_of_ble_eq_true rfl) (okc_s rfl rfl rfl) h
theorem t246_12 {d : Nat} {l0 : Nat} {l1 : Int} {t0 : Nat} {t1 : Int} {M : Mem} {K : KK} {Q : RR → Mem → KK → Prop} (h : (¬ t1 = (0 : Int) → Wp d 246 20 [vR l0, vI l1, vU, vU, vU] [vI (0 : Int), vR t0] M K Q) ∧ (¬ (¬ t1 = (0 : Int)) → Wp d 246 20 [vR l0, vI l1, vU, vU, vU] [vI (1 : Int), vR t0] M K Q)) : Wp d 246 12 [vR l0, vI l1, vU, vU, vU] [vI t1, vR t0] M K Q := by
  refine r_ifP (P := ¬ t1 = (0 : Int)) c246_12 rfl (fun hc => ?_) (fun hc => ?_)
  · replace h := h.1 hc
    refine r_iconst c246_19 ?_
    exact h
  · replace h := h.2 hc
    refine r_iconst c246_15 ?_
    refine r_goto c246_16 ?_
    exact h
theorem t246_20 {d : Nat} {l0 : Nat} {l1 : Int} {t0 : Nat} {t1 : Int} {M : Mem} {K : KK} {Q : RR → Mem → KK → Prop} (h : isO K.1 t0 12 = true ∧ Wm d 152 [vR t0, vI t1, vI (1 : Int), vI (1 : Int)] M K (Bk d 246 22 25 152 [vR l0, vI l1, vU, vU, vU] [] Q)) : Wp (d + 1) 246 20 [vR l0, vI l1, vU, vU, vU] [vI t1, vR t0] M K Q := by
  refine r_iconst c246_20 ?_
  refine r_iconst c246_21 ?_
  obtain ⟨s1, h⟩ := h
  exact r_call c246_22 rfl rfl (Nat.le_of_ble_eq_true rfl) (okc_r rfl rfl s1) h
theorem t246_25 {d : Nat} {l0 : Nat} {l1 : Int} {t0 : Int} {M : Mem} {K : KK} {Q : RR → Mem → KK → Prop} (h : (t0 = (0 : Int) → Wp d 246 37 [vR l0, vI l1, vI (-1 : Int), vI (-1 : Int), vI (0 : Int)] [] M K Q) ∧ (¬ (t0 = (0 : Int)) → Q (.inl (some (vI (0 : Int)))) M K)) : Wp d 246 25 [vR l0, vI l1, vU, vU, vU] [vI t0] M K Q := by
  refine r_ifP (P := t0 = (0 : Int)) c246_25 rfl (fun hc => ?_) (fun hc => ?_)
  · replace h := h.1 hc
    refine r_iconst c246_30 ?_
    refine r_istore_n c246_31 (Nat.le_of_ble_eq_true rfl) ?_
    refine r_iconst c246_32 ?_
    refine r_istore_n c246_33 (Nat.le_of_ble_eq_true rfl) ?_
    refine r_iconst c246_34 ?_
    refine r_istore c246_35 (Nat.le_of_ble_eq_true rfl) ?_
    exact h
  · replace h := h.2 hc
    refine r_iconst c246_28 ?_
    exact r_iret c246_29 (Or.inl rfl) h
theorem t246_37 {d : Nat} {l0 : Nat} {l1 : Int} {l2 : Int} {l3 : Int} {l4 : Int} {M : Mem} {K : KK} {Q : RR → Mem → KK → Prop} (h : isO K.1 l0 12 = true ∧ ∃ b2 : Nat, (M l0 12) = (b2 : Int) ∧ 0 < b2 ∧ isO K.1 b2 20 = true ∧ (0 ≤ (1 : Int) ∧ (1 : Int) < (ln b2 : Int)) ∧ ((M b2 (Int.toNat (1 : Int))) ≤ l4 → (¬ l1 = (0 : Int) → Wp d 246 107 [vR l0, vI l1, vI l2, vI l3, vI l4] [vI l3] M K Q) ∧ (¬ (¬ l1 = (0 : Int)) → Wp d 246 107 [vR l0, vI l1, vI l2, vI l3, vI l4] [vI l2] M K Q)) ∧ (¬ ((M b2 (Int.toNat (1 : Int))) ≤ l4) → isO K.1 l0 12 = true ∧ ∃ b8 : Nat, (M l0 31) = (b8 : Int) ∧ 0 < b8 ∧ isO K.1 b8 20 = true ∧ (0 ≤ (w32 ((0 : Int) + l4)) ∧ (w32 ((0 : Int) + l4)) < (ln b8 : Int)) ∧ ((M b8 (Int.toNat (w32 ((0 : Int) + l4)))) = (-1 : Int) → Wp d 246 92 [vR l0, vI l1, vI l2, vI l3, vI l4] [] M K Q) ∧ (¬ ((M b8 (Int.toNat (w32 ((0 : Int) + l4)))) = (-1 : Int)) → isO K.1 l0 12 = true ∧ ∃ b14 : Nat, (M l0 31) = (b14 : Int) ∧ 0 < b14 ∧ isO K.1 b14 20 = true ∧ (0 ≤ (w32 ((6 : Int) + l4)) ∧ (w32 ((6 : Int) + l4)) < (ln b14 : Int)) ∧ (l3 < (M b14 (Int.toNat (w32 ((6 : Int) + l4)))) → isO K.1 l0 12 = true ∧ ∃ b20 : Nat, (M l0 31) = (b20 : Int) ∧ 0 < b20 ∧ isO K.1 b20 20 = true ∧ (0 ≤ (w32 ((6 : Int) + l4)) ∧ (w32 ((6 : Int) + l4)) < (ln b20 : Int)) ∧ Wp d 246 92 [vR l0, vI l1, vI l4, vI (M b20 (Int.toNat (w32 ((6 : Int) + l4)))), vI l4] [] M K Q) ∧ (¬ (l3 < (M b14 (Int.toNat (w32 ((6 : Int) + l4))))) → Wp d 246 92 [vR l0, vI l1, vI l2, vI l3, vI l4] [] M K Q)))) : Wp d 246 37 [vR l0, vI l1, vI l2, vI l3, vI l4] [] M K Q := by
  refine r_iload c246_37 rfl ?_
  refine r_aload_n c246_39 rfl ?_
  obtain ⟨s1, h⟩ := h
  obtain ⟨b2, h⟩ := h
  obtain ⟨s3, h⟩ := h
  obtain ⟨s4, h⟩ := h
  refine r_getR c246_40 s1 s3 s4 ?_
  refine r_iconst c246_43 ?_
  obtain ⟨s5, h⟩ := h
  obtain ⟨s6, h⟩ := h
  refine r_ia c246_44 s5 s6 ?_
  refine r_icmpP (P := (M b2 (Int.toNat (1 : Int))) ≤ l4) c246_45 rfl (fun hc => ?_) (fun hc => ?_)
  · replace h := h.1 hc
    refine r_iload_n c246_98 rfl ?_
    refine r_ifP (P := ¬ l1 = (0 : Int)) c246_99 rfl (fun hc => ?_) (fun hc => ?_)
    · replace h := h.1 hc
      refine r_iload_n c246_106 rfl ?_
      exact h
    · replace h := h.2 hc
      refine r_iload_n c246_102 rfl ?_
      refine r_goto c246_103 ?_
      exact h
  · replace h := h.2 hc
    refine r_aload_n c246_48 rfl ?_
    obtain ⟨s7, h⟩ := h
    obtain ⟨b8, h⟩ := h
    obtain ⟨s9, h⟩ := h
    obtain ⟨s10, h⟩ := h
    refine r_getR c246_49 s7 s9 s10 ?_
    refine r_iconst c246_52 ?_
    refine r_iload c246_53 rfl ?_
    refine r_iadd c246_55 ?_
    obtain ⟨s11, h⟩ := h
    obtain ⟨s12, h⟩ := h
    refine r_ia c246_56 s11 s12 ?_
    refine r_iconst c246_57 ?_
    refine r_icmpP (P := (M b8 (Int.toNat (w32 ((0 : Int) + l4)))) = (-1 : Int)) c246_58 rfl (fun hc => ?_) (fun hc => ?_)
    · replace h := h.1 hc
      exact h
    · replace h := h.2 hc
      refine r_aload_n c246_61 rfl ?_
      obtain ⟨s13, h⟩ := h
      obtain ⟨b14, h⟩ := h
      obtain ⟨s15, h⟩ := h
      obtain ⟨s16, h⟩ := h
      refine r_getR c246_62 s13 s15 s16 ?_
      refine r_bipush c246_65 ?_
      refine r_iload c246_67 rfl ?_
      refine r_iadd c246_69 ?_
      obtain ⟨s17, h⟩ := h
      obtain ⟨s18, h⟩ := h
      refine r_ia c246_70 s17 s18 ?_
      refine r_iload_n c246_71 rfl ?_
      refine r_icmpP (P := l3 < (M b14 (Int.toNat (w32 ((6 : Int) + l4))))) c246_72 rfl (fun hc => ?_) (fun hc => ?_)
      · replace h := h.1 hc
        refine r_iload c246_78 rfl ?_
        refine r_istore_n c246_80 (Nat.le_of_ble_eq_true rfl) ?_
        refine r_aload_n c246_81 rfl ?_
        obtain ⟨s19, h⟩ := h
        obtain ⟨b20, h⟩ := h
        obtain ⟨s21, h⟩ := h
        obtain ⟨s22, h⟩ := h
        refine r_getR c246_82 s19 s21 s22 ?_
        refine r_bipush c246_85 ?_
        refine r_iload c246_87 rfl ?_
        refine r_iadd c246_89 ?_
        obtain ⟨s23, h⟩ := h
        obtain ⟨s24, h⟩ := h
        refine r_ia c246_90 s23 s24 ?_
        refine r_istore_n c246_91 (Nat.le_of_ble_eq_true rfl) ?_
        exact h
      · replace h := h.2 hc
        refine r_goto c246_75 ?_
        exact h
theorem t246_92 {d : Nat} {l0 : Nat} {l1 : Int} {l2 : Int} {l3 : Int} {l4 : Int} {M : Mem} {K : KK} {Q : RR → Mem → KK → Prop} (h : Wp d 246 37 [vR l0, vI l1, vI l2, vI l3, vI (w32 (l4 + 1))] [] M K Q) : Wp d 246 92 [vR l0, vI l1, vI l2, vI l3, vI l4] [] M K Q := by
  refine r_iinc c246_92 rfl ?_
  refine r_goto c246_95 ?_
  exact h
theorem t246_107 {d : Nat} {l0 : Nat} {l1 : Int} {l2 : Int} {l3 : Int} {l4 : Int} {t0 : Int} {M : Mem} {K : KK} {Q : RR → Mem → KK → Prop} (h : Q (.inl (some (vI t0))) M K) : Wp d 246 107 [vR l0, vI l1, vI l2, vI l3, vI l4] [vI t0] M K Q := by
  exact r_iret c246_107 (Or.inl rfl) h
theorem t247_0 {d : Nat} {l0 : Nat} {l1 : Int} {l2 : Int} {M : Mem} {K : KK} {Q : RR → Mem → KK → Prop} (h : isO K.1 l0 12 = true ∧ isO K.1 l0 12 = true ∧ Wm d 208 [vR l0, vI l1] (mset M l0 0 (0 : Int)) K (Bk d 247 8 11 208 [vR l0, vI l1, vI l2, vU, vU, vU, vU] [vR l0] Q)) : Wp (d + 1) 247 0 [vR l0, vI l1, vI l2, vU, vU, vU, vU] [] M K Q := by
  refine r_aload_n c247_0 rfl ?_
  refine r_iconst c247_1 ?_
  obtain ⟨s1, h⟩ := h
  refine r_putI c247_2 s1 ?_
  refine r_aload_n c247_5 rfl ?_
  refine r_aload_n c247_6 rfl ?_
  refine r_iload_n c247_7 rfl ?_
  obtain ⟨s2, h⟩ := h
  exact r_call c247_8 rfl rfl (Nat.le_of_ble_eq_true rfl) (okc_r rfl rfl s2) h
theorem t247_11 {d : Nat} {l0 : Nat} {l1 : Int} {l2 : Int} {t0 : Nat} {t1 : Int} {M : Mem} {K : KK} {Q : RR → Mem → KK → Prop} (h : (¬ t1 = (0 : Int) → Wp d 247 19 [vR l0, vI l1, vI l2, vU, vU, vU, vU] [vI (0 : Int), vR t0] M K Q) ∧ (¬ (¬ t1 = (0 : Int)) → Wp d 247 19 [vR l0, vI l1, vI l2, vU, vU, vU, vU] [vI (1 : Int), vR t0] M K Q)) : Wp d 247 11 [vR l0, vI l1, vI l2, vU, vU, vU, vU] [vI t1, vR t0] M K Q := by
  refine r_ifP (P := ¬ t1 = (0 : Int)) c247_11 rfl (fun hc => ?_) (fun hc => ?_)
  · replace h := h.1 hc
    refine r_iconst c247_18 ?_
    exact h
  · replace h := h.2 hc
    refine r_iconst c247_14 ?_
    refine r_goto c247_15 ?_
    exact h
theorem t247_19 {d : Nat} {l0 : Nat} {l1 : Int} {l2 : Int} {t0 : Nat} {t1 : Int} {M : Mem} {K : KK} {Q : RR → Mem → KK → Prop} (h : isO K.1 t0 12 = true ∧ Wm d 152 [vR t0, vI t1, vI (1 : Int), vI (0 : Int)] M K (Bk d 247 21 24 152 [vR l0, vI l1, vI l2, vU, vU, vU, vU] [] Q)) : Wp (d + 1) 247 19 [vR l0, vI l1, vI l2, vU, vU, vU, vU] [vI t1, vR t0] M K Q := by
  refine r_iconst c247_19 ?_
  refine r_iconst c247_20 ?_
  obtain ⟨s1, h⟩ := h
  exact r_call c247_21 rfl rfl (Nat.le_of_ble_eq_true rfl) (okc_r rfl rfl s1) h
theorem t247_24 {d : Nat} {l0 : Nat} {l1 : Int} {l2 : Int} {t0 : Int} {M : Mem} {K : KK} {Q : RR → Mem → KK → Prop} (h : (¬ t0 = (0 : Int) → Wp (d + 1) 247 50 [vR l0, vI l1, vI l2, vU, vU, vU, vU] [] M K Q) ∧ (¬ (¬ t0 = (0 : Int)) → Wm d 153 [vI l2, vI (0 : Int), vI (1 : Int)] M K (Bk d 247 31 34 153 [vR l0, vI l1, vI l2, vU, vU, vU, vU] [vR l0] Q))) : Wp (d + 1) 247 24 [vR l0, vI l1, vI l2, vU, vU, vU, vU] [vI t0] M K Q := by
  refine r_ifP (P := ¬ t0 = (0 : Int)) c247_24 rfl (fun hc => ?_) (fun hc => ?_)
  · replace h := h.1 hc
    exact h
  · replace h := h.2 hc
    refine r_aload_n c247_27 rfl ?_
    refine r_iload_n c247_28 rfl ?_
    refine r_iconst c247_29 ?_
    refine r_iconst c247_30 ?_
    exact r_call c247_31 rfl rfl (Nat.le_of_ble_eq_true rfl) (okc_s rfl rfl rfl) h
theorem t247_34 {d : Nat} {l0 : Nat} {l1 : Int} {l2 : Int} {t0 : Nat} {t1 : Int} {M : Mem} {K : KK} {Q : RR → Mem → KK → Prop} (h : (¬ t1 = (0 : Int) → Wp d 247 42 [vR l0, vI l1, vI l2, vU, vU, vU, vU] [vI (0 : Int), vR t0] M K Q) ∧ (¬ (¬ t1 = (0 : Int)) → Wp d 247 42 [vR l0, vI l1, vI l2, vU, vU, vU, vU] [vI (1 : Int), vR t0] M K Q)) : Wp d 247 34 [vR l0, vI l1, vI l2, vU, vU, vU, vU] [vI t1, vR t0] M K Q := by
  refine r_ifP (P := ¬ t1 = (0 : Int)) c247_34 rfl (fun hc => ?_) (fun hc => ?_)
  · replace h := h.1 hc
    refine r_iconst c247_41 ?_
    exact h
  · replace h := h.2 hc
    refine r_iconst c247_37 ?_
    refine r_goto c247_38 ?_
    exact h
theorem t247_42 {d : Nat} {l0 : Nat} {l1 : Int} {l2 : Int} {t0 : Nat} {t1 : Int} {M : Mem} {K : KK} {Q : RR → Mem → KK → Prop} (h : isO K.1 t0 12 = true ∧ Wm d 152 [vR t0, vI t1, vI (2 : Int), vI (1 : Int)] M K (Bk d 247 44 47 152 [vR l0, vI l1, vI l2, vU, vU, vU, vU] [] Q)) : Wp (d + 1) 247 42 [vR l0, vI l1, vI l2, vU, vU, vU, vU] [vI t1, vR t0] M K Q := by
  refine r_iconst c247_42 ?_
  refine r_iconst c247_43 ?_
  obtain ⟨s1, h⟩ := h
  exact r_call c247_44 rfl rfl (Nat.le_of_ble_eq_true rfl) (okc_r rfl rfl s1) h
theorem t247_47 {d : Nat} {l0 : Nat} {l1 : Int} {l2 : Int} {t0 : Int} {M : Mem} {K : KK} {Q : RR → Mem → KK → Prop} (h : (t0 = (0 : Int) → Wp d 247 60 [vR l0, vI l1, vI l2, vI (-1 : Int), vI (-1 : Int), vI (0 : Int), vU] [] M K Q) ∧ (¬ (t0 = (0 : Int)) → Wp d 247 50 [vR l0, vI l1, vI l2, vU, vU, vU, vU] [] M K Q)) : Wp d 247 47 [vR l0, vI l1, vI l2, vU, vU, vU, vU] [vI t0] M K Q := by
  refine r_ifP (P := t0 = (0 : Int)) c247_47 rfl (fun hc => ?_) (fun hc => ?_)
  · replace h := h.1 hc
    refine r_iconst c247_52 ?_
    refine r_istore_n c247_53 (Nat.le_of_ble_eq_true rfl) ?_
    refine r_iconst c247_54 ?_
    refine r_istore c247_55 (Nat.le_of_ble_eq_true rfl) ?_
    refine r_iconst c247_57 ?_
    refine r_istore c247_58 (Nat.le_of_ble_eq_true rfl) ?_
    exact h
  · replace h := h.2 hc
    exact h
theorem t247_50 {d : Nat} {l0 : Nat} {l1 : Int} {l2 : Int} {M : Mem} {K : KK} {Q : RR → Mem → KK → Prop} (h : Q (.inl (some (vI (0 : Int)))) M K) : Wp d 247 50 [vR l0, vI l1, vI l2, vU, vU, vU, vU] [] M K Q := by
  refine r_iconst c247_50 ?_
  exact r_iret c247_51 (Or.inl rfl) h
theorem t247_60 {d : Nat} {l0 : Nat} {l1 : Int} {l2 : Int} {l3 : Int} {l4 : Int} {l5 : Int} {l6 : PV} {M : Mem} {K : KK} {Q : RR → Mem → KK → Prop} (h : isO K.1 l0 12 = true ∧ ∃ b2 : Nat, (M l0 20) = (b2 : Int) ∧ 0 < b2 ∧ (Nat.ble 30 (tg b2) = true ∧ isO K.1 b2 (tg b2) = true) ∧ (0 ≤ l1 ∧ l1 < (ln b2 : Int)) ∧ ∃ b7 : Nat, (M b2 (Int.toNat l1)) = (b7 : Int) ∧ 0 < b7 ∧ isO K.1 b7 20 = true ∧ (0 ≤ (0 : Int) ∧ (0 : Int) < (ln b7 : Int)) ∧ isO K.1 l0 12 = true ∧ ∃ b13 : Nat, (M l0 12) = (b13 : Int) ∧ 0 < b13 ∧ isO K.1 b13 20 = true ∧ (0 ≤ (0 : Int) ∧ (0 : Int) < (ln b13 : Int)) ∧ ((M b13 (Int.toNat (0 : Int))) < (w32 (l5 + (M b7 (Int.toNat (0 : Int))))) → (¬ l2 = (0 : Int) → Wp (d + 1) 247 148 [vR l0, vI l1, vI l2, vI l3, vI l4, vI l5, l6] [vI l4] M K Q) ∧ (¬ (¬ l2 = (0 : Int)) → Wp (d + 1) 247 148 [vR l0, vI l1, vI l2, vI l3, vI l4, vI l5, l6] [vI l3] M K Q)) ∧ (¬ ((M b13 (Int.toNat (0 : Int))) < (w32 (l5 + (M b7 (Int.toNat (0 : Int)))))) → isO K.1 l0 12 = true ∧ ∃ b19 : Nat, (M l0 31) = (b19 : Int) ∧ 0 < b19 ∧ isO K.1 b19 20 = true ∧ (0 ≤ (w32 ((6 : Int) + l1)) ∧ (w32 ((6 : Int) + l1)) < (ln b19 : Int)) ∧ isO K.1 l0 12 = true ∧ ∃ b25 : Nat, (M l0 31) = (b25 : Int) ∧ 0 < b25 ∧ isO K.1 l0 12 = true ∧ Wm d 193 [vR l0, vR b25] M K (Bk d 247 98 101 193 [vR l0, vI l1, vI l2, vI l3, vI l4, vI l5, l6] [vI (M b19 (Int.toNat (w32 ((6 : Int) + l1)))), vI l5, vI l1, vR l0] Q))) : Wp (d + 1) 247 60 [vR l0, vI l1, vI l2, vI l3, vI l4, vI l5, l6] [] M K Q := by
  refine r_iload c247_60 rfl ?_
  refine r_aload_n c247_62 rfl ?_
  obtain ⟨s1, h⟩ := h
  obtain ⟨b2, h⟩ := h
  obtain ⟨s3, h⟩ := h
  obtain ⟨s4, h⟩ := h
  refine r_getR c247_63 s1 s3 s4 ?_
  refine r_iload_n c247_66 rfl ?_
  obtain ⟨s5, h⟩ := h
  obtain ⟨s6, h⟩ := h
  obtain ⟨b7, h⟩ := h
  obtain ⟨s8, h⟩ := h
  obtain ⟨s9, h⟩ := h
  refine r_aa c247_67 s5 s6 s8 s9 ?_
  refine r_iconst c247_68 ?_
  obtain ⟨s10, h⟩ := h
  obtain ⟨s11, h⟩ := h
  refine r_ia c247_69 s10 s11 ?_
  refine r_iadd c247_70 ?_
  refine r_aload_n c247_71 rfl ?_
  obtain ⟨s12, h⟩ := h
  obtain ⟨b13, h⟩ := h
  obtain ⟨s14, h⟩ := h
  obtain ⟨s15, h⟩ := h
  refine r_getR c247_72 s12 s14 s15 ?_
  refine r_iconst c247_75 ?_
  obtain ⟨s16, h⟩ := h
  obtain ⟨s17, h⟩ := h
  refine r_ia c247_76 s16 s17 ?_
  refine r_icmpP (P := (M b13 (Int.toNat (0 : Int))) < (w32 (l5 + (M b7 (Int.toNat (0 : Int)))))) c247_77 rfl (fun hc => ?_) (fun hc => ?_)
  · replace h := h.1 hc
    refine r_iload_n c247_138 rfl ?_
    refine r_ifP (P := ¬ l2 = (0 : Int)) c247_139 rfl (fun hc => ?_) (fun hc => ?_)
    · replace h := h.1 hc
      refine r_iload c247_146 rfl ?_
      exact h
    · replace h := h.2 hc
      refine r_iload_n c247_142 rfl ?_
      refine r_goto c247_143 ?_
      exact h
  · replace h := h.2 hc
    refine r_aload_n c247_80 rfl ?_
    refine r_iload_n c247_81 rfl ?_
    refine r_iload c247_82 rfl ?_
    refine r_aload_n c247_84 rfl ?_
    obtain ⟨s18, h⟩ := h
    obtain ⟨b19, h⟩ := h
    obtain ⟨s20, h⟩ := h
    obtain ⟨s21, h⟩ := h
    refine r_getR c247_85 s18 s20 s21 ?_
    refine r_bipush c247_88 ?_
    refine r_iload_n c247_90 rfl ?_
    refine r_iadd c247_91 ?_
    obtain ⟨s22, h⟩ := h
    obtain ⟨s23, h⟩ := h
    refine r_ia c247_92 s22 s23 ?_
    refine r_aload_n c247_93 rfl ?_
    refine r_aload_n c247_94 rfl ?_
    obtain ⟨s24, h⟩ := h
    obtain ⟨b25, h⟩ := h
    obtain ⟨s26, h⟩ := h
    obtain ⟨s27, h⟩ := h
    refine r_getR c247_95 s24 s26 s27 ?_
    obtain ⟨s28, h⟩ := h
    exact r_call c247_98 rfl rfl (Nat.le_of_ble_eq_true rfl) (okc_r rfl rfl s28) h
theorem t247_101 {d : Nat} {l0 : Nat} {l1 : Int} {l2 : Int} {l3 : Int} {l4 : Int} {l5 : Int} {l6 : PV} {t0 : Nat} {t1 : Int} {t2 : Int} {t3 : Int} {t4 : Int} {M : Mem} {K : KK} {Q : RR → Mem → KK → Prop} (h : isO K.1 l0 12 = true ∧ ∃ b2 : Nat, (M l0 31) = (b2 : Int) ∧ 0 < b2 ∧ isO K.1 b2 20 = true ∧ (0 ≤ (24 : Int) ∧ (24 : Int) < (ln b2 : Int)) ∧ isO K.1 t0 12 = true ∧ Wm d 194 [vR t0, vI t1, vI t2, vI t3, vI t4, vI (0 : Int), vI (0 : Int), vI (M b2 (Int.toNat (24 : Int)))] M K (Bk d 247 110 113 194 [vR l0, vI l1, vI l2, vI l3, vI l4, vI l5, l6] [] Q)) : Wp (d + 1) 247 101 [vR l0, vI l1, vI l2, vI l3, vI l4, vI l5, l6] [vI t4, vI t3, vI t2, vI t1, vR t0] M K Q := by
  refine r_iconst c247_101 ?_
  refine r_iconst c247_102 ?_
  refine r_aload_n c247_103 rfl ?_
  obtain ⟨s1, h⟩ := h
  obtain ⟨b2, h⟩ := h
  obtain ⟨s3, h⟩ := h
  obtain ⟨s4, h⟩ := h
  refine r_getR c247_104 s1 s3 s4 ?_
  refine r_bipush c247_107 ?_
  obtain ⟨s5, h⟩ := h
  obtain ⟨s6, h⟩ := h
  refine r_ia c247_109 s5 s6 ?_
  obtain ⟨s7, h⟩ := h
  exact r_call c247_110 rfl rfl (Nat.le_of_ble_eq_true rfl) (okc_r rfl rfl s7) h
theorem t247_113 {d : Nat} {l0 : Nat} {l1 : Int} {l2 : Int} {l3 : Int} {l4 : Int} {l5 : Int} {l6 : PV} {t0 : Int} {M : Mem} {K : KK} {Q : RR → Mem → KK → Prop} (h : (l4 < t0 → Wp d 247 132 [vR l0, vI l1, vI l2, vI l5, vI t0, vI l5, vI t0] [] M K Q) ∧ (¬ (l4 < t0) → Wp d 247 132 [vR l0, vI l1, vI l2, vI l3, vI l4, vI l5, vI t0] [] M K Q)) : Wp d 247 113 [vR l0, vI l1, vI l2, vI l3, vI l4, vI l5, l6] [vI t0] M K Q := by
  refine r_istore c247_113 (Nat.le_of_ble_eq_true rfl) ?_
  refine r_iload c247_115 rfl ?_
  refine r_iload c247_117 rfl ?_
  refine r_icmpP (P := l4 < t0) c247_119 rfl (fun hc => ?_) (fun hc => ?_)
  · replace h := h.1 hc
    refine r_iload c247_125 rfl ?_
    refine r_istore_n c247_127 (Nat.le_of_ble_eq_true rfl) ?_
    refine r_iload c247_128 rfl ?_
    refine r_istore c247_130 (Nat.le_of_ble_eq_true rfl) ?_
    exact h
  · replace h := h.2 hc
    refine r_goto c247_122 ?_
    exact h
theorem t247_132 {d : Nat} {l0 : Nat} {l1 : Int} {l2 : Int} {l3 : Int} {l4 : Int} {l5 : Int} {l6 : Int} {M : Mem} {K : KK} {Q : RR → Mem → KK → Prop} (h : Wp d 247 60 [vR l0, vI l1, vI l2, vI l3, vI l4, vI (w32 (l5 + 1)), vI l6] [] M K Q) : Wp d 247 132 [vR l0, vI l1, vI l2, vI l3, vI l4, vI l5, vI l6] [] M K Q := by
  refine r_iinc c247_132 rfl ?_
  refine r_goto c247_135 ?_
  exact h
theorem t247_148 {d : Nat} {l0 : Nat} {l1 : Int} {l2 : Int} {l3 : Int} {l4 : Int} {l5 : Int} {l6 : PV} {t0 : Int} {M : Mem} {K : KK} {Q : RR → Mem → KK → Prop} (h : Q (.inl (some (vI t0))) M K) : Wp d 247 148 [vR l0, vI l1, vI l2, vI l3, vI l4, vI l5, l6] [vI t0] M K Q := by
  exact r_iret c247_148 (Or.inl rfl) h
theorem t248_0 {d : Nat} {l0 : Nat} {l1 : Int} {M : Mem} {K : KK} {Q : RR → Mem → KK → Prop} (h : isO K.1 l0 12 = true ∧ isO K.1 l0 12 = true ∧ isO K.1 l0 12 = true ∧ l1 ≠ 0 ∧ Q (.inl (some (vI (Int.tmod (jand (jshr ((mset M l0 47 (w32 ((w32 ((M l0 47) * (1103515245 : Int))) + (12345 : Int)))) l0 47) (16 : Int)) (32767 : Int)) l1)))) (mset M l0 47 (w32 ((w32 ((M l0 47) * (1103515245 : Int))) + (12345 : Int)))) K) : Wp d 248 0 [vR l0, vI l1] [] M K Q := by
  refine r_aload_n c248_0 rfl ?_
  refine r_aload_n c248_1 rfl ?_
  obtain ⟨s1, h⟩ := h
  refine r_getI c248_2 s1 ?_
  refine r_ldcw c248_5 ?_
  refine r_imul c248_8 ?_
  refine r_sipush c248_9 ?_
  refine r_iadd c248_12 ?_
  obtain ⟨s2, h⟩ := h
  refine r_putI c248_13 s2 ?_
  refine r_aload_n c248_16 rfl ?_
  obtain ⟨s3, h⟩ := h
  refine r_getI c248_17 s3 ?_
  refine r_bipush c248_20 ?_
  refine r_ishr c248_22 ?_
  refine r_sipush c248_23 ?_
  refine r_iand c248_26 ?_
  refine r_iload_n c248_27 rfl ?_
  obtain ⟨s4, h⟩ := h
  refine r_irem c248_28 s4 ?_
  exact r_iret c248_29 (Or.inl rfl) h
theorem t249_0 {d : Nat} {l0 : Nat} {l1 : Int} {l2 : Int} {l3 : Int} {l4 : Int} {M : Mem} {K : KK} {Q : RR → Mem → KK → Prop} (h : isO K.1 l0 12 = true ∧ ∃ b2 : Nat, (M l0 31) = (b2 : Int) ∧ 0 < b2 ∧ isO K.1 l0 12 = true ∧ ∃ b6 : Nat, (M l0 32) = (b6 : Int) ∧ 0 < b6 ∧ Wm d 178 [vR b2, vR b6] M K (Bk d 249 8 11 178 [vR l0, vI l1, vI l2, vI l3, vI l4, vU, vU] [] Q)) : Wp (d + 1) 249 0 [vR l0, vI l1, vI l2, vI l3, vI l4, vU, vU] [] M K Q := by
  refine r_aload_n c249_0 rfl ?_
  obtain ⟨s1, h⟩ := h
  obtain ⟨b2, h⟩ := h
  obtain ⟨s3, h⟩ := h
  obtain ⟨s4, h⟩ := h
  refine r_getR c249_1 s1 s3 s4 ?_
  refine r_aload_n c249_4 rfl ?_
  obtain ⟨s5, h⟩ := h
  obtain ⟨b6, h⟩ := h
  obtain ⟨s7, h⟩ := h
  obtain ⟨s8, h⟩ := h
  refine r_getR c249_5 s5 s7 s8 ?_
  exact r_call c249_8 rfl rfl (Nat.le_of_ble_eq_true rfl) (okc_s rfl rfl rfl) h
theorem t249_11 {d : Nat} {l0 : Nat} {l1 : Int} {l2 : Int} {l3 : Int} {l4 : Int} {M : Mem} {K : KK} {Q : RR → Mem → KK → Prop} (h : isO K.1 l0 12 = true ∧ isO K.1 l0 12 = true ∧ isO K.1 l0 12 = true ∧ Wp d 249 29 [vR l0, vI l1, vI l2, vI l3, vI l4, vI (0 : Int), vU] [] (mset (mset (mset M l0 47 l1) l0 48 (0 : Int)) l0 49 (0 : Int)) K Q) : Wp d 249 11 [vR l0, vI l1, vI l2, vI l3, vI l4, vU, vU] [] M K Q := by
  refine r_aload_n c249_11 rfl ?_
  refine r_iload_n c249_12 rfl ?_
  obtain ⟨s1, h⟩ := h
  refine r_putI c249_13 s1 ?_
  refine r_aload_n c249_16 rfl ?_
  refine r_iconst c249_17 ?_
  obtain ⟨s2, h⟩ := h
  refine r_putI c249_18 s2 ?_
  refine r_aload_n c249_21 rfl ?_
  refine r_iconst c249_22 ?_
  obtain ⟨s3, h⟩ := h
  refine r_putI c249_23 s3 ?_
  refine r_iconst c249_26 ?_
  refine r_istore c249_27 (Nat.le_of_ble_eq_true rfl) ?_
  exact h
theorem t249_29 {d : Nat} {l0 : Nat} {l1 : Int} {l2 : Int} {l3 : Int} {l4 : Int} {l5 : Int} {l6 : PV} {M : Mem} {K : KK} {Q : RR → Mem → KK → Prop} (h : (l2 ≤ l5 → Q (.inl none) M K) ∧ (¬ (l2 ≤ l5) → isO K.1 l0 12 = true ∧ Wm d 248 [vR l0, vI (16 : Int)] M K (Bk d 249 38 41 248 [vR l0, vI l1, vI l2, vI l3, vI l4, vI l5, l6] [] Q))) : Wp (d + 1) 249 29 [vR l0, vI l1, vI l2, vI l3, vI l4, vI l5, l6] [] M K Q := by
  refine r_iload c249_29 rfl ?_
  refine r_iload_n c249_31 rfl ?_
  refine r_icmpP (P := l2 ≤ l5) c249_32 rfl (fun hc => ?_) (fun hc => ?_)
  · replace h := h.1 hc
    exact r_ret c249_162 h
  · replace h := h.2 hc
    refine r_aload_n c249_35 rfl ?_
    refine r_bipush c249_36 ?_
    obtain ⟨s1, h⟩ := h
    exact r_call c249_38 rfl rfl (Nat.le_of_ble_eq_true rfl) (okc_r rfl rfl s1) h
theorem t249_41 {d : Nat} {l0 : Nat} {l1 : Int} {l2 : Int} {l3 : Int} {l4 : Int} {l5 : Int} {l6 : PV} {t0 : Int} {M : Mem} {K : KK} {Q : RR → Mem → KK → Prop} (h : (l3 ≤ t0 → Wp d 249 50 [vR l0, vI l1, vI l2, vI l3, vI l4, vI l5, l6] [vI (0 : Int)] M K Q) ∧ (¬ (l3 ≤ t0) → Wp d 249 50 [vR l0, vI l1, vI l2, vI l3, vI l4, vI l5, l6] [vI (1 : Int)] M K Q)) : Wp d 249 41 [vR l0, vI l1, vI l2, vI l3, vI l4, vI l5, l6] [vI t0] M K Q := by
  refine r_iload_n c249_41 rfl ?_
  refine r_icmpP (P := l3 ≤ t0) c249_42 rfl (fun hc => ?_) (fun hc => ?_)
  · replace h := h.1 hc
    refine r_iconst c249_49 ?_
    exact h
  · replace h := h.2 hc
    refine r_iconst c249_45 ?_
    refine r_goto c249_46 ?_
    exact h
theorem t249_50 {d : Nat} {l0 : Nat} {l1 : Int} {l2 : Int} {l3 : Int} {l4 : Int} {l5 : Int} {l6 : PV} {t0 : Int} {M : Mem} {K : KK} {Q : RR → Mem → KK → Prop} (h : isO K.1 l0 12 = true ∧ ∃ b2 : Nat, (M l0 32) = (b2 : Int) ∧ 0 < b2 ∧ (t0 = (0 : Int) → Wp (d + 1) 249 73 [vR l0, vI l1, vI l2, vI l3, vI l4, vI l5, vI t0] [vI (-1 : Int), vI (26 : Int), vR b2] M K Q) ∧ (¬ (t0 = (0 : Int)) → isO K.1 l0 12 = true ∧ Wm d 248 [vR l0, vI (10 : Int)] M K (Bk d 249 66 69 248 [vR l0, vI l1, vI l2, vI l3, vI l4, vI l5, vI t0] [vI (26 : Int), vR b2] Q))) : Wp (d + 1) 249 50 [vR l0, vI l1, vI l2, vI l3, vI l4, vI l5, l6] [vI t0] M K Q := by
  refine r_istore c249_50 (Nat.le_of_ble_eq_true rfl) ?_
  refine r_aload_n c249_52 rfl ?_
  obtain ⟨s1, h⟩ := h
  obtain ⟨b2, h⟩ := h
  obtain ⟨s3, h⟩ := h
  obtain ⟨s4, h⟩ := h
  refine r_getR c249_53 s1 s3 s4 ?_
  refine r_bipush c249_56 ?_
  refine r_iload c249_58 rfl ?_
  refine r_ifP (P := t0 = (0 : Int)) c249_60 rfl (fun hc => ?_) (fun hc => ?_)
  · replace h := h.1 hc
    refine r_iconst c249_72 ?_
    exact h
  · replace h := h.2 hc
    refine r_aload_n c249_63 rfl ?_
    refine r_bipush c249_64 ?_
    obtain ⟨s5, h⟩ := h
    exact r_call c249_66 rfl rfl (Nat.le_of_ble_eq_true rfl) (okc_r rfl rfl s5) h
theorem t249_69 {d : Nat} {l0 : Nat} {l1 : Int} {l2 : Int} {l3 : Int} {l4 : Int} {l5 : Int} {l6 : Int} {t0 : Nat} {t1 : Int} {t2 : Int} {M : Mem} {K : KK} {Q : RR → Mem → KK → Prop} (h : Wp d 249 73 [vR l0, vI l1, vI l2, vI l3, vI l4, vI l5, vI l6] [vI t2, vI t1, vR t0] M K Q) : Wp d 249 69 [vR l0, vI l1, vI l2, vI l3, vI l4, vI l5, vI l6] [vI t2, vI t1, vR t0] M K Q := by
  refine r_goto c249_69 ?_
  exact h
theorem t249_73 {d : Nat} {l0 : Nat} {l1 : Int} {l2 : Int} {l3 : Int} {l4 : Int} {l5 : Int} {l6 : Int} {t0 : Nat} {t1 : Int} {t2 : Int} {M : Mem} {K : KK} {Q : RR → Mem → KK → Prop} (h : isO K.1 t0 20 = true ∧ (0 ≤ t1 ∧ t1 < (ln t0 : Int)) ∧ isO K.1 l0 12 = true ∧ (l6 = (0 : Int) → Wp d 249 89 [vR l0, vI l1, vI l2, vI l3, vI l4, vI l5, vI l6] [vI (0 : Int), vI ((mset M t0 (Int.toNat t1) t2) l0 49), vR l0] (mset M t0 (Int.toNat t1) t2) K Q) ∧ (¬ (l6 = (0 : Int)) → Wp d 249 89 [vR l0, vI l1, vI l2, vI l3, vI l4, vI l5, vI l6] [vI (1 : Int), vI ((mset M t0 (Int.toNat t1) t2) l0 49), vR l0] (mset M t0 (Int.toNat t1) t2) K Q)) : Wp d 249 73 [vR l0, vI l1, vI l2, vI l3, vI l4, vI l5, vI l6] [vI t2, vI t1, vR t0] M K Q := by
  obtain ⟨s1, h⟩ := h
  obtain ⟨s2, h⟩ := h
  refine r_ias c249_73 s1 s2 ?_
  refine r_aload_n c249_74 rfl ?_
  refine r_dupr c249_75 ?_
  obtain ⟨s3, h⟩ := h
  refine r_getI c249_76 s3 ?_
  refine r_iload c249_79 rfl ?_
  refine r_ifP (P := l6 = (0 : Int)) c249_81 rfl (fun hc => ?_) (fun hc => ?_)
  · replace h := h.1 hc
    refine r_iconst c249_88 ?_
    exact h
  · replace h := h.2 hc
    refine r_iconst c249_84 ?_
    refine r_goto c249_85 ?_
    exact h
theorem t249_89 {d : Nat} {l0 : Nat} {l1 : Int} {l2 : Int} {l3 : Int} {l4 : Int} {l5 : Int} {l6 : Int} {t0 : Nat} {t1 : Int} {t2 : Int} {M : Mem} {K : KK} {Q : RR → Mem → KK → Prop} (h : isO K.1 t0 12 = true ∧ isO K.1 l0 12 = true ∧ Wm d 248 [vR l0, vI (16 : Int)] (mset M t0 49 (w32 (t1 + t2))) K (Bk d 249 96 99 248 [vR l0, vI l1, vI l2, vI l3, vI l4, vI l5, vI l6] [] Q)) : Wp (d + 1) 249 89 [vR l0, vI l1, vI l2, vI l3, vI l4, vI l5, vI l6] [vI t2, vI t1, vR t0] M K Q := by
  refine r_iadd c249_89 ?_
  obtain ⟨s1, h⟩ := h
  refine r_putI c249_90 s1 ?_
  refine r_aload_n c249_93 rfl ?_
  refine r_bipush c249_94 ?_
  obtain ⟨s2, h⟩ := h
  exact r_call c249_96 rfl rfl (Nat.le_of_ble_eq_true rfl) (okc_r rfl rfl s2) h
theorem t249_99 {d : Nat} {l0 : Nat} {l1 : Int} {l2 : Int} {l3 : Int} {l4 : Int} {l5 : Int} {l6 : Int} {t0 : Int} {M : Mem} {K : KK} {Q : RR → Mem → KK → Prop} (h : (l4 ≤ t0 → Wp (d + 1) 249 148 [vR l0, vI l1, vI l2, vI l3, vI l4, vI l5, vI l6] [] M K Q) ∧ (¬ (l4 ≤ t0) → isO K.1 l0 12 = true ∧ ∃ b2 : Nat, (M l0 12) = (b2 : Int) ∧ 0 < b2 ∧ isO K.1 b2 20 = true ∧ (0 ≤ (0 : Int) ∧ (0 : Int) < (ln b2 : Int)) ∧ ((M b2 (Int.toNat (0 : Int))) ≤ (0 : Int) → Wp (d + 1) 249 148 [vR l0, vI l1, vI l2, vI l3, vI l4, vI l5, vI l6] [] M K Q) ∧ (¬ ((M b2 (Int.toNat (0 : Int))) ≤ (0 : Int)) → isO K.1 l0 12 = true ∧ isO K.1 l0 12 = true ∧ ∃ b9 : Nat, (M l0 32) = (b9 : Int) ∧ 0 < b9 ∧ isO K.1 l0 12 = true ∧ ∃ b13 : Nat, (M l0 12) = (b13 : Int) ∧ 0 < b13 ∧ isO K.1 b13 20 = true ∧ (0 ≤ (0 : Int) ∧ (0 : Int) < (ln b13 : Int)) ∧ isO K.1 l0 12 = true ∧ Wm d 248 [vR l0, vI (M b13 (Int.toNat (0 : Int)))] M K (Bk d 249 130 133 248 [vR l0, vI l1, vI l2, vI l3, vI l4, vI l5, vI l6] [vR b9, vR l0, vI (M l0 48), vR l0] Q)))) : Wp (d + 1) 249 99 [vR l0, vI l1, vI l2, vI l3, vI l4, vI l5, vI l6] [vI t0] M K Q := by
  refine r_iload c249_99 rfl ?_
  refine r_icmpP (P := l4 ≤ t0) c249_101 rfl (fun hc => ?_) (fun hc => ?_)
  · replace h := h.1 hc
    exact h
  · replace h := h.2 hc
    refine r_aload_n c249_104 rfl ?_
    obtain ⟨s1, h⟩ := h
    obtain ⟨b2, h⟩ := h
    obtain ⟨s3, h⟩ := h
    obtain ⟨s4, h⟩ := h
    refine r_getR c249_105 s1 s3 s4 ?_
    refine r_iconst c249_108 ?_
    obtain ⟨s5, h⟩ := h
    obtain ⟨s6, h⟩ := h
    refine r_ia c249_109 s5 s6 ?_
    refine r_ifP (P := (M b2 (Int.toNat (0 : Int))) ≤ (0 : Int)) c249_110 rfl (fun hc => ?_) (fun hc => ?_)
    · replace h := h.1 hc
      exact h
    · replace h := h.2 hc
      refine r_aload_n c249_113 rfl ?_
      refine r_dupr c249_114 ?_
      obtain ⟨s7, h⟩ := h
      refine r_getI c249_115 s7 ?_
      refine r_aload_n c249_118 rfl ?_
      refine r_aload_n c249_119 rfl ?_
      obtain ⟨s8, h⟩ := h
      obtain ⟨b9, h⟩ := h
      obtain ⟨s10, h⟩ := h
      obtain ⟨s11, h⟩ := h
      refine r_getR c249_120 s8 s10 s11 ?_
      refine r_aload_n c249_123 rfl ?_
      refine r_aload_n c249_124 rfl ?_
      obtain ⟨s12, h⟩ := h
      obtain ⟨b13, h⟩ := h
      obtain ⟨s14, h⟩ := h
      obtain ⟨s15, h⟩ := h
      refine r_getR c249_125 s12 s14 s15 ?_
      refine r_iconst c249_128 ?_
      obtain ⟨s16, h⟩ := h
      obtain ⟨s17, h⟩ := h
      refine r_ia c249_129 s16 s17 ?_
      obtain ⟨s18, h⟩ := h
      exact r_call c249_130 rfl rfl (Nat.le_of_ble_eq_true rfl) (okc_r rfl rfl s18) h
theorem t249_133 {d : Nat} {l0 : Nat} {l1 : Int} {l2 : Int} {l3 : Int} {l4 : Int} {l5 : Int} {l6 : Int} {t0 : Nat} {t1 : Int} {t2 : Nat} {t3 : Nat} {t4 : Int} {M : Mem} {K : KK} {Q : RR → Mem → KK → Prop} (h : isO K.1 t2 12 = true ∧ Wm d 199 [vR t2, vR t3, vI t4] M K (Bk d 249 133 136 199 [vR l0, vI l1, vI l2, vI l3, vI l4, vI l5, vI l6] [vI t1, vR t0] Q)) : Wp (d + 1) 249 133 [vR l0, vI l1, vI l2, vI l3, vI l4, vI l5, vI l6] [vI t4, vR t3, vR t2, vI t1, vR t0] M K Q := by
  obtain ⟨s1, h⟩ := h
  exact r_call c249_133 rfl rfl (Nat.le_of_ble_eq_true rfl) (okc_r rfl rfl s1) h
theorem t249_136 {d : Nat} {l0 : Nat} {l1 : Int} {l2 : Int} {l3 : Int} {l4 : Int} {l5 : Int} {l6 : Int} {t0 : Nat} {t1 : Int} {t2 : Int} {M : Mem} {K : KK} {Q : RR → Mem → KK → Prop} (h : (t2 = (0 : Int) → Wp d 249 144 [vR l0, vI l1, vI l2, vI l3, vI l4, vI l5, vI l6] [vI (0 : Int), vI t1, vR t0] M K Q) ∧ (¬ (t2 = (0 : Int)) → Wp d 249 144 [vR l0, vI l1, vI l2, vI l3, vI l4, vI l5, vI l6] [vI (1 : Int), vI t1, vR t0] M K Q)) : Wp d 249 136 [vR l0, vI l1, vI l2, vI l3, vI l4, vI l5, vI l6] [vI t2, vI t1, vR t0] M K Q := by
  refine r_ifP (P := t2 = (0 : Int)) c249_136 rfl (fun hc => ?_) (fun hc => ?_)
  · replace h := h.1 hc
    refine r_iconst c249_143 ?_
    exact h
  · replace h := h.2 hc
    refine r_iconst c249_139 ?_
    refine r_goto c249_140 ?_
    exact h
theorem t249_144 {d : Nat} {l0 : Nat} {l1 : Int} {l2 : Int} {l3 : Int} {l4 : Int} {l5 : Int} {l6 : Int} {t0 : Nat} {t1 : Int} {t2 : Int} {M : Mem} {K : KK} {Q : RR → Mem → KK → Prop} (h : isO K.1 t0 12 = true ∧ Wp d 249 148 [vR l0, vI l1, vI l2, vI l3, vI l4, vI l5, vI l6] [] (mset M t0 48 (w32 (t1 + t2))) K Q) : Wp d 249 144 [vR l0, vI l1, vI l2, vI l3, vI l4, vI l5, vI l6] [vI t2, vI t1, vR t0] M K Q := by
  refine r_iadd c249_144 ?_
  obtain ⟨s1, h⟩ := h
  refine r_putI c249_145 s1 ?_
  exact h
theorem t249_148 {d : Nat} {l0 : Nat} {l1 : Int} {l2 : Int} {l3 : Int} {l4 : Int} {l5 : Int} {l6 : Int} {M : Mem} {K : KK} {Q : RR → Mem → KK → Prop} (h : isO K.1 l0 12 = true ∧ ∃ b2 : Nat, (M l0 32) = (b2 : Int) ∧ 0 < b2 ∧ isO K.1 l0 12 = true ∧ Wm d 198 [vR l0, vR b2] M K (Bk d 249 153 156 198 [vR l0, vI l1, vI l2, vI l3, vI l4, vI l5, vI l6] [] Q)) : Wp (d + 1) 249 148 [vR l0, vI l1, vI l2, vI l3, vI l4, vI l5, vI l6] [] M K Q := by
  refine r_aload_n c249_148 rfl ?_
  refine r_aload_n c249_149 rfl ?_
  obtain ⟨s1, h⟩ := h
  obtain ⟨b2, h⟩ := h
  obtain ⟨s3, h⟩ := h
  obtain ⟨s4, h⟩ := h
  refine r_getR c249_150 s1 s3 s4 ?_
  obtain ⟨s5, h⟩ := h
  exact r_call c249_153 rfl rfl (Nat.le_of_ble_eq_true rfl) (okc_r rfl rfl s5) h
theorem t249_156 {d : Nat} {l0 : Nat} {l1 : Int} {l2 : Int} {l3 : Int} {l4 : Int} {l5 : Int} {l6 : Int} {M : Mem} {K : KK} {Q : RR → Mem → KK → Prop} (h : Wp d 249 29 [vR l0, vI l1, vI l2, vI l3, vI l4, vI (w32 (l5 + 1)), vI l6] [] M K Q) : Wp d 249 156 [vR l0, vI l1, vI l2, vI l3, vI l4, vI l5, vI l6] [] M K Q := by
  refine r_iinc c249_156 rfl ?_
  refine r_goto c249_159 ?_
  exact h
theorem t250_0 {d : Nat} {l0 : Int} {l1 : Int} {l2 : Int} {M : Mem} {K : KK} {Q : RR → Mem → KK → Prop} (h : Wm d 153 [vI l0, vI (1 : Int), vI (96 : Int)] M K (Bk d 250 4 7 153 [vI l0, vI l1, vI l2] [] Q)) : Wp (d + 1) 250 0 [vI l0, vI l1, vI l2] [] M K Q := by
  refine r_iload_n c250_0 rfl ?_
  refine r_iconst c250_1 ?_
  refine r_bipush c250_2 ?_
  exact r_call c250_4 rfl rfl (Nat.le_of_ble_eq_true rfl) (okc_s rfl rfl rfl) h
theorem t250_7 {d : Nat} {l0 : Int} {l1 : Int} {l2 : Int} {t0 : Int} {M : Mem} {K : KK} {Q : RR → Mem → KK → Prop} (h : (t0 = (0 : Int) → Wp (d + 1) 250 34 [vI l0, vI l1, vI l2] [] M K Q) ∧ (¬ (t0 = (0 : Int)) → Wm d 153 [vI l1, vI (0 : Int), vI (16 : Int)] M K (Bk d 250 14 17 153 [vI l0, vI l1, vI l2] [] Q))) : Wp (d + 1) 250 7 [vI l0, vI l1, vI l2] [vI t0] M K Q := by
  refine r_ifP (P := t0 = (0 : Int)) c250_7 rfl (fun hc => ?_) (fun hc => ?_)
  · replace h := h.1 hc
    exact h
  · replace h := h.2 hc
    refine r_iload_n c250_10 rfl ?_
    refine r_iconst c250_11 ?_
    refine r_bipush c250_12 ?_
    exact r_call c250_14 rfl rfl (Nat.le_of_ble_eq_true rfl) (okc_s rfl rfl rfl) h
theorem t250_17 {d : Nat} {l0 : Int} {l1 : Int} {l2 : Int} {t0 : Int} {M : Mem} {K : KK} {Q : RR → Mem → KK → Prop} (h : (t0 = (0 : Int) → Wp (d + 1) 250 34 [vI l0, vI l1, vI l2] [] M K Q) ∧ (¬ (t0 = (0 : Int)) → Wm d 153 [vI l2, vI (0 : Int), vI (16 : Int)] M K (Bk d 250 24 27 153 [vI l0, vI l1, vI l2] [] Q))) : Wp (d + 1) 250 17 [vI l0, vI l1, vI l2] [vI t0] M K Q := by
  refine r_ifP (P := t0 = (0 : Int)) c250_17 rfl (fun hc => ?_) (fun hc => ?_)
  · replace h := h.1 hc
    exact h
  · replace h := h.2 hc
    refine r_iload_n c250_20 rfl ?_
    refine r_iconst c250_21 ?_
    refine r_bipush c250_22 ?_
    exact r_call c250_24 rfl rfl (Nat.le_of_ble_eq_true rfl) (okc_s rfl rfl rfl) h
theorem t250_27 {d : Nat} {l0 : Int} {l1 : Int} {l2 : Int} {t0 : Int} {M : Mem} {K : KK} {Q : RR → Mem → KK → Prop} (h : (t0 = (0 : Int) → Wp d 250 34 [vI l0, vI l1, vI l2] [] M K Q) ∧ (¬ (t0 = (0 : Int)) → Wp d 250 35 [vI l0, vI l1, vI l2] [vI (1 : Int)] M K Q)) : Wp d 250 27 [vI l0, vI l1, vI l2] [vI t0] M K Q := by
  refine r_ifP (P := t0 = (0 : Int)) c250_27 rfl (fun hc => ?_) (fun hc => ?_)
  · replace h := h.1 hc
    exact h
  · replace h := h.2 hc
    refine r_iconst c250_30 ?_
    refine r_goto c250_31 ?_
    exact h
theorem t250_34 {d : Nat} {l0 : Int} {l1 : Int} {l2 : Int} {M : Mem} {K : KK} {Q : RR → Mem → KK → Prop} (h : Wp d 250 35 [vI l0, vI l1, vI l2] [vI (0 : Int)] M K Q) : Wp d 250 34 [vI l0, vI l1, vI l2] [] M K Q := by
  refine r_iconst c250_34 ?_
  exact h
theorem t250_35 {d : Nat} {l0 : Int} {l1 : Int} {l2 : Int} {t0 : Int} {M : Mem} {K : KK} {Q : RR → Mem → KK → Prop} (h : (t0 = 0 ∨ t0 = 1) ∧ Q (.inl (some (vI t0))) M K) : Wp d 250 35 [vI l0, vI l1, vI l2] [vI t0] M K Q := by
  obtain ⟨s1, h⟩ := h
  exact r_iret c250_35 (Or.inr s1) h
theorem t251_0 {d : Nat} {l0 : Nat} {l1 : Int} {l2 : Int} {l3 : Int} {l4 : Int} {l5 : Int} {M : Mem} {K : KK} {Q : RR → Mem → KK → Prop} (h : isO K.1 l0 12 = true ∧ Wm d 250 [vI l2, vI l3, vI l4] (mset M l0 0 (0 : Int)) K (Bk d 251 10 13 250 [vR l0, vI l1, vI l2, vI l3, vI l4, vI l5] [vR l0] Q)) : Wp (d + 1) 251 0 [vR l0, vI l1, vI l2, vI l3, vI l4, vI l5] [] M K Q := by
  refine r_aload_n c251_0 rfl ?_
  refine r_iconst c251_1 ?_
  obtain ⟨s1, h⟩ := h
  refine r_putI c251_2 s1 ?_
  refine r_aload_n c251_5 rfl ?_
  refine r_iload_n c251_6 rfl ?_
  refine r_iload_n c251_7 rfl ?_
  refine r_iload c251_8 rfl ?_
  exact r_call c251_10 rfl rfl (Nat.le_of_ble_eq_true rfl) (okc_s rfl rfl rfl) h
theorem t251_13 {d : Nat} {l0 : Nat} {l1 : Int} {l2 : Int} {l3 : Int} {l4 : Int} {l5 : Int} {t0 : Nat} {t1 : Int} {M : Mem} {K : KK} {Q : RR → Mem → KK → Prop} (h : (t1 = (0 : Int) → Wp (d + 1) 251 26 [vR l0, vI l1, vI l2, vI l3, vI l4, vI l5] [vR t0] M K Q) ∧ (¬ (t1 = (0 : Int)) → Wm d 153 [vI l5, vI (0 : Int), vI (3 : Int)] M K (Bk d 251 20 23 153 [vR l0, vI l1, vI l2, vI l3, vI l4, vI l5] [vR t0] Q))) : Wp (d + 1) 251 13 [vR l0, vI l1, vI l2, vI l3, vI l4, vI l5] [vI t1, vR t0] M K Q := by
  refine r_ifP (P := t1 = (0 : Int)) c251_13 rfl (fun hc => ?_) (fun hc => ?_)
  · replace h := h.1 hc
    exact h
  · replace h := h.2 hc
    refine r_iload c251_16 rfl ?_
    refine r_iconst c251_18 ?_
    refine r_iconst c251_19 ?_
    exact r_call c251_20 rfl rfl (Nat.le_of_ble_eq_true rfl) (okc_s rfl rfl rfl) h
theorem t251_23 {d : Nat} {l0 : Nat} {l1 : Int} {l2 : Int} {l3 : Int} {l4 : Int} {l5 : Int} {t0 : Nat} {t1 : Int} {M : Mem} {K : KK} {Q : RR → Mem → KK → Prop} (h : (¬ t1 = (0 : Int) → Wp d 251 31 [vR l0, vI l1, vI l2, vI l3, vI l4, vI l5] [vI (0 : Int), vR t0] M K Q) ∧ (¬ (¬ t1 = (0 : Int)) → Wp d 251 26 [vR l0, vI l1, vI l2, vI l3, vI l4, vI l5] [vR t0] M K Q)) : Wp d 251 23 [vR l0, vI l1, vI l2, vI l3, vI l4, vI l5] [vI t1, vR t0] M K Q := by
  refine r_ifP (P := ¬ t1 = (0 : Int)) c251_23 rfl (fun hc => ?_) (fun hc => ?_)
  · replace h := h.1 hc
    refine r_iconst c251_30 ?_
    exact h
  · replace h := h.2 hc
    exact h
theorem t251_26 {d : Nat} {l0 : Nat} {l1 : Int} {l2 : Int} {l3 : Int} {l4 : Int} {l5 : Int} {t0 : Nat} {M : Mem} {K : KK} {Q : RR → Mem → KK → Prop} (h : Wp d 251 31 [vR l0, vI l1, vI l2, vI l3, vI l4, vI l5] [vI (1 : Int), vR t0] M K Q) : Wp d 251 26 [vR l0, vI l1, vI l2, vI l3, vI l4, vI l5] [vR t0] M K Q := by
  refine r_iconst c251_26 ?_
  refine r_goto c251_27 ?_
  exact h
theorem t251_31 {d : Nat} {l0 : Nat} {l1 : Int} {l2 : Int} {l3 : Int} {l4 : Int} {l5 : Int} {t0 : Nat} {t1 : Int} {M : Mem} {K : KK} {Q : RR → Mem → KK → Prop} (h : isO K.1 t0 12 = true ∧ Wm d 152 [vR t0, vI t1, vI (1 : Int), vI (1 : Int)] M K (Bk d 251 33 36 152 [vR l0, vI l1, vI l2, vI l3, vI l4, vI l5] [] Q)) : Wp (d + 1) 251 31 [vR l0, vI l1, vI l2, vI l3, vI l4, vI l5] [vI t1, vR t0] M K Q := by
  refine r_iconst c251_31 ?_
  refine r_iconst c251_32 ?_
  obtain ⟨s1, h⟩ := h
  exact r_call c251_33 rfl rfl (Nat.le_of_ble_eq_true rfl) (okc_r rfl rfl s1) h
theorem t251_36 {d : Nat} {l0 : Nat} {l1 : Int} {l2 : Int} {l3 : Int} {l4 : Int} {l5 : Int} {t0 : Int} {M : Mem} {K : KK} {Q : RR → Mem → KK → Prop} (h : (t0 = (0 : Int) → isO K.1 l0 12 = true ∧ Wm d 249 [vR l0, vI l1, vI l2, vI l3, vI l4] M K (Bk d 251 47 50 249 [vR l0, vI l1, vI l2, vI l3, vI l4, vI l5] [] Q)) ∧ (¬ (t0 = (0 : Int)) → Q (.inl (some (vI (0 : Int)))) M K)) : Wp (d + 1) 251 36 [vR l0, vI l1, vI l2, vI l3, vI l4, vI l5] [vI t0] M K Q := by
  refine r_ifP (P := t0 = (0 : Int)) c251_36 rfl (fun hc => ?_) (fun hc => ?_)
  · replace h := h.1 hc
    refine r_aload_n c251_41 rfl ?_
    refine r_iload_n c251_42 rfl ?_
    refine r_iload_n c251_43 rfl ?_
    refine r_iload_n c251_44 rfl ?_
    refine r_iload c251_45 rfl ?_
    obtain ⟨s1, h⟩ := h
    exact r_call c251_47 rfl rfl (Nat.le_of_ble_eq_true rfl) (okc_r rfl rfl s1) h
  · replace h := h.2 hc
    refine r_iconst c251_39 ?_
    exact r_iret c251_40 (Or.inl rfl) h
theorem t251_50 {d : Nat} {l0 : Nat} {l1 : Int} {l2 : Int} {l3 : Int} {l4 : Int} {l5 : Int} {M : Mem} {K : KK} {Q : RR → Mem → KK → Prop} (h : Wp d 251 (tsw 52 51 0 2 #[28, 37, 46] l5) [vR l0, vI l1, vI l2, vI l3, vI l4, vI l5] [] M K Q) : Wp d 251 50 [vR l0, vI l1, vI l2, vI l3, vI l4, vI l5] [] M K Q := by
  refine r_iload c251_50 rfl ?_
  refine r_tsw c251_52 ?_
  exact h
theorem t251_80 {d : Nat} {l0 : Nat} {l1 : Int} {l2 : Int} {l3 : Int} {l4 : Int} {l5 : Int} {M : Mem} {K : KK} {Q : RR → Mem → KK → Prop} (h : isO K.1 l0 12 = true ∧ ∃ b2 : Nat, (M l0 32) = (b2 : Int) ∧ 0 < b2 ∧ isO K.1 l0 12 = true ∧ Wm d 204 [vR l0, vR b2] M K (Bk d 251 85 88 204 [vR l0, vI l1, vI l2, vI l3, vI l4, vI l5] [] Q)) : Wp (d + 1) 251 80 [vR l0, vI l1, vI l2, vI l3, vI l4, vI l5] [] M K Q := by
  refine r_aload_n c251_80 rfl ?_
  refine r_aload_n c251_81 rfl ?_
  obtain ⟨s1, h⟩ := h
  obtain ⟨b2, h⟩ := h
  obtain ⟨s3, h⟩ := h
  obtain ⟨s4, h⟩ := h
  refine r_getR c251_82 s1 s3 s4 ?_
  obtain ⟨s5, h⟩ := h
  exact r_call c251_85 rfl rfl (Nat.le_of_ble_eq_true rfl) (okc_r rfl rfl s5) h
theorem t251_88 {d : Nat} {l0 : Nat} {l1 : Int} {l2 : Int} {l3 : Int} {l4 : Int} {l5 : Int} {t0 : Int} {M : Mem} {K : KK} {Q : RR → Mem → KK → Prop} (h : Q (.inl (some (vI t0))) M K) : Wp d 251 88 [vR l0, vI l1, vI l2, vI l3, vI l4, vI l5] [vI t0] M K Q := by
  exact r_iret c251_88 (Or.inl rfl) h
theorem t251_89 {d : Nat} {l0 : Nat} {l1 : Int} {l2 : Int} {l3 : Int} {l4 : Int} {l5 : Int} {M : Mem} {K : KK} {Q : RR → Mem → KK → Prop} (h : isO K.1 l0 12 = true ∧ ∃ b2 : Nat, (M l0 32) = (b2 : Int) ∧ 0 < b2 ∧ isO K.1 l0 12 = true ∧ Wm d 205 [vR l0, vR b2] M K (Bk d 251 94 97 205 [vR l0, vI l1, vI l2, vI l3, vI l4, vI l5] [] Q)) : Wp (d + 1) 251 89 [vR l0, vI l1, vI l2, vI l3, vI l4, vI l5] [] M K Q := by
  refine r_aload_n c251_89 rfl ?_
  refine r_aload_n c251_90 rfl ?_
  obtain ⟨s1, h⟩ := h
  obtain ⟨b2, h⟩ := h
  obtain ⟨s3, h⟩ := h
  obtain ⟨s4, h⟩ := h
  refine r_getR c251_91 s1 s3 s4 ?_
  obtain ⟨s5, h⟩ := h
  exact r_call c251_94 rfl rfl (Nat.le_of_ble_eq_true rfl) (okc_r rfl rfl s5) h
theorem t251_97 {d : Nat} {l0 : Nat} {l1 : Int} {l2 : Int} {l3 : Int} {l4 : Int} {l5 : Int} {t0 : Int} {M : Mem} {K : KK} {Q : RR → Mem → KK → Prop} (h : Q (.inl (some (vI t0))) M K) : Wp d 251 97 [vR l0, vI l1, vI l2, vI l3, vI l4, vI l5] [vI t0] M K Q := by
  exact r_iret c251_97 (Or.inl rfl) h
theorem t251_98 {d : Nat} {l0 : Nat} {l1 : Int} {l2 : Int} {l3 : Int} {l4 : Int} {l5 : Int} {M : Mem} {K : KK} {Q : RR → Mem → KK → Prop} (h : isO K.1 l0 12 = true ∧ Q (.inl (some (vI (M l0 48)))) M K) : Wp d 251 98 [vR l0, vI l1, vI l2, vI l3, vI l4, vI l5] [] M K Q := by
  refine r_aload_n c251_98 rfl ?_
  obtain ⟨s1, h⟩ := h
  refine r_getI c251_99 s1 ?_
  exact r_iret c251_102 (Or.inl rfl) h
theorem t251_103 {d : Nat} {l0 : Nat} {l1 : Int} {l2 : Int} {l3 : Int} {l4 : Int} {l5 : Int} {M : Mem} {K : KK} {Q : RR → Mem → KK → Prop} (h : isO K.1 l0 12 = true ∧ Q (.inl (some (vI (M l0 49)))) M K) : Wp d 251 103 [vR l0, vI l1, vI l2, vI l3, vI l4, vI l5] [] M K Q := by
  refine r_aload_n c251_103 rfl ?_
  obtain ⟨s1, h⟩ := h
  refine r_getI c251_104 s1 ?_
  exact r_iret c251_107 (Or.inl rfl) h
theorem t252_0 {d : Nat} {l0 : Nat} {l1 : Int} {l2 : Int} {l3 : Int} {l4 : Int} {l5 : Int} {l6 : Int} {l7 : Int} {M : Mem} {K : KK} {Q : RR → Mem → KK → Prop} (h : isO K.1 l0 12 = true ∧ Wm d 153 [vI l2, vI (1 : Int), vI (20 : Int)] (mset M l0 0 (0 : Int)) K (Bk d 252 10 13 153 [vR l0, vI l1, vI l2, vI l3, vI l4, vI l5, vI l6, vI l7, vU, vU, vU, vU, vU] [vR l0] Q)) : Wp (d + 1) 252 0 [vR l0, vI l1, vI l2, vI l3, vI l4, vI l5, vI l6, vI l7, vU, vU, vU, vU, vU] [] M K Q := by
  refine r_aload_n c252_0 rfl ?_
  refine r_iconst c252_1 ?_
  obtain ⟨s1, h⟩ := h
  refine r_putI c252_2 s1 ?_
  refine r_aload_n c252_5 rfl ?_
  refine r_iload_n c252_6 rfl ?_
  refine r_iconst c252_7 ?_
  refine r_bipush c252_8 ?_
  exact r_call c252_10 rfl rfl (Nat.le_of_ble_eq_true rfl) (okc_s rfl rfl rfl) h
theorem t252_13 {d : Nat} {l0 : Nat} {l1 : Int} {l2 : Int} {l3 : Int} {l4 : Int} {l5 : Int} {l6 : Int} {l7 : Int} {t0 : Nat} {t1 : Int} {M : Mem} {K : KK} {Q : RR → Mem → KK → Prop} (h : (t1 = (0 : Int) → Wp (d + 1) 252 46 [vR l0, vI l1, vI l2, vI l3, vI l4, vI l5, vI l6, vI l7, vU, vU, vU, vU, vU] [vR t0] M K Q) ∧ (¬ (t1 = (0 : Int)) → Wm d 250 [vI l3, vI l4, vI l5] M K (Bk d 252 21 24 250 [vR l0, vI l1, vI l2, vI l3, vI l4, vI l5, vI l6, vI l7, vU, vU, vU, vU, vU] [vR t0] Q))) : Wp (d + 1) 252 13 [vR l0, vI l1, vI l2, vI l3, vI l4, vI l5, vI l6, vI l7, vU, vU, vU, vU, vU] [vI t1, vR t0] M K Q := by
  refine r_ifP (P := t1 = (0 : Int)) c252_13 rfl (fun hc => ?_) (fun hc => ?_)
  · replace h := h.1 hc
    exact h
  · replace h := h.2 hc
    refine r_iload_n c252_16 rfl ?_
    refine r_iload c252_17 rfl ?_
    refine r_iload c252_19 rfl ?_
    exact r_call c252_21 rfl rfl (Nat.le_of_ble_eq_true rfl) (okc_s rfl rfl rfl) h
theorem t252_24 {d : Nat} {l0 : Nat} {l1 : Int} {l2 : Int} {l3 : Int} {l4 : Int} {l5 : Int} {l6 : Int} {l7 : Int} {t0 : Nat} {t1 : Int} {M : Mem} {K : KK} {Q : RR → Mem → KK → Prop} (h : (t1 = (0 : Int) → Wp (d + 1) 252 46 [vR l0, vI l1, vI l2, vI l3, vI l4, vI l5, vI l6, vI l7, vU, vU, vU, vU, vU] [vR t0] M K Q) ∧ (¬ (t1 = (0 : Int)) → Wm d 153 [vI l6, vI (0 : Int), vI (2 : Int)] M K (Bk d 252 31 34 153 [vR l0, vI l1, vI l2, vI l3, vI l4, vI l5, vI l6, vI l7, vU, vU, vU, vU, vU] [vR t0] Q))) : Wp (d + 1) 252 24 [vR l0, vI l1, vI l2, vI l3, vI l4, vI l5, vI l6, vI l7, vU, vU, vU, vU, vU] [vI t1, vR t0] M K Q := by
  refine r_ifP (P := t1 = (0 : Int)) c252_24 rfl (fun hc => ?_) (fun hc => ?_)
  · replace h := h.1 hc
    exact h
  · replace h := h.2 hc
    refine r_iload c252_27 rfl ?_
    refine r_iconst c252_29 ?_
    refine r_iconst c252_30 ?_
    exact r_call c252_31 rfl rfl (Nat.le_of_ble_eq_true rfl) (okc_s rfl rfl rfl) h
theorem t252_34 {d : Nat} {l0 : Nat} {l1 : Int} {l2 : Int} {l3 : Int} {l4 : Int} {l5 : Int} {l6 : Int} {l7 : Int} {t0 : Nat} {t1 : Int} {M : Mem} {K : KK} {Q : RR → Mem → KK → Prop} (h : (t1 = (0 : Int) → Wp (d + 1) 252 46 [vR l0, vI l1, vI l2, vI l3, vI l4, vI l5, vI l6, vI l7, vU, vU, vU, vU, vU] [vR t0] M K Q) ∧ (¬ (t1 = (0 : Int)) → isO K.1 l0 12 = true ∧ Wm d 208 [vR l0, vI l7] M K (Bk d 252 40 43 208 [vR l0, vI l1, vI l2, vI l3, vI l4, vI l5, vI l6, vI l7, vU, vU, vU, vU, vU] [vR t0] Q))) : Wp (d + 1) 252 34 [vR l0, vI l1, vI l2, vI l3, vI l4, vI l5, vI l6, vI l7, vU, vU, vU, vU, vU] [vI t1, vR t0] M K Q := by
  refine r_ifP (P := t1 = (0 : Int)) c252_34 rfl (fun hc => ?_) (fun hc => ?_)
  · replace h := h.1 hc
    exact h
  · replace h := h.2 hc
    refine r_aload_n c252_37 rfl ?_
    refine r_iload c252_38 rfl ?_
    obtain ⟨s1, h⟩ := h
    exact r_call c252_40 rfl rfl (Nat.le_of_ble_eq_true rfl) (okc_r rfl rfl s1) h
theorem t252_43 {d : Nat} {l0 : Nat} {l1 : Int} {l2 : Int} {l3 : Int} {l4 : Int} {l5 : Int} {l6 : Int} {l7 : Int} {t0 : Nat} {t1 : Int} {M : Mem} {K : KK} {Q : RR → Mem → KK → Prop} (h : (¬ t1 = (0 : Int) → Wp d 252 51 [vR l0, vI l1, vI l2, vI l3, vI l4, vI l5, vI l6, vI l7, vU, vU, vU, vU, vU] [vI (0 : Int), vR t0] M K Q) ∧ (¬ (¬ t1 = (0 : Int)) → Wp d 252 46 [vR l0, vI l1, vI l2, vI l3, vI l4, vI l5, vI l6, vI l7, vU, vU, vU, vU, vU] [vR t0] M K Q)) : Wp d 252 43 [vR l0, vI l1, vI l2, vI l3, vI l4, vI l5, vI l6, vI l7, vU, vU, vU, vU, vU] [vI t1, vR t0] M K Q := by
  refine r_ifP (P := ¬ t1 = (0 : Int)) c252_43 rfl (fun hc => ?_) (fun hc => ?_)
  · replace h := h.1 hc
    refine r_iconst c252_50 ?_
    exact h
  · replace h := h.2 hc
    exact h
theorem t252_46 {d : Nat} {l0 : Nat} {l1 : Int} {l2 : Int} {l3 : Int} {l4 : Int} {l5 : Int} {l6 : Int} {l7 : Int} {t0 : Nat} {M : Mem} {K : KK} {Q : RR → Mem → KK → Prop} (h : Wp d 252 51 [vR l0, vI l1, vI l2, vI l3, vI l4, vI l5, vI l6, vI l7, vU, vU, vU, vU, vU] [vI (1 : Int), vR t0] M K Q) : Wp d 252 46 [vR l0, vI l1, vI l2, vI l3, vI l4, vI l5, vI l6, vI l7, vU, vU, vU, vU, vU] [vR t0] M K Q := by
  refine r_iconst c252_46 ?_
  refine r_goto c252_47 ?_
  exact h
theorem t252_51 {d : Nat} {l0 : Nat} {l1 : Int} {l2 : Int} {l3 : Int} {l4 : Int} {l5 : Int} {l6 : Int} {l7 : Int} {t0 : Nat} {t1 : Int} {M : Mem} {K : KK} {Q : RR → Mem → KK → Prop} (h : isO K.1 t0 12 = true ∧ Wm d 152 [vR t0, vI t1, vI (1 : Int), vI (1 : Int)] M K (Bk d 252 53 56 152 [vR l0, vI l1, vI l2, vI l3, vI l4, vI l5, vI l6, vI l7, vU, vU, vU, vU, vU] [] Q)) : Wp (d + 1) 252 51 [vR l0, vI l1, vI l2, vI l3, vI l4, vI l5, vI l6, vI l7, vU, vU, vU, vU, vU] [vI t1, vR t0] M K Q := by
  refine r_iconst c252_51 ?_
  refine r_iconst c252_52 ?_
  obtain ⟨s1, h⟩ := h
  exact r_call c252_53 rfl rfl (Nat.le_of_ble_eq_true rfl) (okc_r rfl rfl s1) h
theorem t252_56 {d : Nat} {l0 : Nat} {l1 : Int} {l2 : Int} {l3 : Int} {l4 : Int} {l5 : Int} {l6 : Int} {l7 : Int} {t0 : Int} {M : Mem} {K : KK} {Q : RR → Mem → KK → Prop} (h : (t0 = (0 : Int) → Wp d 252 73 [vR l0, vI l1, vI l2, vI l3, vI l4, vI l5, vI l6, vI l7, vI (-1 : Int), vI (0 : Int), vI (0 : Int), vI (0 : Int), vU] [] M K Q) ∧ (¬ (t0 = (0 : Int)) → Q (.inl (some (vI (0 : Int)))) M K)) : Wp d 252 56 [vR l0, vI l1, vI l2, vI l3, vI l4, vI l5, vI l6, vI l7, vU, vU, vU, vU, vU] [vI t0] M K Q := by
  refine r_ifP (P := t0 = (0 : Int)) c252_56 rfl (fun hc => ?_) (fun hc => ?_)
  · replace h := h.1 hc
    refine r_iconst c252_61 ?_
    refine r_istore c252_62 (Nat.le_of_ble_eq_true rfl) ?_
    refine r_iconst c252_64 ?_
    refine r_istore c252_65 (Nat.le_of_ble_eq_true rfl) ?_
    refine r_iconst c252_67 ?_
    refine r_istore c252_68 (Nat.le_of_ble_eq_true rfl) ?_
    refine r_iconst c252_70 ?_
    refine r_istore c252_71 (Nat.le_of_ble_eq_true rfl) ?_
    exact h
  · replace h := h.2 hc
    refine r_iconst c252_59 ?_
    exact r_iret c252_60 (Or.inl rfl) h
theorem t252_73 {d : Nat} {l0 : Nat} {l1 : Int} {l2 : Int} {l3 : Int} {l4 : Int} {l5 : Int} {l6 : Int} {l7 : Int} {l8 : Int} {l9 : Int} {l10 : Int} {l11 : Int} {l12 : PV} {M : Mem} {K : KK} {Q : RR → Mem → KK → Prop} (h : (l2 ≤ l11 → (¬ l6 = (0 : Int) → (¬ l6 = (1 : Int) → Wp (d + 1) 252 183 [vR l0, vI l1, vI l2, vI l3, vI l4, vI l5, vI l6, vI l7, vI l8, vI l9, vI l10, vI l11, l12] [vI l10] M K Q) ∧ (¬ (¬ l6 = (1 : Int)) → Wp (d + 1) 252 183 [vR l0, vI l1, vI l2, vI l3, vI l4, vI l5, vI l6, vI l7, vI l8, vI l9, vI l10, vI l11, l12] [vI l9] M K Q)) ∧ (¬ (¬ l6 = (0 : Int)) → Wp (d + 1) 252 183 [vR l0, vI l1, vI l2, vI l3, vI l4, vI l5, vI l6, vI l7, vI l8, vI l9, vI l10, vI l11, l12] [vI l8] M K Q)) ∧ (¬ (l2 ≤ l11) → isO K.1 l0 12 = true ∧ Wm d 249 [vR l0, vI (w32 (l1 + l11)), vI l3, vI l4, vI l5] M K (Bk d 252 89 92 249 [vR l0, vI l1, vI l2, vI l3, vI l4, vI l5, vI l6, vI l7, vI l8, vI l9, vI l10, vI l11, l12] [] Q))) : Wp (d + 1) 252 73 [vR l0, vI l1, vI l2, vI l3, vI l4, vI l5, vI l6, vI l7, vI l8, vI l9, vI l10, vI l11, l12] [] M K Q := by
  refine r_iload c252_73 rfl ?_
  refine r_iload_n c252_75 rfl ?_
  refine r_icmpP (P := l2 ≤ l11) c252_76 rfl (fun hc => ?_) (fun hc => ?_)
  · replace h := h.1 hc
    refine r_iload c252_160 rfl ?_
    refine r_ifP (P := ¬ l6 = (0 : Int)) c252_162 rfl (fun hc => ?_) (fun hc => ?_)
    · replace h := h.1 hc
      refine r_iload c252_170 rfl ?_
      refine r_iconst c252_172 ?_
      refine r_icmpP (P := ¬ l6 = (1 : Int)) c252_173 rfl (fun hc => ?_) (fun hc => ?_)
      · replace h := h.1 hc
        refine r_iload c252_181 rfl ?_
        exact h
      · replace h := h.2 hc
        refine r_iload c252_176 rfl ?_
        refine r_goto c252_178 ?_
        exact h
    · replace h := h.2 hc
      refine r_iload c252_165 rfl ?_
      refine r_goto c252_167 ?_
      exact h
  · replace h := h.2 hc
    refine r_aload_n c252_79 rfl ?_
    refine r_iload_n c252_80 rfl ?_
    refine r_iload c252_81 rfl ?_
    refine r_iadd c252_83 ?_
    refine r_iload_n c252_84 rfl ?_
    refine r_iload c252_85 rfl ?_
    refine r_iload c252_87 rfl ?_
    obtain ⟨s1, h⟩ := h
    exact r_call c252_89 rfl rfl (Nat.le_of_ble_eq_true rfl) (okc_r rfl rfl s1) h
theorem t252_92 {d : Nat} {l0 : Nat} {l1 : Int} {l2 : Int} {l3 : Int} {l4 : Int} {l5 : Int} {l6 : Int} {l7 : Int} {l8 : Int} {l9 : Int} {l10 : Int} {l11 : Int} {l12 : PV} {M : Mem} {K : KK} {Q : RR → Mem → KK → Prop} (h : isO K.1 l0 12 = true ∧ ∃ b2 : Nat, (M l0 32) = (b2 : Int) ∧ 0 < b2 ∧ isO K.1 l0 12 = true ∧ Wm d 204 [vR l0, vR b2] M K (Bk d 252 97 100 204 [vR l0, vI l1, vI l2, vI l3, vI l4, vI l5, vI l6, vI l7, vI l8, vI l9, vI l10, vI l11, l12] [] Q)) : Wp (d + 1) 252 92 [vR l0, vI l1, vI l2, vI l3, vI l4, vI l5, vI l6, vI l7, vI l8, vI l9, vI l10, vI l11, l12] [] M K Q := by
  refine r_aload_n c252_92 rfl ?_
  refine r_aload_n c252_93 rfl ?_
  obtain ⟨s1, h⟩ := h
  obtain ⟨b2, h⟩ := h
  obtain ⟨s3, h⟩ := h
  obtain ⟨s4, h⟩ := h
  refine r_getR c252_94 s1 s3 s4 ?_
  obtain ⟨s5, h⟩ := h
  exact r_call c252_97 rfl rfl (Nat.le_of_ble_eq_true rfl) (okc_r rfl rfl s5) h
theorem t252_100 {d : Nat} {l0 : Nat} {l1 : Int} {l2 : Int} {l3 : Int} {l4 : Int} {l5 : Int} {l6 : Int} {l7 : Int} {l8 : Int} {l9 : Int} {l10 : Int} {l11 : Int} {l12 : PV} {t0 : Int} {M : Mem} {K : KK} {Q : RR → Mem → KK → Prop} (h : (¬ l8 = (-1 : Int) → Wm d 154 [vI l8, vI t0] M K (Bk d 252 117 120 154 [vR l0, vI l1, vI l2, vI l3, vI l4, vI l5, vI l6, vI l7, vI l8, vI l9, vI l10, vI l11, vI t0] [] Q)) ∧ (¬ (¬ l8 = (-1 : Int)) → Wp (d + 1) 252 120 [vR l0, vI l1, vI l2, vI l3, vI l4, vI l5, vI l6, vI l7, vI l8, vI l9, vI l10, vI l11, vI t0] [vI t0] M K Q)) : Wp (d + 1) 252 100 [vR l0, vI l1, vI l2, vI l3, vI l4, vI l5, vI l6, vI l7, vI l8, vI l9, vI l10, vI l11, l12] [vI t0] M K Q := by
  refine r_istore c252_100 (Nat.le_of_ble_eq_true rfl) ?_
  refine r_iload c252_102 rfl ?_
  refine r_iconst c252_104 ?_
  refine r_icmpP (P := ¬ l8 = (-1 : Int)) c252_105 rfl (fun hc => ?_) (fun hc => ?_)
  · replace h := h.1 hc
    refine r_iload c252_113 rfl ?_
    refine r_iload c252_115 rfl ?_
    exact r_call c252_117 rfl rfl (Nat.le_of_ble_eq_true rfl) (okc_s rfl rfl rfl) h
  · replace h := h.2 hc
    refine r_iload c252_108 rfl ?_
    refine r_goto c252_110 ?_
    exact h
theorem t252_120 {d : Nat} {l0 : Nat} {l1 : Int} {l2 : Int} {l3 : Int} {l4 : Int} {l5 : Int} {l6 : Int} {l7 : Int} {l8 : Int} {l9 : Int} {l10 : Int} {l11 : Int} {l12 : Int} {t0 : Int} {M : Mem} {K : KK} {Q : RR → Mem → KK → Prop} (h : Wm d 155 [vI l9, vI l12] M K (Bk d 252 126 129 155 [vR l0, vI l1, vI l2, vI l3, vI l4, vI l5, vI l6, vI l7, vI t0, vI l9, vI l10, vI l11, vI l12] [] Q)) : Wp (d + 1) 252 120 [vR l0, vI l1, vI l2, vI l3, vI l4, vI l5, vI l6, vI l7, vI l8, vI l9, vI l10, vI l11, vI l12] [vI t0] M K Q := by
  refine r_istore c252_120 (Nat.le_of_ble_eq_true rfl) ?_
  refine r_iload c252_122 rfl ?_
  refine r_iload c252_124 rfl ?_
  exact r_call c252_126 rfl rfl (Nat.le_of_ble_eq_true rfl) (okc_s rfl rfl rfl) h
theorem t252_129 {d : Nat} {l0 : Nat} {l1 : Int} {l2 : Int} {l3 : Int} {l4 : Int} {l5 : Int} {l6 : Int} {l7 : Int} {l8 : Int} {l9 : Int} {l10 : Int} {l11 : Int} {l12 : Int} {t0 : Int} {M : Mem} {K : KK} {Q : RR → Mem → KK → Prop} (h : isO K.1 l0 12 = true ∧ ∃ b2 : Nat, (M l0 32) = (b2 : Int) ∧ 0 < b2 ∧ isO K.1 b2 20 = true ∧ (0 ≤ (w32 ((6 : Int) + l7)) ∧ (w32 ((6 : Int) + l7)) < (ln b2 : Int)) ∧ (¬ (M b2 (Int.toNat (w32 ((6 : Int) + l7)))) = (0 : Int) → Wp d 252 151 [vR l0, vI l1, vI l2, vI l3, vI l4, vI l5, vI l6, vI l7, vI l8, vI t0, vI l10, vI l11, vI l12] [vI (0 : Int), vI l10] M K Q) ∧ (¬ (¬ (M b2 (Int.toNat (w32 ((6 : Int) + l7)))) = (0 : Int)) → Wp d 252 151 [vR l0, vI l1, vI l2, vI l3, vI l4, vI l5, vI l6, vI l7, vI l8, vI t0, vI l10, vI l11, vI l12] [vI (1 : Int), vI l10] M K Q)) : Wp d 252 129 [vR l0, vI l1, vI l2, vI l3, vI l4, vI l5, vI l6, vI l7, vI l8, vI l9, vI l10, vI l11, vI l12] [vI t0] M K Q := by
  refine r_istore c252_129 (Nat.le_of_ble_eq_true rfl) ?_
  refine r_iload c252_131 rfl ?_
  refine r_aload_n c252_133 rfl ?_
  obtain ⟨s1, h⟩ := h
  obtain ⟨b2, h⟩ := h
  obtain ⟨s3, h⟩ := h
  obtain ⟨s4, h⟩ := h
  refine r_getR c252_134 s1 s3 s4 ?_
  refine r_bipush c252_137 ?_
  refine r_iload c252_139 rfl ?_
  refine r_iadd c252_141 ?_
  obtain ⟨s5, h⟩ := h
  obtain ⟨s6, h⟩ := h
  refine r_ia c252_142 s5 s6 ?_
  refine r_ifP (P := ¬ (M b2 (Int.toNat (w32 ((6 : Int) + l7)))) = (0 : Int)) c252_143 rfl (fun hc => ?_) (fun hc => ?_)
  · replace h := h.1 hc
    refine r_iconst c252_150 ?_
    exact h
  · replace h := h.2 hc
    refine r_iconst c252_146 ?_
    refine r_goto c252_147 ?_
    exact h
theorem t252_151 {d : Nat} {l0 : Nat} {l1 : Int} {l2 : Int} {l3 : Int} {l4 : Int} {l5 : Int} {l6 : Int} {l7 : Int} {l8 : Int} {l9 : Int} {l10 : Int} {l11 : Int} {l12 : Int} {t0 : Int} {t1 : Int} {M : Mem} {K : KK} {Q : RR → Mem → KK → Prop} (h : Wp d 252 73 [vR l0, vI l1, vI l2, vI l3, vI l4, vI l5, vI l6, vI l7, vI l8, vI l9, vI (w32 (t0 + t1)), vI (w32 (l11 + 1)), vI l12] [] M K Q) : Wp d 252 151 [vR l0, vI l1, vI l2, vI l3, vI l4, vI l5, vI l6, vI l7, vI l8, vI l9, vI l10, vI l11, vI l12] [vI t1, vI t0] M K Q := by
  refine r_iadd c252_151 ?_
  refine r_istore c252_152 (Nat.le_of_ble_eq_true rfl) ?_
  refine r_iinc c252_154 rfl ?_
  refine r_goto c252_157 ?_
  exact h
theorem t252_183 {d : Nat} {l0 : Nat} {l1 : Int} {l2 : Int} {l3 : Int} {l4 : Int} {l5 : Int} {l6 : Int} {l7 : Int} {l8 : Int} {l9 : Int} {l10 : Int} {l11 : Int} {l12 : PV} {t0 : Int} {M : Mem} {K : KK} {Q : RR → Mem → KK → Prop} (h : Q (.inl (some (vI t0))) M K) : Wp d 252 183 [vR l0, vI l1, vI l2, vI l3, vI l4, vI l5, vI l6, vI l7, vI l8, vI l9, vI l10, vI l11, l12] [vI t0] M K Q := by
  exact r_iret c252_183 (Or.inl rfl) h
theorem t253_0 {d : Nat} {l0 : Nat} {l1 : Nat} {l2 : Int} {l3 : Int} {M : Mem} {K : KK} {Q : RR → Mem → KK → Prop} (h : (¬ l3 = (0 : Int) → Wp d 253 11 [vR l0, vR l1, vI l2, vI l3] [] M K Q) ∧ (¬ (¬ l3 = (0 : Int)) → isO K.1 l0 12 = true ∧ isO K.1 l1 20 = true ∧ (0 ≤ (M l0 39) ∧ (M l0 39) < (ln l1 : Int)) ∧ Wp d 253 11 [vR l0, vR l1, vI l2, vI l3] [] (mset M l1 (Int.toNat (M l0 39)) l2) K Q)) : Wp d 253 0 [vR l0, vR l1, vI l2, vI l3] [] M K Q := by
  refine r_iload_n c253_0 rfl ?_
  refine r_ifP (P := ¬ l3 = (0 : Int)) c253_1 rfl (fun hc => ?_) (fun hc => ?_)
  · replace h := h.1 hc
    exact h
  · replace h := h.2 hc
    refine r_aload_n c253_4 rfl ?_
    refine r_aload_n c253_5 rfl ?_
    obtain ⟨s1, h⟩ := h
    refine r_getI c253_6 s1 ?_
    refine r_iload_n c253_9 rfl ?_
    obtain ⟨s2, h⟩ := h
    obtain ⟨s3, h⟩ := h
    refine r_ias c253_10 s2 s3 ?_
    exact h
theorem t253_11 {d : Nat} {l0 : Nat} {l1 : Nat} {l2 : Int} {l3 : Int} {M : Mem} {K : KK} {Q : RR → Mem → KK → Prop} (h : isO K.1 l0 12 = true ∧ isO K.1 l0 12 = true ∧ isO K.1 l0 12 = true ∧ isO K.1 l1 20 = true ∧ (0 ≤ (w32 (((mset M l0 39 (w32 ((M l0 39) + (1 : Int)))) l0 39) - (1 : Int))) ∧ (w32 (((mset M l0 39 (w32 ((M l0 39) + (1 : Int)))) l0 39) - (1 : Int))) < (ln l1 : Int)) ∧ Q (.inl (some (vI ((mset M l0 39 (w32 ((M l0 39) + (1 : Int)))) l1 (Int.toNat (w32 (((mset M l0 39 (w32 ((M l0 39) + (1 : Int)))) l0 39) - (1 : Int)))))))) (mset M l0 39 (w32 ((M l0 39) + (1 : Int)))) K) : Wp d 253 11 [vR l0, vR l1, vI l2, vI l3] [] M K Q := by
  refine r_aload_n c253_11 rfl ?_
  refine r_dupr c253_12 ?_
  obtain ⟨s1, h⟩ := h
  refine r_getI c253_13 s1 ?_
  refine r_iconst c253_16 ?_
  refine r_iadd c253_17 ?_
  obtain ⟨s2, h⟩ := h
  refine r_putI c253_18 s2 ?_
  refine r_aload_n c253_21 rfl ?_
  refine r_aload_n c253_22 rfl ?_
  obtain ⟨s3, h⟩ := h
  refine r_getI c253_23 s3 ?_
  refine r_iconst c253_26 ?_
  refine r_isub c253_27 ?_
  obtain ⟨s4, h⟩ := h
  obtain ⟨s5, h⟩ := h
  refine r_ia c253_28 s4 s5 ?_
  exact r_iret c253_29 (Or.inl rfl) h
theorem t254_0 {d : Nat} {l0 : Nat} {l1 : Nat} {l2 : Int} {M : Mem} {K : KK} {Q : RR → Mem → KK → Prop} (h : isO K.1 l0 12 = true ∧ isO K.1 l0 12 = true ∧ isO K.1 l0 12 = true ∧ Wm d 253 [vR l0, vR l1, vI ((mset M l0 39 (0 : Int)) l0 36), vI l2] (mset M l0 39 (0 : Int)) K (Bk d 254 13 16 253 [vR l0, vR l1, vI l2, vU, vU] [vR l0] Q)) : Wp (d + 1) 254 0 [vR l0, vR l1, vI l2, vU, vU] [] M K Q := by
  refine r_aload_n c254_0 rfl ?_
  refine r_iconst c254_1 ?_
  obtain ⟨s1, h⟩ := h
  refine r_putI c254_2 s1 ?_
  refine r_aload_n c254_5 rfl ?_
  refine r_aload_n c254_6 rfl ?_
  refine r_aload_n c254_7 rfl ?_
  refine r_aload_n c254_8 rfl ?_
  obtain ⟨s2, h⟩ := h
  refine r_getI c254_9 s2 ?_
  refine r_iload_n c254_12 rfl ?_
  obtain ⟨s3, h⟩ := h
  exact r_call c254_13 rfl rfl (Nat.le_of_ble_eq_true rfl) (okc_r rfl rfl s3) h
theorem t254_16 {d : Nat} {l0 : Nat} {l1 : Nat} {l2 : Int} {t0 : Nat} {t1 : Int} {M : Mem} {K : KK} {Q : RR → Mem → KK → Prop} (h : isO K.1 t0 12 = true ∧ Wp d 254 21 [vR l0, vR l1, vI l2, vI (0 : Int), vU] [] (mset M t0 36 t1) K Q) : Wp d 254 16 [vR l0, vR l1, vI l2, vU, vU] [vI t1, vR t0] M K Q := by
  obtain ⟨s1, h⟩ := h
  refine r_putI c254_16 s1 ?_
  refine r_iconst c254_19 ?_
  refine r_istore_n c254_20 (Nat.le_of_ble_eq_true rfl) ?_
  exact h
theorem t254_21 {d : Nat} {l0 : Nat} {l1 : Nat} {l2 : Int} {l3 : Int} {M : Mem} {K : KK} {Q : RR → Mem → KK → Prop} (h : ((27 : Int) ≤ l3 → Wp (d + 1) 254 53 [vR l0, vR l1, vI l2, vI (0 : Int), vU] [] M K Q) ∧ (¬ ((27 : Int) ≤ l3) → isO K.1 l0 12 = true ∧ ∃ b2 : Nat, (M l0 31) = (b2 : Int) ∧ 0 < b2 ∧ isO K.1 l0 12 = true ∧ ∃ b6 : Nat, (M l0 31) = (b6 : Int) ∧ 0 < b6 ∧ isO K.1 b6 20 = true ∧ (0 ≤ l3 ∧ l3 < (ln b6 : Int)) ∧ isO K.1 l0 12 = true ∧ Wm d 253 [vR l0, vR l1, vI (M b6 (Int.toNat l3)), vI l2] M K (Bk d 254 41 44 253 [vR l0, vR l1, vI l2, vI l3, vU] [vI l3, vR b2] Q))) : Wp (d + 1) 254 21 [vR l0, vR l1, vI l2, vI l3, vU] [] M K Q := by
  refine r_iload_n c254_21 rfl ?_
  refine r_bipush c254_22 ?_
  refine r_icmpP (P := (27 : Int) ≤ l3) c254_24 rfl (fun hc => ?_) (fun hc => ?_)
  · replace h := h.1 hc
    refine r_iconst c254_51 ?_
    refine r_istore_n c254_52 (Nat.le_of_ble_eq_true rfl) ?_
    exact h
  · replace h := h.2 hc
    refine r_aload_n c254_27 rfl ?_
    obtain ⟨s1, h⟩ := h
    obtain ⟨b2, h⟩ := h
    obtain ⟨s3, h⟩ := h
    obtain ⟨s4, h⟩ := h
    refine r_getR c254_28 s1 s3 s4 ?_
    refine r_iload_n c254_31 rfl ?_
    refine r_aload_n c254_32 rfl ?_
    refine r_aload_n c254_33 rfl ?_
    refine r_aload_n c254_34 rfl ?_
    obtain ⟨s5, h⟩ := h
    obtain ⟨b6, h⟩ := h
    obtain ⟨s7, h⟩ := h
    obtain ⟨s8, h⟩ := h
    refine r_getR c254_35 s5 s7 s8 ?_
    refine r_iload_n c254_38 rfl ?_
    obtain ⟨s9, h⟩ := h
    obtain ⟨s10, h⟩ := h
    refine r_ia c254_39 s9 s10 ?_
    refine r_iload_n c254_40 rfl ?_
    obtain ⟨s11, h⟩ := h
    exact r_call c254_41 rfl rfl (Nat.le_of_ble_eq_true rfl) (okc_r rfl rfl s11) h
theorem t254_44 {d : Nat} {l0 : Nat} {l1 : Nat} {l2 : Int} {l3 : Int} {t0 : Nat} {t1 : Int} {t2 : Int} {M : Mem} {K : KK} {Q : RR → Mem → KK → Prop} (h : isO K.1 t0 20 = true ∧ (0 ≤ t1 ∧ t1 < (ln t0 : Int)) ∧ Wp d 254 21 [vR l0, vR l1, vI l2, vI (w32 (l3 + 1)), vU] [] (mset M t0 (Int.toNat t1) t2) K Q) : Wp d 254 44 [vR l0, vR l1, vI l2, vI l3, vU] [vI t2, vI t1, vR t0] M K Q := by
  obtain ⟨s1, h⟩ := h
  obtain ⟨s2, h⟩ := h
  refine r_ias c254_44 s1 s2 ?_
  refine r_iinc c254_45 rfl ?_
  refine r_goto c254_48 ?_
  exact h
theorem t254_53 {d : Nat} {l0 : Nat} {l1 : Nat} {l2 : Int} {l3 : Int} {l4 : PV} {M : Mem} {K : KK} {Q : RR → Mem → KK → Prop} (h : ((16 : Int) ≤ l3 → Q (.inl none) M K) ∧ (¬ ((16 : Int) ≤ l3) → Wp d 254 62 [vR l0, vR l1, vI l2, vI l3, vI (0 : Int)] [] M K Q)) : Wp d 254 53 [vR l0, vR l1, vI l2, vI l3, l4] [] M K Q := by
  refine r_iload_n c254_53 rfl ?_
  refine r_bipush c254_54 ?_
  refine r_icmpP (P := (16 : Int) ≤ l3) c254_56 rfl (fun hc => ?_) (fun hc => ?_)
  · replace h := h.1 hc
    exact r_ret c254_105 h
  · replace h := h.2 hc
    refine r_iconst c254_59 ?_
    refine r_istore c254_60 (Nat.le_of_ble_eq_true rfl) ?_
    exact h
theorem t254_62 {d : Nat} {l0 : Nat} {l1 : Nat} {l2 : Int} {l3 : Int} {l4 : Int} {M : Mem} {K : KK} {Q : RR → Mem → KK → Prop} (h : ((27 : Int) ≤ l4 → Wp (d + 1) 254 53 [vR l0, vR l1, vI l2, vI (w32 (l3 + 1)), vI l4] [] M K Q) ∧ (¬ ((27 : Int) ≤ l4) → isO K.1 l0 12 = true ∧ ∃ b2 : Nat, (M l0 33) = (b2 : Int) ∧ 0 < b2 ∧ (Nat.ble 30 (tg b2) = true ∧ isO K.1 b2 (tg b2) = true) ∧ (0 ≤ l3 ∧ l3 < (ln b2 : Int)) ∧ ∃ b7 : Nat, (M b2 (Int.toNat l3)) = (b7 : Int) ∧ 0 < b7 ∧ isO K.1 l0 12 = true ∧ ∃ b11 : Nat, (M l0 33) = (b11 : Int) ∧ 0 < b11 ∧ (Nat.ble 30 (tg b11) = true ∧ isO K.1 b11 (tg b11) = true) ∧ (0 ≤ l3 ∧ l3 < (ln b11 : Int)) ∧ ∃ b16 : Nat, (M b11 (Int.toNat l3)) = (b16 : Int) ∧ 0 < b16 ∧ isO K.1 b16 20 = true ∧ (0 ≤ l4 ∧ l4 < (ln b16 : Int)) ∧ isO K.1 l0 12 = true ∧ Wm d 253 [vR l0, vR l1, vI (M b16 (Int.toNat l4)), vI l2] M K (Bk d 254 89 92 253 [vR l0, vR l1, vI l2, vI l3, vI l4] [vI l4, vR b7] Q))) : Wp (d + 1) 254 62 [vR l0, vR l1, vI l2, vI l3, vI l4] [] M K Q := by
  refine r_iload c254_62 rfl ?_
  refine r_bipush c254_64 ?_
  refine r_icmpP (P := (27 : Int) ≤ l4) c254_66 rfl (fun hc => ?_) (fun hc => ?_)
  · replace h := h.1 hc
    refine r_iinc c254_99 rfl ?_
    refine r_goto c254_102 ?_
    exact h
  · replace h := h.2 hc
    refine r_aload_n c254_69 rfl ?_
    obtain ⟨s1, h⟩ := h
    obtain ⟨b2, h⟩ := h
    obtain ⟨s3, h⟩ := h
    obtain ⟨s4, h⟩ := h
    refine r_getR c254_70 s1 s3 s4 ?_
    refine r_iload_n c254_73 rfl ?_
    obtain ⟨s5, h⟩ := h
    obtain ⟨s6, h⟩ := h
    obtain ⟨b7, h⟩ := h
    obtain ⟨s8, h⟩ := h
    obtain ⟨s9, h⟩ := h
    refine r_aa c254_74 s5 s6 s8 s9 ?_
    refine r_iload c254_75 rfl ?_
    refine r_aload_n c254_77 rfl ?_
    refine r_aload_n c254_78 rfl ?_
    refine r_aload_n c254_79 rfl ?_
    obtain ⟨s10, h⟩ := h
    obtain ⟨b11, h⟩ := h
    obtain ⟨s12, h⟩ := h
    obtain ⟨s13, h⟩ := h
    refine r_getR c254_80 s10 s12 s13 ?_
    refine r_iload_n c254_83 rfl ?_
    obtain ⟨s14, h⟩ := h
    obtain ⟨s15, h⟩ := h
    obtain ⟨b16, h⟩ := h
    obtain ⟨s17, h⟩ := h
    obtain ⟨s18, h⟩ := h
    refine r_aa c254_84 s14 s15 s17 s18 ?_
    refine r_iload c254_85 rfl ?_
    obtain ⟨s19, h⟩ := h
    obtain ⟨s20, h⟩ := h
    refine r_ia c254_87 s19 s20 ?_
    refine r_iload_n c254_88 rfl ?_
    obtain ⟨s21, h⟩ := h
    exact r_call c254_89 rfl rfl (Nat.le_of_ble_eq_true rfl) (okc_r rfl rfl s21) h
theorem t254_92 {d : Nat} {l0 : Nat} {l1 : Nat} {l2 : Int} {l3 : Int} {l4 : Int} {t0 : Nat} {t1 : Int} {t2 : Int} {M : Mem} {K : KK} {Q : RR → Mem → KK → Prop} (h : isO K.1 t0 20 = true ∧ (0 ≤ t1 ∧ t1 < (ln t0 : Int)) ∧ Wp d 254 62 [vR l0, vR l1, vI l2, vI l3, vI (w32 (l4 + 1))] [] (mset M t0 (Int.toNat t1) t2) K Q) : Wp d 254 92 [vR l0, vR l1, vI l2, vI l3, vI l4] [vI t2, vI t1, vR t0] M K Q := by
  obtain ⟨s1, h⟩ := h
  obtain ⟨s2, h⟩ := h
  refine r_ias c254_92 s1 s2 ?_
  refine r_iinc c254_93 rfl ?_
  refine r_goto c254_96 ?_
  exact h
theorem t255_0 {d : Nat} {l0 : Nat} {M : Mem} {K : KK} {Q : RR → Mem → KK → Prop} (h : isO K.1 l0 12 = true ∧ isO K.1 l0 12 = true ∧ (¬ ((mset M l0 0 (0 : Int)) l0 38) = (3 : Int) → isO K.1 l0 12 = true ∧ ∃ b4 : Nat, ((mset M l0 0 (0 : Int)) l0 34) = (b4 : Int) ∧ 0 < b4 ∧ isO K.1 l0 12 = true ∧ (Nat.ble 30 (tg b4) = true ∧ isO K.1 b4 (tg b4) = true) ∧ (0 ≤ ((mset M l0 0 (0 : Int)) l0 38) ∧ ((mset M l0 0 (0 : Int)) l0 38) < (ln b4 : Int)) ∧ ∃ b10 : Nat, ((mset M l0 0 (0 : Int)) b4 (Int.toNat ((mset M l0 0 (0 : Int)) l0 38))) = (b10 : Int) ∧ 0 < b10 ∧ isO K.1 l0 12 = true ∧ Wm d 254 [vR l0, vR b10, vI (0 : Int)] (mset M l0 0 (0 : Int)) K (Bk d 255 26 29 254 [vR l0] [] Q)) ∧ (¬ (¬ ((mset M l0 0 (0 : Int)) l0 38) = (3 : Int)) → Q (.inl (some (vI (-1 : Int)))) (mset M l0 0 (0 : Int)) K)) : Wp (d + 1) 255 0 [vR l0] [] M K Q := by
  refine r_aload_n c255_0 rfl ?_
  refine r_iconst c255_1 ?_
  obtain ⟨s1, h⟩ := h
  refine r_putI c255_2 s1 ?_
  refine r_aload_n c255_5 rfl ?_
  obtain ⟨s2, h⟩ := h
  refine r_getI c255_6 s2 ?_
  refine r_iconst c255_9 ?_
  refine r_icmpP (P := ¬ ((mset M l0 0 (0 : Int)) l0 38) = (3 : Int)) c255_10 rfl (fun hc => ?_) (fun hc => ?_)
  · replace h := h.1 hc
    refine r_aload_n c255_15 rfl ?_
    refine r_aload_n c255_16 rfl ?_
    obtain ⟨s3, h⟩ := h
    obtain ⟨b4, h⟩ := h
    obtain ⟨s5, h⟩ := h
    obtain ⟨s6, h⟩ := h
    refine r_getR c255_17 s3 s5 s6 ?_
    refine r_aload_n c255_20 rfl ?_
    obtain ⟨s7, h⟩ := h
    refine r_getI c255_21 s7 ?_
    obtain ⟨s8, h⟩ := h
    obtain ⟨s9, h⟩ := h
    obtain ⟨b10, h⟩ := h
    obtain ⟨s11, h⟩ := h
    obtain ⟨s12, h⟩ := h
    refine r_aa c255_24 s8 s9 s11 s12 ?_
    refine r_iconst c255_25 ?_
    obtain ⟨s13, h⟩ := h
    exact r_call c255_26 rfl rfl (Nat.le_of_ble_eq_true rfl) (okc_r rfl rfl s13) h
  · replace h := h.2 hc
    refine r_iconst c255_13 ?_
    exact r_iret c255_14 (Or.inl rfl) h
theorem t255_29 {d : Nat} {l0 : Nat} {M : Mem} {K : KK} {Q : RR → Mem → KK → Prop} (h : isO K.1 l0 12 = true ∧ isO K.1 l0 12 = true ∧ isO K.1 l0 12 = true ∧ Q (.inl (some (vI ((mset M l0 38 (w32 ((M l0 38) + (1 : Int)))) l0 38)))) (mset M l0 38 (w32 ((M l0 38) + (1 : Int)))) K) : Wp d 255 29 [vR l0] [] M K Q := by
  refine r_aload_n c255_29 rfl ?_
  refine r_dupr c255_30 ?_
  obtain ⟨s1, h⟩ := h
  refine r_getI c255_31 s1 ?_
  refine r_iconst c255_34 ?_
  refine r_iadd c255_35 ?_
  obtain ⟨s2, h⟩ := h
  refine r_putI c255_36 s2 ?_
  refine r_aload_n c255_39 rfl ?_
  obtain ⟨s3, h⟩ := h
  refine r_getI c255_40 s3 ?_
  exact r_iret c255_43 (Or.inl rfl) h
theorem t256_0 {d : Nat} {l0 : Nat} {M : Mem} {K : KK} {Q : RR → Mem → KK → Prop} (h : isO K.1 l0 12 = true ∧ isO K.1 l0 12 = true ∧ (¬ ((mset M l0 0 (0 : Int)) l0 38) = (0 : Int) → isO K.1 l0 12 = true ∧ isO K.1 l0 12 = true ∧ isO K.1 l0 12 = true ∧ ∃ b6 : Nat, ((mset (mset M l0 0 (0 : Int)) l0 38 (w32 (((mset M l0 0 (0 : Int)) l0 38) - (1 : Int)))) l0 34) = (b6 : Int) ∧ 0 < b6 ∧ isO K.1 l0 12 = true ∧ (Nat.ble 30 (tg b6) = true ∧ isO K.1 b6 (tg b6) = true) ∧ (0 ≤ ((mset (mset M l0 0 (0 : Int)) l0 38 (w32 (((mset M l0 0 (0 : Int)) l0 38) - (1 : Int)))) l0 38) ∧ ((mset (mset M l0 0 (0 : Int)) l0 38 (w32 (((mset M l0 0 (0 : Int)) l0 38) - (1 : Int)))) l0 38) < (ln b6 : Int)) ∧ ∃ b12 : Nat, ((mset (mset M l0 0 (0 : Int)) l0 38 (w32 (((mset M l0 0 (0 : Int)) l0 38) - (1 : Int)))) b6 (Int.toNat ((mset (mset M l0 0 (0 : Int)) l0 38 (w32 (((mset M l0 0 (0 : Int)) l0 38) - (1 : Int)))) l0 38))) = (b12 : Int) ∧ 0 < b12 ∧ isO K.1 l0 12 = true ∧ Wm d 254 [vR l0, vR b12, vI (1 : Int)] (mset (mset M l0 0 (0 : Int)) l0 38 (w32 (((mset M l0 0 (0 : Int)) l0 38) - (1 : Int)))) K (Bk d 256 35 38 254 [vR l0] [] Q)) ∧ (¬ (¬ ((mset M l0 0 (0 : Int)) l0 38) = (0 : Int)) → Q (.inl (some (vI (-1 : Int)))) (mset M l0 0 (0 : Int)) K)) : Wp (d + 1) 256 0 [vR l0] [] M K Q := by
  refine r_aload_n c256_0 rfl ?_
  refine r_iconst c256_1 ?_
  obtain ⟨s1, h⟩ := h
  refine r_putI c256_2 s1 ?_
  refine r_aload_n c256_5 rfl ?_
  obtain ⟨s2, h⟩ := h
  refine r_getI c256_6 s2 ?_
  refine r_ifP (P := ¬ ((mset M l0 0 (0 : Int)) l0 38) = (0 : Int)) c256_9 rfl (fun hc => ?_) (fun hc => ?_)
  · replace h := h.1 hc
    refine r_aload_n c256_14 rfl ?_
    refine r_dupr c256_15 ?_
    obtain ⟨s3, h⟩ := h
    refine r_getI c256_16 s3 ?_
    refine r_iconst c256_19 ?_
    refine r_isub c256_20 ?_
    obtain ⟨s4, h⟩ := h
    refine r_putI c256_21 s4 ?_
    refine r_aload_n c256_24 rfl ?_
    refine r_aload_n c256_25 rfl ?_
    obtain ⟨s5, h⟩ := h
    obtain ⟨b6, h⟩ := h
    obtain ⟨s7, h⟩ := h
    obtain ⟨s8, h⟩ := h
    refine r_getR c256_26 s5 s7 s8 ?_
    refine r_aload_n c256_29 rfl ?_
    obtain ⟨s9, h⟩ := h
    refine r_getI c256_30 s9 ?_
    obtain ⟨s10, h⟩ := h
    obtain ⟨s11, h⟩ := h
    obtain ⟨b12, h⟩ := h
    obtain ⟨s13, h⟩ := h
    obtain ⟨s14, h⟩ := h
    refine r_aa c256_33 s10 s11 s13 s14 ?_
    refine r_iconst c256_34 ?_
    obtain ⟨s15, h⟩ := h
    exact r_call c256_35 rfl rfl (Nat.le_of_ble_eq_true rfl) (okc_r rfl rfl s15) h
  · replace h := h.2 hc
    refine r_iconst c256_12 ?_
    exact r_iret c256_13 (Or.inl rfl) h
theorem t256_38 {d : Nat} {l0 : Nat} {M : Mem} {K : KK} {Q : RR → Mem → KK → Prop} (h : isO K.1 l0 12 = true ∧ isO K.1 l0 12 = true ∧ Q (.inl (some (vI ((mset M l0 37 (0 : Int)) l0 38)))) (mset M l0 37 (0 : Int)) K) : Wp d 256 38 [vR l0] [] M K Q := by
  refine r_aload_n c256_38 rfl ?_
  refine r_iconst c256_39 ?_
  obtain ⟨s1, h⟩ := h
  refine r_putI c256_40 s1 ?_
  refine r_aload_n c256_43 rfl ?_
  obtain ⟨s2, h⟩ := h
  refine r_getI c256_44 s2 ?_
  exact r_iret c256_47 (Or.inl rfl) h
theorem t257_0 {d : Nat} {l0 : Nat} {l1 : Int} {M : Mem} {K : KK} {Q : RR → Mem → KK → Prop} (h : isO K.1 l0 12 = true ∧ Wm d 153 [vI l1, vI (0 : Int), vI (1 : Int)] (mset M l0 0 (0 : Int)) K (Bk d 257 8 11 153 [vR l0, vI l1] [] Q)) : Wp (d + 1) 257 0 [vR l0, vI l1] [] M K Q := by
  refine r_aload_n c257_0 rfl ?_
  refine r_iconst c257_1 ?_
  obtain ⟨s1, h⟩ := h
  refine r_putI c257_2 s1 ?_
  refine r_iload_n c257_5 rfl ?_
  refine r_iconst c257_6 ?_
  refine r_iconst c257_7 ?_
  exact r_call c257_8 rfl rfl (Nat.le_of_ble_eq_true rfl) (okc_s rfl rfl rfl) h
theorem t257_11 {d : Nat} {l0 : Nat} {l1 : Int} {t0 : Int} {M : Mem} {K : KK} {Q : RR → Mem → KK → Prop} (h : (t0 = (0 : Int) → Wp d 257 24 [vR l0, vI l1] [vI (-1 : Int)] M K Q) ∧ (¬ (t0 = (0 : Int)) → isO K.1 l0 12 = true ∧ ∃ b2 : Nat, (M l0 10) = (b2 : Int) ∧ 0 < b2 ∧ isO K.1 b2 20 = true ∧ (0 ≤ l1 ∧ l1 < (ln b2 : Int)) ∧ Wp d 257 24 [vR l0, vI l1] [vI (M b2 (Int.toNat l1))] M K Q)) : Wp d 257 11 [vR l0, vI l1] [vI t0] M K Q := by
  refine r_ifP (P := t0 = (0 : Int)) c257_11 rfl (fun hc => ?_) (fun hc => ?_)
  · replace h := h.1 hc
    refine r_iconst c257_23 ?_
    exact h
  · replace h := h.2 hc
    refine r_aload_n c257_14 rfl ?_
    obtain ⟨s1, h⟩ := h
    obtain ⟨b2, h⟩ := h
    obtain ⟨s3, h⟩ := h
    obtain ⟨s4, h⟩ := h
    refine r_getR c257_15 s1 s3 s4 ?_
    refine r_iload_n c257_18 rfl ?_
    obtain ⟨s5, h⟩ := h
    obtain ⟨s6, h⟩ := h
    refine r_ia c257_19 s5 s6 ?_
    refine r_goto c257_20 ?_
    exact h
theorem t257_24 {d : Nat} {l0 : Nat} {l1 : Int} {t0 : Int} {M : Mem} {K : KK} {Q : RR → Mem → KK → Prop} (h : Q (.inl (some (vI t0))) M K) : Wp d 257 24 [vR l0, vI l1] [vI t0] M K Q := by
  exact r_iret c257_24 (Or.inl rfl) h
theorem t258_0 {d : Nat} {l0 : Nat} {l1 : Int} {M : Mem} {K : KK} {Q : RR → Mem → KK → Prop} (h : isO K.1 l0 12 = true ∧ (¬ l1 = (0 : Int) → (¬ l1 = (1 : Int) → (¬ l1 = (2 : Int) → Wp d 258 41 [vR l0, vI l1] [vI (-1 : Int)] (mset M l0 0 (0 : Int)) K Q) ∧ (¬ (¬ l1 = (2 : Int)) → isO K.1 l0 12 = true ∧ Wp d 258 41 [vR l0, vI l1] [vI ((mset M l0 0 (0 : Int)) l0 36)] (mset M l0 0 (0 : Int)) K Q)) ∧ (¬ (¬ l1 = (1 : Int)) → isO K.1 l0 12 = true ∧ Wp d 258 41 [vR l0, vI l1] [vI ((mset M l0 0 (0 : Int)) l0 1)] (mset M l0 0 (0 : Int)) K Q)) ∧ (¬ (¬ l1 = (0 : Int)) → isO K.1 l0 12 = true ∧ Wp d 258 41 [vR l0, vI l1] [vI ((mset M l0 0 (0 : Int)) l0 38)] (mset M l0 0 (0 : Int)) K Q)) : Wp d 258 0 [vR l0, vI l1] [] M K Q := by
  refine r_aload_n c258_0 rfl ?_
  refine r_iconst c258_1 ?_
  obtain ⟨s1, h⟩ := h
  refine r_putI c258_2 s1 ?_
  refine r_iload_n c258_5 rfl ?_
  refine r_ifP (P := ¬ l1 = (0 : Int)) c258_6 rfl (fun hc => ?_) (fun hc => ?_)
  · replace h := h.1 hc
    refine r_iload_n c258_16 rfl ?_
    refine r_iconst c258_17 ?_
    refine r_icmpP (P := ¬ l1 = (1 : Int)) c258_18 rfl (fun hc => ?_) (fun hc => ?_)
    · replace h := h.1 hc
      refine r_iload_n c258_28 rfl ?_
      refine r_iconst c258_29 ?_
      refine r_icmpP (P := ¬ l1 = (2 : Int)) c258_30 rfl (fun hc => ?_) (fun hc => ?_)
      · replace h := h.1 hc
        refine r_iconst c258_40 ?_
        exact h
      · replace h := h.2 hc
        refine r_aload_n c258_33 rfl ?_
        obtain ⟨s2, h⟩ := h
        refine r_getI c258_34 s2 ?_
        refine r_goto c258_37 ?_
        exact h
    · replace h := h.2 hc
      refine r_aload_n c258_21 rfl ?_
      obtain ⟨s3, h⟩ := h
      refine r_getI c258_22 s3 ?_
      refine r_goto c258_25 ?_
      exact h
  · replace h := h.2 hc
    refine r_aload_n c258_9 rfl ?_
    obtain ⟨s4, h⟩ := h
    refine r_getI c258_10 s4 ?_
    refine r_goto c258_13 ?_
    exact h
theorem t258_41 {d : Nat} {l0 : Nat} {l1 : Int} {t0 : Int} {M : Mem} {K : KK} {Q : RR → Mem → KK → Prop} (h : Q (.inl (some (vI t0))) M K) : Wp d 258 41 [vR l0, vI l1] [vI t0] M K Q := by
  exact r_iret c258_41 (Or.inl rfl) h
theorem t259_0 {d : Nat} {l0 : Nat} {l1 : Int} {l2 : Nat} {M : Mem} {K : KK} {Q : RR → Mem → KK → Prop} (h : isO K.1 l0 11 = true ∧ Wm d 99 [vR l0, vI l1] M K (Bk d 259 4 7 99 [vR l0, vI l1, vR l2, vU] [vI (0 : Int), vR l2] Q)) : Wp (d + 1) 259 0 [vR l0, vI l1, vR l2, vU] [] M K Q := by
  refine r_aload_n c259_0 rfl ?_
  refine r_iconst c259_1 ?_
  refine r_aload_n c259_2 rfl ?_
  refine r_iload_n c259_3 rfl ?_
  obtain ⟨s1, h⟩ := h
  exact r_call c259_4 rfl rfl (Nat.le_of_ble_eq_true rfl) (okc_r rfl rfl s1) h
theorem t259_7 {d : Nat} {l0 : Nat} {l1 : Int} {l2 : Nat} {t0 : Nat} {t1 : Int} {t2 : Int} {M : Mem} {K : KK} {Q : RR → Mem → KK → Prop} (h : isO K.1 t0 22 = true ∧ (0 ≤ t1 ∧ t1 < (ln t0 : Int)) ∧ Q (.inl (some (vI (0 : Int)))) (mset M t0 (Int.toNat t1) t2) K) : Wp d 259 7 [vR l0, vI l1, vR l2, vU] [vI t2, vI t1, vR t0] M K Q := by
  refine r_i2l c259_7 ?_
  obtain ⟨s1, h⟩ := h
  obtain ⟨s2, h⟩ := h
  refine r_las c259_8 s1 s2 ?_
  refine r_goto c259_9 ?_
  refine r_iconst c259_15 ?_
  exact r_iret c259_16 (Or.inl rfl) h
theorem t259_12 {d : Nat} {l0 : Nat} {l1 : Int} {l2 : Nat} {M : Mem} {K : KK} {Q : RR → Mem → KK → Prop} (h : Q (.inl (some (vI (1 : Int)))) M K) : Wp d 259 12 [vR l0, vI l1, vR l2, vU] [vU] M K Q := by
  refine r_ustore_n c259_12 (Nat.le_of_ble_eq_true rfl) ?_
  refine r_iconst c259_13 ?_
  exact r_iret c259_14 (Or.inl rfl) h
theorem t260_0 {d : Nat} {l0 : Nat} {l1 : Int} {l2 : Nat} {M : Mem} {K : KK} {Q : RR → Mem → KK → Prop} (h : isO K.1 l0 11 = true ∧ Wm d 100 [vR l0, vI l1] M K (Bk d 260 4 7 100 [vR l0, vI l1, vR l2, vU] [vI (0 : Int), vR l2] Q)) : Wp (d + 1) 260 0 [vR l0, vI l1, vR l2, vU] [] M K Q := by
  refine r_aload_n c260_0 rfl ?_
  refine r_iconst c260_1 ?_
  refine r_aload_n c260_2 rfl ?_
  refine r_iload_n c260_3 rfl ?_
  obtain ⟨s1, h⟩ := h
  exact r_call c260_4 rfl rfl (Nat.le_of_ble_eq_true rfl) (okc_r rfl rfl s1) h
theorem t260_7 {d : Nat} {l0 : Nat} {l1 : Int} {l2 : Nat} {t0 : Nat} {t1 : Int} {t2 : Int} {M : Mem} {K : KK} {Q : RR → Mem → KK → Prop} (h : isO K.1 t0 22 = true ∧ (0 ≤ t1 ∧ t1 < (ln t0 : Int)) ∧ Q (.inl (some (vI (0 : Int)))) (mset M t0 (Int.toNat t1) t2) K) : Wp d 260 7 [vR l0, vI l1, vR l2, vU] [vI t2, vI t1, vR t0] M K Q := by
  refine r_i2l c260_7 ?_
  obtain ⟨s1, h⟩ := h
  obtain ⟨s2, h⟩ := h
  refine r_las c260_8 s1 s2 ?_
  refine r_goto c260_9 ?_
  refine r_iconst c260_15 ?_
  exact r_iret c260_16 (Or.inl rfl) h
theorem t260_12 {d : Nat} {l0 : Nat} {l1 : Int} {l2 : Nat} {M : Mem} {K : KK} {Q : RR → Mem → KK → Prop} (h : Q (.inl (some (vI (1 : Int)))) M K) : Wp d 260 12 [vR l0, vI l1, vR l2, vU] [vU] M K Q := by
  refine r_ustore_n c260_12 (Nat.le_of_ble_eq_true rfl) ?_
  refine r_iconst c260_13 ?_
  exact r_iret c260_14 (Or.inl rfl) h
theorem t261_0 {d : Nat} {l0 : Nat} {l1 : Int} {l2 : Nat} {M : Mem} {K : KK} {Q : RR → Mem → KK → Prop} (h : isO K.1 l0 11 = true ∧ Wm d 101 [vR l0, vI l1] M K (Bk d 261 4 7 101 [vR l0, vI l1, vR l2, vU] [vI (0 : Int), vR l2] Q)) : Wp (d + 1) 261 0 [vR l0, vI l1, vR l2, vU] [] M K Q := by
  refine r_aload_n c261_0 rfl ?_
  refine r_iconst c261_1 ?_
  refine r_aload_n c261_2 rfl ?_
  refine r_iload_n c261_3 rfl ?_
  obtain ⟨s1, h⟩ := h
  exact r_call c261_4 rfl rfl (Nat.le_of_ble_eq_true rfl) (okc_r rfl rfl s1) h
theorem t261_7 {d : Nat} {l0 : Nat} {l1 : Int} {l2 : Nat} {t0 : Nat} {t1 : Int} {t2 : Int} {M : Mem} {K : KK} {Q : RR → Mem → KK → Prop} (h : isO K.1 t0 22 = true ∧ (0 ≤ t1 ∧ t1 < (ln t0 : Int)) ∧ Q (.inl (some (vI (0 : Int)))) (mset M t0 (Int.toNat t1) t2) K) : Wp d 261 7 [vR l0, vI l1, vR l2, vU] [vI t2, vI t1, vR t0] M K Q := by
  refine r_i2l c261_7 ?_
  obtain ⟨s1, h⟩ := h
  obtain ⟨s2, h⟩ := h
  refine r_las c261_8 s1 s2 ?_
  refine r_goto c261_9 ?_
  refine r_iconst c261_15 ?_
  exact r_iret c261_16 (Or.inl rfl) h
theorem t261_12 {d : Nat} {l0 : Nat} {l1 : Int} {l2 : Nat} {M : Mem} {K : KK} {Q : RR → Mem → KK → Prop} (h : Q (.inl (some (vI (1 : Int)))) M K) : Wp d 261 12 [vR l0, vI l1, vR l2, vU] [vU] M K Q := by
  refine r_ustore_n c261_12 (Nat.le_of_ble_eq_true rfl) ?_
  refine r_iconst c261_13 ?_
  exact r_iret c261_14 (Or.inl rfl) h
theorem t262_0 {d : Nat} {l0 : Nat} {l1 : Int} {l2 : Nat} {M : Mem} {K : KK} {Q : RR → Mem → KK → Prop} (h : isO K.1 l0 11 = true ∧ Wm d 102 [vR l0, vI l1] M K (Bk d 262 4 7 102 [vR l0, vI l1, vR l2, vU] [vI (0 : Int), vR l2] Q)) : Wp (d + 1) 262 0 [vR l0, vI l1, vR l2, vU] [] M K Q := by
  refine r_aload_n c262_0 rfl ?_
  refine r_iconst c262_1 ?_
  refine r_aload_n c262_2 rfl ?_
  refine r_iload_n c262_3 rfl ?_
  obtain ⟨s1, h⟩ := h
  exact r_call c262_4 rfl rfl (Nat.le_of_ble_eq_true rfl) (okc_r rfl rfl s1) h
theorem t262_7 {d : Nat} {l0 : Nat} {l1 : Int} {l2 : Nat} {t0 : Nat} {t1 : Int} {t2 : Int} {M : Mem} {K : KK} {Q : RR → Mem → KK → Prop} (h : isO K.1 t0 22 = true ∧ (0 ≤ t1 ∧ t1 < (ln t0 : Int)) ∧ Q (.inl (some (vI (0 : Int)))) (mset M t0 (Int.toNat t1) t2) K) : Wp d 262 7 [vR l0, vI l1, vR l2, vU] [vI t2, vI t1, vR t0] M K Q := by
  refine r_i2l c262_7 ?_
  obtain ⟨s1, h⟩ := h
  obtain ⟨s2, h⟩ := h
  refine r_las c262_8 s1 s2 ?_
  refine r_goto c262_9 ?_
  refine r_iconst c262_15 ?_
  exact r_iret c262_16 (Or.inl rfl) h
theorem t262_12 {d : Nat} {l0 : Nat} {l1 : Int} {l2 : Nat} {M : Mem} {K : KK} {Q : RR → Mem → KK → Prop} (h : Q (.inl (some (vI (1 : Int)))) M K) : Wp d 262 12 [vR l0, vI l1, vR l2, vU] [vU] M K Q := by
  refine r_ustore_n c262_12 (Nat.le_of_ble_eq_true rfl) ?_
  refine r_iconst c262_13 ?_
  exact r_iret c262_14 (Or.inl rfl) h
theorem t263_0 {d : Nat} {l0 : Nat} {l1 : Int} {l2 : Nat} {M : Mem} {K : KK} {Q : RR → Mem → KK → Prop} (h : isO K.1 l0 11 = true ∧ Wm d 105 [vR l0, vI l1] M K (Bk d 263 4 7 105 [vR l0, vI l1, vR l2, vU] [vI (0 : Int), vR l2] Q)) : Wp (d + 1) 263 0 [vR l0, vI l1, vR l2, vU] [] M K Q := by
  refine r_aload_n c263_0 rfl ?_
  refine r_iconst c263_1 ?_
  refine r_aload_n c263_2 rfl ?_
  refine r_iload_n c263_3 rfl ?_
  obtain ⟨s1, h⟩ := h
  exact r_call c263_4 rfl rfl (Nat.le_of_ble_eq_true rfl) (okc_r rfl rfl s1) h
theorem t263_7 {d : Nat} {l0 : Nat} {l1 : Int} {l2 : Nat} {t0 : Nat} {t1 : Int} {t2 : Int} {M : Mem} {K : KK} {Q : RR → Mem → KK → Prop} (h : isO K.1 t0 22 = true ∧ (0 ≤ t1 ∧ t1 < (ln t0 : Int)) ∧ Q (.inl (some (vI (0 : Int)))) (mset M t0 (Int.toNat t1) t2) K) : Wp d 263 7 [vR l0, vI l1, vR l2, vU] [vI t2, vI t1, vR t0] M K Q := by
  refine r_i2l c263_7 ?_
  obtain ⟨s1, h⟩ := h
  obtain ⟨s2, h⟩ := h
  refine r_las c263_8 s1 s2 ?_
  refine r_goto c263_9 ?_
  refine r_iconst c263_15 ?_
  exact r_iret c263_16 (Or.inl rfl) h
theorem t263_12 {d : Nat} {l0 : Nat} {l1 : Int} {l2 : Nat} {M : Mem} {K : KK} {Q : RR → Mem → KK → Prop} (h : Q (.inl (some (vI (1 : Int)))) M K) : Wp d 263 12 [vR l0, vI l1, vR l2, vU] [vU] M K Q := by
  refine r_ustore_n c263_12 (Nat.le_of_ble_eq_true rfl) ?_
  refine r_iconst c263_13 ?_
  exact r_iret c263_14 (Or.inl rfl) h
theorem t264_0 {d : Nat} {l0 : Nat} {l1 : Int} {l2 : Int} {l3 : Nat} {M : Mem} {K : KK} {Q : RR → Mem → KK → Prop} (h : isO K.1 l0 11 = true ∧ Wm d 106 [vR l0, vI l1, vI l2] M K (Bk d 264 5 8 106 [vR l0, vI l1, vI l2, vR l3, vU] [vI (0 : Int), vR l3] Q)) : Wp (d + 1) 264 0 [vR l0, vI l1, vI l2, vR l3, vU] [] M K Q := by
  refine r_aload_n c264_0 rfl ?_
  refine r_iconst c264_1 ?_
  refine r_aload_n c264_2 rfl ?_
  refine r_iload_n c264_3 rfl ?_
  refine r_iload_n c264_4 rfl ?_
  obtain ⟨s1, h⟩ := h
  exact r_call c264_5 rfl rfl (Nat.le_of_ble_eq_true rfl) (okc_r rfl rfl s1) h
theorem t264_8 {d : Nat} {l0 : Nat} {l1 : Int} {l2 : Int} {l3 : Nat} {t0 : Nat} {t1 : Int} {t2 : Int} {M : Mem} {K : KK} {Q : RR → Mem → KK → Prop} (h : isO K.1 t0 22 = true ∧ (0 ≤ t1 ∧ t1 < (ln t0 : Int)) ∧ Q (.inl (some (vI (0 : Int)))) (mset M t0 (Int.toNat t1) t2) K) : Wp d 264 8 [vR l0, vI l1, vI l2, vR l3, vU] [vI t2, vI t1, vR t0] M K Q := by
  refine r_i2l c264_8 ?_
  obtain ⟨s1, h⟩ := h
  obtain ⟨s2, h⟩ := h
  refine r_las c264_9 s1 s2 ?_
  refine r_goto c264_10 ?_
  refine r_iconst c264_21 ?_
  exact r_iret c264_22 (Or.inl rfl) h
theorem t264_13 {d : Nat} {l0 : Nat} {l1 : Int} {l2 : Int} {l3 : Nat} {M : Mem} {K : KK} {Q : RR → Mem → KK → Prop} (h : Q (.inl (some (vI (1 : Int)))) M K) : Wp d 264 13 [vR l0, vI l1, vI l2, vR l3, vU] [vU] M K Q := by
  refine r_ustore c264_13 (Nat.le_of_ble_eq_true rfl) ?_
  refine r_iconst c264_15 ?_
  exact r_iret c264_16 (Or.inl rfl) h
theorem t264_17 {d : Nat} {l0 : Nat} {l1 : Int} {l2 : Int} {l3 : Nat} {M : Mem} {K : KK} {Q : RR → Mem → KK → Prop} (h : Q (.inl (some (vI (2 : Int)))) M K) : Wp d 264 17 [vR l0, vI l1, vI l2, vR l3, vU] [vU] M K Q := by
  refine r_ustore c264_17 (Nat.le_of_ble_eq_true rfl) ?_
  refine r_iconst c264_19 ?_
  exact r_iret c264_20 (Or.inl rfl) h
theorem t265_0 {d : Nat} {l0 : Nat} {l1 : Int} {l2 : Int} {l3 : Nat} {M : Mem} {K : KK} {Q : RR → Mem → KK → Prop} (h : isO K.1 l0 11 = true ∧ Wm d 107 [vR l0, vI l1, vI l2] M K (Bk d 265 5 8 107 [vR l0, vI l1, vI l2, vR l3, vU] [vI (0 : Int), vR l3] Q)) : Wp (d + 1) 265 0 [vR l0, vI l1, vI l2, vR l3, vU] [] M K Q := by
  refine r_aload_n c265_0 rfl ?_
  refine r_iconst c265_1 ?_
  refine r_aload_n c265_2 rfl ?_
  refine r_iload_n c265_3 rfl ?_
  refine r_iload_n c265_4 rfl ?_
  obtain ⟨s1, h⟩ := h
  exact r_call c265_5 rfl rfl (Nat.le_of_ble_eq_true rfl) (okc_r rfl rfl s1) h
theorem t265_8 {d : Nat} {l0 : Nat} {l1 : Int} {l2 : Int} {l3 : Nat} {t0 : Nat} {t1 : Int} {t2 : Int} {M : Mem} {K : KK} {Q : RR → Mem → KK → Prop} (h : isO K.1 t0 22 = true ∧ (0 ≤ t1 ∧ t1 < (ln t0 : Int)) ∧ Q (.inl (some (vI (0 : Int)))) (mset M t0 (Int.toNat t1) t2) K) : Wp d 265 8 [vR l0, vI l1, vI l2, vR l3, vU] [vI t2, vI t1, vR t0] M K Q := by
  refine r_i2l c265_8 ?_
  obtain ⟨s1, h⟩ := h
  obtain ⟨s2, h⟩ := h
  refine r_las c265_9 s1 s2 ?_
  refine r_goto c265_10 ?_
  refine r_iconst c265_21 ?_
  exact r_iret c265_22 (Or.inl rfl) h
theorem t265_13 {d : Nat} {l0 : Nat} {l1 : Int} {l2 : Int} {l3 : Nat} {M : Mem} {K : KK} {Q : RR → Mem → KK → Prop} (h : Q (.inl (some (vI (1 : Int)))) M K) : Wp d 265 13 [vR l0, vI l1, vI l2, vR l3, vU] [vU] M K Q := by
  refine r_ustore c265_13 (Nat.le_of_ble_eq_true rfl) ?_
  refine r_iconst c265_15 ?_
  exact r_iret c265_16 (Or.inl rfl) h
theorem t265_17 {d : Nat} {l0 : Nat} {l1 : Int} {l2 : Int} {l3 : Nat} {M : Mem} {K : KK} {Q : RR → Mem → KK → Prop} (h : Q (.inl (some (vI (2 : Int)))) M K) : Wp d 265 17 [vR l0, vI l1, vI l2, vR l3, vU] [vU] M K Q := by
  refine r_ustore c265_17 (Nat.le_of_ble_eq_true rfl) ?_
  refine r_iconst c265_19 ?_
  exact r_iret c265_20 (Or.inl rfl) h
theorem t266_0 {d : Nat} {l0 : Nat} {l1 : Int} {l2 : Nat} {M : Mem} {K : KK} {Q : RR → Mem → KK → Prop} (h : isO K.1 l0 11 = true ∧ Wm d 108 [vR l0, vI l1] M K (Bk d 266 4 7 108 [vR l0, vI l1, vR l2, vU] [vI (0 : Int), vR l2] Q)) : Wp (d + 1) 266 0 [vR l0, vI l1, vR l2, vU] [] M K Q := by
  refine r_aload_n c266_0 rfl ?_
  refine r_iconst c266_1 ?_
  refine r_aload_n c266_2 rfl ?_
  refine r_iload_n c266_3 rfl ?_
  obtain ⟨s1, h⟩ := h
  exact r_call c266_4 rfl rfl (Nat.le_of_ble_eq_true rfl) (okc_r rfl rfl s1) h
theorem t266_7 {d : Nat} {l0 : Nat} {l1 : Int} {l2 : Nat} {t0 : Nat} {t1 : Int} {t2 : Int} {M : Mem} {K : KK} {Q : RR → Mem → KK → Prop} (h : isO K.1 t0 22 = true ∧ (0 ≤ t1 ∧ t1 < (ln t0 : Int)) ∧ Q (.inl (some (vI (0 : Int)))) (mset M t0 (Int.toNat t1) t2) K) : Wp d 266 7 [vR l0, vI l1, vR l2, vU] [vI t2, vI t1, vR t0] M K Q := by
  refine r_i2l c266_7 ?_
  obtain ⟨s1, h⟩ := h
  obtain ⟨s2, h⟩ := h
  refine r_las c266_8 s1 s2 ?_
  refine r_goto c266_9 ?_
  refine r_iconst c266_15 ?_
  exact r_iret c266_16 (Or.inl rfl) h
theorem t266_12 {d : Nat} {l0 : Nat} {l1 : Int} {l2 : Nat} {M : Mem} {K : KK} {Q : RR → Mem → KK → Prop} (h : Q (.inl (some (vI (1 : Int)))) M K) : Wp d 266 12 [vR l0, vI l1, vR l2, vU] [vU] M K Q := by
  refine r_ustore_n c266_12 (Nat.le_of_ble_eq_true rfl) ?_
  refine r_iconst c266_13 ?_
  exact r_iret c266_14 (Or.inl rfl) h
theorem t267_0 {d : Nat} {l0 : Nat} {l1 : Int} {l2 : Int} {l3 : Int} {l4 : Int} {l5 : Int} {l6 : Int} {l7 : Int} {l8 : Int} {l9 : Nat} {M : Mem} {K : KK} {Q : RR → Mem → KK → Prop} (h : isO K.1 l0 11 = true ∧ Wm d 109 [vR l0, vI l1, vI l2, vI l3, vI l4, vI l5, vI l6, vI l7, vI l8] M K (Bk d 267 17 20 109 [vR l0, vI l1, vI l2, vI l3, vI l4, vI l5, vI l6, vI l7, vI l8, vR l9, vU] [vI (0 : Int), vR l9] Q)) : Wp (d + 1) 267 0 [vR l0, vI l1, vI l2, vI l3, vI l4, vI l5, vI l6, vI l7, vI l8, vR l9, vU] [] M K Q := by
  refine r_aload c267_0 rfl ?_
  refine r_iconst c267_2 ?_
  refine r_aload_n c267_3 rfl ?_
  refine r_iload_n c267_4 rfl ?_
  refine r_iload_n c267_5 rfl ?_
  refine r_iload_n c267_6 rfl ?_
  refine r_iload c267_7 rfl ?_
  refine r_iload c267_9 rfl ?_
  refine r_iload c267_11 rfl ?_
  refine r_iload c267_13 rfl ?_
  refine r_iload c267_15 rfl ?_
  obtain ⟨s1, h⟩ := h
  exact r_call c267_17 rfl rfl (Nat.le_of_ble_eq_true rfl) (okc_r rfl rfl s1) h
theorem t267_20 {d : Nat} {l0 : Nat} {l1 : Int} {l2 : Int} {l3 : Int} {l4 : Int} {l5 : Int} {l6 : Int} {l7 : Int} {l8 : Int} {l9 : Nat} {t0 : Nat} {t1 : Int} {t2 : Int} {M : Mem} {K : KK} {Q : RR → Mem → KK → Prop} (h : isO K.1 t0 22 = true ∧ (0 ≤ t1 ∧ t1 < (ln t0 : Int)) ∧ Q (.inl (some (vI (0 : Int)))) (mset M t0 (Int.toNat t1) t2) K) : Wp d 267 20 [vR l0, vI l1, vI l2, vI l3, vI l4, vI l5, vI l6, vI l7, vI l8, vR l9, vU] [vI t2, vI t1, vR t0] M K Q := by
  refine r_i2l c267_20 ?_
  obtain ⟨s1, h⟩ := h
  obtain ⟨s2, h⟩ := h
  refine r_las c267_21 s1 s2 ?_
  refine r_goto c267_22 ?_
  refine r_iconst c267_29 ?_
  exact r_iret c267_30 (Or.inl rfl) h
theorem t267_25 {d : Nat} {l0 : Nat} {l1 : Int} {l2 : Int} {l3 : Int} {l4 : Int} {l5 : Int} {l6 : Int} {l7 : Int} {l8 : Int} {l9 : Nat} {M : Mem} {K : KK} {Q : RR → Mem → KK → Prop} (h : Q (.inl (some (vI (1 : Int)))) M K) : Wp d 267 25 [vR l0, vI l1, vI l2, vI l3, vI l4, vI l5, vI l6, vI l7, vI l8, vR l9, vU] [vU] M K Q := by
  refine r_ustore c267_25 (Nat.le_of_ble_eq_true rfl) ?_
  refine r_iconst c267_27 ?_
  exact r_iret c267_28 (Or.inl rfl) h
theorem t268_0 {d : Nat} {l0 : Nat} {l1 : Int} {l2 : Int} {l3 : Nat} {M : Mem} {K : KK} {Q : RR → Mem → KK → Prop} (h : isO K.1 l0 11 = true ∧ Wm d 110 [vR l0, vI l1, vI l2] M K (Bk d 268 5 8 110 [vR l0, vI l1, vI l2, vR l3, vU] [vI (0 : Int), vR l3] Q)) : Wp (d + 1) 268 0 [vR l0, vI l1, vI l2, vR l3, vU] [] M K Q := by
  refine r_aload_n c268_0 rfl ?_
  refine r_iconst c268_1 ?_
  refine r_aload_n c268_2 rfl ?_
  refine r_iload_n c268_3 rfl ?_
  refine r_iload_n c268_4 rfl ?_
  obtain ⟨s1, h⟩ := h
  exact r_call c268_5 rfl rfl (Nat.le_of_ble_eq_true rfl) (okc_r rfl rfl s1) h
theorem t268_8 {d : Nat} {l0 : Nat} {l1 : Int} {l2 : Int} {l3 : Nat} {t0 : Nat} {t1 : Int} {t2 : Int} {M : Mem} {K : KK} {Q : RR → Mem → KK → Prop} (h : (t2 = (0 : Int) → Wp d 268 16 [vR l0, vI l1, vI l2, vR l3, vU] [vL (0 : Int), vI t1, vR t0] M K Q) ∧ (¬ (t2 = (0 : Int)) → Wp d 268 16 [vR l0, vI l1, vI l2, vR l3, vU] [vL (1 : Int), vI t1, vR t0] M K Q)) : Wp d 268 8 [vR l0, vI l1, vI l2, vR l3, vU] [vI t2, vI t1, vR t0] M K Q := by
  refine r_ifP (P := t2 = (0 : Int)) c268_8 rfl (fun hc => ?_) (fun hc => ?_)
  · replace h := h.1 hc
    refine r_lconst c268_15 ?_
    exact h
  · replace h := h.2 hc
    refine r_lconst c268_11 ?_
    refine r_goto c268_12 ?_
    exact h
theorem t268_16 {d : Nat} {l0 : Nat} {l1 : Int} {l2 : Int} {l3 : Nat} {t0 : Nat} {t1 : Int} {t2 : Int} {M : Mem} {K : KK} {Q : RR → Mem → KK → Prop} (h : isO K.1 t0 22 = true ∧ (0 ≤ t1 ∧ t1 < (ln t0 : Int)) ∧ Q (.inl (some (vI (0 : Int)))) (mset M t0 (Int.toNat t1) t2) K) : Wp d 268 16 [vR l0, vI l1, vI l2, vR l3, vU] [vL t2, vI t1, vR t0] M K Q := by
  obtain ⟨s1, h⟩ := h
  obtain ⟨s2, h⟩ := h
  refine r_las c268_16 s1 s2 ?_
  refine r_goto c268_17 ?_
  refine r_iconst c268_24 ?_
  exact r_iret c268_25 (Or.inl rfl) h
theorem t268_20 {d : Nat} {l0 : Nat} {l1 : Int} {l2 : Int} {l3 : Nat} {M : Mem} {K : KK} {Q : RR → Mem → KK → Prop} (h : Q (.inl (some (vI (1 : Int)))) M K) : Wp d 268 20 [vR l0, vI l1, vI l2, vR l3, vU] [vU] M K Q := by
  refine r_ustore c268_20 (Nat.le_of_ble_eq_true rfl) ?_
  refine r_iconst c268_22 ?_
  exact r_iret c268_23 (Or.inl rfl) h
theorem t269_0 {d : Nat} {l0 : Nat} {l1 : Int} {l2 : Int} {l3 : Nat} {M : Mem} {K : KK} {Q : RR → Mem → KK → Prop} (h : isO K.1 l0 11 = true ∧ Wm d 111 [vR l0, vI l1, vI l2] M K (Bk d 269 5 8 111 [vR l0, vI l1, vI l2, vR l3, vU] [vI (0 : Int), vR l3] Q)) : Wp (d + 1) 269 0 [vR l0, vI l1, vI l2, vR l3, vU] [] M K Q := by
  refine r_aload_n c269_0 rfl ?_
  refine r_iconst c269_1 ?_
  refine r_aload_n c269_2 rfl ?_
  refine r_iload_n c269_3 rfl ?_
  refine r_iload_n c269_4 rfl ?_
  obtain ⟨s1, h⟩ := h
  exact r_call c269_5 rfl rfl (Nat.le_of_ble_eq_true rfl) (okc_r rfl rfl s1) h
theorem t269_8 {d : Nat} {l0 : Nat} {l1 : Int} {l2 : Int} {l3 : Nat} {t0 : Nat} {t1 : Int} {t2 : Int} {M : Mem} {K : KK} {Q : RR → Mem → KK → Prop} (h : isO K.1 t0 22 = true ∧ (0 ≤ t1 ∧ t1 < (ln t0 : Int)) ∧ Q (.inl (some (vI (0 : Int)))) (mset M t0 (Int.toNat t1) t2) K) : Wp d 269 8 [vR l0, vI l1, vI l2, vR l3, vU] [vI t2, vI t1, vR t0] M K Q := by
  refine r_i2l c269_8 ?_
  obtain ⟨s1, h⟩ := h
  obtain ⟨s2, h⟩ := h
  refine r_las c269_9 s1 s2 ?_
  refine r_goto c269_10 ?_
  refine r_iconst c269_17 ?_
  exact r_iret c269_18 (Or.inl rfl) h
theorem t269_13 {d : Nat} {l0 : Nat} {l1 : Int} {l2 : Int} {l3 : Nat} {M : Mem} {K : KK} {Q : RR → Mem → KK → Prop} (h : Q (.inl (some (vI (1 : Int)))) M K) : Wp d 269 13 [vR l0, vI l1, vI l2, vR l3, vU] [vU] M K Q := by
  refine r_ustore c269_13 (Nat.le_of_ble_eq_true rfl) ?_
  refine r_iconst c269_15 ?_
  exact r_iret c269_16 (Or.inl rfl) h
theorem t270_0 {d : Nat} {l0 : Nat} {l1 : Int} {l2 : Nat} {M : Mem} {K : KK} {Q : RR → Mem → KK → Prop} (h : isO K.1 l0 11 = true ∧ Wm d 112 [vR l0, vI l1] M K (Bk d 270 4 7 112 [vR l0, vI l1, vR l2, vU] [vI (0 : Int), vR l2] Q)) : Wp (d + 1) 270 0 [vR l0, vI l1, vR l2, vU] [] M K Q := by
  refine r_aload_n c270_0 rfl ?_
  refine r_iconst c270_1 ?_
  refine r_aload_n c270_2 rfl ?_
  refine r_iload_n c270_3 rfl ?_
  obtain ⟨s1, h⟩ := h
  exact r_call c270_4 rfl rfl (Nat.le_of_ble_eq_true rfl) (okc_r rfl rfl s1) h
theorem t270_7 {d : Nat} {l0 : Nat} {l1 : Int} {l2 : Nat} {t0 : Nat} {t1 : Int} {t2 : Int} {M : Mem} {K : KK} {Q : RR → Mem → KK → Prop} (h : isO K.1 t0 22 = true ∧ (0 ≤ t1 ∧ t1 < (ln t0 : Int)) ∧ Q (.inl (some (vI (0 : Int)))) (mset M t0 (Int.toNat t1) t2) K) : Wp d 270 7 [vR l0, vI l1, vR l2, vU] [vI t2, vI t1, vR t0] M K Q := by
  refine r_i2l c270_7 ?_
  obtain ⟨s1, h⟩ := h
  obtain ⟨s2, h⟩ := h
  refine r_las c270_8 s1 s2 ?_
  refine r_goto c270_9 ?_
  refine r_iconst c270_15 ?_
  exact r_iret c270_16 (Or.inl rfl) h
theorem t270_12 {d : Nat} {l0 : Nat} {l1 : Int} {l2 : Nat} {M : Mem} {K : KK} {Q : RR → Mem → KK → Prop} (h : Q (.inl (some (vI (1 : Int)))) M K) : Wp d 270 12 [vR l0, vI l1, vR l2, vU] [vU] M K Q := by
  refine r_ustore_n c270_12 (Nat.le_of_ble_eq_true rfl) ?_
  refine r_iconst c270_13 ?_
  exact r_iret c270_14 (Or.inl rfl) h
theorem t271_0 {d : Nat} {l0 : Nat} {l1 : Int} {l2 : Nat} {M : Mem} {K : KK} {Q : RR → Mem → KK → Prop} (h : isO K.1 l0 11 = true ∧ Wm d 114 [vR l0, vI l1] M K (Bk d 271 4 7 114 [vR l0, vI l1, vR l2, vU] [vI (0 : Int), vR l2] Q)) : Wp (d + 1) 271 0 [vR l0, vI l1, vR l2, vU] [] M K Q := by
  refine r_aload_n c271_0 rfl ?_
  refine r_iconst c271_1 ?_
  refine r_aload_n c271_2 rfl ?_
  refine r_iload_n c271_3 rfl ?_
  obtain ⟨s1, h⟩ := h
  exact r_call c271_4 rfl rfl (Nat.le_of_ble_eq_true rfl) (okc_r rfl rfl s1) h
theorem t271_7 {d : Nat} {l0 : Nat} {l1 : Int} {l2 : Nat} {t0 : Nat} {t1 : Int} {t2 : Int} {M : Mem} {K : KK} {Q : RR → Mem → KK → Prop} (h : isO K.1 t0 22 = true ∧ (0 ≤ t1 ∧ t1 < (ln t0 : Int)) ∧ Q (.inl (some (vI (0 : Int)))) (mset M t0 (Int.toNat t1) t2) K) : Wp d 271 7 [vR l0, vI l1, vR l2, vU] [vI t2, vI t1, vR t0] M K Q := by
  refine r_i2l c271_7 ?_
  obtain ⟨s1, h⟩ := h
  obtain ⟨s2, h⟩ := h
  refine r_las c271_8 s1 s2 ?_
  refine r_goto c271_9 ?_
  refine r_iconst c271_15 ?_
  exact r_iret c271_16 (Or.inl rfl) h
theorem t271_12 {d : Nat} {l0 : Nat} {l1 : Int} {l2 : Nat} {M : Mem} {K : KK} {Q : RR → Mem → KK → Prop} (h : Q (.inl (some (vI (1 : Int)))) M K) : Wp d 271 12 [vR l0, vI l1, vR l2, vU] [vU] M K Q := by
  refine r_ustore_n c271_12 (Nat.le_of_ble_eq_true rfl) ?_
  refine r_iconst c271_13 ?_
  exact r_iret c271_14 (Or.inl rfl) h
theorem t272_0 {d : Nat} {l0 : Nat} {l1 : Int} {l2 : Int} {l3 : Nat} {M : Mem} {K : KK} {Q : RR → Mem → KK → Prop} (h : isO K.1 l0 11 = true ∧ Wm d 115 [vR l0, vI l1, vI l2] M K (Bk d 272 5 8 115 [vR l0, vI l1, vI l2, vR l3, vU] [vI (0 : Int), vR l3] Q)) : Wp (d + 1) 272 0 [vR l0, vI l1, vI l2, vR l3, vU] [] M K Q := by
  refine r_aload_n c272_0 rfl ?_
  refine r_iconst c272_1 ?_
  refine r_aload_n c272_2 rfl ?_
  refine r_iload_n c272_3 rfl ?_
  refine r_iload_n c272_4 rfl ?_
  obtain ⟨s1, h⟩ := h
  exact r_call c272_5 rfl rfl (Nat.le_of_ble_eq_true rfl) (okc_r rfl rfl s1) h
theorem t272_8 {d : Nat} {l0 : Nat} {l1 : Int} {l2 : Int} {l3 : Nat} {t0 : Nat} {t1 : Int} {t2 : Int} {M : Mem} {K : KK} {Q : RR → Mem → KK → Prop} (h : isO K.1 t0 22 = true ∧ (0 ≤ t1 ∧ t1 < (ln t0 : Int)) ∧ Q (.inl (some (vI (0 : Int)))) (mset M t0 (Int.toNat t1) t2) K) : Wp d 272 8 [vR l0, vI l1, vI l2, vR l3, vU] [vI t2, vI t1, vR t0] M K Q := by
  refine r_i2l c272_8 ?_
  obtain ⟨s1, h⟩ := h
  obtain ⟨s2, h⟩ := h
  refine r_las c272_9 s1 s2 ?_
  refine r_goto c272_10 ?_
  refine r_iconst c272_21 ?_
  exact r_iret c272_22 (Or.inl rfl) h
theorem t272_13 {d : Nat} {l0 : Nat} {l1 : Int} {l2 : Int} {l3 : Nat} {M : Mem} {K : KK} {Q : RR → Mem → KK → Prop} (h : Q (.inl (some (vI (1 : Int)))) M K) : Wp d 272 13 [vR l0, vI l1, vI l2, vR l3, vU] [vU] M K Q := by
  refine r_ustore c272_13 (Nat.le_of_ble_eq_true rfl) ?_
  refine r_iconst c272_15 ?_
  exact r_iret c272_16 (Or.inl rfl) h
theorem t272_17 {d : Nat} {l0 : Nat} {l1 : Int} {l2 : Int} {l3 : Nat} {M : Mem} {K : KK} {Q : RR → Mem → KK → Prop} (h : Q (.inl (some (vI (2 : Int)))) M K) : Wp d 272 17 [vR l0, vI l1, vI l2, vR l3, vU] [vU] M K Q := by
  refine r_ustore c272_17 (Nat.le_of_ble_eq_true rfl) ?_
  refine r_iconst c272_19 ?_
  exact r_iret c272_20 (Or.inl rfl) h
theorem t273_0 {d : Nat} {l0 : Nat} {l1 : Int} {l2 : Nat} {M : Mem} {K : KK} {Q : RR → Mem → KK → Prop} (h : isO K.1 l0 11 = true ∧ Wm d 116 [vR l0, vI l1] M K (Bk d 273 4 7 116 [vR l0, vI l1, vR l2, vU] [vI (0 : Int), vR l2] Q)) : Wp (d + 1) 273 0 [vR l0, vI l1, vR l2, vU] [] M K Q := by
  refine r_aload_n c273_0 rfl ?_
  refine r_iconst c273_1 ?_
  refine r_aload_n c273_2 rfl ?_
  refine r_iload_n c273_3 rfl ?_
  obtain ⟨s1, h⟩ := h
  exact r_call c273_4 rfl rfl (Nat.le_of_ble_eq_true rfl) (okc_r rfl rfl s1) h
theorem t273_7 {d : Nat} {l0 : Nat} {l1 : Int} {l2 : Nat} {t0 : Nat} {t1 : Int} {t2 : Int} {M : Mem} {K : KK} {Q : RR → Mem → KK → Prop} (h : isO K.1 t0 22 = true ∧ (0 ≤ t1 ∧ t1 < (ln t0 : Int)) ∧ Q (.inl (some (vI (0 : Int)))) (mset M t0 (Int.toNat t1) t2) K) : Wp d 273 7 [vR l0, vI l1, vR l2, vU] [vI t2, vI t1, vR t0] M K Q := by
  refine r_i2l c273_7 ?_
  obtain ⟨s1, h⟩ := h
  obtain ⟨s2, h⟩ := h
  refine r_las c273_8 s1 s2 ?_
  refine r_goto c273_9 ?_
  refine r_iconst c273_15 ?_
  exact r_iret c273_16 (Or.inl rfl) h
theorem t273_12 {d : Nat} {l0 : Nat} {l1 : Int} {l2 : Nat} {M : Mem} {K : KK} {Q : RR → Mem → KK → Prop} (h : Q (.inl (some (vI (1 : Int)))) M K) : Wp d 273 12 [vR l0, vI l1, vR l2, vU] [vU] M K Q := by
  refine r_ustore_n c273_12 (Nat.le_of_ble_eq_true rfl) ?_
  refine r_iconst c273_13 ?_
  exact r_iret c273_14 (Or.inl rfl) h
theorem t274_0 {d : Nat} {l0 : Nat} {l1 : Int} {l2 : Int} {l3 : Nat} {M : Mem} {K : KK} {Q : RR → Mem → KK → Prop} (h : isO K.1 l0 11 = true ∧ Wm d 117 [vR l0, vI l1, vI l2] M K (Bk d 274 5 8 117 [vR l0, vI l1, vI l2, vR l3, vU] [vI (0 : Int), vR l3] Q)) : Wp (d + 1) 274 0 [vR l0, vI l1, vI l2, vR l3, vU] [] M K Q := by
  refine r_aload_n c274_0 rfl ?_
  refine r_iconst c274_1 ?_
  refine r_aload_n c274_2 rfl ?_
  refine r_iload_n c274_3 rfl ?_
  refine r_iload_n c274_4 rfl ?_
  obtain ⟨s1, h⟩ := h
  exact r_call c274_5 rfl rfl (Nat.le_of_ble_eq_true rfl) (okc_r rfl rfl s1) h
theorem t274_8 {d : Nat} {l0 : Nat} {l1 : Int} {l2 : Int} {l3 : Nat} {t0 : Nat} {t1 : Int} {t2 : Int} {M : Mem} {K : KK} {Q : RR → Mem → KK → Prop} (h : isO K.1 t0 22 = true ∧ (0 ≤ t1 ∧ t1 < (ln t0 : Int)) ∧ Q (.inl (some (vI (0 : Int)))) (mset M t0 (Int.toNat t1) t2) K) : Wp d 274 8 [vR l0, vI l1, vI l2, vR l3, vU] [vI t2, vI t1, vR t0] M K Q := by
  refine r_i2l c274_8 ?_
  obtain ⟨s1, h⟩ := h
  obtain ⟨s2, h⟩ := h
  refine r_las c274_9 s1 s2 ?_
  refine r_goto c274_10 ?_
  refine r_iconst c274_21 ?_
  exact r_iret c274_22 (Or.inl rfl) h
theorem t274_13 {d : Nat} {l0 : Nat} {l1 : Int} {l2 : Int} {l3 : Nat} {M : Mem} {K : KK} {Q : RR → Mem → KK → Prop} (h : Q (.inl (some (vI (1 : Int)))) M K) : Wp d 274 13 [vR l0, vI l1, vI l2, vR l3, vU] [vU] M K Q := by
  refine r_ustore c274_13 (Nat.le_of_ble_eq_true rfl) ?_
  refine r_iconst c274_15 ?_
  exact r_iret c274_16 (Or.inl rfl) h
theorem t274_17 {d : Nat} {l0 : Nat} {l1 : Int} {l2 : Int} {l3 : Nat} {M : Mem} {K : KK} {Q : RR → Mem → KK → Prop} (h : Q (.inl (some (vI (2 : Int)))) M K) : Wp d 274 17 [vR l0, vI l1, vI l2, vR l3, vU] [vU] M K Q := by
  refine r_ustore c274_17 (Nat.le_of_ble_eq_true rfl) ?_
  refine r_iconst c274_19 ?_
  exact r_iret c274_20 (Or.inl rfl) h
theorem t275_0 {d : Nat} {l0 : Nat} {l1 : Int} {l2 : Int} {l3 : Int} {l4 : Int} {l5 : Int} {l6 : Nat} {M : Mem} {K : KK} {Q : RR → Mem → KK → Prop} (h : isO K.1 l0 11 = true ∧ Wm d 118 [vR l0, vI l1, vI l2, vI l3, vI l4, vI l5] M K (Bk d 275 11 14 118 [vR l0, vI l1, vI l2, vI l3, vI l4, vI l5, vR l6, vU] [vI (0 : Int), vR l6] Q)) : Wp (d + 1) 275 0 [vR l0, vI l1, vI l2, vI l3, vI l4, vI l5, vR l6, vU] [] M K Q := by
  refine r_aload c275_0 rfl ?_
  refine r_iconst c275_2 ?_
  refine r_aload_n c275_3 rfl ?_
  refine r_iload_n c275_4 rfl ?_
  refine r_iload_n c275_5 rfl ?_
  refine r_iload_n c275_6 rfl ?_
  refine r_iload c275_7 rfl ?_
  refine r_iload c275_9 rfl ?_
  obtain ⟨s1, h⟩ := h
  exact r_call c275_11 rfl rfl (Nat.le_of_ble_eq_true rfl) (okc_r rfl rfl s1) h
theorem t275_14 {d : Nat} {l0 : Nat} {l1 : Int} {l2 : Int} {l3 : Int} {l4 : Int} {l5 : Int} {l6 : Nat} {t0 : Nat} {t1 : Int} {t2 : Int} {M : Mem} {K : KK} {Q : RR → Mem → KK → Prop} (h : isO K.1 t0 22 = true ∧ (0 ≤ t1 ∧ t1 < (ln t0 : Int)) ∧ Q (.inl (some (vI (0 : Int)))) (mset M t0 (Int.toNat t1) t2) K) : Wp d 275 14 [vR l0, vI l1, vI l2, vI l3, vI l4, vI l5, vR l6, vU] [vL t2, vI t1, vR t0] M K Q := by
  obtain ⟨s1, h⟩ := h
  obtain ⟨s2, h⟩ := h
  refine r_las c275_14 s1 s2 ?_
  refine r_goto c275_15 ?_
  refine r_iconst c275_26 ?_
  exact r_iret c275_27 (Or.inl rfl) h
theorem t275_18 {d : Nat} {l0 : Nat} {l1 : Int} {l2 : Int} {l3 : Int} {l4 : Int} {l5 : Int} {l6 : Nat} {M : Mem} {K : KK} {Q : RR → Mem → KK → Prop} (h : Q (.inl (some (vI (1 : Int)))) M K) : Wp d 275 18 [vR l0, vI l1, vI l2, vI l3, vI l4, vI l5, vR l6, vU] [vU] M K Q := by
  refine r_ustore c275_18 (Nat.le_of_ble_eq_true rfl) ?_
  refine r_iconst c275_20 ?_
  exact r_iret c275_21 (Or.inl rfl) h
theorem t275_22 {d : Nat} {l0 : Nat} {l1 : Int} {l2 : Int} {l3 : Int} {l4 : Int} {l5 : Int} {l6 : Nat} {M : Mem} {K : KK} {Q : RR → Mem → KK → Prop} (h : Q (.inl (some (vI (2 : Int)))) M K) : Wp d 275 22 [vR l0, vI l1, vI l2, vI l3, vI l4, vI l5, vR l6, vU] [vU] M K Q := by
  refine r_ustore c275_22 (Nat.le_of_ble_eq_true rfl) ?_
  refine r_iconst c275_24 ?_
  exact r_iret c275_25 (Or.inl rfl) h
theorem t276_0 {d : Nat} {l0 : Nat} {l1 : Int} {l2 : Int} {l3 : Nat} {M : Mem} {K : KK} {Q : RR → Mem → KK → Prop} (h : isO K.1 l0 11 = true ∧ Wm d 119 [vR l0, vI l1, vI l2] M K (Bk d 276 5 8 119 [vR l0, vI l1, vI l2, vR l3, vU] [vI (0 : Int), vR l3] Q)) : Wp (d + 1) 276 0 [vR l0, vI l1, vI l2, vR l3, vU] [] M K Q := by
  refine r_aload_n c276_0 rfl ?_
  refine r_iconst c276_1 ?_
  refine r_aload_n c276_2 rfl ?_
  refine r_iload_n c276_3 rfl ?_
  refine r_iload_n c276_4 rfl ?_
  obtain ⟨s1, h⟩ := h
  exact r_call c276_5 rfl rfl (Nat.le_of_ble_eq_true rfl) (okc_r rfl rfl s1) h
theorem t276_8 {d : Nat} {l0 : Nat} {l1 : Int} {l2 : Int} {l3 : Nat} {t0 : Nat} {t1 : Int} {t2 : Int} {M : Mem} {K : KK} {Q : RR → Mem → KK → Prop} (h : isO K.1 t0 22 = true ∧ (0 ≤ t1 ∧ t1 < (ln t0 : Int)) ∧ Q (.inl (some (vI (0 : Int)))) (mset M t0 (Int.toNat t1) t2) K) : Wp d 276 8 [vR l0, vI l1, vI l2, vR l3, vU] [vI t2, vI t1, vR t0] M K Q := by
  refine r_i2l c276_8 ?_
  obtain ⟨s1, h⟩ := h
  obtain ⟨s2, h⟩ := h
  refine r_las c276_9 s1 s2 ?_
  refine r_goto c276_10 ?_
  refine r_iconst c276_17 ?_
  exact r_iret c276_18 (Or.inl rfl) h
theorem t276_13 {d : Nat} {l0 : Nat} {l1 : Int} {l2 : Int} {l3 : Nat} {M : Mem} {K : KK} {Q : RR → Mem → KK → Prop} (h : Q (.inl (some (vI (1 : Int)))) M K) : Wp d 276 13 [vR l0, vI l1, vI l2, vR l3, vU] [vU] M K Q := by
  refine r_ustore c276_13 (Nat.le_of_ble_eq_true rfl) ?_
  refine r_iconst c276_15 ?_
  exact r_iret c276_16 (Or.inl rfl) h
theorem t277_0 {d : Nat} {l0 : Nat} {l1 : Int} {l2 : Int} {l3 : Nat} {M : Mem} {K : KK} {Q : RR → Mem → KK → Prop} (h : isO K.1 l0 11 = true ∧ Wm d 120 [vR l0, vI l1, vI l2] M K (Bk d 277 5 8 120 [vR l0, vI l1, vI l2, vR l3, vU] [vI (0 : Int), vR l3] Q)) : Wp (d + 1) 277 0 [vR l0, vI l1, vI l2, vR l3, vU] [] M K Q := by
  refine r_aload_n c277_0 rfl ?_
  refine r_iconst c277_1 ?_
  refine r_aload_n c277_2 rfl ?_
  refine r_iload_n c277_3 rfl ?_
  refine r_iload_n c277_4 rfl ?_
  obtain ⟨s1, h⟩ := h
  exact r_call c277_5 rfl rfl (Nat.le_of_ble_eq_true rfl) (okc_r rfl rfl s1) h
theorem t277_8 {d : Nat} {l0 : Nat} {l1 : Int} {l2 : Int} {l3 : Nat} {t0 : Nat} {t1 : Int} {t2 : Int} {M : Mem} {K : KK} {Q : RR → Mem → KK → Prop} (h : isO K.1 t0 22 = true ∧ (0 ≤ t1 ∧ t1 < (ln t0 : Int)) ∧ Q (.inl (some (vI (0 : Int)))) (mset M t0 (Int.toNat t1) t2) K) : Wp d 277 8 [vR l0, vI l1, vI l2, vR l3, vU] [vI t2, vI t1, vR t0] M K Q := by
  refine r_i2l c277_8 ?_
  obtain ⟨s1, h⟩ := h
  obtain ⟨s2, h⟩ := h
  refine r_las c277_9 s1 s2 ?_
  refine r_goto c277_10 ?_
  refine r_iconst c277_17 ?_
  exact r_iret c277_18 (Or.inl rfl) h
theorem t277_13 {d : Nat} {l0 : Nat} {l1 : Int} {l2 : Int} {l3 : Nat} {M : Mem} {K : KK} {Q : RR → Mem → KK → Prop} (h : Q (.inl (some (vI (1 : Int)))) M K) : Wp d 277 13 [vR l0, vI l1, vI l2, vR l3, vU] [vU] M K Q := by
  refine r_ustore c277_13 (Nat.le_of_ble_eq_true rfl) ?_
  refine r_iconst c277_15 ?_
  exact r_iret c277_16 (Or.inl rfl) h
theorem t278_0 {d : Nat} {l0 : Nat} {l1 : Int} {l2 : Nat} {M : Mem} {K : KK} {Q : RR → Mem → KK → Prop} (h : isO K.1 l0 11 = true ∧ Wm d 122 [vR l0, vI l1] M K (Bk d 278 4 7 122 [vR l0, vI l1, vR l2, vU] [vI (0 : Int), vR l2] Q)) : Wp (d + 1) 278 0 [vR l0, vI l1, vR l2, vU] [] M K Q := by
  refine r_aload_n c278_0 rfl ?_
  refine r_iconst c278_1 ?_
  refine r_aload_n c278_2 rfl ?_
  refine r_iload_n c278_3 rfl ?_
  obtain ⟨s1, h⟩ := h
  exact r_call c278_4 rfl rfl (Nat.le_of_ble_eq_true rfl) (okc_r rfl rfl s1) h
theorem t278_7 {d : Nat} {l0 : Nat} {l1 : Int} {l2 : Nat} {t0 : Nat} {t1 : Int} {t2 : Int} {M : Mem} {K : KK} {Q : RR → Mem → KK → Prop} (h : isO K.1 t0 22 = true ∧ (0 ≤ t1 ∧ t1 < (ln t0 : Int)) ∧ Q (.inl (some (vI (0 : Int)))) (mset M t0 (Int.toNat t1) t2) K) : Wp d 278 7 [vR l0, vI l1, vR l2, vU] [vI t2, vI t1, vR t0] M K Q := by
  refine r_i2l c278_7 ?_
  obtain ⟨s1, h⟩ := h
  obtain ⟨s2, h⟩ := h
  refine r_las c278_8 s1 s2 ?_
  refine r_goto c278_9 ?_
  refine r_iconst c278_15 ?_
  exact r_iret c278_16 (Or.inl rfl) h
theorem t278_12 {d : Nat} {l0 : Nat} {l1 : Int} {l2 : Nat} {M : Mem} {K : KK} {Q : RR → Mem → KK → Prop} (h : Q (.inl (some (vI (1 : Int)))) M K) : Wp d 278 12 [vR l0, vI l1, vR l2, vU] [vU] M K Q := by
  refine r_ustore_n c278_12 (Nat.le_of_ble_eq_true rfl) ?_
  refine r_iconst c278_13 ?_
  exact r_iret c278_14 (Or.inl rfl) h
theorem t279_0 {d : Nat} {l0 : Nat} {l1 : Int} {l2 : Nat} {M : Mem} {K : KK} {Q : RR → Mem → KK → Prop} (h : isO K.1 l0 11 = true ∧ Wm d 123 [vR l0, vI l1] M K (Bk d 279 4 7 123 [vR l0, vI l1, vR l2, vU] [vI (0 : Int), vR l2] Q)) : Wp (d + 1) 279 0 [vR l0, vI l1, vR l2, vU] [] M K Q := by
  refine r_aload_n c279_0 rfl ?_
  refine r_iconst c279_1 ?_
  refine r_aload_n c279_2 rfl ?_
  refine r_iload_n c279_3 rfl ?_
  obtain ⟨s1, h⟩ := h
  exact r_call c279_4 rfl rfl (Nat.le_of_ble_eq_true rfl) (okc_r rfl rfl s1) h
theorem t279_7 {d : Nat} {l0 : Nat} {l1 : Int} {l2 : Nat} {t0 : Nat} {t1 : Int} {t2 : Int} {M : Mem} {K : KK} {Q : RR → Mem → KK → Prop} (h : isO K.1 t0 22 = true ∧ (0 ≤ t1 ∧ t1 < (ln t0 : Int)) ∧ Q (.inl (some (vI (0 : Int)))) (mset M t0 (Int.toNat t1) t2) K) : Wp d 279 7 [vR l0, vI l1, vR l2, vU] [vI t2, vI t1, vR t0] M K Q := by
  refine r_i2l c279_7 ?_
  obtain ⟨s1, h⟩ := h
  obtain ⟨s2, h⟩ := h
  refine r_las c279_8 s1 s2 ?_
  refine r_goto c279_9 ?_
  refine r_iconst c279_15 ?_
  exact r_iret c279_16 (Or.inl rfl) h
theorem t279_12 {d : Nat} {l0 : Nat} {l1 : Int} {l2 : Nat} {M : Mem} {K : KK} {Q : RR → Mem → KK → Prop} (h : Q (.inl (some (vI (1 : Int)))) M K) : Wp d 279 12 [vR l0, vI l1, vR l2, vU] [vU] M K Q := by
  refine r_ustore_n c279_12 (Nat.le_of_ble_eq_true rfl) ?_
  refine r_iconst c279_13 ?_
  exact r_iret c279_14 (Or.inl rfl) h
theorem t280_0 {d : Nat} {l0 : Nat} {l1 : Int} {l2 : Int} {l3 : Int} {l4 : Nat} {M : Mem} {K : KK} {Q : RR → Mem → KK → Prop} (h : isO K.1 l0 11 = true ∧ Wm d 124 [vR l0, vI l1, vI l2, vI l3] M K (Bk d 280 7 10 124 [vR l0, vI l1, vI l2, vI l3, vR l4, vU] [vI (0 : Int), vR l4] Q)) : Wp (d + 1) 280 0 [vR l0, vI l1, vI l2, vI l3, vR l4, vU] [] M K Q := by
  refine r_aload c280_0 rfl ?_
  refine r_iconst c280_2 ?_
  refine r_aload_n c280_3 rfl ?_
  refine r_iload_n c280_4 rfl ?_
  refine r_iload_n c280_5 rfl ?_
  refine r_iload_n c280_6 rfl ?_
  obtain ⟨s1, h⟩ := h
  exact r_call c280_7 rfl rfl (Nat.le_of_ble_eq_true rfl) (okc_r rfl rfl s1) h
theorem t280_10 {d : Nat} {l0 : Nat} {l1 : Int} {l2 : Int} {l3 : Int} {l4 : Nat} {t0 : Nat} {t1 : Int} {t2 : Int} {M : Mem} {K : KK} {Q : RR → Mem → KK → Prop} (h : isO K.1 t0 22 = true ∧ (0 ≤ t1 ∧ t1 < (ln t0 : Int)) ∧ Q (.inl (some (vI (0 : Int)))) (mset M t0 (Int.toNat t1) t2) K) : Wp d 280 10 [vR l0, vI l1, vI l2, vI l3, vR l4, vU] [vI t2, vI t1, vR t0] M K Q := by
  refine r_i2l c280_10 ?_
  obtain ⟨s1, h⟩ := h
  obtain ⟨s2, h⟩ := h
  refine r_las c280_11 s1 s2 ?_
  refine r_goto c280_12 ?_
  refine r_iconst c280_23 ?_
  exact r_iret c280_24 (Or.inl rfl) h
theorem t280_15 {d : Nat} {l0 : Nat} {l1 : Int} {l2 : Int} {l3 : Int} {l4 : Nat} {M : Mem} {K : KK} {Q : RR → Mem → KK → Prop} (h : Q (.inl (some (vI (1 : Int)))) M K) : Wp d 280 15 [vR l0, vI l1, vI l2, vI l3, vR l4, vU] [vU] M K Q := by
  refine r_ustore c280_15 (Nat.le_of_ble_eq_true rfl) ?_
  refine r_iconst c280_17 ?_
  exact r_iret c280_18 (Or.inl rfl) h
theorem t280_19 {d : Nat} {l0 : Nat} {l1 : Int} {l2 : Int} {l3 : Int} {l4 : Nat} {M : Mem} {K : KK} {Q : RR → Mem → KK → Prop} (h : Q (.inl (some (vI (2 : Int)))) M K) : Wp d 280 19 [vR l0, vI l1, vI l2, vI l3, vR l4, vU] [vU] M K Q := by
  refine r_ustore c280_19 (Nat.le_of_ble_eq_true rfl) ?_
  refine r_iconst c280_21 ?_
  exact r_iret c280_22 (Or.inl rfl) h
theorem t281_0 {d : Nat} {l0 : Nat} {l1 : Int} {l2 : Nat} {M : Mem} {K : KK} {Q : RR → Mem → KK → Prop} (h : isO K.1 l0 11 = true ∧ Wm d 125 [vR l0, vI l1] M K (Bk d 281 4 7 125 [vR l0, vI l1, vR l2, vU] [vI (0 : Int), vR l2] Q)) : Wp (d + 1) 281 0 [vR l0, vI l1, vR l2, vU] [] M K Q := by
  refine r_aload_n c281_0 rfl ?_
  refine r_iconst c281_1 ?_
  refine r_aload_n c281_2 rfl ?_
  refine r_iload_n c281_3 rfl ?_
  obtain ⟨s1, h⟩ := h
  exact r_call c281_4 rfl rfl (Nat.le_of_ble_eq_true rfl) (okc_r rfl rfl s1) h
theorem t281_7 {d : Nat} {l0 : Nat} {l1 : Int} {l2 : Nat} {t0 : Nat} {t1 : Int} {t2 : Int} {M : Mem} {K : KK} {Q : RR → Mem → KK → Prop} (h : isO K.1 t0 22 = true ∧ (0 ≤ t1 ∧ t1 < (ln t0 : Int)) ∧ Q (.inl (some (vI (0 : Int)))) (mset M t0 (Int.toNat t1) t2) K) : Wp d 281 7 [vR l0, vI l1, vR l2, vU] [vI t2, vI t1, vR t0] M K Q := by
  refine r_i2l c281_7 ?_
  obtain ⟨s1, h⟩ := h
  obtain ⟨s2, h⟩ := h
  refine r_las c281_8 s1 s2 ?_
  refine r_goto c281_9 ?_
  refine r_iconst c281_15 ?_
  exact r_iret c281_16 (Or.inl rfl) h
theorem t281_12 {d : Nat} {l0 : Nat} {l1 : Int} {l2 : Nat} {M : Mem} {K : KK} {Q : RR → Mem → KK → Prop} (h : Q (.inl (some (vI (1 : Int)))) M K) : Wp d 281 12 [vR l0, vI l1, vR l2, vU] [vU] M K Q := by
  refine r_ustore_n c281_12 (Nat.le_of_ble_eq_true rfl) ?_
  refine r_iconst c281_13 ?_
  exact r_iret c281_14 (Or.inl rfl) h
theorem t282_0 {d : Nat} {l0 : Nat} {l1 : Int} {l2 : Nat} {M : Mem} {K : KK} {Q : RR → Mem → KK → Prop} (h : isO K.1 l0 11 = true ∧ Wm d 126 [vR l0, vI l1] M K (Bk d 282 4 7 126 [vR l0, vI l1, vR l2, vU] [vI (0 : Int), vR l2] Q)) : Wp (d + 1) 282 0 [vR l0, vI l1, vR l2, vU] [] M K Q := by
  refine r_aload_n c282_0 rfl ?_
  refine r_iconst c282_1 ?_
  refine r_aload_n c282_2 rfl ?_
  refine r_iload_n c282_3 rfl ?_
  obtain ⟨s1, h⟩ := h
  exact r_call c282_4 rfl rfl (Nat.le_of_ble_eq_true rfl) (okc_r rfl rfl s1) h
theorem t282_7 {d : Nat} {l0 : Nat} {l1 : Int} {l2 : Nat} {t0 : Nat} {t1 : Int} {t2 : Int} {M : Mem} {K : KK} {Q : RR → Mem → KK → Prop} (h : isO K.1 t0 22 = true ∧ (0 ≤ t1 ∧ t1 < (ln t0 : Int)) ∧ Q (.inl (some (vI (0 : Int)))) (mset M t0 (Int.toNat t1) t2) K) : Wp d 282 7 [vR l0, vI l1, vR l2, vU] [vI t2, vI t1, vR t0] M K Q := by
  refine r_i2l c282_7 ?_
  obtain ⟨s1, h⟩ := h
  obtain ⟨s2, h⟩ := h
  refine r_las c282_8 s1 s2 ?_
  refine r_goto c282_9 ?_
  refine r_iconst c282_15 ?_
  exact r_iret c282_16 (Or.inl rfl) h
theorem t282_12 {d : Nat} {l0 : Nat} {l1 : Int} {l2 : Nat} {M : Mem} {K : KK} {Q : RR → Mem → KK → Prop} (h : Q (.inl (some (vI (1 : Int)))) M K) : Wp d 282 12 [vR l0, vI l1, vR l2, vU] [vU] M K Q := by
  refine r_ustore_n c282_12 (Nat.le_of_ble_eq_true rfl) ?_
  refine r_iconst c282_13 ?_
  exact r_iret c282_14 (Or.inl rfl) h
theorem t283_0 {d : Nat} {l0 : Nat} {l1 : Int} {l2 : Int} {l3 : Nat} {M : Mem} {K : KK} {Q : RR → Mem → KK → Prop} (h : isO K.1 l0 11 = true ∧ Wm d 127 [vR l0, vI l1, vI l2] M K (Bk d 283 5 8 127 [vR l0, vI l1, vI l2, vR l3, vU] [vI (0 : Int), vR l3] Q)) : Wp (d + 1) 283 0 [vR l0, vI l1, vI l2, vR l3, vU] [] M K Q := by
  refine r_aload_n c283_0 rfl ?_
  refine r_iconst c283_1 ?_
  refine r_aload_n c283_2 rfl ?_
  refine r_iload_n c283_3 rfl ?_
  refine r_iload_n c283_4 rfl ?_
  obtain ⟨s1, h⟩ := h
  exact r_call c283_5 rfl rfl (Nat.le_of_ble_eq_true rfl) (okc_r rfl rfl s1) h
theorem t283_8 {d : Nat} {l0 : Nat} {l1 : Int} {l2 : Int} {l3 : Nat} {t0 : Nat} {t1 : Int} {t2 : Int} {M : Mem} {K : KK} {Q : RR → Mem → KK → Prop} (h : isO K.1 t0 22 = true ∧ (0 ≤ t1 ∧ t1 < (ln t0 : Int)) ∧ Q (.inl (some (vI (0 : Int)))) (mset M t0 (Int.toNat t1) t2) K) : Wp d 283 8 [vR l0, vI l1, vI l2, vR l3, vU] [vI t2, vI t1, vR t0] M K Q := by
  refine r_i2l c283_8 ?_
  obtain ⟨s1, h⟩ := h
  obtain ⟨s2, h⟩ := h
  refine r_las c283_9 s1 s2 ?_
  refine r_goto c283_10 ?_
  refine r_iconst c283_21 ?_
  exact r_iret c283_22 (Or.inl rfl) h
theorem t283_13 {d : Nat} {l0 : Nat} {l1 : Int} {l2 : Int} {l3 : Nat} {M : Mem} {K : KK} {Q : RR → Mem → KK → Prop} (h : Q (.inl (some (vI (1 : Int)))) M K) : Wp d 283 13 [vR l0, vI l1, vI l2, vR l3, vU] [vU] M K Q := by
  refine r_ustore c283_13 (Nat.le_of_ble_eq_true rfl) ?_
  refine r_iconst c283_15 ?_
  exact r_iret c283_16 (Or.inl rfl) h
theorem t283_17 {d : Nat} {l0 : Nat} {l1 : Int} {l2 : Int} {l3 : Nat} {M : Mem} {K : KK} {Q : RR → Mem → KK → Prop} (h : Q (.inl (some (vI (2 : Int)))) M K) : Wp d 283 17 [vR l0, vI l1, vI l2, vR l3, vU] [vU] M K Q := by
  refine r_ustore c283_17 (Nat.le_of_ble_eq_true rfl) ?_
  refine r_iconst c283_19 ?_
  exact r_iret c283_20 (Or.inl rfl) h
theorem t284_0 {d : Nat} {l0 : Nat} {l1 : Int} {l2 : Int} {l3 : Nat} {M : Mem} {K : KK} {Q : RR → Mem → KK → Prop} (h : isO K.1 l0 11 = true ∧ Wm d 128 [vR l0, vI l1, vI l2] M K (Bk d 284 5 8 128 [vR l0, vI l1, vI l2, vR l3, vU] [vI (0 : Int), vR l3] Q)) : Wp (d + 1) 284 0 [vR l0, vI l1, vI l2, vR l3, vU] [] M K Q := by
  refine r_aload_n c284_0 rfl ?_
  refine r_iconst c284_1 ?_
  refine r_aload_n c284_2 rfl ?_
  refine r_iload_n c284_3 rfl ?_
  refine r_iload_n c284_4 rfl ?_
  obtain ⟨s1, h⟩ := h
  exact r_call c284_5 rfl rfl (Nat.le_of_ble_eq_true rfl) (okc_r rfl rfl s1) h
theorem t284_8 {d : Nat} {l0 : Nat} {l1 : Int} {l2 : Int} {l3 : Nat} {t0 : Nat} {t1 : Int} {t2 : Int} {M : Mem} {K : KK} {Q : RR → Mem → KK → Prop} (h : isO K.1 t0 22 = true ∧ (0 ≤ t1 ∧ t1 < (ln t0 : Int)) ∧ Q (.inl (some (vI (0 : Int)))) (mset M t0 (Int.toNat t1) t2) K) : Wp d 284 8 [vR l0, vI l1, vI l2, vR l3, vU] [vI t2, vI t1, vR t0] M K Q := by
  refine r_i2l c284_8 ?_
  obtain ⟨s1, h⟩ := h
  obtain ⟨s2, h⟩ := h
  refine r_las c284_9 s1 s2 ?_
  refine r_goto c284_10 ?_
  refine r_iconst c284_17 ?_
  exact r_iret c284_18 (Or.inl rfl) h
theorem t284_13 {d : Nat} {l0 : Nat} {l1 : Int} {l2 : Int} {l3 : Nat} {M : Mem} {K : KK} {Q : RR → Mem → KK → Prop} (h : Q (.inl (some (vI (1 : Int)))) M K) : Wp d 284 13 [vR l0, vI l1, vI l2, vR l3, vU] [vU] M K Q := by
  refine r_ustore c284_13 (Nat.le_of_ble_eq_true rfl) ?_
  refine r_iconst c284_15 ?_
  exact r_iret c284_16 (Or.inl rfl) h
theorem t285_0 {d : Nat} {l0 : Nat} {l1 : Int} {l2 : Nat} {M : Mem} {K : KK} {Q : RR → Mem → KK → Prop} (h : isO K.1 l0 11 = true ∧ Wm d 113 [vR l0, vI l1] M K (Bk d 285 4 7 113 [vR l0, vI l1, vR l2, vU] [vI (0 : Int), vR l2] Q)) : Wp (d + 1) 285 0 [vR l0, vI l1, vR l2, vU] [] M K Q := by
  refine r_aload_n c285_0 rfl ?_
  refine r_iconst c285_1 ?_
  refine r_aload_n c285_2 rfl ?_
  refine r_iload_n c285_3 rfl ?_
  obtain ⟨s1, h⟩ := h
  exact r_call c285_4 rfl rfl (Nat.le_of_ble_eq_true rfl) (okc_r rfl rfl s1) h
theorem t285_7 {d : Nat} {l0 : Nat} {l1 : Int} {l2 : Nat} {t0 : Nat} {t1 : Int} {t2 : Int} {M : Mem} {K : KK} {Q : RR → Mem → KK → Prop} (h : isO K.1 t0 22 = true ∧ (0 ≤ t1 ∧ t1 < (ln t0 : Int)) ∧ Q (.inl (some (vI (0 : Int)))) (mset M t0 (Int.toNat t1) t2) K) : Wp d 285 7 [vR l0, vI l1, vR l2, vU] [vI t2, vI t1, vR t0] M K Q := by
  refine r_i2l c285_7 ?_
  obtain ⟨s1, h⟩ := h
  obtain ⟨s2, h⟩ := h
  refine r_las c285_8 s1 s2 ?_
  refine r_goto c285_9 ?_
  refine r_iconst c285_15 ?_
  exact r_iret c285_16 (Or.inl rfl) h
theorem t285_12 {d : Nat} {l0 : Nat} {l1 : Int} {l2 : Nat} {M : Mem} {K : KK} {Q : RR → Mem → KK → Prop} (h : Q (.inl (some (vI (1 : Int)))) M K) : Wp d 285 12 [vR l0, vI l1, vR l2, vU] [vU] M K Q := by
  refine r_ustore_n c285_12 (Nat.le_of_ble_eq_true rfl) ?_
  refine r_iconst c285_13 ?_
  exact r_iret c285_14 (Or.inl rfl) h
theorem t286_0 {d : Nat} {l0 : Nat} {l1 : Int} {l2 : Int} {l3 : Int} {l4 : Int} {l5 : Int} {l6 : Nat} {M : Mem} {K : KK} {Q : RR → Mem → KK → Prop} (h : isO K.1 l0 11 = true ∧ Wm d 130 [vR l0, vI l1, vI l2, vI l3, vI l4, vI l5] M K (Bk d 286 11 14 130 [vR l0, vI l1, vI l2, vI l3, vI l4, vI l5, vR l6, vU] [vI (0 : Int), vR l6] Q)) : Wp (d + 1) 286 0 [vR l0, vI l1, vI l2, vI l3, vI l4, vI l5, vR l6, vU] [] M K Q := by
  refine r_aload c286_0 rfl ?_
  refine r_iconst c286_2 ?_
  refine r_aload_n c286_3 rfl ?_
  refine r_iload_n c286_4 rfl ?_
  refine r_iload_n c286_5 rfl ?_
  refine r_iload_n c286_6 rfl ?_
  refine r_iload c286_7 rfl ?_
  refine r_iload c286_9 rfl ?_
  obtain ⟨s1, h⟩ := h
  exact r_call c286_11 rfl rfl (Nat.le_of_ble_eq_true rfl) (okc_r rfl rfl s1) h
theorem t286_14 {d : Nat} {l0 : Nat} {l1 : Int} {l2 : Int} {l3 : Int} {l4 : Int} {l5 : Int} {l6 : Nat} {t0 : Nat} {t1 : Int} {t2 : Int} {M : Mem} {K : KK} {Q : RR → Mem → KK → Prop} (h : isO K.1 t0 22 = true ∧ (0 ≤ t1 ∧ t1 < (ln t0 : Int)) ∧ Q (.inl (some (vI (0 : Int)))) (mset M t0 (Int.toNat t1) t2) K) : Wp d 286 14 [vR l0, vI l1, vI l2, vI l3, vI l4, vI l5, vR l6, vU] [vI t2, vI t1, vR t0] M K Q := by
  refine r_i2l c286_14 ?_
  obtain ⟨s1, h⟩ := h
  obtain ⟨s2, h⟩ := h
  refine r_las c286_15 s1 s2 ?_
  refine r_goto c286_16 ?_
  refine r_iconst c286_23 ?_
  exact r_iret c286_24 (Or.inl rfl) h
theorem t286_19 {d : Nat} {l0 : Nat} {l1 : Int} {l2 : Int} {l3 : Int} {l4 : Int} {l5 : Int} {l6 : Nat} {M : Mem} {K : KK} {Q : RR → Mem → KK → Prop} (h : Q (.inl (some (vI (1 : Int)))) M K) : Wp d 286 19 [vR l0, vI l1, vI l2, vI l3, vI l4, vI l5, vR l6, vU] [vU] M K Q := by
  refine r_ustore c286_19 (Nat.le_of_ble_eq_true rfl) ?_
  refine r_iconst c286_21 ?_
  exact r_iret c286_22 (Or.inl rfl) h
theorem t287_0 {d : Nat} {l0 : Nat} {l1 : Int} {l2 : Int} {l3 : Int} {l4 : Int} {l5 : Int} {l6 : Int} {l7 : Int} {l8 : Nat} {M : Mem} {K : KK} {Q : RR → Mem → KK → Prop} (h : isO K.1 l0 11 = true ∧ Wm d 131 [vR l0, vI l1, vI l2, vI l3, vI l4, vI l5, vI l6, vI l7] M K (Bk d 287 15 18 131 [vR l0, vI l1, vI l2, vI l3, vI l4, vI l5, vI l6, vI l7, vR l8, vU] [vI (0 : Int), vR l8] Q)) : Wp (d + 1) 287 0 [vR l0, vI l1, vI l2, vI l3, vI l4, vI l5, vI l6, vI l7, vR l8, vU] [] M K Q := by
  refine r_aload c287_0 rfl ?_
  refine r_iconst c287_2 ?_
  refine r_aload_n c287_3 rfl ?_
  refine r_iload_n c287_4 rfl ?_
  refine r_iload_n c287_5 rfl ?_
  refine r_iload_n c287_6 rfl ?_
  refine r_iload c287_7 rfl ?_
  refine r_iload c287_9 rfl ?_
  refine r_iload c287_11 rfl ?_
  refine r_iload c287_13 rfl ?_
  obtain ⟨s1, h⟩ := h
  exact r_call c287_15 rfl rfl (Nat.le_of_ble_eq_true rfl) (okc_r rfl rfl s1) h
theorem t287_18 {d : Nat} {l0 : Nat} {l1 : Int} {l2 : Int} {l3 : Int} {l4 : Int} {l5 : Int} {l6 : Int} {l7 : Int} {l8 : Nat} {t0 : Nat} {t1 : Int} {t2 : Int} {M : Mem} {K : KK} {Q : RR → Mem → KK → Prop} (h : isO K.1 t0 22 = true ∧ (0 ≤ t1 ∧ t1 < (ln t0 : Int)) ∧ Q (.inl (some (vI (0 : Int)))) (mset M t0 (Int.toNat t1) t2) K) : Wp d 287 18 [vR l0, vI l1, vI l2, vI l3, vI l4, vI l5, vI l6, vI l7, vR l8, vU] [vI t2, vI t1, vR t0] M K Q := by
  refine r_i2l c287_18 ?_
  obtain ⟨s1, h⟩ := h
  obtain ⟨s2, h⟩ := h
  refine r_las c287_19 s1 s2 ?_
  refine r_goto c287_20 ?_
  refine r_iconst c287_27 ?_
  exact r_iret c287_28 (Or.inl rfl) h
theorem t287_23 {d : Nat} {l0 : Nat} {l1 : Int} {l2 : Int} {l3 : Int} {l4 : Int} {l5 : Int} {l6 : Int} {l7 : Int} {l8 : Nat} {M : Mem} {K : KK} {Q : RR → Mem → KK → Prop} (h : Q (.inl (some (vI (1 : Int)))) M K) : Wp d 287 23 [vR l0, vI l1, vI l2, vI l3, vI l4, vI l5, vI l6, vI l7, vR l8, vU] [vU] M K Q := by
  refine r_ustore c287_23 (Nat.le_of_ble_eq_true rfl) ?_
  refine r_iconst c287_25 ?_
  exact r_iret c287_26 (Or.inl rfl) h
theorem t289_0 {d : Nat} {l0 : Int} {M : Mem} {K : KK} {Q : RR → Mem → KK → Prop} (h : Q (.inl (some (vI (jand (w32 ((w32 ((jand (w32 ((w32 ((jand (w32 (l0 - (jand (jushr l0 (1 : Int)) (1431655765 : Int)))) (858993459 : Int)) + (jand (jushr (w32 (l0 - (jand (jushr l0 (1 : Int)) (1431655765 : Int)))) (2 : Int)) (858993459 : Int)))) + (jushr (w32 ((jand (w32 (l0 - (jand (jushr l0 (1 : Int)) (1431655765 : Int)))) (858993459 : Int)) + (jand (jushr (w32 (l0 - (jand (jushr l0 (1 : Int)) (1431655765 : Int)))) (2 : Int)) (858993459 : Int)))) (4 : Int)))) (252645135 : Int)) + (jushr (jand (w32 ((w32 ((jand (w32 (l0 - (jand (jushr l0 (1 : Int)) (1431655765 : Int)))) (858993459 : Int)) + (jand (jushr (w32 (l0 - (jand (jushr l0 (1 : Int)) (1431655765 : Int)))) (2 : Int)) (858993459 : Int)))) + (jushr (w32 ((jand (w32 (l0 - (jand (jushr l0 (1 : Int)) (1431655765 : Int)))) (858993459 : Int)) + (jand (jushr (w32 (l0 - (jand (jushr l0 (1 : Int)) (1431655765 : Int)))) (2 : Int)) (858993459 : Int)))) (4 : Int)))) (252645135 : Int)) (8 : Int)))) + (jushr (w32 ((jand (w32 ((w32 ((jand (w32 (l0 - (jand (jushr l0 (1 : Int)) (1431655765 : Int)))) (858993459 : Int)) + (jand (jushr (w32 (l0 - (jand (jushr l0 (1 : Int)) (1431655765 : Int)))) (2 : Int)) (858993459 : Int)))) + (jushr (w32 ((jand (w32 (l0 - (jand (jushr l0 (1 : Int)) (1431655765 : Int)))) (858993459 : Int)) + (jand (jushr (w32 (l0 - (jand (jushr l0 (1 : Int)) (1431655765 : Int)))) (2 : Int)) (858993459 : Int)))) (4 : Int)))) (252645135 : Int)) + (jushr (jand (w32 ((w32 ((jand (w32 (l0 - (jand (jushr l0 (1 : Int)) (1431655765 : Int)))) (858993459 : Int)) + (jand (jushr (w32 (l0 - (jand (jushr l0 (1 : Int)) (1431655765 : Int)))) (2 : Int)) (858993459 : Int)))) + (jushr (w32 ((jand (w32 (l0 - (jand (jushr l0 (1 : Int)) (1431655765 : Int)))) (858993459 : Int)) + (jand (jushr (w32 (l0 - (jand (jushr l0 (1 : Int)) (1431655765 : Int)))) (2 : Int)) (858993459 : Int)))) (4 : Int)))) (252645135 : Int)) (8 : Int)))) (16 : Int)))) (63 : Int))))) M K) : Wp d 289 0 [vI l0] [] M K Q := by
  refine r_iload_n c289_0 rfl ?_
  refine r_iload_n c289_1 rfl ?_
  refine r_iconst c289_2 ?_
  refine r_iushr c289_3 ?_
  refine r_ldcw c289_4 ?_
  refine r_iand c289_7 ?_
  refine r_isub c289_8 ?_
  refine r_istore_n c289_9 (Nat.le_of_ble_eq_true rfl) ?_
  refine r_iload_n c289_10 rfl ?_
  refine r_ldcw c289_11 ?_
  refine r_iand c289_14 ?_
  refine r_iload_n c289_15 rfl ?_
  refine r_iconst c289_16 ?_
  refine r_iushr c289_17 ?_
  refine r_ldcw c289_18 ?_
  refine r_iand c289_21 ?_
  refine r_iadd c289_22 ?_
  refine r_istore_n c289_23 (Nat.le_of_ble_eq_true rfl) ?_
  refine r_iload_n c289_24 rfl ?_
  refine r_iload_n c289_25 rfl ?_
  refine r_iconst c289_26 ?_
  refine r_iushr c289_27 ?_
  refine r_iadd c289_28 ?_
  refine r_ldcw c289_29 ?_
  refine r_iand c289_32 ?_
  refine r_istore_n c289_33 (Nat.le_of_ble_eq_true rfl) ?_
  refine r_iload_n c289_34 rfl ?_
  refine r_iload_n c289_35 rfl ?_
  refine r_bipush c289_36 ?_
  refine r_iushr c289_38 ?_
  refine r_iadd c289_39 ?_
  refine r_istore_n c289_40 (Nat.le_of_ble_eq_true rfl) ?_
  refine r_iload_n c289_41 rfl ?_
  refine r_iload_n c289_42 rfl ?_
  refine r_bipush c289_43 ?_
  refine r_iushr c289_45 ?_
  refine r_iadd c289_46 ?_
  refine r_istore_n c289_47 (Nat.le_of_ble_eq_true rfl) ?_
  refine r_iload_n c289_48 rfl ?_
  refine r_bipush c289_49 ?_
  refine r_iand c289_51 ?_
  exact r_iret c289_52 (Or.inl rfl) h
