/-! the trees of the code -/
theorem t150_0 {d : Nat} {l0 : Nat} {M : Mem} {K : KK} {Q : RR → Mem → KK → Prop} (h : Wp d 150 2 [vR l0, vI (0 : Int)] [] M K Q) : Wp d 150 0 [vR l0, vU] [] M K Q := by
  refine r_iconst c150_0 ?_
  refine r_istore_n c150_1 (Nat.le_of_ble_eq_true rfl) ?_
  exact h
theorem t150_2 {d : Nat} {l0 : Nat} {l1 : Int} {M : Mem} {K : KK} {Q : RR → Mem → KK → Prop} (h : ((4 : Int) ≤ l1 → isO K.1 l0 12 = true ∧ ∃ b2 : Nat, (M l0 11) = (b2 : Int) ∧ 0 < b2 ∧ isO K.1 b2 20 = true ∧ (0 ≤ (4 : Int) ∧ (4 : Int) < (ln b2 : Int)) ∧ isO K.1 l0 12 = true ∧ ∃ b8 : Nat, ((mset M b2 (Int.toNat (4 : Int)) (5 : Int)) l0 11) = (b8 : Int) ∧ 0 < b8 ∧ isO K.1 b8 20 = true ∧ (0 ≤ (5 : Int) ∧ (5 : Int) < (ln b8 : Int)) ∧ Q (.inl none) (mset (mset M b2 (Int.toNat (4 : Int)) (5 : Int)) b8 (Int.toNat (5 : Int)) (1 : Int)) K) ∧ (¬ ((4 : Int) ≤ l1) → isO K.1 l0 12 = true ∧ ∃ b14 : Nat, (M l0 11) = (b14 : Int) ∧ 0 < b14 ∧ isO K.1 b14 20 = true ∧ (0 ≤ l1 ∧ l1 < (ln b14 : Int)) ∧ Wp d 150 2 [vR l0, vI (w32 (l1 + 1))] [] (mset M b14 (Int.toNat l1) (0 : Int)) K Q)) : Wp d 150 2 [vR l0, vI l1] [] M K Q := by
  refine r_iload_n c150_2 rfl ?_
  refine r_iconst c150_3 ?_
  refine r_icmpP (P := (4 : Int) ≤ l1) c150_4 rfl (fun hc => ?_) (fun hc => ?_)
  · replace h := h.1 hc
    refine r_aload_n c150_20 rfl ?_
    obtain ⟨s1, h⟩ := h
    obtain ⟨b2, h⟩ := h
    obtain ⟨s3, h⟩ := h
    obtain ⟨s4, h⟩ := h
    refine r_getR c150_21 s1 s3 s4 ?_
    refine r_iconst c150_24 ?_
    refine r_iconst c150_25 ?_
    obtain ⟨s5, h⟩ := h
    obtain ⟨s6, h⟩ := h
    refine r_ias c150_26 s5 s6 ?_
    refine r_aload_n c150_27 rfl ?_
    obtain ⟨s7, h⟩ := h
    obtain ⟨b8, h⟩ := h
    obtain ⟨s9, h⟩ := h
    obtain ⟨s10, h⟩ := h
    refine r_getR c150_28 s7 s9 s10 ?_
    refine r_iconst c150_31 ?_
    refine r_iconst c150_32 ?_
    obtain ⟨s11, h⟩ := h
    obtain ⟨s12, h⟩ := h
    refine r_ias c150_33 s11 s12 ?_
    exact r_ret c150_34 h
  · replace h := h.2 hc
    refine r_aload_n c150_7 rfl ?_
    obtain ⟨s13, h⟩ := h
    obtain ⟨b14, h⟩ := h
    obtain ⟨s15, h⟩ := h
    obtain ⟨s16, h⟩ := h
    refine r_getR c150_8 s13 s15 s16 ?_
    refine r_iload_n c150_11 rfl ?_
    refine r_iconst c150_12 ?_
    obtain ⟨s17, h⟩ := h
    obtain ⟨s18, h⟩ := h
    refine r_ias c150_13 s17 s18 ?_
    refine r_iinc c150_14 rfl ?_
    refine r_goto c150_17 ?_
    exact h
theorem t151_0 {d : Nat} {l0 : Nat} {M : Mem} {K : KK} {Q : RR → Mem → KK → Prop} (h : isO K.1 l0 12 = true ∧ Q (.inl (some (vI (M l0 0)))) M K) : Wp d 151 0 [vR l0] [] M K Q := by
  refine r_aload_n c151_0 rfl ?_
  obtain ⟨s1, h⟩ := h
  refine r_getI c151_1 s1 ?_
  exact r_iret c151_4 (Or.inl rfl) h
theorem t152_0 {d : Nat} {l0 : Nat} {l1 : Int} {l2 : Int} {l3 : Int} {M : Mem} {K : KK} {Q : RR → Mem → KK → Prop} (h : (l1 = (0 : Int) → Wp d 152 26 [vR l0, vI l1, vI l2, vI l3] [] M K Q) ∧ (¬ (l1 = (0 : Int)) → isO K.1 l0 12 = true ∧ (¬ (M l0 0) = (0 : Int) → Wp d 152 26 [vR l0, vI l1, vI l2, vI l3] [] M K Q) ∧ (¬ (¬ (M l0 0) = (0 : Int)) → isO K.1 l0 12 = true ∧ isO K.1 l0 12 = true ∧ ∃ b4 : Nat, ((mset M l0 0 l2) l0 10) = (b4 : Int) ∧ 0 < b4 ∧ isO K.1 b4 20 = true ∧ (0 ≤ l3 ∧ l3 < (ln b4 : Int)) ∧ isO K.1 b4 20 = true ∧ (0 ≤ l3 ∧ l3 < (ln b4 : Int)) ∧ Wp d 152 26 [vR l0, vI l1, vI l2, vI l3] [] (mset (mset M l0 0 l2) b4 (Int.toNat l3) (w32 (((mset M l0 0 l2) b4 (Int.toNat l3)) + (1 : Int)))) K Q))) : Wp d 152 0 [vR l0, vI l1, vI l2, vI l3] [] M K Q := by
  refine r_iload_n c152_0 rfl ?_
  refine r_ifP (P := l1 = (0 : Int)) c152_1 rfl (fun hc => ?_) (fun hc => ?_)
  · replace h := h.1 hc
    exact h
  · replace h := h.2 hc
    refine r_aload_n c152_4 rfl ?_
    obtain ⟨s1, h⟩ := h
    refine r_getI c152_5 s1 ?_
    refine r_ifP (P := ¬ (M l0 0) = (0 : Int)) c152_8 rfl (fun hc => ?_) (fun hc => ?_)
    · replace h := h.1 hc
      exact h
    · replace h := h.2 hc
      refine r_aload_n c152_11 rfl ?_
      refine r_iload_n c152_12 rfl ?_
      obtain ⟨s2, h⟩ := h
      refine r_putI c152_13 s2 ?_
      refine r_aload_n c152_16 rfl ?_
      obtain ⟨s3, h⟩ := h
      obtain ⟨b4, h⟩ := h
      obtain ⟨s5, h⟩ := h
      obtain ⟨s6, h⟩ := h
      refine r_getR c152_17 s3 s5 s6 ?_
      refine r_iload_n c152_20 rfl ?_
      refine r_dup2 c152_21 ?_
      obtain ⟨s7, h⟩ := h
      obtain ⟨s8, h⟩ := h
      refine r_ia c152_22 s7 s8 ?_
      refine r_iconst c152_23 ?_
      refine r_iadd c152_24 ?_
      obtain ⟨s9, h⟩ := h
      obtain ⟨s10, h⟩ := h
      refine r_ias c152_25 s9 s10 ?_
      exact h
theorem t152_26 {d : Nat} {l0 : Nat} {l1 : Int} {l2 : Int} {l3 : Int} {M : Mem} {K : KK} {Q : RR → Mem → KK → Prop} (h : isO K.1 l0 12 = true ∧ ((M l0 0) = (0 : Int) → Wp d 152 38 [vR l0, vI l1, vI l2, vI l3] [vI (0 : Int)] M K Q) ∧ (¬ ((M l0 0) = (0 : Int)) → Wp d 152 38 [vR l0, vI l1, vI l2, vI l3] [vI (1 : Int)] M K Q)) : Wp d 152 26 [vR l0, vI l1, vI l2, vI l3] [] M K Q := by
  refine r_aload_n c152_26 rfl ?_
  obtain ⟨s1, h⟩ := h
  refine r_getI c152_27 s1 ?_
  refine r_ifP (P := (M l0 0) = (0 : Int)) c152_30 rfl (fun hc => ?_) (fun hc => ?_)
  · replace h := h.1 hc
    refine r_iconst c152_37 ?_
    exact h
  · replace h := h.2 hc
    refine r_iconst c152_33 ?_
    refine r_goto c152_34 ?_
    exact h
theorem t152_38 {d : Nat} {l0 : Nat} {l1 : Int} {l2 : Int} {l3 : Int} {t0 : Int} {M : Mem} {K : KK} {Q : RR → Mem → KK → Prop} (h : (t0 = 0 ∨ t0 = 1) ∧ Q (.inl (some (vI t0))) M K) : Wp d 152 38 [vR l0, vI l1, vI l2, vI l3] [vI t0] M K Q := by
  obtain ⟨s1, h⟩ := h
  exact r_iret c152_38 (Or.inr s1) h
theorem t153_0 {d : Nat} {l0 : Int} {l1 : Int} {l2 : Int} {M : Mem} {K : KK} {Q : RR → Mem → KK → Prop} (h : (l0 < l1 → Wp d 153 14 [vI l0, vI l1, vI l2] [] M K Q) ∧ (¬ (l0 < l1) → (l2 < l0 → Wp d 153 14 [vI l0, vI l1, vI l2] [] M K Q) ∧ (¬ (l2 < l0) → Wp d 153 15 [vI l0, vI l1, vI l2] [vI (1 : Int)] M K Q))) : Wp d 153 0 [vI l0, vI l1, vI l2] [] M K Q := by
  refine r_iload_n c153_0 rfl ?_
  refine r_iload_n c153_1 rfl ?_
  refine r_icmpP (P := l0 < l1) c153_2 rfl (fun hc => ?_) (fun hc => ?_)
  · replace h := h.1 hc
    exact h
  · replace h := h.2 hc
    refine r_iload_n c153_5 rfl ?_
    refine r_iload_n c153_6 rfl ?_
    refine r_icmpP (P := l2 < l0) c153_7 rfl (fun hc => ?_) (fun hc => ?_)
    · replace h := h.1 hc
      exact h
    · replace h := h.2 hc
      refine r_iconst c153_10 ?_
      refine r_goto c153_11 ?_
      exact h
theorem t153_14 {d : Nat} {l0 : Int} {l1 : Int} {l2 : Int} {M : Mem} {K : KK} {Q : RR → Mem → KK → Prop} (h : Wp d 153 15 [vI l0, vI l1, vI l2] [vI (0 : Int)] M K Q) : Wp d 153 14 [vI l0, vI l1, vI l2] [] M K Q := by
  refine r_iconst c153_14 ?_
  exact h
theorem t153_15 {d : Nat} {l0 : Int} {l1 : Int} {l2 : Int} {t0 : Int} {M : Mem} {K : KK} {Q : RR → Mem → KK → Prop} (h : (t0 = 0 ∨ t0 = 1) ∧ Q (.inl (some (vI t0))) M K) : Wp d 153 15 [vI l0, vI l1, vI l2] [vI t0] M K Q := by
  obtain ⟨s1, h⟩ := h
  exact r_iret c153_15 (Or.inr s1) h
theorem t154_0 {d : Nat} {l0 : Int} {l1 : Int} {M : Mem} {K : KK} {Q : RR → Mem → KK → Prop} (h : (l1 ≤ l0 → Wp d 154 10 [vI l0, vI l1] [vI l1] M K Q) ∧ (¬ (l1 ≤ l0) → Wp d 154 10 [vI l0, vI l1] [vI l0] M K Q)) : Wp d 154 0 [vI l0, vI l1] [] M K Q := by
  refine r_iload_n c154_0 rfl ?_
  refine r_iload_n c154_1 rfl ?_
  refine r_icmpP (P := l1 ≤ l0) c154_2 rfl (fun hc => ?_) (fun hc => ?_)
  · replace h := h.1 hc
    refine r_iload_n c154_9 rfl ?_
    exact h
  · replace h := h.2 hc
    refine r_iload_n c154_5 rfl ?_
    refine r_goto c154_6 ?_
    exact h
theorem t154_10 {d : Nat} {l0 : Int} {l1 : Int} {t0 : Int} {M : Mem} {K : KK} {Q : RR → Mem → KK → Prop} (h : Q (.inl (some (vI t0))) M K) : Wp d 154 10 [vI l0, vI l1] [vI t0] M K Q := by
  exact r_iret c154_10 (Or.inl rfl) h
theorem t155_0 {d : Nat} {l0 : Int} {l1 : Int} {M : Mem} {K : KK} {Q : RR → Mem → KK → Prop} (h : (l0 ≤ l1 → Wp d 155 10 [vI l0, vI l1] [vI l1] M K Q) ∧ (¬ (l0 ≤ l1) → Wp d 155 10 [vI l0, vI l1] [vI l0] M K Q)) : Wp d 155 0 [vI l0, vI l1] [] M K Q := by
  refine r_iload_n c155_0 rfl ?_
  refine r_iload_n c155_1 rfl ?_
  refine r_icmpP (P := l0 ≤ l1) c155_2 rfl (fun hc => ?_) (fun hc => ?_)
  · replace h := h.1 hc
    refine r_iload_n c155_9 rfl ?_
    exact h
  · replace h := h.2 hc
    refine r_iload_n c155_5 rfl ?_
    refine r_goto c155_6 ?_
    exact h
theorem t155_10 {d : Nat} {l0 : Int} {l1 : Int} {t0 : Int} {M : Mem} {K : KK} {Q : RR → Mem → KK → Prop} (h : Q (.inl (some (vI t0))) M K) : Wp d 155 10 [vI l0, vI l1] [vI t0] M K Q := by
  exact r_iret c155_10 (Or.inl rfl) h
theorem t156_0 {d : Nat} {l0 : Int} {l1 : Int} {M : Mem} {K : KK} {Q : RR → Mem → KK → Prop} (h : (¬ (jand (jshr l0 l1) (1 : Int)) = (1 : Int) → Wp d 156 14 [vI l0, vI l1] [vI (0 : Int)] M K Q) ∧ (¬ (¬ (jand (jshr l0 l1) (1 : Int)) = (1 : Int)) → Wp d 156 14 [vI l0, vI l1] [vI (1 : Int)] M K Q)) : Wp d 156 0 [vI l0, vI l1] [] M K Q := by
  refine r_iload_n c156_0 rfl ?_
  refine r_iload_n c156_1 rfl ?_
  refine r_ishr c156_2 ?_
  refine r_iconst c156_3 ?_
  refine r_iand c156_4 ?_
  refine r_iconst c156_5 ?_
  refine r_icmpP (P := ¬ (jand (jshr l0 l1) (1 : Int)) = (1 : Int)) c156_6 rfl (fun hc => ?_) (fun hc => ?_)
  · replace h := h.1 hc
    refine r_iconst c156_13 ?_
    exact h
  · replace h := h.2 hc
    refine r_iconst c156_9 ?_
    refine r_goto c156_10 ?_
    exact h
theorem t156_14 {d : Nat} {l0 : Int} {l1 : Int} {t0 : Int} {M : Mem} {K : KK} {Q : RR → Mem → KK → Prop} (h : (t0 = 0 ∨ t0 = 1) ∧ Q (.inl (some (vI t0))) M K) : Wp d 156 14 [vI l0, vI l1] [vI t0] M K Q := by
  obtain ⟨s1, h⟩ := h
  exact r_iret c156_14 (Or.inr s1) h
theorem t157_0 {d : Nat} {l0 : Nat} {l1 : Int} {l2 : Int} {l3 : Int} {l4 : Int} {l5 : Int} {M : Mem} {K : KK} {Q : RR → Mem → KK → Prop} (h : isO K.1 l0 12 = true ∧ isO K.1 l0 12 = true ∧ ((w32 (((mset M l0 0 (0 : Int)) l0 1) + (20 : Int))) ≤ (600 : Int) → Wp d 157 23 [vR l0, vI l1, vI l2, vI l3, vI l4, vI l5, vI (0 : Int), vU] [] (mset M l0 0 (0 : Int)) K Q) ∧ (¬ ((w32 (((mset M l0 0 (0 : Int)) l0 1) + (20 : Int))) ≤ (600 : Int)) → Q (.inl (some (vI (-1 : Int)))) (mset M l0 0 (0 : Int)) K)) : Wp d 157 0 [vR l0, vI l1, vI l2, vI l3, vI l4, vI l5, vU, vU] [] M K Q := by
  refine r_aload_n c157_0 rfl ?_
  refine r_iconst c157_1 ?_
  obtain ⟨s1, h⟩ := h
  refine r_putI c157_2 s1 ?_
  refine r_aload_n c157_5 rfl ?_
  obtain ⟨s2, h⟩ := h
  refine r_getI c157_6 s2 ?_
  refine r_bipush c157_9 ?_
  refine r_iadd c157_11 ?_
  refine r_sipush c157_12 ?_
  refine r_icmpP (P := (w32 (((mset M l0 0 (0 : Int)) l0 1) + (20 : Int))) ≤ (600 : Int)) c157_15 rfl (fun hc => ?_) (fun hc => ?_)
  · replace h := h.1 hc
    refine r_iconst c157_20 ?_
    refine r_istore c157_21 (Nat.le_of_ble_eq_true rfl) ?_
    exact h
  · replace h := h.2 hc
    refine r_iconst c157_18 ?_
    exact r_iret c157_19 (Or.inl rfl) h
theorem t157_23 {d : Nat} {l0 : Nat} {l1 : Int} {l2 : Int} {l3 : Int} {l4 : Int} {l5 : Int} {l6 : Int} {l7 : PV} {M : Mem} {K : KK} {Q : RR → Mem → KK → Prop} (h : ((20 : Int) ≤ l6 → isO K.1 l0 12 = true ∧ Q (.inl (some (vI (M l0 1)))) M K) ∧ (¬ ((20 : Int) ≤ l6) → ((4 : Int) ≤ l6 → ((8 : Int) ≤ l6 → ((12 : Int) ≤ l6 → ((16 : Int) ≤ l6 → Wp d 157 76 [vR l0, vI l1, vI l2, vI l3, vI l4, vI l5, vI l6, l7] [vI l5] M K Q) ∧ (¬ ((16 : Int) ≤ l6) → Wp d 157 76 [vR l0, vI l1, vI l2, vI l3, vI l4, vI l5, vI l6, l7] [vI l4] M K Q)) ∧ (¬ ((12 : Int) ≤ l6) → Wp d 157 76 [vR l0, vI l1, vI l2, vI l3, vI l4, vI l5, vI l6, l7] [vI l3] M K Q)) ∧ (¬ ((8 : Int) ≤ l6) → Wp d 157 76 [vR l0, vI l1, vI l2, vI l3, vI l4, vI l5, vI l6, l7] [vI l2] M K Q)) ∧ (¬ ((4 : Int) ≤ l6) → Wp d 157 76 [vR l0, vI l1, vI l2, vI l3, vI l4, vI l5, vI l6, l7] [vI l1] M K Q))) : Wp d 157 23 [vR l0, vI l1, vI l2, vI l3, vI l4, vI l5, vI l6, l7] [] M K Q := by
  refine r_iload c157_23 rfl ?_
  refine r_bipush c157_25 ?_
  refine r_icmpP (P := (20 : Int) ≤ l6) c157_27 rfl (fun hc => ?_) (fun hc => ?_)
  · replace h := h.1 hc
    refine r_aload_n c157_120 rfl ?_
    obtain ⟨s1, h⟩ := h
    refine r_getI c157_121 s1 ?_
    exact r_iret c157_124 (Or.inl rfl) h
  · replace h := h.2 hc
    refine r_iload c157_30 rfl ?_
    refine r_iconst c157_32 ?_
    refine r_icmpP (P := (4 : Int) ≤ l6) c157_33 rfl (fun hc => ?_) (fun hc => ?_)
    · replace h := h.1 hc
      refine r_iload c157_40 rfl ?_
      refine r_bipush c157_42 ?_
      refine r_icmpP (P := (8 : Int) ≤ l6) c157_44 rfl (fun hc => ?_) (fun hc => ?_)
      · replace h := h.1 hc
        refine r_iload c157_51 rfl ?_
        refine r_bipush c157_53 ?_
        refine r_icmpP (P := (12 : Int) ≤ l6) c157_55 rfl (fun hc => ?_) (fun hc => ?_)
        · replace h := h.1 hc
          refine r_iload c157_62 rfl ?_
          refine r_bipush c157_64 ?_
          refine r_icmpP (P := (16 : Int) ≤ l6) c157_66 rfl (fun hc => ?_) (fun hc => ?_)
          · replace h := h.1 hc
            refine r_iload c157_74 rfl ?_
            exact h
          · replace h := h.2 hc
            refine r_iload c157_69 rfl ?_
            refine r_goto c157_71 ?_
            exact h
        · replace h := h.2 hc
          refine r_iload_n c157_58 rfl ?_
          refine r_goto c157_59 ?_
          exact h
      · replace h := h.2 hc
        refine r_iload_n c157_47 rfl ?_
        refine r_goto c157_48 ?_
        exact h
    · replace h := h.2 hc
      refine r_iload_n c157_36 rfl ?_
      refine r_goto c157_37 ?_
      exact h
theorem t157_76 {d : Nat} {l0 : Nat} {l1 : Int} {l2 : Int} {l3 : Int} {l4 : Int} {l5 : Int} {l6 : Int} {l7 : PV} {t0 : Int} {M : Mem} {K : KK} {Q : RR → Mem → KK → Prop} (h : isO K.1 l0 12 = true ∧ ∃ b2 : Nat, (M l0 9) = (b2 : Int) ∧ 0 < b2 ∧ isO K.1 l0 12 = true ∧ isO K.1 b2 20 = true ∧ (0 ≤ (M l0 1) ∧ (M l0 1) < (ln b2 : Int)) ∧ isO K.1 l0 12 = true ∧ isO K.1 l0 12 = true ∧ Wp d 157 23 [vR l0, vI l1, vI l2, vI l3, vI l4, vI l5, vI (w32 (l6 + 1)), vI t0] [] (mset (mset M b2 (Int.toNat (M l0 1)) (jand (jshr t0 (w32 ((24 : Int) - (w32 ((8 : Int) * (Int.tmod l6 (4 : Int))))))) (255 : Int))) l0 1 (w32 (((mset M b2 (Int.toNat (M l0 1)) (jand (jshr t0 (w32 ((24 : Int) - (w32 ((8 : Int) * (Int.tmod l6 (4 : Int))))))) (255 : Int))) l0 1) + (1 : Int)))) K Q) : Wp d 157 76 [vR l0, vI l1, vI l2, vI l3, vI l4, vI l5, vI l6, l7] [vI t0] M K Q := by
  refine r_istore c157_76 (Nat.le_of_ble_eq_true rfl) ?_
  refine r_aload_n c157_78 rfl ?_
  obtain ⟨s1, h⟩ := h
  obtain ⟨b2, h⟩ := h
  obtain ⟨s3, h⟩ := h
  obtain ⟨s4, h⟩ := h
  refine r_getR c157_79 s1 s3 s4 ?_
  refine r_aload_n c157_82 rfl ?_
  obtain ⟨s5, h⟩ := h
  refine r_getI c157_83 s5 ?_
  refine r_iload c157_86 rfl ?_
  refine r_bipush c157_88 ?_
  refine r_bipush c157_90 ?_
  refine r_iload c157_92 rfl ?_
  refine r_iconst c157_94 ?_
  refine r_irem c157_95 (by decide) ?_
  refine r_imul c157_96 ?_
  refine r_isub c157_97 ?_
  refine r_ishr c157_98 ?_
  refine r_sipush c157_99 ?_
  refine r_iand c157_102 ?_
  obtain ⟨s6, h⟩ := h
  obtain ⟨s7, h⟩ := h
  refine r_ias c157_103 s6 s7 ?_
  refine r_aload_n c157_104 rfl ?_
  refine r_dupr c157_105 ?_
  obtain ⟨s8, h⟩ := h
  refine r_getI c157_106 s8 ?_
  refine r_iconst c157_109 ?_
  refine r_iadd c157_110 ?_
  obtain ⟨s9, h⟩ := h
  refine r_putI c157_111 s9 ?_
  refine r_iinc c157_114 rfl ?_
  refine r_goto c157_117 ?_
  exact h
theorem t158_0 {d : Nat} {l0 : Nat} {l1 : Int} {M : Mem} {K : KK} {Q : RR → Mem → KK → Prop} (h : isO K.1 l0 12 = true ∧ (l1 < (M l0 2) → isO K.1 l0 12 = true ∧ ∃ b3 : Nat, (M l0 9) = (b3 : Int) ∧ 0 < b3 ∧ isO K.1 b3 20 = true ∧ (0 ≤ l1 ∧ l1 < (ln b3 : Int)) ∧ Wp d 158 18 [vR l0, vI l1] [vI (M b3 (Int.toNat l1))] M K Q) ∧ (¬ (l1 < (M l0 2)) → Wp d 158 18 [vR l0, vI l1] [vI (-1 : Int)] M K Q)) : Wp d 158 0 [vR l0, vI l1] [] M K Q := by
  refine r_iload_n c158_0 rfl ?_
  refine r_aload_n c158_1 rfl ?_
  obtain ⟨s1, h⟩ := h
  refine r_getI c158_2 s1 ?_
  refine r_icmpP (P := l1 < (M l0 2)) c158_5 rfl (fun hc => ?_) (fun hc => ?_)
  · replace h := h.1 hc
    refine r_aload_n c158_12 rfl ?_
    obtain ⟨s2, h⟩ := h
    obtain ⟨b3, h⟩ := h
    obtain ⟨s4, h⟩ := h
    obtain ⟨s5, h⟩ := h
    refine r_getR c158_13 s2 s4 s5 ?_
    refine r_iload_n c158_16 rfl ?_
    obtain ⟨s6, h⟩ := h
    obtain ⟨s7, h⟩ := h
    refine r_ia c158_17 s6 s7 ?_
    exact h
  · replace h := h.2 hc
    refine r_iconst c158_8 ?_
    refine r_goto c158_9 ?_
    exact h
theorem t158_18 {d : Nat} {l0 : Nat} {l1 : Int} {t0 : Int} {M : Mem} {K : KK} {Q : RR → Mem → KK → Prop} (h : Q (.inl (some (vI t0))) M K) : Wp d 158 18 [vR l0, vI l1] [vI t0] M K Q := by
  exact r_iret c158_18 (Or.inl rfl) h
theorem t159_0 {d : Nat} {l0 : Nat} {M : Mem} {K : KK} {Q : RR → Mem → KK → Prop} (h : isO K.1 l0 12 = true ∧ isO K.1 l0 12 = true ∧ Wm d 158 [vR l0, vI (M l0 4)] M K (Bk d 159 5 8 158 [vR l0] [] Q)) : Wp (d + 1) 159 0 [vR l0] [] M K Q := by
  refine r_aload_n c159_0 rfl ?_
  refine r_aload_n c159_1 rfl ?_
  obtain ⟨s1, h⟩ := h
  refine r_getI c159_2 s1 ?_
  obtain ⟨s2, h⟩ := h
  exact r_call c159_5 rfl rfl (Nat.le_of_ble_eq_true rfl) (okc_r rfl rfl s2) h
theorem t159_8 {d : Nat} {l0 : Nat} {t0 : Int} {M : Mem} {K : KK} {Q : RR → Mem → KK → Prop} (h : (¬ t0 = (32 : Int) → Q (.inl none) M K) ∧ (¬ (¬ t0 = (32 : Int)) → isO K.1 l0 12 = true ∧ isO K.1 l0 12 = true ∧ Wp d 159 0 [vR l0] [] (mset M l0 4 (w32 ((M l0 4) + (1 : Int)))) K Q)) : Wp d 159 8 [vR l0] [vI t0] M K Q := by
  refine r_bipush c159_8 ?_
  refine r_icmpP (P := ¬ t0 = (32 : Int)) c159_10 rfl (fun hc => ?_) (fun hc => ?_)
  · replace h := h.1 hc
    exact r_ret c159_26 h
  · replace h := h.2 hc
    refine r_aload_n c159_13 rfl ?_
    refine r_dupr c159_14 ?_
    obtain ⟨s1, h⟩ := h
    refine r_getI c159_15 s1 ?_
    refine r_iconst c159_18 ?_
    refine r_iadd c159_19 ?_
    obtain ⟨s2, h⟩ := h
    refine r_putI c159_20 s2 ?_
    refine r_goto c159_23 ?_
    exact h
theorem t160_0 {d : Nat} {l0 : Nat} {l1 : Int} {l2 : Int} {M : Mem} {K : KK} {Q : RR → Mem → KK → Prop} (h : isO K.1 l0 12 = true ∧ (¬ (M l0 5) = (0 : Int) → Wp d 160 17 [vR l0, vI l1, vI l2] [] M K Q) ∧ (¬ (¬ (M l0 5) = (0 : Int)) → isO K.1 l0 12 = true ∧ isO K.1 l0 12 = true ∧ Wp d 160 17 [vR l0, vI l1, vI l2] [] (mset (mset M l0 5 l1) l0 6 l2) K Q)) : Wp d 160 0 [vR l0, vI l1, vI l2] [] M K Q := by
  refine r_aload_n c160_0 rfl ?_
  obtain ⟨s1, h⟩ := h
  refine r_getI c160_1 s1 ?_
  refine r_ifP (P := ¬ (M l0 5) = (0 : Int)) c160_4 rfl (fun hc => ?_) (fun hc => ?_)
  · replace h := h.1 hc
    exact h
  · replace h := h.2 hc
    refine r_aload_n c160_7 rfl ?_
    refine r_iload_n c160_8 rfl ?_
    obtain ⟨s2, h⟩ := h
    refine r_putI c160_9 s2 ?_
    refine r_aload_n c160_12 rfl ?_
    refine r_iload_n c160_13 rfl ?_
    obtain ⟨s3, h⟩ := h
    refine r_putI c160_14 s3 ?_
    exact h
theorem t160_17 {d : Nat} {l0 : Nat} {l1 : Int} {l2 : Int} {M : Mem} {K : KK} {Q : RR → Mem → KK → Prop} (h : Q (.inl none) M K) : Wp d 160 17 [vR l0, vI l1, vI l2] [] M K Q := by
  exact r_ret c160_17 h
theorem t161_0 {d : Nat} {l0 : Int} {M : Mem} {K : KK} {Q : RR → Mem → KK → Prop} (h : (l0 < (48 : Int) → Wp d 161 16 [vI l0] [] M K Q) ∧ (¬ (l0 < (48 : Int)) → ((57 : Int) < l0 → Wp d 161 16 [vI l0] [] M K Q) ∧ (¬ ((57 : Int) < l0) → Wp d 161 17 [vI l0] [vI (1 : Int)] M K Q))) : Wp d 161 0 [vI l0] [] M K Q := by
  refine r_iload_n c161_0 rfl ?_
  refine r_bipush c161_1 ?_
  refine r_icmpP (P := l0 < (48 : Int)) c161_3 rfl (fun hc => ?_) (fun hc => ?_)
  · replace h := h.1 hc
    exact h
  · replace h := h.2 hc
    refine r_iload_n c161_6 rfl ?_
    refine r_bipush c161_7 ?_
    refine r_icmpP (P := (57 : Int) < l0) c161_9 rfl (fun hc => ?_) (fun hc => ?_)
    · replace h := h.1 hc
      exact h
    · replace h := h.2 hc
      refine r_iconst c161_12 ?_
      refine r_goto c161_13 ?_
      exact h
theorem t161_16 {d : Nat} {l0 : Int} {M : Mem} {K : KK} {Q : RR → Mem → KK → Prop} (h : Wp d 161 17 [vI l0] [vI (0 : Int)] M K Q) : Wp d 161 16 [vI l0] [] M K Q := by
  refine r_iconst c161_16 ?_
  exact h
theorem t161_17 {d : Nat} {l0 : Int} {t0 : Int} {M : Mem} {K : KK} {Q : RR → Mem → KK → Prop} (h : (t0 = 0 ∨ t0 = 1) ∧ Q (.inl (some (vI t0))) M K) : Wp d 161 17 [vI l0] [vI t0] M K Q := by
  obtain ⟨s1, h⟩ := h
  exact r_iret c161_17 (Or.inr s1) h
theorem t162_0 {d : Nat} {l0 : Int} {M : Mem} {K : KK} {Q : RR → Mem → KK → Prop} (h : (l0 < (97 : Int) → Wp d 162 16 [vI l0] [] M K Q) ∧ (¬ (l0 < (97 : Int)) → ((122 : Int) < l0 → Wp d 162 16 [vI l0] [] M K Q) ∧ (¬ ((122 : Int) < l0) → Wp d 162 17 [vI l0] [vI (1 : Int)] M K Q))) : Wp d 162 0 [vI l0] [] M K Q := by
  refine r_iload_n c162_0 rfl ?_
  refine r_bipush c162_1 ?_
  refine r_icmpP (P := l0 < (97 : Int)) c162_3 rfl (fun hc => ?_) (fun hc => ?_)
  · replace h := h.1 hc
    exact h
  · replace h := h.2 hc
    refine r_iload_n c162_6 rfl ?_
    refine r_bipush c162_7 ?_
    refine r_icmpP (P := (122 : Int) < l0) c162_9 rfl (fun hc => ?_) (fun hc => ?_)
    · replace h := h.1 hc
      exact h
    · replace h := h.2 hc
      refine r_iconst c162_12 ?_
      refine r_goto c162_13 ?_
      exact h
theorem t162_16 {d : Nat} {l0 : Int} {M : Mem} {K : KK} {Q : RR → Mem → KK → Prop} (h : Wp d 162 17 [vI l0] [vI (0 : Int)] M K Q) : Wp d 162 16 [vI l0] [] M K Q := by
  refine r_iconst c162_16 ?_
  exact h
theorem t162_17 {d : Nat} {l0 : Int} {t0 : Int} {M : Mem} {K : KK} {Q : RR → Mem → KK → Prop} (h : (t0 = 0 ∨ t0 = 1) ∧ Q (.inl (some (vI t0))) M K) : Wp d 162 17 [vI l0] [vI t0] M K Q := by
  obtain ⟨s1, h⟩ := h
  exact r_iret c162_17 (Or.inr s1) h
theorem t163_0 {d : Nat} {l0 : Nat} {l1 : Int} {l2 : Int} {M : Mem} {K : KK} {Q : RR → Mem → KK → Prop} (h : isO K.1 l0 12 = true ∧ ((M l0 5) = (0 : Int) → isO K.1 l0 12 = true ∧ Wm d 159 [vR l0] M K (Bk d 163 10 13 159 [vR l0, vI l1, vI l2, vU, vU] [] Q)) ∧ (¬ ((M l0 5) = (0 : Int)) → Q (.inl (some (vI (0 : Int)))) M K)) : Wp (d + 1) 163 0 [vR l0, vI l1, vI l2, vU, vU] [] M K Q := by
  refine r_aload_n c163_0 rfl ?_
  obtain ⟨s1, h⟩ := h
  refine r_getI c163_1 s1 ?_
  refine r_ifP (P := (M l0 5) = (0 : Int)) c163_4 rfl (fun hc => ?_) (fun hc => ?_)
  · replace h := h.1 hc
    refine r_aload_n c163_9 rfl ?_
    obtain ⟨s2, h⟩ := h
    exact r_call c163_10 rfl rfl (Nat.le_of_ble_eq_true rfl) (okc_r rfl rfl s2) h
  · replace h := h.2 hc
    refine r_iconst c163_7 ?_
    exact r_iret c163_8 (Or.inl rfl) h
theorem t163_13 {d : Nat} {l0 : Nat} {l1 : Int} {l2 : Int} {M : Mem} {K : KK} {Q : RR → Mem → KK → Prop} (h : isO K.1 l0 12 = true ∧ isO K.1 l0 12 = true ∧ isO K.1 l0 12 = true ∧ Wm d 158 [vR l0, vI (M l0 4)] M K (Bk d 163 26 29 158 [vR l0, vI l1, vI l2, vI (M l0 4), vI (0 : Int)] [] Q)) : Wp (d + 1) 163 13 [vR l0, vI l1, vI l2, vU, vU] [] M K Q := by
  refine r_aload_n c163_13 rfl ?_
  obtain ⟨s1, h⟩ := h
  refine r_getI c163_14 s1 ?_
  refine r_istore_n c163_17 (Nat.le_of_ble_eq_true rfl) ?_
  refine r_iconst c163_18 ?_
  refine r_istore c163_19 (Nat.le_of_ble_eq_true rfl) ?_
  refine r_aload_n c163_21 rfl ?_
  refine r_aload_n c163_22 rfl ?_
  obtain ⟨s2, h⟩ := h
  refine r_getI c163_23 s2 ?_
  obtain ⟨s3, h⟩ := h
  exact r_call c163_26 rfl rfl (Nat.le_of_ble_eq_true rfl) (okc_r rfl rfl s3) h
theorem t163_29 {d : Nat} {l0 : Nat} {l1 : Int} {l2 : Int} {l3 : Int} {l4 : Int} {t0 : Int} {M : Mem} {K : KK} {Q : RR → Mem → KK → Prop} (h : Wm d 161 [vI t0] M K (Bk d 163 29 32 161 [vR l0, vI l1, vI l2, vI l3, vI l4] [] Q)) : Wp (d + 1) 163 29 [vR l0, vI l1, vI l2, vI l3, vI l4] [vI t0] M K Q := by
  exact r_call c163_29 rfl rfl (Nat.le_of_ble_eq_true rfl) (okc_s rfl rfl rfl) h
theorem t163_32 {d : Nat} {l0 : Nat} {l1 : Int} {l2 : Int} {l3 : Int} {l4 : Int} {t0 : Int} {M : Mem} {K : KK} {Q : RR → Mem → KK → Prop} (h : (¬ t0 = (0 : Int) → Wp (d + 1) 163 44 [vR l0, vI l1, vI l2, vI l3, vI l4] [] M K Q) ∧ (¬ (¬ t0 = (0 : Int)) → isO K.1 l0 12 = true ∧ isO K.1 l0 12 = true ∧ Wm d 160 [vR l0, vI (1 : Int), vI (M l0 4)] M K (Bk d 163 41 44 160 [vR l0, vI l1, vI l2, vI l3, vI l4] [] Q))) : Wp (d + 1) 163 32 [vR l0, vI l1, vI l2, vI l3, vI l4] [vI t0] M K Q := by
  refine r_ifP (P := ¬ t0 = (0 : Int)) c163_32 rfl (fun hc => ?_) (fun hc => ?_)
  · replace h := h.1 hc
    exact h
  · replace h := h.2 hc
    refine r_aload_n c163_35 rfl ?_
    refine r_iconst c163_36 ?_
    refine r_aload_n c163_37 rfl ?_
    obtain ⟨s1, h⟩ := h
    refine r_getI c163_38 s1 ?_
    obtain ⟨s2, h⟩ := h
    exact r_call c163_41 rfl rfl (Nat.le_of_ble_eq_true rfl) (okc_r rfl rfl s2) h
theorem t163_44 {d : Nat} {l0 : Nat} {l1 : Int} {l2 : Int} {l3 : Int} {l4 : Int} {M : Mem} {K : KK} {Q : RR → Mem → KK → Prop} (h : isO K.1 l0 12 = true ∧ isO K.1 l0 12 = true ∧ Wm d 158 [vR l0, vI (M l0 4)] M K (Bk d 163 49 52 158 [vR l0, vI l1, vI l2, vI l3, vI l4] [] Q)) : Wp (d + 1) 163 44 [vR l0, vI l1, vI l2, vI l3, vI l4] [] M K Q := by
  refine r_aload_n c163_44 rfl ?_
  refine r_aload_n c163_45 rfl ?_
  obtain ⟨s1, h⟩ := h
  refine r_getI c163_46 s1 ?_
  obtain ⟨s2, h⟩ := h
  exact r_call c163_49 rfl rfl (Nat.le_of_ble_eq_true rfl) (okc_r rfl rfl s2) h
theorem t163_52 {d : Nat} {l0 : Nat} {l1 : Int} {l2 : Int} {l3 : Int} {l4 : Int} {t0 : Int} {M : Mem} {K : KK} {Q : RR → Mem → KK → Prop} (h : Wm d 161 [vI t0] M K (Bk d 163 52 55 161 [vR l0, vI l1, vI l2, vI l3, vI l4] [] Q)) : Wp (d + 1) 163 52 [vR l0, vI l1, vI l2, vI l3, vI l4] [vI t0] M K Q := by
  exact r_call c163_52 rfl rfl (Nat.le_of_ble_eq_true rfl) (okc_s rfl rfl rfl) h
theorem t163_55 {d : Nat} {l0 : Nat} {l1 : Int} {l2 : Int} {l3 : Int} {l4 : Int} {t0 : Int} {M : Mem} {K : KK} {Q : RR → Mem → KK → Prop} (h : (t0 = (0 : Int) → Wm d 153 [vI l4, vI l1, vI l2] M K (Bk d 163 110 113 153 [vR l0, vI l1, vI l2, vI l3, vI l4] [] Q)) ∧ (¬ (t0 = (0 : Int)) → isO K.1 l0 12 = true ∧ isO K.1 l0 12 = true ∧ Wm d 158 [vR l0, vI (M l0 4)] M K (Bk d 163 68 71 158 [vR l0, vI l1, vI l2, vI l3, vI l4] [vI (w32 ((10 : Int) * l4))] Q))) : Wp (d + 1) 163 55 [vR l0, vI l1, vI l2, vI l3, vI l4] [vI t0] M K Q := by
  refine r_ifP (P := t0 = (0 : Int)) c163_55 rfl (fun hc => ?_) (fun hc => ?_)
  · replace h := h.1 hc
    refine r_iload c163_106 rfl ?_
    refine r_iload_n c163_108 rfl ?_
    refine r_iload_n c163_109 rfl ?_
    exact r_call c163_110 rfl rfl (Nat.le_of_ble_eq_true rfl) (okc_s rfl rfl rfl) h
  · replace h := h.2 hc
    refine r_bipush c163_58 ?_
    refine r_iload c163_60 rfl ?_
    refine r_imul c163_62 ?_
    refine r_aload_n c163_63 rfl ?_
    refine r_aload_n c163_64 rfl ?_
    obtain ⟨s1, h⟩ := h
    refine r_getI c163_65 s1 ?_
    obtain ⟨s2, h⟩ := h
    exact r_call c163_68 rfl rfl (Nat.le_of_ble_eq_true rfl) (okc_r rfl rfl s2) h
theorem t163_71 {d : Nat} {l0 : Nat} {l1 : Int} {l2 : Int} {l3 : Int} {l4 : Int} {t0 : Int} {t1 : Int} {M : Mem} {K : KK} {Q : RR → Mem → KK → Prop} (h : ((w32 ((w32 (t0 + t1)) - (48 : Int))) ≤ (100000 : Int) → Wp d 163 91 [vR l0, vI l1, vI l2, vI l3, vI (w32 ((w32 (t0 + t1)) - (48 : Int)))] [vI (w32 ((w32 (t0 + t1)) - (48 : Int)))] M K Q) ∧ (¬ ((w32 ((w32 (t0 + t1)) - (48 : Int))) ≤ (100000 : Int)) → Wp d 163 91 [vR l0, vI l1, vI l2, vI l3, vI (w32 ((w32 (t0 + t1)) - (48 : Int)))] [vI (100000 : Int)] M K Q)) : Wp d 163 71 [vR l0, vI l1, vI l2, vI l3, vI l4] [vI t1, vI t0] M K Q := by
  refine r_iadd c163_71 ?_
  refine r_bipush c163_72 ?_
  refine r_isub c163_74 ?_
  refine r_istore c163_75 (Nat.le_of_ble_eq_true rfl) ?_
  refine r_iload c163_77 rfl ?_
  refine r_ldci c163_79 ?_
  refine r_icmpP (P := (w32 ((w32 (t0 + t1)) - (48 : Int))) ≤ (100000 : Int)) c163_81 rfl (fun hc => ?_) (fun hc => ?_)
  · replace h := h.1 hc
    refine r_iload c163_89 rfl ?_
    exact h
  · replace h := h.2 hc
    refine r_ldci c163_84 ?_
    refine r_goto c163_86 ?_
    exact h
theorem t163_91 {d : Nat} {l0 : Nat} {l1 : Int} {l2 : Int} {l3 : Int} {l4 : Int} {t0 : Int} {M : Mem} {K : KK} {Q : RR → Mem → KK → Prop} (h : isO K.1 l0 12 = true ∧ isO K.1 l0 12 = true ∧ Wp d 163 44 [vR l0, vI l1, vI l2, vI l3, vI t0] [] (mset M l0 4 (w32 ((M l0 4) + (1 : Int)))) K Q) : Wp d 163 91 [vR l0, vI l1, vI l2, vI l3, vI l4] [vI t0] M K Q := by
  refine r_istore c163_91 (Nat.le_of_ble_eq_true rfl) ?_
  refine r_aload_n c163_93 rfl ?_
  refine r_dupr c163_94 ?_
  obtain ⟨s1, h⟩ := h
  refine r_getI c163_95 s1 ?_
  refine r_iconst c163_98 ?_
  refine r_iadd c163_99 ?_
  obtain ⟨s2, h⟩ := h
  refine r_putI c163_100 s2 ?_
  refine r_goto c163_103 ?_
  exact h
theorem t163_113 {d : Nat} {l0 : Nat} {l1 : Int} {l2 : Int} {l3 : Int} {l4 : Int} {t0 : Int} {M : Mem} {K : KK} {Q : RR → Mem → KK → Prop} (h : (¬ t0 = (0 : Int) → Wp (d + 1) 163 122 [vR l0, vI l1, vI l2, vI l3, vI l4] [] M K Q) ∧ (¬ (¬ t0 = (0 : Int)) → isO K.1 l0 12 = true ∧ Wm d 160 [vR l0, vI (2 : Int), vI l3] M K (Bk d 163 119 122 160 [vR l0, vI l1, vI l2, vI l3, vI l4] [] Q))) : Wp (d + 1) 163 113 [vR l0, vI l1, vI l2, vI l3, vI l4] [vI t0] M K Q := by
  refine r_ifP (P := ¬ t0 = (0 : Int)) c163_113 rfl (fun hc => ?_) (fun hc => ?_)
  · replace h := h.1 hc
    exact h
  · replace h := h.2 hc
    refine r_aload_n c163_116 rfl ?_
    refine r_iconst c163_117 ?_
    refine r_iload_n c163_118 rfl ?_
    obtain ⟨s1, h⟩ := h
    exact r_call c163_119 rfl rfl (Nat.le_of_ble_eq_true rfl) (okc_r rfl rfl s1) h
theorem t163_122 {d : Nat} {l0 : Nat} {l1 : Int} {l2 : Int} {l3 : Int} {l4 : Int} {M : Mem} {K : KK} {Q : RR → Mem → KK → Prop} (h : isO K.1 l0 12 = true ∧ (¬ (M l0 5) = (0 : Int) → Wp d 163 135 [vR l0, vI l1, vI l2, vI l3, vI l4] [vI (0 : Int)] M K Q) ∧ (¬ (¬ (M l0 5) = (0 : Int)) → Wp d 163 135 [vR l0, vI l1, vI l2, vI l3, vI l4] [vI l4] M K Q)) : Wp d 163 122 [vR l0, vI l1, vI l2, vI l3, vI l4] [] M K Q := by
  refine r_aload_n c163_122 rfl ?_
  obtain ⟨s1, h⟩ := h
  refine r_getI c163_123 s1 ?_
  refine r_ifP (P := ¬ (M l0 5) = (0 : Int)) c163_126 rfl (fun hc => ?_) (fun hc => ?_)
  · replace h := h.1 hc
    refine r_iconst c163_134 ?_
    exact h
  · replace h := h.2 hc
    refine r_iload c163_129 rfl ?_
    refine r_goto c163_131 ?_
    exact h
theorem t163_135 {d : Nat} {l0 : Nat} {l1 : Int} {l2 : Int} {l3 : Int} {l4 : Int} {t0 : Int} {M : Mem} {K : KK} {Q : RR → Mem → KK → Prop} (h : Q (.inl (some (vI t0))) M K) : Wp d 163 135 [vR l0, vI l1, vI l2, vI l3, vI l4] [vI t0] M K Q := by
  exact r_iret c163_135 (Or.inl rfl) h
theorem t164_0 {d : Nat} {l0 : Nat} {M : Mem} {K : KK} {Q : RR → Mem → KK → Prop} (h : isO K.1 l0 12 = true ∧ Wm d 159 [vR l0] M K (Bk d 164 1 4 159 [vR l0, vU, vU] [] Q)) : Wp (d + 1) 164 0 [vR l0, vU, vU] [] M K Q := by
  refine r_aload_n c164_0 rfl ?_
  obtain ⟨s1, h⟩ := h
  exact r_call c164_1 rfl rfl (Nat.le_of_ble_eq_true rfl) (okc_r rfl rfl s1) h
theorem t164_4 {d : Nat} {l0 : Nat} {M : Mem} {K : KK} {Q : RR → Mem → KK → Prop} (h : Wp d 164 8 [vR l0, vI (0 : Int), vI (0 : Int)] [] M K Q) : Wp d 164 4 [vR l0, vU, vU] [] M K Q := by
  refine r_iconst c164_4 ?_
  refine r_istore_n c164_5 (Nat.le_of_ble_eq_true rfl) ?_
  refine r_iconst c164_6 ?_
  refine r_istore_n c164_7 (Nat.le_of_ble_eq_true rfl) ?_
  exact h
theorem t164_8 {d : Nat} {l0 : Nat} {l1 : Int} {l2 : Int} {M : Mem} {K : KK} {Q : RR → Mem → KK → Prop} (h : isO K.1 l0 12 = true ∧ isO K.1 l0 12 = true ∧ Wm d 158 [vR l0, vI (w32 ((M l0 4) + l2))] M K (Bk d 164 15 18 158 [vR l0, vI l1, vI l2] [] Q)) : Wp (d + 1) 164 8 [vR l0, vI l1, vI l2] [] M K Q := by
  refine r_aload_n c164_8 rfl ?_
  refine r_aload_n c164_9 rfl ?_
  obtain ⟨s1, h⟩ := h
  refine r_getI c164_10 s1 ?_
  refine r_iload_n c164_13 rfl ?_
  refine r_iadd c164_14 ?_
  obtain ⟨s2, h⟩ := h
  exact r_call c164_15 rfl rfl (Nat.le_of_ble_eq_true rfl) (okc_r rfl rfl s2) h
theorem t164_18 {d : Nat} {l0 : Nat} {l1 : Int} {l2 : Int} {t0 : Int} {M : Mem} {K : KK} {Q : RR → Mem → KK → Prop} (h : Wm d 162 [vI t0] M K (Bk d 164 18 21 162 [vR l0, vI l1, vI l2] [] Q)) : Wp (d + 1) 164 18 [vR l0, vI l1, vI l2] [vI t0] M K Q := by
  exact r_call c164_18 rfl rfl (Nat.le_of_ble_eq_true rfl) (okc_s rfl rfl rfl) h
theorem t164_21 {d : Nat} {l0 : Nat} {l1 : Int} {l2 : Int} {t0 : Int} {M : Mem} {K : KK} {Q : RR → Mem → KK → Prop} (h : (t0 = (0 : Int) → (l2 ≤ (6 : Int) → Wp (d + 1) 164 72 [vR l0, vI l1, vI l2] [vI l1] M K Q) ∧ (¬ (l2 ≤ (6 : Int)) → Wp (d + 1) 164 72 [vR l0, vI l1, vI l2] [vI (-1 : Int)] M K Q)) ∧ (¬ (t0 = (0 : Int)) → ((6 : Int) ≤ l2 → Wp (d + 1) 164 54 [vR l0, vI l1, vI l2] [vI l1] M K Q) ∧ (¬ ((6 : Int) ≤ l2) → isO K.1 l0 12 = true ∧ isO K.1 l0 12 = true ∧ Wm d 158 [vR l0, vI (w32 ((M l0 4) + l2))] M K (Bk d 164 41 44 158 [vR l0, vI l1, vI l2] [vI (w32 ((27 : Int) * l1))] Q)))) : Wp (d + 1) 164 21 [vR l0, vI l1, vI l2] [vI t0] M K Q := by
  refine r_ifP (P := t0 = (0 : Int)) c164_21 rfl (fun hc => ?_) (fun hc => ?_)
  · replace h := h.1 hc
    refine r_iload_n c164_61 rfl ?_
    refine r_bipush c164_62 ?_
    refine r_icmpP (P := l2 ≤ (6 : Int)) c164_64 rfl (fun hc => ?_) (fun hc => ?_)
    · replace h := h.1 hc
      refine r_iload_n c164_71 rfl ?_
      exact h
    · replace h := h.2 hc
      refine r_iconst c164_67 ?_
      refine r_goto c164_68 ?_
      exact h
  · replace h := h.2 hc
    refine r_iload_n c164_24 rfl ?_
    refine r_bipush c164_25 ?_
    refine r_icmpP (P := (6 : Int) ≤ l2) c164_27 rfl (fun hc => ?_) (fun hc => ?_)
    · replace h := h.1 hc
      refine r_iload_n c164_53 rfl ?_
      exact h
    · replace h := h.2 hc
      refine r_bipush c164_30 ?_
      refine r_iload_n c164_32 rfl ?_
      refine r_imul c164_33 ?_
      refine r_aload_n c164_34 rfl ?_
      refine r_aload_n c164_35 rfl ?_
      obtain ⟨s1, h⟩ := h
      refine r_getI c164_36 s1 ?_
      refine r_iload_n c164_39 rfl ?_
      refine r_iadd c164_40 ?_
      obtain ⟨s2, h⟩ := h
      exact r_call c164_41 rfl rfl (Nat.le_of_ble_eq_true rfl) (okc_r rfl rfl s2) h
theorem t164_44 {d : Nat} {l0 : Nat} {l1 : Int} {l2 : Int} {t0 : Int} {t1 : Int} {M : Mem} {K : KK} {Q : RR → Mem → KK → Prop} (h : Wp d 164 54 [vR l0, vI l1, vI l2] [vI (w32 ((w32 ((w32 (t0 + t1)) - (97 : Int))) + (1 : Int)))] M K Q) : Wp d 164 44 [vR l0, vI l1, vI l2] [vI t1, vI t0] M K Q := by
  refine r_iadd c164_44 ?_
  refine r_bipush c164_45 ?_
  refine r_isub c164_47 ?_
  refine r_iconst c164_48 ?_
  refine r_iadd c164_49 ?_
  refine r_goto c164_50 ?_
  exact h
theorem t164_54 {d : Nat} {l0 : Nat} {l1 : Int} {l2 : Int} {t0 : Int} {M : Mem} {K : KK} {Q : RR → Mem → KK → Prop} (h : Wp d 164 8 [vR l0, vI t0, vI (w32 (l2 + 1))] [] M K Q) : Wp d 164 54 [vR l0, vI l1, vI l2] [vI t0] M K Q := by
  refine r_istore_n c164_54 (Nat.le_of_ble_eq_true rfl) ?_
  refine r_iinc c164_55 rfl ?_
  refine r_goto c164_58 ?_
  exact h
theorem t164_72 {d : Nat} {l0 : Nat} {l1 : Int} {l2 : Int} {t0 : Int} {M : Mem} {K : KK} {Q : RR → Mem → KK → Prop} (h : Q (.inl (some (vI t0))) M K) : Wp d 164 72 [vR l0, vI l1, vI l2] [vI t0] M K Q := by
  exact r_iret c164_72 (Or.inl rfl) h
theorem t165_0 {d : Nat} {l0 : Int} {l1 : Int} {l2 : Int} {l3 : Int} {l4 : Int} {l5 : Int} {M : Mem} {K : KK} {Q : RR → Mem → KK → Prop} (h : (¬ l3 = (0 : Int) → Wp d 165 29 [vI l0, vI l1, vI l2, vI l3, vI l4, vI l5, vI (w32 ((w32 ((27 : Int) * (w32 ((w32 ((27 : Int) * l0)) + l1)))) + l2))] [vI (w32 ((w32 ((27 : Int) * (w32 ((w32 ((27 : Int) * (w32 ((w32 ((27 : Int) * l0)) + l1)))) + l2)))) + l3))] M K Q) ∧ (¬ (¬ l3 = (0 : Int)) → Wp d 165 29 [vI l0, vI l1, vI l2, vI l3, vI l4, vI l5, vI (w32 ((w32 ((27 : Int) * (w32 ((w32 ((27 : Int) * l0)) + l1)))) + l2))] [vI (w32 ((w32 ((27 : Int) * (w32 ((w32 ((27 : Int) * l0)) + l1)))) + l2))] M K Q)) : Wp d 165 0 [vI l0, vI l1, vI l2, vI l3, vI l4, vI l5, vU] [] M K Q := by
  refine r_bipush c165_0 ?_
  refine r_bipush c165_2 ?_
  refine r_iload_n c165_4 rfl ?_
  refine r_imul c165_5 ?_
  refine r_iload_n c165_6 rfl ?_
  refine r_iadd c165_7 ?_
  refine r_imul c165_8 ?_
  refine r_iload_n c165_9 rfl ?_
  refine r_iadd c165_10 ?_
  refine r_istore c165_11 (Nat.le_of_ble_eq_true rfl) ?_
  refine r_iload_n c165_13 rfl ?_
  refine r_ifP (P := ¬ l3 = (0 : Int)) c165_14 rfl (fun hc => ?_) (fun hc => ?_)
  · replace h := h.1 hc
    refine r_bipush c165_22 ?_
    refine r_iload c165_24 rfl ?_
    refine r_imul c165_26 ?_
    refine r_iload_n c165_27 rfl ?_
    refine r_iadd c165_28 ?_
    exact h
  · replace h := h.2 hc
    refine r_iload c165_17 rfl ?_
    refine r_goto c165_19 ?_
    exact h
theorem t165_29 {d : Nat} {l0 : Int} {l1 : Int} {l2 : Int} {l3 : Int} {l4 : Int} {l5 : Int} {l6 : Int} {t0 : Int} {M : Mem} {K : KK} {Q : RR → Mem → KK → Prop} (h : (¬ l4 = (0 : Int) → Wp d 165 49 [vI l0, vI l1, vI l2, vI l3, vI l4, vI l5, vI t0] [vI (w32 ((w32 ((27 : Int) * t0)) + l4))] M K Q) ∧ (¬ (¬ l4 = (0 : Int)) → Wp d 165 49 [vI l0, vI l1, vI l2, vI l3, vI l4, vI l5, vI t0] [vI t0] M K Q)) : Wp d 165 29 [vI l0, vI l1, vI l2, vI l3, vI l4, vI l5, vI l6] [vI t0] M K Q := by
  refine r_istore c165_29 (Nat.le_of_ble_eq_true rfl) ?_
  refine r_iload c165_31 rfl ?_
  refine r_ifP (P := ¬ l4 = (0 : Int)) c165_33 rfl (fun hc => ?_) (fun hc => ?_)
  · replace h := h.1 hc
    refine r_bipush c165_41 ?_
    refine r_iload c165_43 rfl ?_
    refine r_imul c165_45 ?_
    refine r_iload c165_46 rfl ?_
    refine r_iadd c165_48 ?_
    exact h
  · replace h := h.2 hc
    refine r_iload c165_36 rfl ?_
    refine r_goto c165_38 ?_
    exact h
theorem t165_49 {d : Nat} {l0 : Int} {l1 : Int} {l2 : Int} {l3 : Int} {l4 : Int} {l5 : Int} {l6 : Int} {t0 : Int} {M : Mem} {K : KK} {Q : RR → Mem → KK → Prop} (h : (¬ l5 = (0 : Int) → Wp d 165 69 [vI l0, vI l1, vI l2, vI l3, vI l4, vI l5, vI t0] [vI (w32 ((w32 ((27 : Int) * t0)) + l5))] M K Q) ∧ (¬ (¬ l5 = (0 : Int)) → Wp d 165 69 [vI l0, vI l1, vI l2, vI l3, vI l4, vI l5, vI t0] [vI t0] M K Q)) : Wp d 165 49 [vI l0, vI l1, vI l2, vI l3, vI l4, vI l5, vI l6] [vI t0] M K Q := by
  refine r_istore c165_49 (Nat.le_of_ble_eq_true rfl) ?_
  refine r_iload c165_51 rfl ?_
  refine r_ifP (P := ¬ l5 = (0 : Int)) c165_53 rfl (fun hc => ?_) (fun hc => ?_)
  · replace h := h.1 hc
    refine r_bipush c165_61 ?_
    refine r_iload c165_63 rfl ?_
    refine r_imul c165_65 ?_
    refine r_iload c165_66 rfl ?_
    refine r_iadd c165_68 ?_
    exact h
  · replace h := h.2 hc
    refine r_iload c165_56 rfl ?_
    refine r_goto c165_58 ?_
    exact h
theorem t165_69 {d : Nat} {l0 : Int} {l1 : Int} {l2 : Int} {l3 : Int} {l4 : Int} {l5 : Int} {l6 : Int} {t0 : Int} {M : Mem} {K : KK} {Q : RR → Mem → KK → Prop} (h : Q (.inl (some (vI t0))) M K) : Wp d 165 69 [vI l0, vI l1, vI l2, vI l3, vI l4, vI l5, vI l6] [vI t0] M K Q := by
  exact r_iret c165_69 (Or.inl rfl) h
theorem t166_0 {d : Nat} {l0 : Nat} {l1 : Int} {l2 : Int} {l3 : Int} {l4 : Int} {l5 : Int} {l6 : Int} {M : Mem} {K : KK} {Q : RR → Mem → KK → Prop} (h : isO K.1 l0 12 = true ∧ (¬ (M l0 5) = (0 : Int) → Wp (d + 1) 166 30 [vR l0, vI l1, vI l2, vI l3, vI l4, vI l5, vI l6] [] M K Q) ∧ (¬ (¬ (M l0 5) = (0 : Int)) → isO K.1 l0 12 = true ∧ Wm d 164 [vR l0] M K (Bk d 166 8 11 164 [vR l0, vI l1, vI l2, vI l3, vI l4, vI l5, vI l6] [] Q))) : Wp (d + 1) 166 0 [vR l0, vI l1, vI l2, vI l3, vI l4, vI l5, vI l6] [] M K Q := by
  refine r_aload_n c166_0 rfl ?_
  obtain ⟨s1, h⟩ := h
  refine r_getI c166_1 s1 ?_
  refine r_ifP (P := ¬ (M l0 5) = (0 : Int)) c166_4 rfl (fun hc => ?_) (fun hc => ?_)
  · replace h := h.1 hc
    exact h
  · replace h := h.2 hc
    refine r_aload_n c166_7 rfl ?_
    obtain ⟨s2, h⟩ := h
    exact r_call c166_8 rfl rfl (Nat.le_of_ble_eq_true rfl) (okc_r rfl rfl s2) h
theorem t166_11 {d : Nat} {l0 : Nat} {l1 : Int} {l2 : Int} {l3 : Int} {l4 : Int} {l5 : Int} {l6 : Int} {t0 : Int} {M : Mem} {K : KK} {Q : RR → Mem → KK → Prop} (h : Wm d 165 [vI l1, vI l2, vI l3, vI l4, vI l5, vI l6] M K (Bk d 166 20 23 165 [vR l0, vI l1, vI l2, vI l3, vI l4, vI l5, vI l6] [vI t0] Q)) : Wp (d + 1) 166 11 [vR l0, vI l1, vI l2, vI l3, vI l4, vI l5, vI l6] [vI t0] M K Q := by
  refine r_iload_n c166_11 rfl ?_
  refine r_iload_n c166_12 rfl ?_
  refine r_iload_n c166_13 rfl ?_
  refine r_iload c166_14 rfl ?_
  refine r_iload c166_16 rfl ?_
  refine r_iload c166_18 rfl ?_
  exact r_call c166_20 rfl rfl (Nat.le_of_ble_eq_true rfl) (okc_s rfl rfl rfl) h
theorem t166_23 {d : Nat} {l0 : Nat} {l1 : Int} {l2 : Int} {l3 : Int} {l4 : Int} {l5 : Int} {l6 : Int} {t0 : Int} {t1 : Int} {M : Mem} {K : KK} {Q : RR → Mem → KK → Prop} (h : (¬ t0 = t1 → Wp d 166 30 [vR l0, vI l1, vI l2, vI l3, vI l4, vI l5, vI l6] [] M K Q) ∧ (¬ (¬ t0 = t1) → Wp d 166 31 [vR l0, vI l1, vI l2, vI l3, vI l4, vI l5, vI l6] [vI (1 : Int)] M K Q)) : Wp d 166 23 [vR l0, vI l1, vI l2, vI l3, vI l4, vI l5, vI l6] [vI t1, vI t0] M K Q := by
  refine r_icmpP (P := ¬ t0 = t1) c166_23 rfl (fun hc => ?_) (fun hc => ?_)
  · replace h := h.1 hc
    exact h
  · replace h := h.2 hc
    refine r_iconst c166_26 ?_
    refine r_goto c166_27 ?_
    exact h
theorem t166_30 {d : Nat} {l0 : Nat} {l1 : Int} {l2 : Int} {l3 : Int} {l4 : Int} {l5 : Int} {l6 : Int} {M : Mem} {K : KK} {Q : RR → Mem → KK → Prop} (h : Wp d 166 31 [vR l0, vI l1, vI l2, vI l3, vI l4, vI l5, vI l6] [vI (0 : Int)] M K Q) : Wp d 166 30 [vR l0, vI l1, vI l2, vI l3, vI l4, vI l5, vI l6] [] M K Q := by
  refine r_iconst c166_30 ?_
  exact h
theorem t166_31 {d : Nat} {l0 : Nat} {l1 : Int} {l2 : Int} {l3 : Int} {l4 : Int} {l5 : Int} {l6 : Int} {t0 : Int} {M : Mem} {K : KK} {Q : RR → Mem → KK → Prop} (h : (t0 = 0 ∨ t0 = 1) ∧ Q (.inl (some (vI t0))) M K) : Wp d 166 31 [vR l0, vI l1, vI l2, vI l3, vI l4, vI l5, vI l6] [vI t0] M K Q := by
  obtain ⟨s1, h⟩ := h
  exact r_iret c166_31 (Or.inr s1) h
theorem t167_0 {d : Nat} {l0 : Nat} {M : Mem} {K : KK} {Q : RR → Mem → KK → Prop} (h : isO K.1 l0 12 = true ∧ isO K.1 l0 12 = true ∧ Wm d 158 [vR l0, vI (M l0 4)] M K (Bk d 167 5 8 158 [vR l0] [] Q)) : Wp (d + 1) 167 0 [vR l0] [] M K Q := by
  refine r_aload_n c167_0 rfl ?_
  refine r_aload_n c167_1 rfl ?_
  obtain ⟨s1, h⟩ := h
  refine r_getI c167_2 s1 ?_
  obtain ⟨s2, h⟩ := h
  exact r_call c167_5 rfl rfl (Nat.le_of_ble_eq_true rfl) (okc_r rfl rfl s2) h
theorem t167_8 {d : Nat} {l0 : Nat} {t0 : Int} {M : Mem} {K : KK} {Q : RR → Mem → KK → Prop} (h : Wm d 162 [vI t0] M K (Bk d 167 8 11 162 [vR l0] [] Q)) : Wp (d + 1) 167 8 [vR l0] [vI t0] M K Q := by
  exact r_call c167_8 rfl rfl (Nat.le_of_ble_eq_true rfl) (okc_s rfl rfl rfl) h
theorem t167_11 {d : Nat} {l0 : Nat} {t0 : Int} {M : Mem} {K : KK} {Q : RR → Mem → KK → Prop} (h : (t0 = (0 : Int) → Q (.inl none) M K) ∧ (¬ (t0 = (0 : Int)) → isO K.1 l0 12 = true ∧ isO K.1 l0 12 = true ∧ Wp d 167 0 [vR l0] [] (mset M l0 4 (w32 ((M l0 4) + (1 : Int)))) K Q)) : Wp d 167 11 [vR l0] [vI t0] M K Q := by
  refine r_ifP (P := t0 = (0 : Int)) c167_11 rfl (fun hc => ?_) (fun hc => ?_)
  · replace h := h.1 hc
    exact r_ret c167_27 h
  · replace h := h.2 hc
    refine r_aload_n c167_14 rfl ?_
    refine r_dupr c167_15 ?_
    obtain ⟨s1, h⟩ := h
    refine r_getI c167_16 s1 ?_
    refine r_iconst c167_19 ?_
    refine r_iadd c167_20 ?_
    obtain ⟨s2, h⟩ := h
    refine r_putI c167_21 s2 ?_
    refine r_goto c167_24 ?_
    exact h
theorem t168_0 {d : Nat} {l0 : Nat} {l1 : Int} {l2 : Int} {l3 : Int} {l4 : Int} {l5 : Int} {l6 : Int} {M : Mem} {K : KK} {Q : RR → Mem → KK → Prop} (h : isO K.1 l0 12 = true ∧ Wm d 166 [vR l0, vI l1, vI l2, vI l3, vI l4, vI l5, vI l6] M K (Bk d 168 10 13 166 [vR l0, vI l1, vI l2, vI l3, vI l4, vI l5, vI l6, vU] [] Q)) : Wp (d + 1) 168 0 [vR l0, vI l1, vI l2, vI l3, vI l4, vI l5, vI l6, vU] [] M K Q := by
  refine r_aload_n c168_0 rfl ?_
  refine r_iload_n c168_1 rfl ?_
  refine r_iload_n c168_2 rfl ?_
  refine r_iload_n c168_3 rfl ?_
  refine r_iload c168_4 rfl ?_
  refine r_iload c168_6 rfl ?_
  refine r_iload c168_8 rfl ?_
  obtain ⟨s1, h⟩ := h
  exact r_call c168_10 rfl rfl (Nat.le_of_ble_eq_true rfl) (okc_r rfl rfl s1) h
theorem t168_13 {d : Nat} {l0 : Nat} {l1 : Int} {l2 : Int} {l3 : Int} {l4 : Int} {l5 : Int} {l6 : Int} {t0 : Int} {M : Mem} {K : KK} {Q : RR → Mem → KK → Prop} (h : (t0 = (0 : Int) → Wp (d + 1) 168 24 [vR l0, vI l1, vI l2, vI l3, vI l4, vI l5, vI l6, vI t0] [] M K Q) ∧ (¬ (t0 = (0 : Int)) → isO K.1 l0 12 = true ∧ Wm d 167 [vR l0] M K (Bk d 168 21 24 167 [vR l0, vI l1, vI l2, vI l3, vI l4, vI l5, vI l6, vI t0] [] Q))) : Wp (d + 1) 168 13 [vR l0, vI l1, vI l2, vI l3, vI l4, vI l5, vI l6, vU] [vI t0] M K Q := by
  refine r_istore c168_13 (Nat.le_of_ble_eq_true rfl) ?_
  refine r_iload c168_15 rfl ?_
  refine r_ifP (P := t0 = (0 : Int)) c168_17 rfl (fun hc => ?_) (fun hc => ?_)
  · replace h := h.1 hc
    exact h
  · replace h := h.2 hc
    refine r_aload_n c168_20 rfl ?_
    obtain ⟨s1, h⟩ := h
    exact r_call c168_21 rfl rfl (Nat.le_of_ble_eq_true rfl) (okc_r rfl rfl s1) h
theorem t168_24 {d : Nat} {l0 : Nat} {l1 : Int} {l2 : Int} {l3 : Int} {l4 : Int} {l5 : Int} {l6 : Int} {l7 : Int} {M : Mem} {K : KK} {Q : RR → Mem → KK → Prop} (h : (l7 = 0 ∨ l7 = 1) ∧ Q (.inl (some (vI l7))) M K) : Wp d 168 24 [vR l0, vI l1, vI l2, vI l3, vI l4, vI l5, vI l6, vI l7] [] M K Q := by
  refine r_iload c168_24 rfl ?_
  obtain ⟨s1, h⟩ := h
  exact r_iret c168_26 (Or.inr s1) h
theorem t169_0 {d : Nat} {l0 : Nat} {l1 : Int} {M : Mem} {K : KK} {Q : RR → Mem → KK → Prop} (h : isO K.1 l0 12 = true ∧ ((M l0 5) = (0 : Int) → isO K.1 l0 12 = true ∧ Wm d 159 [vR l0] M K (Bk d 169 9 12 159 [vR l0, vI l1] [] Q)) ∧ (¬ ((M l0 5) = (0 : Int)) → Q (.inl none) M K)) : Wp (d + 1) 169 0 [vR l0, vI l1] [] M K Q := by
  refine r_aload_n c169_0 rfl ?_
  obtain ⟨s1, h⟩ := h
  refine r_getI c169_1 s1 ?_
  refine r_ifP (P := (M l0 5) = (0 : Int)) c169_4 rfl (fun hc => ?_) (fun hc => ?_)
  · replace h := h.1 hc
    refine r_aload_n c169_8 rfl ?_
    obtain ⟨s2, h⟩ := h
    exact r_call c169_9 rfl rfl (Nat.le_of_ble_eq_true rfl) (okc_r rfl rfl s2) h
  · replace h := h.2 hc
    exact r_ret c169_7 h
theorem t169_12 {d : Nat} {l0 : Nat} {l1 : Int} {M : Mem} {K : KK} {Q : RR → Mem → KK → Prop} (h : isO K.1 l0 12 = true ∧ isO K.1 l0 12 = true ∧ Wm d 158 [vR l0, vI (M l0 4)] M K (Bk d 169 17 20 158 [vR l0, vI l1] [] Q)) : Wp (d + 1) 169 12 [vR l0, vI l1] [] M K Q := by
  refine r_aload_n c169_12 rfl ?_
  refine r_aload_n c169_13 rfl ?_
  obtain ⟨s1, h⟩ := h
  refine r_getI c169_14 s1 ?_
  obtain ⟨s2, h⟩ := h
  exact r_call c169_17 rfl rfl (Nat.le_of_ble_eq_true rfl) (okc_r rfl rfl s2) h
theorem t169_20 {d : Nat} {l0 : Nat} {l1 : Int} {t0 : Int} {M : Mem} {K : KK} {Q : RR → Mem → KK → Prop} (h : (¬ t0 = l1 → isO K.1 l0 12 = true ∧ isO K.1 l0 12 = true ∧ Wm d 160 [vR l0, vI (1 : Int), vI (M l0 4)] M K (Bk d 169 43 46 160 [vR l0, vI l1] [] Q)) ∧ (¬ (¬ t0 = l1) → isO K.1 l0 12 = true ∧ isO K.1 l0 12 = true ∧ Wp (d + 1) 169 46 [vR l0, vI l1] [] (mset M l0 4 (w32 ((M l0 4) + (1 : Int)))) K Q)) : Wp (d + 1) 169 20 [vR l0, vI l1] [vI t0] M K Q := by
  refine r_iload_n c169_20 rfl ?_
  refine r_icmpP (P := ¬ t0 = l1) c169_21 rfl (fun hc => ?_) (fun hc => ?_)
  · replace h := h.1 hc
    refine r_aload_n c169_37 rfl ?_
    refine r_iconst c169_38 ?_
    refine r_aload_n c169_39 rfl ?_
    obtain ⟨s1, h⟩ := h
    refine r_getI c169_40 s1 ?_
    obtain ⟨s2, h⟩ := h
    exact r_call c169_43 rfl rfl (Nat.le_of_ble_eq_true rfl) (okc_r rfl rfl s2) h
  · replace h := h.2 hc
    refine r_aload_n c169_24 rfl ?_
    refine r_dupr c169_25 ?_
    obtain ⟨s3, h⟩ := h
    refine r_getI c169_26 s3 ?_
    refine r_iconst c169_29 ?_
    refine r_iadd c169_30 ?_
    obtain ⟨s4, h⟩ := h
    refine r_putI c169_31 s4 ?_
    refine r_goto c169_34 ?_
    exact h
theorem t169_46 {d : Nat} {l0 : Nat} {l1 : Int} {M : Mem} {K : KK} {Q : RR → Mem → KK → Prop} (h : Q (.inl none) M K) : Wp d 169 46 [vR l0, vI l1] [] M K Q := by
  exact r_ret c169_46 h
theorem t170_0 {d : Nat} {l0 : Nat} {l1 : Int} {M : Mem} {K : KK} {Q : RR → Mem → KK → Prop} (h : isO K.1 l0 12 = true ∧ ((M l0 5) = (0 : Int) → isO K.1 l0 12 = true ∧ Wm d 159 [vR l0] M K (Bk d 170 10 13 159 [vR l0, vI l1, vU] [] Q)) ∧ (¬ ((M l0 5) = (0 : Int)) → Q (.inl (some (vI (0 : Int)))) M K)) : Wp (d + 1) 170 0 [vR l0, vI l1, vU] [] M K Q := by
  refine r_aload_n c170_0 rfl ?_
  obtain ⟨s1, h⟩ := h
  refine r_getI c170_1 s1 ?_
  refine r_ifP (P := (M l0 5) = (0 : Int)) c170_4 rfl (fun hc => ?_) (fun hc => ?_)
  · replace h := h.1 hc
    refine r_aload_n c170_9 rfl ?_
    obtain ⟨s2, h⟩ := h
    exact r_call c170_10 rfl rfl (Nat.le_of_ble_eq_true rfl) (okc_r rfl rfl s2) h
  · replace h := h.2 hc
    refine r_iconst c170_7 ?_
    exact r_iret c170_8 (by decide) h
theorem t170_13 {d : Nat} {l0 : Nat} {l1 : Int} {M : Mem} {K : KK} {Q : RR → Mem → KK → Prop} (h : isO K.1 l0 12 = true ∧ isO K.1 l0 12 = true ∧ Wm d 158 [vR l0, vI (M l0 4)] M K (Bk d 170 18 21 158 [vR l0, vI l1, vU] [] Q)) : Wp (d + 1) 170 13 [vR l0, vI l1, vU] [] M K Q := by
  refine r_aload_n c170_13 rfl ?_
  refine r_aload_n c170_14 rfl ?_
  obtain ⟨s1, h⟩ := h
  refine r_getI c170_15 s1 ?_
  obtain ⟨s2, h⟩ := h
  exact r_call c170_18 rfl rfl (Nat.le_of_ble_eq_true rfl) (okc_r rfl rfl s2) h
theorem t170_21 {d : Nat} {l0 : Nat} {l1 : Int} {t0 : Int} {M : Mem} {K : KK} {Q : RR → Mem → KK → Prop} (h : (¬ t0 = l1 → Wp d 170 30 [vR l0, vI l1, vU] [vI (0 : Int)] M K Q) ∧ (¬ (¬ t0 = l1) → Wp d 170 30 [vR l0, vI l1, vU] [vI (1 : Int)] M K Q)) : Wp d 170 21 [vR l0, vI l1, vU] [vI t0] M K Q := by
  refine r_iload_n c170_21 rfl ?_
  refine r_icmpP (P := ¬ t0 = l1) c170_22 rfl (fun hc => ?_) (fun hc => ?_)
  · replace h := h.1 hc
    refine r_iconst c170_29 ?_
    exact h
  · replace h := h.2 hc
    refine r_iconst c170_25 ?_
    refine r_goto c170_26 ?_
    exact h
theorem t170_30 {d : Nat} {l0 : Nat} {l1 : Int} {t0 : Int} {M : Mem} {K : KK} {Q : RR → Mem → KK → Prop} (h : (t0 = (0 : Int) → Wp d 170 45 [vR l0, vI l1, vI t0] [] M K Q) ∧ (¬ (t0 = (0 : Int)) → isO K.1 l0 12 = true ∧ isO K.1 l0 12 = true ∧ Wp d 170 45 [vR l0, vI l1, vI t0] [] (mset M l0 4 (w32 ((M l0 4) + (1 : Int)))) K Q)) : Wp d 170 30 [vR l0, vI l1, vU] [vI t0] M K Q := by
  refine r_istore_n c170_30 (Nat.le_of_ble_eq_true rfl) ?_
  refine r_iload_n c170_31 rfl ?_
  refine r_ifP (P := t0 = (0 : Int)) c170_32 rfl (fun hc => ?_) (fun hc => ?_)
  · replace h := h.1 hc
    exact h
  · replace h := h.2 hc
    refine r_aload_n c170_35 rfl ?_
    refine r_dupr c170_36 ?_
    obtain ⟨s1, h⟩ := h
    refine r_getI c170_37 s1 ?_
    refine r_iconst c170_40 ?_
    refine r_iadd c170_41 ?_
    obtain ⟨s2, h⟩ := h
    refine r_putI c170_42 s2 ?_
    exact h
theorem t170_45 {d : Nat} {l0 : Nat} {l1 : Int} {l2 : Int} {M : Mem} {K : KK} {Q : RR → Mem → KK → Prop} (h : (l2 = 0 ∨ l2 = 1) ∧ Q (.inl (some (vI l2))) M K) : Wp d 170 45 [vR l0, vI l1, vI l2] [] M K Q := by
  refine r_iload_n c170_45 rfl ?_
  obtain ⟨s1, h⟩ := h
  exact r_iret c170_46 (Or.inr s1) h
theorem t171_0 {d : Nat} {l0 : Nat} {l1 : Int} {M : Mem} {K : KK} {Q : RR → Mem → KK → Prop} (h : isO K.1 l0 12 = true ∧ isO K.1 l0 12 = true ∧ isO K.1 l0 12 = true ∧ isO K.1 l0 12 = true ∧ isO K.1 l0 12 = true ∧ isO K.1 l0 12 = true ∧ isO K.1 l0 12 = true ∧ isO K.1 l0 12 = true ∧ Wm d 159 [vR l0] (mset (mset (mset (mset (mset (mset (mset M l0 1 (0 : Int)) l0 2 l1) l0 4 (0 : Int)) l0 5 (0 : Int)) l0 6 (-1 : Int)) l0 7 (0 : Int)) l0 8 (0 : Int)) K (Bk d 171 36 39 159 [vR l0, vI l1] [] Q)) : Wp (d + 1) 171 0 [vR l0, vI l1] [] M K Q := by
  refine r_aload_n c171_0 rfl ?_
  refine r_iconst c171_1 ?_
  obtain ⟨s1, h⟩ := h
  refine r_putI c171_2 s1 ?_
  refine r_aload_n c171_5 rfl ?_
  refine r_iload_n c171_6 rfl ?_
  obtain ⟨s2, h⟩ := h
  refine r_putI c171_7 s2 ?_
  refine r_aload_n c171_10 rfl ?_
  refine r_iconst c171_11 ?_
  obtain ⟨s3, h⟩ := h
  refine r_putI c171_12 s3 ?_
  refine r_aload_n c171_15 rfl ?_
  refine r_iconst c171_16 ?_
  obtain ⟨s4, h⟩ := h
  refine r_putI c171_17 s4 ?_
  refine r_aload_n c171_20 rfl ?_
  refine r_iconst c171_21 ?_
  obtain ⟨s5, h⟩ := h
  refine r_putI c171_22 s5 ?_
  refine r_aload_n c171_25 rfl ?_
  refine r_iconst c171_26 ?_
  obtain ⟨s6, h⟩ := h
  refine r_putI c171_27 s6 ?_
  refine r_aload_n c171_30 rfl ?_
  refine r_iconst c171_31 ?_
  obtain ⟨s7, h⟩ := h
  refine r_putI c171_32 s7 ?_
  refine r_aload_n c171_35 rfl ?_
  obtain ⟨s8, h⟩ := h
  exact r_call c171_36 rfl rfl (Nat.le_of_ble_eq_true rfl) (okc_r rfl rfl s8) h
theorem t171_39 {d : Nat} {l0 : Nat} {l1 : Int} {M : Mem} {K : KK} {Q : RR → Mem → KK → Prop} (h : Q (.inl none) M K) : Wp d 171 39 [vR l0, vI l1] [] M K Q := by
  exact r_ret c171_39 h
theorem t172_0 {d : Nat} {l0 : Nat} {M : Mem} {K : KK} {Q : RR → Mem → KK → Prop} (h : isO K.1 l0 12 = true ∧ isO K.1 l0 12 = true ∧ isO K.1 l0 12 = true ∧ Q (.inl (some (vI (w32 (((mset M l0 3 (M l0 6)) l0 5) - (10 : Int)))))) (mset M l0 3 (M l0 6)) K) : Wp d 172 0 [vR l0] [] M K Q := by
  refine r_aload_n c172_0 rfl ?_
  refine r_aload_n c172_1 rfl ?_
  obtain ⟨s1, h⟩ := h
  refine r_getI c172_2 s1 ?_
  obtain ⟨s2, h⟩ := h
  refine r_putI c172_5 s2 ?_
  refine r_aload_n c172_8 rfl ?_
  obtain ⟨s3, h⟩ := h
  refine r_getI c172_9 s3 ?_
  refine r_bipush c172_12 ?_
  refine r_isub c172_14 ?_
  exact r_iret c172_15 (Or.inl rfl) h
theorem t173_0 {d : Nat} {l0 : Nat} {M : Mem} {K : KK} {Q : RR → Mem → KK → Prop} (h : isO K.1 l0 12 = true ∧ Wm d 166 [vR l0, vI (3 : Int), vI (5 : Int), vI (12 : Int), vI (12 : Int), vI (0 : Int), vI (0 : Int)] M K (Bk d 173 9 12 166 [vR l0] [] Q)) : Wp (d + 1) 173 0 [vR l0] [] M K Q := by
  refine r_aload_n c173_0 rfl ?_
  refine r_iconst c173_1 ?_
  refine r_iconst c173_2 ?_
  refine r_bipush c173_3 ?_
  refine r_bipush c173_5 ?_
  refine r_iconst c173_7 ?_
  refine r_iconst c173_8 ?_
  obtain ⟨s1, h⟩ := h
  exact r_call c173_9 rfl rfl (Nat.le_of_ble_eq_true rfl) (okc_r rfl rfl s1) h
theorem t173_12 {d : Nat} {l0 : Nat} {t0 : Int} {M : Mem} {K : KK} {Q : RR → Mem → KK → Prop} (h : (t0 = (0 : Int) → isO K.1 l0 12 = true ∧ Wm d 166 [vR l0, vI (19 : Int), vI (20 : Int), vI (18 : Int), vI (9 : Int), vI (16 : Int), vI (0 : Int)] M K (Bk d 173 29 32 166 [vR l0] [] Q)) ∧ (¬ (t0 = (0 : Int)) → Q (.inl (some (vI (0 : Int)))) M K)) : Wp (d + 1) 173 12 [vR l0] [vI t0] M K Q := by
  refine r_ifP (P := t0 = (0 : Int)) c173_12 rfl (fun hc => ?_) (fun hc => ?_)
  · replace h := h.1 hc
    refine r_aload_n c173_17 rfl ?_
    refine r_bipush c173_18 ?_
    refine r_bipush c173_20 ?_
    refine r_bipush c173_22 ?_
    refine r_bipush c173_24 ?_
    refine r_bipush c173_26 ?_
    refine r_iconst c173_28 ?_
    obtain ⟨s1, h⟩ := h
    exact r_call c173_29 rfl rfl (Nat.le_of_ble_eq_true rfl) (okc_r rfl rfl s1) h
  · replace h := h.2 hc
    refine r_iconst c173_15 ?_
    exact r_iret c173_16 (Or.inl rfl) h
theorem t173_32 {d : Nat} {l0 : Nat} {t0 : Int} {M : Mem} {K : KK} {Q : RR → Mem → KK → Prop} (h : (t0 = (0 : Int) → isO K.1 l0 12 = true ∧ Wm d 166 [vR l0, vI (4 : Int), vI (5 : Int), vI (5 : Int), vI (4 : Int), vI (0 : Int), vI (0 : Int)] M K (Bk d 173 44 47 166 [vR l0] [] Q)) ∧ (¬ (t0 = (0 : Int)) → Q (.inl (some (vI (1 : Int)))) M K)) : Wp (d + 1) 173 32 [vR l0] [vI t0] M K Q := by
  refine r_ifP (P := t0 = (0 : Int)) c173_32 rfl (fun hc => ?_) (fun hc => ?_)
  · replace h := h.1 hc
    refine r_aload_n c173_37 rfl ?_
    refine r_iconst c173_38 ?_
    refine r_iconst c173_39 ?_
    refine r_iconst c173_40 ?_
    refine r_iconst c173_41 ?_
    refine r_iconst c173_42 ?_
    refine r_iconst c173_43 ?_
    obtain ⟨s1, h⟩ := h
    exact r_call c173_44 rfl rfl (Nat.le_of_ble_eq_true rfl) (okc_r rfl rfl s1) h
  · replace h := h.2 hc
    refine r_iconst c173_35 ?_
    exact r_iret c173_36 (Or.inl rfl) h
theorem t173_47 {d : Nat} {l0 : Nat} {t0 : Int} {M : Mem} {K : KK} {Q : RR → Mem → KK → Prop} (h : (t0 = (0 : Int) → isO K.1 l0 12 = true ∧ Wm d 166 [vR l0, vI (18 : Int), vI (1 : Int), vI (9 : Int), vI (14 : Int), vI (0 : Int), vI (0 : Int)] M K (Bk d 173 62 65 166 [vR l0] [] Q)) ∧ (¬ (t0 = (0 : Int)) → Q (.inl (some (vI (2 : Int)))) M K)) : Wp (d + 1) 173 47 [vR l0] [vI t0] M K Q := by
  refine r_ifP (P := t0 = (0 : Int)) c173_47 rfl (fun hc => ?_) (fun hc => ?_)
  · replace h := h.1 hc
    refine r_aload_n c173_52 rfl ?_
    refine r_bipush c173_53 ?_
    refine r_iconst c173_55 ?_
    refine r_bipush c173_56 ?_
    refine r_bipush c173_58 ?_
    refine r_iconst c173_60 ?_
    refine r_iconst c173_61 ?_
    obtain ⟨s1, h⟩ := h
    exact r_call c173_62 rfl rfl (Nat.le_of_ble_eq_true rfl) (okc_r rfl rfl s1) h
  · replace h := h.2 hc
    refine r_iconst c173_50 ?_
    exact r_iret c173_51 (Or.inl rfl) h
theorem t173_65 {d : Nat} {l0 : Nat} {t0 : Int} {M : Mem} {K : KK} {Q : RR → Mem → KK → Prop} (h : (t0 = (0 : Int) → isO K.1 l0 12 = true ∧ Wm d 166 [vR l0, vI (13 : Int), vI (9 : Int), vI (12 : Int), vI (11 : Int), vI (0 : Int), vI (0 : Int)] M K (Bk d 173 81 84 166 [vR l0] [] Q)) ∧ (¬ (t0 = (0 : Int)) → Q (.inl (some (vI (3 : Int)))) M K)) : Wp (d + 1) 173 65 [vR l0] [vI t0] M K Q := by
  refine r_ifP (P := t0 = (0 : Int)) c173_65 rfl (fun hc => ?_) (fun hc => ?_)
  · replace h := h.1 hc
    refine r_aload_n c173_70 rfl ?_
    refine r_bipush c173_71 ?_
    refine r_bipush c173_73 ?_
    refine r_bipush c173_75 ?_
    refine r_bipush c173_77 ?_
    refine r_iconst c173_79 ?_
    refine r_iconst c173_80 ?_
    obtain ⟨s1, h⟩ := h
    exact r_call c173_81 rfl rfl (Nat.le_of_ble_eq_true rfl) (okc_r rfl rfl s1) h
  · replace h := h.2 hc
    refine r_iconst c173_68 ?_
    exact r_iret c173_69 (Or.inl rfl) h
theorem t173_84 {d : Nat} {l0 : Nat} {t0 : Int} {M : Mem} {K : KK} {Q : RR → Mem → KK → Prop} (h : (t0 = (0 : Int) → isO K.1 l0 12 = true ∧ Wm d 166 [vR l0, vI (19 : Int), vI (9 : Int), vI (7 : Int), vI (8 : Int), vI (20 : Int), vI (0 : Int)] M K (Bk d 173 101 104 166 [vR l0] [] Q)) ∧ (¬ (t0 = (0 : Int)) → Q (.inl (some (vI (4 : Int)))) M K)) : Wp (d + 1) 173 84 [vR l0] [vI t0] M K Q := by
  refine r_ifP (P := t0 = (0 : Int)) c173_84 rfl (fun hc => ?_) (fun hc => ?_)
  · replace h := h.1 hc
    refine r_aload_n c173_89 rfl ?_
    refine r_bipush c173_90 ?_
    refine r_bipush c173_92 ?_
    refine r_bipush c173_94 ?_
    refine r_bipush c173_96 ?_
    refine r_bipush c173_98 ?_
    refine r_iconst c173_100 ?_
    obtain ⟨s1, h⟩ := h
    exact r_call c173_101 rfl rfl (Nat.le_of_ble_eq_true rfl) (okc_r rfl rfl s1) h
  · replace h := h.2 hc
    refine r_iconst c173_87 ?_
    exact r_iret c173_88 (Or.inl rfl) h
theorem t173_104 {d : Nat} {l0 : Nat} {t0 : Int} {M : Mem} {K : KK} {Q : RR → Mem → KK → Prop} (h : (t0 = (0 : Int) → Wp d 173 112 [vR l0] [vI (-1 : Int)] M K Q) ∧ (¬ (t0 = (0 : Int)) → Wp d 173 112 [vR l0] [vI (5 : Int)] M K Q)) : Wp d 173 104 [vR l0] [vI t0] M K Q := by
  refine r_ifP (P := t0 = (0 : Int)) c173_104 rfl (fun hc => ?_) (fun hc => ?_)
  · replace h := h.1 hc
    refine r_iconst c173_111 ?_
    exact h
  · replace h := h.2 hc
    refine r_iconst c173_107 ?_
    refine r_goto c173_108 ?_
    exact h
theorem t173_112 {d : Nat} {l0 : Nat} {t0 : Int} {M : Mem} {K : KK} {Q : RR → Mem → KK → Prop} (h : Q (.inl (some (vI t0))) M K) : Wp d 173 112 [vR l0] [vI t0] M K Q := by
  exact r_iret c173_112 (Or.inl rfl) h
theorem t174_0 {d : Nat} {l0 : Int} {M : Mem} {K : KK} {Q : RR → Mem → KK → Prop} (h : Wp d 174 (tsw 1 36 0 2 #[27, 30, 33] l0) [vI l0] [] M K Q) : Wp d 174 0 [vI l0] [] M K Q := by
  refine r_iload_n c174_0 rfl ?_
  refine r_tsw c174_1 ?_
  exact h
theorem t174_28 {d : Nat} {l0 : Int} {M : Mem} {K : KK} {Q : RR → Mem → KK → Prop} (h : Q (.inl (some (vI (12 : Int)))) M K) : Wp d 174 28 [vI l0] [] M K Q := by
  refine r_bipush c174_28 ?_
  exact r_iret c174_30 (Or.inl rfl) h
theorem t174_31 {d : Nat} {l0 : Int} {M : Mem} {K : KK} {Q : RR → Mem → KK → Prop} (h : Q (.inl (some (vI (6 : Int)))) M K) : Wp d 174 31 [vI l0] [] M K Q := by
  refine r_bipush c174_31 ?_
  exact r_iret c174_33 (Or.inl rfl) h
theorem t174_34 {d : Nat} {l0 : Int} {M : Mem} {K : KK} {Q : RR → Mem → KK → Prop} (h : Q (.inl (some (vI (8 : Int)))) M K) : Wp d 174 34 [vI l0] [] M K Q := by
  refine r_bipush c174_34 ?_
  exact r_iret c174_36 (Or.inl rfl) h
theorem t174_37 {d : Nat} {l0 : Int} {M : Mem} {K : KK} {Q : RR → Mem → KK → Prop} (h : Q (.inl (some (vI (7 : Int)))) M K) : Wp d 174 37 [vI l0] [] M K Q := by
  refine r_bipush c174_37 ?_
  exact r_iret c174_39 (Or.inl rfl) h
theorem t175_0 {d : Nat} {l0 : Nat} {M : Mem} {K : KK} {Q : RR → Mem → KK → Prop} (h : isO K.1 l0 12 = true ∧ Wm d 173 [vR l0] M K (Bk d 175 1 4 173 [vR l0, vU, vU, vU] [] Q)) : Wp (d + 1) 175 0 [vR l0, vU, vU, vU] [] M K Q := by
  refine r_aload_n c175_0 rfl ?_
  obtain ⟨s1, h⟩ := h
  exact r_call c175_1 rfl rfl (Nat.le_of_ble_eq_true rfl) (okc_r rfl rfl s1) h
theorem t175_4 {d : Nat} {l0 : Nat} {t0 : Int} {M : Mem} {K : KK} {Q : RR → Mem → KK → Prop} (h : (¬ t0 = (-1 : Int) → isO K.1 l0 12 = true ∧ ((M l0 7) = (60 : Int) → Wp (d + 1) 175 49 [vR l0, vI t0, vU, vU] [] M K Q) ∧ (¬ ((M l0 7) = (60 : Int)) → ((4 : Int) ≤ t0 → Wp (d + 1) 175 58 [vR l0, vI t0, vU, vU] [] M K Q) ∧ (¬ ((4 : Int) ≤ t0) → isO K.1 l0 12 = true ∧ ∃ b3 : Nat, (M l0 11) = (b3 : Int) ∧ 0 < b3 ∧ isO K.1 b3 20 = true ∧ (0 ≤ t0 ∧ t0 < (ln b3 : Int)) ∧ Wm d 174 [vI t0] M K (Bk d 175 43 46 174 [vR l0, vI t0, vU, vU] [vI (M b3 (Int.toNat t0))] Q)))) ∧ (¬ (¬ t0 = (-1 : Int)) → isO K.1 l0 12 = true ∧ isO K.1 l0 12 = true ∧ Wm d 160 [vR l0, vI (1 : Int), vI (M l0 4)] M K (Bk d 175 16 19 160 [vR l0, vI t0, vU, vU] [] Q))) : Wp (d + 1) 175 4 [vR l0, vU, vU, vU] [vI t0] M K Q := by
  refine r_istore_n c175_4 (Nat.le_of_ble_eq_true rfl) ?_
  refine r_iload_n c175_5 rfl ?_
  refine r_iconst c175_6 ?_
  refine r_icmpP (P := ¬ t0 = (-1 : Int)) c175_7 rfl (fun hc => ?_) (fun hc => ?_)
  · replace h := h.1 hc
    refine r_aload_n c175_22 rfl ?_
    obtain ⟨s1, h⟩ := h
    refine r_getI c175_23 s1 ?_
    refine r_bipush c175_26 ?_
    refine r_icmpP (P := (M l0 7) = (60 : Int)) c175_28 rfl (fun hc => ?_) (fun hc => ?_)
    · replace h := h.1 hc
      exact h
    · replace h := h.2 hc
      refine r_iload_n c175_31 rfl ?_
      refine r_iconst c175_32 ?_
      refine r_icmpP (P := (4 : Int) ≤ t0) c175_33 rfl (fun hc => ?_) (fun hc => ?_)
      · replace h := h.1 hc
        exact h
      · replace h := h.2 hc
        refine r_aload_n c175_36 rfl ?_
        obtain ⟨s2, h⟩ := h
        obtain ⟨b3, h⟩ := h
        obtain ⟨s4, h⟩ := h
        obtain ⟨s5, h⟩ := h
        refine r_getR c175_37 s2 s4 s5 ?_
        refine r_iload_n c175_40 rfl ?_
        obtain ⟨s6, h⟩ := h
        obtain ⟨s7, h⟩ := h
        refine r_ia c175_41 s6 s7 ?_
        refine r_iload_n c175_42 rfl ?_
        exact r_call c175_43 rfl rfl (Nat.le_of_ble_eq_true rfl) (okc_s rfl rfl rfl) h
  · replace h := h.2 hc
    refine r_aload_n c175_10 rfl ?_
    refine r_iconst c175_11 ?_
    refine r_aload_n c175_12 rfl ?_
    obtain ⟨s8, h⟩ := h
    refine r_getI c175_13 s8 ?_
    obtain ⟨s9, h⟩ := h
    exact r_call c175_16 rfl rfl (Nat.le_of_ble_eq_true rfl) (okc_r rfl rfl s9) h
theorem t175_19 {d : Nat} {l0 : Nat} {l1 : Int} {M : Mem} {K : KK} {Q : RR → Mem → KK → Prop} (h : Wp d 175 58 [vR l0, vI l1, vU, vU] [] M K Q) : Wp d 175 19 [vR l0, vI l1, vU, vU] [] M K Q := by
  refine r_goto c175_19 ?_
  exact h
theorem t175_46 {d : Nat} {l0 : Nat} {l1 : Int} {t0 : Int} {t1 : Int} {M : Mem} {K : KK} {Q : RR → Mem → KK → Prop} (h : (¬ t0 = t1 → Wp d 175 58 [vR l0, vI l1, vU, vU] [] M K Q) ∧ (¬ (¬ t0 = t1) → Wp d 175 49 [vR l0, vI l1, vU, vU] [] M K Q)) : Wp d 175 46 [vR l0, vI l1, vU, vU] [vI t1, vI t0] M K Q := by
  refine r_icmpP (P := ¬ t0 = t1) c175_46 rfl (fun hc => ?_) (fun hc => ?_)
  · replace h := h.1 hc
    exact h
  · replace h := h.2 hc
    exact h
theorem t175_49 {d : Nat} {l0 : Nat} {l1 : Int} {M : Mem} {K : KK} {Q : RR → Mem → KK → Prop} (h : isO K.1 l0 12 = true ∧ isO K.1 l0 12 = true ∧ Wm d 160 [vR l0, vI (3 : Int), vI (M l0 4)] M K (Bk d 175 55 58 160 [vR l0, vI l1, vU, vU] [] Q)) : Wp (d + 1) 175 49 [vR l0, vI l1, vU, vU] [] M K Q := by
  refine r_aload_n c175_49 rfl ?_
  refine r_iconst c175_50 ?_
  refine r_aload_n c175_51 rfl ?_
  obtain ⟨s1, h⟩ := h
  refine r_getI c175_52 s1 ?_
  obtain ⟨s2, h⟩ := h
  exact r_call c175_55 rfl rfl (Nat.le_of_ble_eq_true rfl) (okc_r rfl rfl s2) h
theorem t175_58 {d : Nat} {l0 : Nat} {l1 : Int} {M : Mem} {K : KK} {Q : RR → Mem → KK → Prop} (h : isO K.1 l0 12 = true ∧ ((M l0 5) = (0 : Int) → isO K.1 l0 12 = true ∧ Wm d 167 [vR l0] M K (Bk d 175 67 70 167 [vR l0, vI l1, vU, vU] [] Q)) ∧ (¬ ((M l0 5) = (0 : Int)) → Q (.inl none) M K)) : Wp (d + 1) 175 58 [vR l0, vI l1, vU, vU] [] M K Q := by
  refine r_aload_n c175_58 rfl ?_
  obtain ⟨s1, h⟩ := h
  refine r_getI c175_59 s1 ?_
  refine r_ifP (P := (M l0 5) = (0 : Int)) c175_62 rfl (fun hc => ?_) (fun hc => ?_)
  · replace h := h.1 hc
    refine r_aload_n c175_66 rfl ?_
    obtain ⟨s2, h⟩ := h
    exact r_call c175_67 rfl rfl (Nat.le_of_ble_eq_true rfl) (okc_r rfl rfl s2) h
  · replace h := h.2 hc
    exact r_ret c175_65 h
theorem t175_70 {d : Nat} {l0 : Nat} {l1 : Int} {M : Mem} {K : KK} {Q : RR → Mem → KK → Prop} (h : isO K.1 l0 12 = true ∧ isO K.1 l0 12 = true ∧ isO K.1 l0 12 = true ∧ ∃ b4 : Nat, ((mset M l0 7 (w32 ((M l0 7) + (1 : Int)))) l0 11) = (b4 : Int) ∧ 0 < b4 ∧ isO K.1 b4 20 = true ∧ (0 ≤ l1 ∧ l1 < (ln b4 : Int)) ∧ Wp d 175 (tsw 88 113 0 3 #[32, 48, 81, 97] l1) [vR l0, vI l1, vI ((mset M l0 7 (w32 ((M l0 7) + (1 : Int)))) b4 (Int.toNat l1)), vU] [] (mset M l0 7 (w32 ((M l0 7) + (1 : Int)))) K Q) : Wp d 175 70 [vR l0, vI l1, vU, vU] [] M K Q := by
  refine r_aload_n c175_70 rfl ?_
  refine r_dupr c175_71 ?_
  obtain ⟨s1, h⟩ := h
  refine r_getI c175_72 s1 ?_
  refine r_iconst c175_75 ?_
  refine r_iadd c175_76 ?_
  obtain ⟨s2, h⟩ := h
  refine r_putI c175_77 s2 ?_
  refine r_aload_n c175_80 rfl ?_
  obtain ⟨s3, h⟩ := h
  obtain ⟨b4, h⟩ := h
  obtain ⟨s5, h⟩ := h
  obtain ⟨s6, h⟩ := h
  refine r_getR c175_81 s3 s5 s6 ?_
  refine r_iload_n c175_84 rfl ?_
  obtain ⟨s7, h⟩ := h
  obtain ⟨s8, h⟩ := h
  refine r_ia c175_85 s7 s8 ?_
  refine r_istore_n c175_86 (Nat.le_of_ble_eq_true rfl) ?_
  refine r_iload_n c175_87 rfl ?_
  refine r_tsw c175_88 ?_
  exact h
theorem t175_120 {d : Nat} {l0 : Nat} {l1 : Int} {l2 : Int} {M : Mem} {K : KK} {Q : RR → Mem → KK → Prop} (h : isO K.1 l0 12 = true ∧ ∃ b2 : Nat, (M l0 13) = (b2 : Int) ∧ 0 < b2 ∧ isO K.1 l0 12 = true ∧ Wm d 163 [vR l0, vI (0 : Int), vI (9 : Int)] M K (Bk d 175 129 132 163 [vR l0, vI l1, vI l2, vU] [vI l2, vR b2] Q)) : Wp (d + 1) 175 120 [vR l0, vI l1, vI l2, vU] [] M K Q := by
  refine r_aload_n c175_120 rfl ?_
  obtain ⟨s1, h⟩ := h
  obtain ⟨b2, h⟩ := h
  obtain ⟨s3, h⟩ := h
  obtain ⟨s4, h⟩ := h
  refine r_getR c175_121 s1 s3 s4 ?_
  refine r_iload_n c175_124 rfl ?_
  refine r_aload_n c175_125 rfl ?_
  refine r_iconst c175_126 ?_
  refine r_bipush c175_127 ?_
  obtain ⟨s5, h⟩ := h
  exact r_call c175_129 rfl rfl (Nat.le_of_ble_eq_true rfl) (okc_r rfl rfl s5) h
theorem t175_132 {d : Nat} {l0 : Nat} {l1 : Int} {l2 : Int} {t0 : Nat} {t1 : Int} {t2 : Int} {M : Mem} {K : KK} {Q : RR → Mem → KK → Prop} (h : isO K.1 t0 20 = true ∧ (0 ≤ t1 ∧ t1 < (ln t0 : Int)) ∧ Wp d 175 235 [vR l0, vI l1, vI l2, vU] [] (mset M t0 (Int.toNat t1) t2) K Q) : Wp d 175 132 [vR l0, vI l1, vI l2, vU] [vI t2, vI t1, vR t0] M K Q := by
  obtain ⟨s1, h⟩ := h
  obtain ⟨s2, h⟩ := h
  refine r_ias c175_132 s1 s2 ?_
  refine r_goto c175_133 ?_
  exact h
theorem t175_136 {d : Nat} {l0 : Nat} {l1 : Int} {l2 : Int} {M : Mem} {K : KK} {Q : RR → Mem → KK → Prop} (h : isO K.1 l0 12 = true ∧ ∃ b2 : Nat, (M l0 19) = (b2 : Int) ∧ 0 < b2 ∧ (Nat.ble 30 (tg b2) = true ∧ isO K.1 b2 (tg b2) = true) ∧ (0 ≤ l2 ∧ l2 < (ln b2 : Int)) ∧ ∃ b7 : Nat, (M b2 (Int.toNat l2)) = (b7 : Int) ∧ 0 < b7 ∧ isO K.1 l0 12 = true ∧ Wm d 163 [vR l0, vI (1 : Int), vI (6 : Int)] M K (Bk d 175 147 150 163 [vR l0, vI l1, vI l2, vU] [vI (0 : Int), vR b7] Q)) : Wp (d + 1) 175 136 [vR l0, vI l1, vI l2, vU] [] M K Q := by
  refine r_aload_n c175_136 rfl ?_
  obtain ⟨s1, h⟩ := h
  obtain ⟨b2, h⟩ := h
  obtain ⟨s3, h⟩ := h
  obtain ⟨s4, h⟩ := h
  refine r_getR c175_137 s1 s3 s4 ?_
  refine r_iload_n c175_140 rfl ?_
  obtain ⟨s5, h⟩ := h
  obtain ⟨s6, h⟩ := h
  obtain ⟨b7, h⟩ := h
  obtain ⟨s8, h⟩ := h
  obtain ⟨s9, h⟩ := h
  refine r_aa c175_141 s5 s6 s8 s9 ?_
  refine r_iconst c175_142 ?_
  refine r_aload_n c175_143 rfl ?_
  refine r_iconst c175_144 ?_
  refine r_bipush c175_145 ?_
  obtain ⟨s10, h⟩ := h
  exact r_call c175_147 rfl rfl (Nat.le_of_ble_eq_true rfl) (okc_r rfl rfl s10) h
theorem t175_150 {d : Nat} {l0 : Nat} {l1 : Int} {l2 : Int} {t0 : Nat} {t1 : Int} {t2 : Int} {M : Mem} {K : KK} {Q : RR → Mem → KK → Prop} (h : isO K.1 t0 20 = true ∧ (0 ≤ t1 ∧ t1 < (ln t0 : Int)) ∧ isO K.1 l0 12 = true ∧ ∃ b4 : Nat, ((mset M t0 (Int.toNat t1) t2) l0 19) = (b4 : Int) ∧ 0 < b4 ∧ (Nat.ble 30 (tg b4) = true ∧ isO K.1 b4 (tg b4) = true) ∧ (0 ≤ l2 ∧ l2 < (ln b4 : Int)) ∧ ∃ b9 : Nat, ((mset M t0 (Int.toNat t1) t2) b4 (Int.toNat l2)) = (b9 : Int) ∧ 0 < b9 ∧ isO K.1 l0 12 = true ∧ Wm d 163 [vR l0, vI (1 : Int), vI (99 : Int)] (mset M t0 (Int.toNat t1) t2) K (Bk d 175 162 165 163 [vR l0, vI l1, vI l2, vU] [vI (1 : Int), vR b9] Q)) : Wp (d + 1) 175 150 [vR l0, vI l1, vI l2, vU] [vI t2, vI t1, vR t0] M K Q := by
  obtain ⟨s1, h⟩ := h
  obtain ⟨s2, h⟩ := h
  refine r_ias c175_150 s1 s2 ?_
  refine r_aload_n c175_151 rfl ?_
  obtain ⟨s3, h⟩ := h
  obtain ⟨b4, h⟩ := h
  obtain ⟨s5, h⟩ := h
  obtain ⟨s6, h⟩ := h
  refine r_getR c175_152 s3 s5 s6 ?_
  refine r_iload_n c175_155 rfl ?_
  obtain ⟨s7, h⟩ := h
  obtain ⟨s8, h⟩ := h
  obtain ⟨b9, h⟩ := h
  obtain ⟨s10, h⟩ := h
  obtain ⟨s11, h⟩ := h
  refine r_aa c175_156 s7 s8 s10 s11 ?_
  refine r_iconst c175_157 ?_
  refine r_aload_n c175_158 rfl ?_
  refine r_iconst c175_159 ?_
  refine r_bipush c175_160 ?_
  obtain ⟨s12, h⟩ := h
  exact r_call c175_162 rfl rfl (Nat.le_of_ble_eq_true rfl) (okc_r rfl rfl s12) h
theorem t175_165 {d : Nat} {l0 : Nat} {l1 : Int} {l2 : Int} {t0 : Nat} {t1 : Int} {t2 : Int} {M : Mem} {K : KK} {Q : RR → Mem → KK → Prop} (h : isO K.1 t0 20 = true ∧ (0 ≤ t1 ∧ t1 < (ln t0 : Int)) ∧ Wp d 175 235 [vR l0, vI l1, vI l2, vU] [] (mset M t0 (Int.toNat t1) t2) K Q) : Wp d 175 165 [vR l0, vI l1, vI l2, vU] [vI t2, vI t1, vR t0] M K Q := by
  obtain ⟨s1, h⟩ := h
  obtain ⟨s2, h⟩ := h
  refine r_ias c175_165 s1 s2 ?_
  refine r_goto c175_166 ?_
  exact h
theorem t175_169 {d : Nat} {l0 : Nat} {l1 : Int} {l2 : Int} {M : Mem} {K : KK} {Q : RR → Mem → KK → Prop} (h : isO K.1 l0 12 = true ∧ ∃ b2 : Nat, (M l0 15) = (b2 : Int) ∧ 0 < b2 ∧ isO K.1 l0 12 = true ∧ Wm d 163 [vR l0, vI (1 : Int), vI (9 : Int)] M K (Bk d 175 178 181 163 [vR l0, vI l1, vI l2, vU] [vI l2, vR b2] Q)) : Wp (d + 1) 175 169 [vR l0, vI l1, vI l2, vU] [] M K Q := by
  refine r_aload_n c175_169 rfl ?_
  obtain ⟨s1, h⟩ := h
  obtain ⟨b2, h⟩ := h
  obtain ⟨s3, h⟩ := h
  obtain ⟨s4, h⟩ := h
  refine r_getR c175_170 s1 s3 s4 ?_
  refine r_iload_n c175_173 rfl ?_
  refine r_aload_n c175_174 rfl ?_
  refine r_iconst c175_175 ?_
  refine r_bipush c175_176 ?_
  obtain ⟨s5, h⟩ := h
  exact r_call c175_178 rfl rfl (Nat.le_of_ble_eq_true rfl) (okc_r rfl rfl s5) h
theorem t175_181 {d : Nat} {l0 : Nat} {l1 : Int} {l2 : Int} {t0 : Nat} {t1 : Int} {t2 : Int} {M : Mem} {K : KK} {Q : RR → Mem → KK → Prop} (h : isO K.1 t0 20 = true ∧ (0 ≤ t1 ∧ t1 < (ln t0 : Int)) ∧ Wp d 175 235 [vR l0, vI l1, vI l2, vU] [] (mset M t0 (Int.toNat t1) t2) K Q) : Wp d 175 181 [vR l0, vI l1, vI l2, vU] [vI t2, vI t1, vR t0] M K Q := by
  obtain ⟨s1, h⟩ := h
  obtain ⟨s2, h⟩ := h
  refine r_ias c175_181 s1 s2 ?_
  refine r_goto c175_182 ?_
  exact h
theorem t175_185 {d : Nat} {l0 : Nat} {l1 : Int} {l2 : Int} {M : Mem} {K : KK} {Q : RR → Mem → KK → Prop} (h : isO K.1 l0 12 = true ∧ ∃ b2 : Nat, (M l0 17) = (b2 : Int) ∧ 0 < b2 ∧ isO K.1 l0 12 = true ∧ Wm d 163 [vR l0, vI (0 : Int), vI (9 : Int)] M K (Bk d 175 194 197 163 [vR l0, vI l1, vI l2, vU] [vI l2, vR b2] Q)) : Wp (d + 1) 175 185 [vR l0, vI l1, vI l2, vU] [] M K Q := by
  refine r_aload_n c175_185 rfl ?_
  obtain ⟨s1, h⟩ := h
  obtain ⟨b2, h⟩ := h
  obtain ⟨s3, h⟩ := h
  obtain ⟨s4, h⟩ := h
  refine r_getR c175_186 s1 s3 s4 ?_
  refine r_iload_n c175_189 rfl ?_
  refine r_aload_n c175_190 rfl ?_
  refine r_iconst c175_191 ?_
  refine r_bipush c175_192 ?_
  obtain ⟨s5, h⟩ := h
  exact r_call c175_194 rfl rfl (Nat.le_of_ble_eq_true rfl) (okc_r rfl rfl s5) h
theorem t175_197 {d : Nat} {l0 : Nat} {l1 : Int} {l2 : Int} {t0 : Nat} {t1 : Int} {t2 : Int} {M : Mem} {K : KK} {Q : RR → Mem → KK → Prop} (h : isO K.1 t0 20 = true ∧ (0 ≤ t1 ∧ t1 < (ln t0 : Int)) ∧ Wp d 175 235 [vR l0, vI l1, vI l2, vU] [] (mset M t0 (Int.toNat t1) t2) K Q) : Wp d 175 197 [vR l0, vI l1, vI l2, vU] [vI t2, vI t1, vR t0] M K Q := by
  obtain ⟨s1, h⟩ := h
  obtain ⟨s2, h⟩ := h
  refine r_ias c175_197 s1 s2 ?_
  refine r_goto c175_198 ?_
  exact h
theorem t175_201 {d : Nat} {l0 : Nat} {l1 : Int} {l2 : Int} {M : Mem} {K : KK} {Q : RR → Mem → KK → Prop} (h : (¬ l1 = (4 : Int) → Wp d 175 214 [vR l0, vI l1, vI l2, vU] [vI (4 : Int), vI (0 : Int), vR l0] M K Q) ∧ (¬ (¬ l1 = (4 : Int)) → Wp d 175 214 [vR l0, vI l1, vI l2, vU] [vI (99 : Int), vI (0 : Int), vR l0] M K Q)) : Wp d 175 201 [vR l0, vI l1, vI l2, vU] [] M K Q := by
  refine r_aload_n c175_201 rfl ?_
  refine r_iconst c175_202 ?_
  refine r_iload_n c175_203 rfl ?_
  refine r_iconst c175_204 ?_
  refine r_icmpP (P := ¬ l1 = (4 : Int)) c175_205 rfl (fun hc => ?_) (fun hc => ?_)
  · replace h := h.1 hc
    refine r_iconst c175_213 ?_
    exact h
  · replace h := h.2 hc
    refine r_bipush c175_208 ?_
    refine r_goto c175_210 ?_
    exact h
theorem t175_214 {d : Nat} {l0 : Nat} {l1 : Int} {l2 : Int} {t0 : Nat} {t1 : Int} {t2 : Int} {M : Mem} {K : KK} {Q : RR → Mem → KK → Prop} (h : isO K.1 t0 12 = true ∧ Wm d 163 [vR t0, vI t1, vI t2] M K (Bk d 175 214 217 163 [vR l0, vI l1, vI l2, vU] [] Q)) : Wp (d + 1) 175 214 [vR l0, vI l1, vI l2, vU] [vI t2, vI t1, vR t0] M K Q := by
  obtain ⟨s1, h⟩ := h
  exact r_call c175_214 rfl rfl (Nat.le_of_ble_eq_true rfl) (okc_r rfl rfl s1) h
theorem t175_217 {d : Nat} {l0 : Nat} {l1 : Int} {l2 : Int} {t0 : Int} {M : Mem} {K : KK} {Q : RR → Mem → KK → Prop} (h : isO K.1 l0 12 = true ∧ (¬ (M l0 5) = (0 : Int) → Wp d 175 235 [vR l0, vI l1, vI l2, vI t0] [] M K Q) ∧ (¬ (¬ (M l0 5) = (0 : Int)) → isO K.1 l0 12 = true ∧ ∃ b3 : Nat, (M l0 11) = (b3 : Int) ∧ 0 < b3 ∧ isO K.1 b3 20 = true ∧ (0 ≤ l1 ∧ l1 < (ln b3 : Int)) ∧ Wp d 175 235 [vR l0, vI l1, vI l2, vI t0] [] (mset M b3 (Int.toNat l1) t0) K Q)) : Wp d 175 217 [vR l0, vI l1, vI l2, vU] [vI t0] M K Q := by
  refine r_istore_n c175_217 (Nat.le_of_ble_eq_true rfl) ?_
  refine r_aload_n c175_218 rfl ?_
  obtain ⟨s1, h⟩ := h
  refine r_getI c175_219 s1 ?_
  refine r_ifP (P := ¬ (M l0 5) = (0 : Int)) c175_222 rfl (fun hc => ?_) (fun hc => ?_)
  · replace h := h.1 hc
    exact h
  · replace h := h.2 hc
    refine r_aload_n c175_225 rfl ?_
    obtain ⟨s2, h⟩ := h
    obtain ⟨b3, h⟩ := h
    obtain ⟨s4, h⟩ := h
    obtain ⟨s5, h⟩ := h
    refine r_getR c175_226 s2 s4 s5 ?_
    refine r_iload_n c175_229 rfl ?_
    refine r_iload_n c175_230 rfl ?_
    obtain ⟨s6, h⟩ := h
    obtain ⟨s7, h⟩ := h
    refine r_ias c175_231 s6 s7 ?_
    refine r_goto c175_232 ?_
    exact h
theorem t175_235 {d : Nat} {l0 : Nat} {l1 : Int} {l2 : Int} {l3 : PV} {M : Mem} {K : KK} {Q : RR → Mem → KK → Prop} (h : ((4 : Int) ≤ l1 → Wp d 175 261 [vR l0, vI l1, vI l2, l3] [] M K Q) ∧ (¬ ((4 : Int) ≤ l1) → isO K.1 l0 12 = true ∧ ∃ b2 : Nat, (M l0 11) = (b2 : Int) ∧ 0 < b2 ∧ isO K.1 b2 20 = true ∧ (0 ≤ l1 ∧ l1 < (ln b2 : Int)) ∧ isO K.1 l0 12 = true ∧ (¬ (M l0 5) = (0 : Int) → Wp d 175 259 [vR l0, vI l1, vI l2, l3] [vI (0 : Int), vI (M b2 (Int.toNat l1)), vI l1, vR b2] M K Q) ∧ (¬ (¬ (M l0 5) = (0 : Int)) → Wp d 175 259 [vR l0, vI l1, vI l2, l3] [vI (1 : Int), vI (M b2 (Int.toNat l1)), vI l1, vR b2] M K Q))) : Wp d 175 235 [vR l0, vI l1, vI l2, l3] [] M K Q := by
  refine r_iload_n c175_235 rfl ?_
  refine r_iconst c175_236 ?_
  refine r_icmpP (P := (4 : Int) ≤ l1) c175_237 rfl (fun hc => ?_) (fun hc => ?_)
  · replace h := h.1 hc
    exact h
  · replace h := h.2 hc
    refine r_aload_n c175_240 rfl ?_
    obtain ⟨s1, h⟩ := h
    obtain ⟨b2, h⟩ := h
    obtain ⟨s3, h⟩ := h
    obtain ⟨s4, h⟩ := h
    refine r_getR c175_241 s1 s3 s4 ?_
    refine r_iload_n c175_244 rfl ?_
    refine r_dup2 c175_245 ?_
    obtain ⟨s5, h⟩ := h
    obtain ⟨s6, h⟩ := h
    refine r_ia c175_246 s5 s6 ?_
    refine r_aload_n c175_247 rfl ?_
    obtain ⟨s7, h⟩ := h
    refine r_getI c175_248 s7 ?_
    refine r_ifP (P := ¬ (M l0 5) = (0 : Int)) c175_251 rfl (fun hc => ?_) (fun hc => ?_)
    · replace h := h.1 hc
      refine r_iconst c175_258 ?_
      exact h
    · replace h := h.2 hc
      refine r_iconst c175_254 ?_
      refine r_goto c175_255 ?_
      exact h
theorem t175_259 {d : Nat} {l0 : Nat} {l1 : Int} {l2 : Int} {l3 : PV} {t0 : Nat} {t1 : Int} {t2 : Int} {t3 : Int} {M : Mem} {K : KK} {Q : RR → Mem → KK → Prop} (h : isO K.1 t0 20 = true ∧ (0 ≤ t1 ∧ t1 < (ln t0 : Int)) ∧ Wp d 175 261 [vR l0, vI l1, vI l2, l3] [] (mset M t0 (Int.toNat t1) (w32 (t2 + t3))) K Q) : Wp d 175 259 [vR l0, vI l1, vI l2, l3] [vI t3, vI t2, vI t1, vR t0] M K Q := by
  refine r_iadd c175_259 ?_
  obtain ⟨s1, h⟩ := h
  obtain ⟨s2, h⟩ := h
  refine r_ias c175_260 s1 s2 ?_
  exact h
theorem t175_261 {d : Nat} {l0 : Nat} {l1 : Int} {l2 : Int} {l3 : PV} {M : Mem} {K : KK} {Q : RR → Mem → KK → Prop} (h : isO K.1 l0 12 = true ∧ Wm d 169 [vR l0, vI (59 : Int)] M K (Bk d 175 264 267 169 [vR l0, vI l1, vI l2, l3] [] Q)) : Wp (d + 1) 175 261 [vR l0, vI l1, vI l2, l3] [] M K Q := by
  refine r_aload_n c175_261 rfl ?_
  refine r_bipush c175_262 ?_
  obtain ⟨s1, h⟩ := h
  exact r_call c175_264 rfl rfl (Nat.le_of_ble_eq_true rfl) (okc_r rfl rfl s1) h
theorem t175_267 {d : Nat} {l0 : Nat} {l1 : Int} {l2 : Int} {l3 : PV} {M : Mem} {K : KK} {Q : RR → Mem → KK → Prop} (h : Q (.inl none) M K) : Wp d 175 267 [vR l0, vI l1, vI l2, l3] [] M K Q := by
  exact r_ret c175_267 h
theorem t176_0 {d : Nat} {l0 : Nat} {l1 : Int} {M : Mem} {K : KK} {Q : RR → Mem → KK → Prop} (h : isO K.1 l0 12 = true ∧ isO K.1 l0 12 = true ∧ Wm d 153 [vI l1, vI (0 : Int), vI ((mset M l0 0 (0 : Int)) l0 1)] (mset M l0 0 (0 : Int)) K (Bk d 176 12 15 153 [vR l0, vI l1] [vR l0] Q)) : Wp (d + 1) 176 0 [vR l0, vI l1] [] M K Q := by
  refine r_aload_n c176_0 rfl ?_
  refine r_iconst c176_1 ?_
  obtain ⟨s1, h⟩ := h
  refine r_putI c176_2 s1 ?_
  refine r_aload_n c176_5 rfl ?_
  refine r_iload_n c176_6 rfl ?_
  refine r_iconst c176_7 ?_
  refine r_aload_n c176_8 rfl ?_
  obtain ⟨s2, h⟩ := h
  refine r_getI c176_9 s2 ?_
  exact r_call c176_12 rfl rfl (Nat.le_of_ble_eq_true rfl) (okc_s rfl rfl rfl) h
theorem t176_15 {d : Nat} {l0 : Nat} {l1 : Int} {t0 : Nat} {t1 : Int} {M : Mem} {K : KK} {Q : RR → Mem → KK → Prop} (h : (¬ t1 = (0 : Int) → Wp d 176 23 [vR l0, vI l1] [vI (0 : Int), vR t0] M K Q) ∧ (¬ (¬ t1 = (0 : Int)) → Wp d 176 23 [vR l0, vI l1] [vI (1 : Int), vR t0] M K Q)) : Wp d 176 15 [vR l0, vI l1] [vI t1, vR t0] M K Q := by
  refine r_ifP (P := ¬ t1 = (0 : Int)) c176_15 rfl (fun hc => ?_) (fun hc => ?_)
  · replace h := h.1 hc
    refine r_iconst c176_22 ?_
    exact h
  · replace h := h.2 hc
    refine r_iconst c176_18 ?_
    refine r_goto c176_19 ?_
    exact h
theorem t176_23 {d : Nat} {l0 : Nat} {l1 : Int} {t0 : Nat} {t1 : Int} {M : Mem} {K : KK} {Q : RR → Mem → KK → Prop} (h : isO K.1 t0 12 = true ∧ Wm d 152 [vR t0, vI t1, vI (1 : Int), vI (1 : Int)] M K (Bk d 176 25 28 152 [vR l0, vI l1] [] Q)) : Wp (d + 1) 176 23 [vR l0, vI l1] [vI t1, vR t0] M K Q := by
  refine r_iconst c176_23 ?_
  refine r_iconst c176_24 ?_
  obtain ⟨s1, h⟩ := h
  exact r_call c176_25 rfl rfl (Nat.le_of_ble_eq_true rfl) (okc_r rfl rfl s1) h
theorem t176_28 {d : Nat} {l0 : Nat} {l1 : Int} {t0 : Int} {M : Mem} {K : KK} {Q : RR → Mem → KK → Prop} (h : (t0 = (0 : Int) → isO K.1 l0 12 = true ∧ Wm d 171 [vR l0, vI l1] M K (Bk d 176 35 38 171 [vR l0, vI l1] [] Q)) ∧ (¬ (t0 = (0 : Int)) → Q (.inl (some (vI (0 : Int)))) M K)) : Wp (d + 1) 176 28 [vR l0, vI l1] [vI t0] M K Q := by
  refine r_ifP (P := t0 = (0 : Int)) c176_28 rfl (fun hc => ?_) (fun hc => ?_)
  · replace h := h.1 hc
    refine r_aload_n c176_33 rfl ?_
    refine r_iload_n c176_34 rfl ?_
    obtain ⟨s1, h⟩ := h
    exact r_call c176_35 rfl rfl (Nat.le_of_ble_eq_true rfl) (okc_r rfl rfl s1) h
  · replace h := h.2 hc
    refine r_iconst c176_31 ?_
    exact r_iret c176_32 (Or.inl rfl) h
theorem t176_38 {d : Nat} {l0 : Nat} {l1 : Int} {M : Mem} {K : KK} {Q : RR → Mem → KK → Prop} (h : isO K.1 l0 12 = true ∧ Wm d 150 [vR l0] M K (Bk d 176 39 42 150 [vR l0, vI l1] [] Q)) : Wp (d + 1) 176 38 [vR l0, vI l1] [] M K Q := by
  refine r_aload_n c176_38 rfl ?_
  obtain ⟨s1, h⟩ := h
  exact r_call c176_39 rfl rfl (Nat.le_of_ble_eq_true rfl) (okc_r rfl rfl s1) h
theorem t176_42 {d : Nat} {l0 : Nat} {l1 : Int} {M : Mem} {K : KK} {Q : RR → Mem → KK → Prop} (h : isO K.1 l0 12 = true ∧ (¬ (M l0 5) = (0 : Int) → Wp (d + 1) 176 71 [vR l0, vI l1] [] M K Q) ∧ (¬ (¬ (M l0 5) = (0 : Int)) → isO K.1 l0 12 = true ∧ isO K.1 l0 12 = true ∧ ((M l0 2) ≤ (M l0 4) → Wp (d + 1) 176 71 [vR l0, vI l1] [] M K Q) ∧ (¬ ((M l0 2) ≤ (M l0 4)) → isO K.1 l0 12 = true ∧ Wm d 175 [vR l0] M K (Bk d 176 61 64 175 [vR l0, vI l1] [] Q)))) : Wp (d + 1) 176 42 [vR l0, vI l1] [] M K Q := by
  refine r_aload_n c176_42 rfl ?_
  obtain ⟨s1, h⟩ := h
  refine r_getI c176_43 s1 ?_
  refine r_ifP (P := ¬ (M l0 5) = (0 : Int)) c176_46 rfl (fun hc => ?_) (fun hc => ?_)
  · replace h := h.1 hc
    exact h
  · replace h := h.2 hc
    refine r_aload_n c176_49 rfl ?_
    obtain ⟨s2, h⟩ := h
    refine r_getI c176_50 s2 ?_
    refine r_aload_n c176_53 rfl ?_
    obtain ⟨s3, h⟩ := h
    refine r_getI c176_54 s3 ?_
    refine r_icmpP (P := (M l0 2) ≤ (M l0 4)) c176_57 rfl (fun hc => ?_) (fun hc => ?_)
    · replace h := h.1 hc
      exact h
    · replace h := h.2 hc
      refine r_aload_n c176_60 rfl ?_
      obtain ⟨s4, h⟩ := h
      exact r_call c176_61 rfl rfl (Nat.le_of_ble_eq_true rfl) (okc_r rfl rfl s4) h
theorem t176_64 {d : Nat} {l0 : Nat} {l1 : Int} {M : Mem} {K : KK} {Q : RR → Mem → KK → Prop} (h : isO K.1 l0 12 = true ∧ Wm d 159 [vR l0] M K (Bk d 176 65 68 159 [vR l0, vI l1] [] Q)) : Wp (d + 1) 176 64 [vR l0, vI l1] [] M K Q := by
  refine r_aload_n c176_64 rfl ?_
  obtain ⟨s1, h⟩ := h
  exact r_call c176_65 rfl rfl (Nat.le_of_ble_eq_true rfl) (okc_r rfl rfl s1) h
theorem t176_68 {d : Nat} {l0 : Nat} {l1 : Int} {M : Mem} {K : KK} {Q : RR → Mem → KK → Prop} (h : Wp d 176 42 [vR l0, vI l1] [] M K Q) : Wp d 176 68 [vR l0, vI l1] [] M K Q := by
  refine r_goto c176_68 ?_
  exact h
theorem t176_71 {d : Nat} {l0 : Nat} {l1 : Int} {M : Mem} {K : KK} {Q : RR → Mem → KK → Prop} (h : isO K.1 l0 12 = true ∧ ((M l0 5) = (0 : Int) → isO K.1 l0 12 = true ∧ isO K.1 l0 12 = true ∧ Wm d 179 [vR l0] (mset M l0 3 (-1 : Int)) K (Bk d 176 89 92 179 [vR l0, vI l1] [] Q)) ∧ (¬ ((M l0 5) = (0 : Int)) → isO K.1 l0 12 = true ∧ Wm d 172 [vR l0] M K (Bk d 176 79 82 172 [vR l0, vI l1] [] Q))) : Wp (d + 1) 176 71 [vR l0, vI l1] [] M K Q := by
  refine r_aload_n c176_71 rfl ?_
  obtain ⟨s1, h⟩ := h
  refine r_getI c176_72 s1 ?_
  refine r_ifP (P := (M l0 5) = (0 : Int)) c176_75 rfl (fun hc => ?_) (fun hc => ?_)
  · replace h := h.1 hc
    refine r_aload_n c176_83 rfl ?_
    refine r_iconst c176_84 ?_
    obtain ⟨s2, h⟩ := h
    refine r_putI c176_85 s2 ?_
    refine r_aload_n c176_88 rfl ?_
    obtain ⟨s3, h⟩ := h
    exact r_call c176_89 rfl rfl (Nat.le_of_ble_eq_true rfl) (okc_r rfl rfl s3) h
  · replace h := h.2 hc
    refine r_aload_n c176_78 rfl ?_
    obtain ⟨s4, h⟩ := h
    exact r_call c176_79 rfl rfl (Nat.le_of_ble_eq_true rfl) (okc_r rfl rfl s4) h
theorem t176_82 {d : Nat} {l0 : Nat} {l1 : Int} {t0 : Int} {M : Mem} {K : KK} {Q : RR → Mem → KK → Prop} (h : Q (.inl (some (vI t0))) M K) : Wp d 176 82 [vR l0, vI l1] [vI t0] M K Q := by
  exact r_iret c176_82 (Or.inl rfl) h
theorem t176_92 {d : Nat} {l0 : Nat} {l1 : Int} {M : Mem} {K : KK} {Q : RR → Mem → KK → Prop} (h : isO K.1 l0 12 = true ∧ ∃ b2 : Nat, (M l0 12) = (b2 : Int) ∧ 0 < b2 ∧ isO K.1 b2 20 = true ∧ (0 ≤ (1 : Int) ∧ (1 : Int) < (ln b2 : Int)) ∧ Q (.inl (some (vI (M b2 (Int.toNat (1 : Int)))))) M K) : Wp d 176 92 [vR l0, vI l1] [] M K Q := by
  refine r_aload_n c176_92 rfl ?_
  obtain ⟨s1, h⟩ := h
  obtain ⟨b2, h⟩ := h
  obtain ⟨s3, h⟩ := h
  obtain ⟨s4, h⟩ := h
  refine r_getR c176_93 s1 s3 s4 ?_
  refine r_iconst c176_96 ?_
  obtain ⟨s5, h⟩ := h
  obtain ⟨s6, h⟩ := h
  refine r_ia c176_97 s5 s6 ?_
  exact r_iret c176_98 (Or.inl rfl) h
theorem t177_0 {d : Nat} {l0 : Nat} {l1 : Nat} {l2 : Int} {M : Mem} {K : KK} {Q : RR → Mem → KK → Prop} (h : Wp d 177 2 [vR l0, vR l1, vI l2, vI (0 : Int), vU] [] M K Q) : Wp d 177 0 [vR l0, vR l1, vI l2, vU, vU] [] M K Q := by
  refine r_iconst c177_0 ?_
  refine r_istore_n c177_1 (Nat.le_of_ble_eq_true rfl) ?_
  exact h
theorem t177_2 {d : Nat} {l0 : Nat} {l1 : Nat} {l2 : Int} {l3 : Int} {l4 : PV} {M : Mem} {K : KK} {Q : RR → Mem → KK → Prop} (h : (l2 ≤ l3 → Q (.inl none) M K) ∧ (¬ (l2 ≤ l3) → Wp d 177 10 [vR l0, vR l1, vI l2, vI l3, vI (0 : Int)] [] M K Q)) : Wp d 177 2 [vR l0, vR l1, vI l2, vI l3, l4] [] M K Q := by
  refine r_iload_n c177_2 rfl ?_
  refine r_iload_n c177_3 rfl ?_
  refine r_icmpP (P := l2 ≤ l3) c177_4 rfl (fun hc => ?_) (fun hc => ?_)
  · replace h := h.1 hc
    exact r_ret c177_43 h
  · replace h := h.2 hc
    refine r_iconst c177_7 ?_
    refine r_istore c177_8 (Nat.le_of_ble_eq_true rfl) ?_
    exact h
theorem t177_10 {d : Nat} {l0 : Nat} {l1 : Nat} {l2 : Int} {l3 : Int} {l4 : Int} {M : Mem} {K : KK} {Q : RR → Mem → KK → Prop} (h : (Nat.ble 30 (tg l1) = true ∧ isO K.1 l1 (tg l1) = true) ∧ (0 ≤ l3 ∧ l3 < (ln l1 : Int)) ∧ ∃ b3 : Nat, (M l1 (Int.toNat l3)) = (b3 : Int) ∧ 0 < b3 ∧ (Nat.ble 20 (tg b3) = true ∧ isO K.1 b3 (tg b3) = true) ∧ ((ln b3 : Int) ≤ l4 → Wp d 177 2 [vR l0, vR l1, vI l2, vI (w32 (l3 + 1)), vI l4] [] M K Q) ∧ (¬ ((ln b3 : Int) ≤ l4) → (Nat.ble 30 (tg l1) = true ∧ isO K.1 l1 (tg l1) = true) ∧ (0 ≤ l3 ∧ l3 < (ln l1 : Int)) ∧ ∃ b9 : Nat, (M l1 (Int.toNat l3)) = (b9 : Int) ∧ 0 < b9 ∧ (Nat.ble 30 (tg l0) = true ∧ isO K.1 l0 (tg l0) = true) ∧ (0 ≤ l3 ∧ l3 < (ln l0 : Int)) ∧ ∃ b14 : Nat, (M l0 (Int.toNat l3)) = (b14 : Int) ∧ 0 < b14 ∧ isO K.1 b14 20 = true ∧ (0 ≤ l4 ∧ l4 < (ln b14 : Int)) ∧ isO K.1 b9 20 = true ∧ (0 ≤ l4 ∧ l4 < (ln b9 : Int)) ∧ Wp d 177 10 [vR l0, vR l1, vI l2, vI l3, vI (w32 (l4 + 1))] [] (mset M b9 (Int.toNat l4) (M b14 (Int.toNat l4))) K Q)) : Wp d 177 10 [vR l0, vR l1, vI l2, vI l3, vI l4] [] M K Q := by
  refine r_iload c177_10 rfl ?_
  refine r_aload_n c177_12 rfl ?_
  refine r_iload_n c177_13 rfl ?_
  obtain ⟨s1, h⟩ := h
  obtain ⟨s2, h⟩ := h
  obtain ⟨b3, h⟩ := h
  obtain ⟨s4, h⟩ := h
  obtain ⟨s5, h⟩ := h
  refine r_aa c177_14 s1 s2 s4 s5 ?_
  obtain ⟨s6, h⟩ := h
  refine r_alen c177_15 s6 ?_
  refine r_icmpP (P := (ln b3 : Int) ≤ l4) c177_16 rfl (fun hc => ?_) (fun hc => ?_)
  · replace h := h.1 hc
    refine r_iinc c177_37 rfl ?_
    refine r_goto c177_40 ?_
    exact h
  · replace h := h.2 hc
    refine r_aload_n c177_19 rfl ?_
    refine r_iload_n c177_20 rfl ?_
    obtain ⟨s7, h⟩ := h
    obtain ⟨s8, h⟩ := h
    obtain ⟨b9, h⟩ := h
    obtain ⟨s10, h⟩ := h
    obtain ⟨s11, h⟩ := h
    refine r_aa c177_21 s7 s8 s10 s11 ?_
    refine r_iload c177_22 rfl ?_
    refine r_aload_n c177_24 rfl ?_
    refine r_iload_n c177_25 rfl ?_
    obtain ⟨s12, h⟩ := h
    obtain ⟨s13, h⟩ := h
    obtain ⟨b14, h⟩ := h
    obtain ⟨s15, h⟩ := h
    obtain ⟨s16, h⟩ := h
    refine r_aa c177_26 s12 s13 s15 s16 ?_
    refine r_iload c177_27 rfl ?_
    obtain ⟨s17, h⟩ := h
    obtain ⟨s18, h⟩ := h
    refine r_ia c177_29 s17 s18 ?_
    obtain ⟨s19, h⟩ := h
    obtain ⟨s20, h⟩ := h
    refine r_ias c177_30 s19 s20 ?_
    refine r_iinc c177_31 rfl ?_
    refine r_goto c177_34 ?_
    exact h
theorem t178_0 {d : Nat} {l0 : Nat} {l1 : Nat} {M : Mem} {K : KK} {Q : RR → Mem → KK → Prop} (h : Wp d 178 2 [vR l0, vR l1, vI (0 : Int)] [] M K Q) : Wp d 178 0 [vR l0, vR l1, vU] [] M K Q := by
  refine r_iconst c178_0 ?_
  refine r_istore_n c178_1 (Nat.le_of_ble_eq_true rfl) ?_
  exact h
theorem t178_2 {d : Nat} {l0 : Nat} {l1 : Nat} {l2 : Int} {M : Mem} {K : KK} {Q : RR → Mem → KK → Prop} (h : ((27 : Int) ≤ l2 → Q (.inl none) M K) ∧ (¬ ((27 : Int) ≤ l2) → isO K.1 l0 20 = true ∧ (0 ≤ l2 ∧ l2 < (ln l0 : Int)) ∧ isO K.1 l1 20 = true ∧ (0 ≤ l2 ∧ l2 < (ln l1 : Int)) ∧ Wp d 178 2 [vR l0, vR l1, vI (w32 (l2 + 1))] [] (mset M l1 (Int.toNat l2) (M l0 (Int.toNat l2))) K Q)) : Wp d 178 2 [vR l0, vR l1, vI l2] [] M K Q := by
  refine r_iload_n c178_2 rfl ?_
  refine r_bipush c178_3 ?_
  refine r_icmpP (P := (27 : Int) ≤ l2) c178_5 rfl (fun hc => ?_) (fun hc => ?_)
  · replace h := h.1 hc
    exact r_ret c178_20 h
  · replace h := h.2 hc
    refine r_aload_n c178_8 rfl ?_
    refine r_iload_n c178_9 rfl ?_
    refine r_aload_n c178_10 rfl ?_
    refine r_iload_n c178_11 rfl ?_
    obtain ⟨s1, h⟩ := h
    obtain ⟨s2, h⟩ := h
    refine r_ia c178_12 s1 s2 ?_
    obtain ⟨s3, h⟩ := h
    obtain ⟨s4, h⟩ := h
    refine r_ias c178_13 s3 s4 ?_
    refine r_iinc c178_14 rfl ?_
    refine r_goto c178_17 ?_
    exact h
theorem t179_0 {d : Nat} {l0 : Nat} {M : Mem} {K : KK} {Q : RR → Mem → KK → Prop} (h : Wp d 179 2 [vR l0, vI (0 : Int)] [] M K Q) : Wp d 179 0 [vR l0, vU] [] M K Q := by
  refine r_iconst c179_0 ?_
  refine r_istore_n c179_1 (Nat.le_of_ble_eq_true rfl) ?_
  exact h
theorem t179_2 {d : Nat} {l0 : Nat} {l1 : Int} {M : Mem} {K : KK} {Q : RR → Mem → KK → Prop} (h : ((6 : Int) ≤ l1 → Wp d 179 28 [vR l0, vI (0 : Int)] [] M K Q) ∧ (¬ ((6 : Int) ≤ l1) → isO K.1 l0 12 = true ∧ ∃ b2 : Nat, (M l0 12) = (b2 : Int) ∧ 0 < b2 ∧ isO K.1 l0 12 = true ∧ ∃ b6 : Nat, (M l0 11) = (b6 : Int) ∧ 0 < b6 ∧ isO K.1 b6 20 = true ∧ (0 ≤ l1 ∧ l1 < (ln b6 : Int)) ∧ isO K.1 b2 20 = true ∧ (0 ≤ l1 ∧ l1 < (ln b2 : Int)) ∧ Wp d 179 2 [vR l0, vI (w32 (l1 + 1))] [] (mset M b2 (Int.toNat l1) (M b6 (Int.toNat l1))) K Q)) : Wp d 179 2 [vR l0, vI l1] [] M K Q := by
  refine r_iload_n c179_2 rfl ?_
  refine r_bipush c179_3 ?_
  refine r_icmpP (P := (6 : Int) ≤ l1) c179_5 rfl (fun hc => ?_) (fun hc => ?_)
  · replace h := h.1 hc
    refine r_iconst c179_26 ?_
    refine r_istore_n c179_27 (Nat.le_of_ble_eq_true rfl) ?_
    exact h
  · replace h := h.2 hc
    refine r_aload_n c179_8 rfl ?_
    obtain ⟨s1, h⟩ := h
    obtain ⟨b2, h⟩ := h
    obtain ⟨s3, h⟩ := h
    obtain ⟨s4, h⟩ := h
    refine r_getR c179_9 s1 s3 s4 ?_
    refine r_iload_n c179_12 rfl ?_
    refine r_aload_n c179_13 rfl ?_
    obtain ⟨s5, h⟩ := h
    obtain ⟨b6, h⟩ := h
    obtain ⟨s7, h⟩ := h
    obtain ⟨s8, h⟩ := h
    refine r_getR c179_14 s5 s7 s8 ?_
    refine r_iload_n c179_17 rfl ?_
    obtain ⟨s9, h⟩ := h
    obtain ⟨s10, h⟩ := h
    refine r_ia c179_18 s9 s10 ?_
    obtain ⟨s11, h⟩ := h
    obtain ⟨s12, h⟩ := h
    refine r_ias c179_19 s11 s12 ?_
    refine r_iinc c179_20 rfl ?_
    refine r_goto c179_23 ?_
    exact h
theorem t179_28 {d : Nat} {l0 : Nat} {l1 : Int} {M : Mem} {K : KK} {Q : RR → Mem → KK → Prop} (h : isO K.1 l0 12 = true ∧ ∃ b2 : Nat, (M l0 12) = (b2 : Int) ∧ 0 < b2 ∧ isO K.1 b2 20 = true ∧ (0 ≤ (0 : Int) ∧ (0 : Int) < (ln b2 : Int)) ∧ ((M b2 (Int.toNat (0 : Int))) ≤ l1 → Wp d 179 58 [vR l0, vI (0 : Int)] [] M K Q) ∧ (¬ ((M b2 (Int.toNat (0 : Int))) ≤ l1) → isO K.1 l0 12 = true ∧ ∃ b8 : Nat, (M l0 14) = (b8 : Int) ∧ 0 < b8 ∧ isO K.1 l0 12 = true ∧ ∃ b12 : Nat, (M l0 13) = (b12 : Int) ∧ 0 < b12 ∧ isO K.1 b12 20 = true ∧ (0 ≤ l1 ∧ l1 < (ln b12 : Int)) ∧ isO K.1 b8 20 = true ∧ (0 ≤ l1 ∧ l1 < (ln b8 : Int)) ∧ Wp d 179 28 [vR l0, vI (w32 (l1 + 1))] [] (mset M b8 (Int.toNat l1) (M b12 (Int.toNat l1))) K Q)) : Wp d 179 28 [vR l0, vI l1] [] M K Q := by
  refine r_iload_n c179_28 rfl ?_
  refine r_aload_n c179_29 rfl ?_
  obtain ⟨s1, h⟩ := h
  obtain ⟨b2, h⟩ := h
  obtain ⟨s3, h⟩ := h
  obtain ⟨s4, h⟩ := h
  refine r_getR c179_30 s1 s3 s4 ?_
  refine r_iconst c179_33 ?_
  obtain ⟨s5, h⟩ := h
  obtain ⟨s6, h⟩ := h
  refine r_ia c179_34 s5 s6 ?_
  refine r_icmpP (P := (M b2 (Int.toNat (0 : Int))) ≤ l1) c179_35 rfl (fun hc => ?_) (fun hc => ?_)
  · replace h := h.1 hc
    refine r_iconst c179_56 ?_
    refine r_istore_n c179_57 (Nat.le_of_ble_eq_true rfl) ?_
    exact h
  · replace h := h.2 hc
    refine r_aload_n c179_38 rfl ?_
    obtain ⟨s7, h⟩ := h
    obtain ⟨b8, h⟩ := h
    obtain ⟨s9, h⟩ := h
    obtain ⟨s10, h⟩ := h
    refine r_getR c179_39 s7 s9 s10 ?_
    refine r_iload_n c179_42 rfl ?_
    refine r_aload_n c179_43 rfl ?_
    obtain ⟨s11, h⟩ := h
    obtain ⟨b12, h⟩ := h
    obtain ⟨s13, h⟩ := h
    obtain ⟨s14, h⟩ := h
    refine r_getR c179_44 s11 s13 s14 ?_
    refine r_iload_n c179_47 rfl ?_
    obtain ⟨s15, h⟩ := h
    obtain ⟨s16, h⟩ := h
    refine r_ia c179_48 s15 s16 ?_
    obtain ⟨s17, h⟩ := h
    obtain ⟨s18, h⟩ := h
    refine r_ias c179_49 s17 s18 ?_
    refine r_iinc c179_50 rfl ?_
    refine r_goto c179_53 ?_
    exact h
theorem t179_58 {d : Nat} {l0 : Nat} {l1 : Int} {M : Mem} {K : KK} {Q : RR → Mem → KK → Prop} (h : isO K.1 l0 12 = true ∧ ∃ b2 : Nat, (M l0 12) = (b2 : Int) ∧ 0 < b2 ∧ isO K.1 b2 20 = true ∧ (0 ≤ (2 : Int) ∧ (2 : Int) < (ln b2 : Int)) ∧ ((M b2 (Int.toNat (2 : Int))) ≤ l1 → Wp d 179 88 [vR l0, vI (0 : Int)] [] M K Q) ∧ (¬ ((M b2 (Int.toNat (2 : Int))) ≤ l1) → isO K.1 l0 12 = true ∧ ∃ b8 : Nat, (M l0 16) = (b8 : Int) ∧ 0 < b8 ∧ isO K.1 l0 12 = true ∧ ∃ b12 : Nat, (M l0 15) = (b12 : Int) ∧ 0 < b12 ∧ isO K.1 b12 20 = true ∧ (0 ≤ l1 ∧ l1 < (ln b12 : Int)) ∧ isO K.1 b8 20 = true ∧ (0 ≤ l1 ∧ l1 < (ln b8 : Int)) ∧ Wp d 179 58 [vR l0, vI (w32 (l1 + 1))] [] (mset M b8 (Int.toNat l1) (M b12 (Int.toNat l1))) K Q)) : Wp d 179 58 [vR l0, vI l1] [] M K Q := by
  refine r_iload_n c179_58 rfl ?_
  refine r_aload_n c179_59 rfl ?_
  obtain ⟨s1, h⟩ := h
  obtain ⟨b2, h⟩ := h
  obtain ⟨s3, h⟩ := h
  obtain ⟨s4, h⟩ := h
  refine r_getR c179_60 s1 s3 s4 ?_
  refine r_iconst c179_63 ?_
  obtain ⟨s5, h⟩ := h
  obtain ⟨s6, h⟩ := h
  refine r_ia c179_64 s5 s6 ?_
  refine r_icmpP (P := (M b2 (Int.toNat (2 : Int))) ≤ l1) c179_65 rfl (fun hc => ?_) (fun hc => ?_)
  · replace h := h.1 hc
    refine r_iconst c179_86 ?_
    refine r_istore_n c179_87 (Nat.le_of_ble_eq_true rfl) ?_
    exact h
  · replace h := h.2 hc
    refine r_aload_n c179_68 rfl ?_
    obtain ⟨s7, h⟩ := h
    obtain ⟨b8, h⟩ := h
    obtain ⟨s9, h⟩ := h
    obtain ⟨s10, h⟩ := h
    refine r_getR c179_69 s7 s9 s10 ?_
    refine r_iload_n c179_72 rfl ?_
    refine r_aload_n c179_73 rfl ?_
    obtain ⟨s11, h⟩ := h
    obtain ⟨b12, h⟩ := h
    obtain ⟨s13, h⟩ := h
    obtain ⟨s14, h⟩ := h
    refine r_getR c179_74 s11 s13 s14 ?_
    refine r_iload_n c179_77 rfl ?_
    obtain ⟨s15, h⟩ := h
    obtain ⟨s16, h⟩ := h
    refine r_ia c179_78 s15 s16 ?_
    obtain ⟨s17, h⟩ := h
    obtain ⟨s18, h⟩ := h
    refine r_ias c179_79 s17 s18 ?_
    refine r_iinc c179_80 rfl ?_
    refine r_goto c179_83 ?_
    exact h
theorem t179_88 {d : Nat} {l0 : Nat} {l1 : Int} {M : Mem} {K : KK} {Q : RR → Mem → KK → Prop} (h : isO K.1 l0 12 = true ∧ ∃ b2 : Nat, (M l0 12) = (b2 : Int) ∧ 0 < b2 ∧ isO K.1 b2 20 = true ∧ (0 ≤ (3 : Int) ∧ (3 : Int) < (ln b2 : Int)) ∧ ((M b2 (Int.toNat (3 : Int))) ≤ l1 → isO K.1 l0 12 = true ∧ ∃ b8 : Nat, (M l0 19) = (b8 : Int) ∧ 0 < b8 ∧ isO K.1 l0 12 = true ∧ ∃ b12 : Nat, (M l0 20) = (b12 : Int) ∧ 0 < b12 ∧ isO K.1 l0 12 = true ∧ ∃ b16 : Nat, (M l0 12) = (b16 : Int) ∧ 0 < b16 ∧ isO K.1 b16 20 = true ∧ (0 ≤ (1 : Int) ∧ (1 : Int) < (ln b16 : Int)) ∧ Wm d 177 [vR b8, vR b12, vI (M b16 (Int.toNat (1 : Int)))] M K (Bk d 179 130 133 177 [vR l0, vI l1] [] Q)) ∧ (¬ ((M b2 (Int.toNat (3 : Int))) ≤ l1) → isO K.1 l0 12 = true ∧ ∃ b22 : Nat, (M l0 18) = (b22 : Int) ∧ 0 < b22 ∧ isO K.1 l0 12 = true ∧ ∃ b26 : Nat, (M l0 17) = (b26 : Int) ∧ 0 < b26 ∧ isO K.1 b26 20 = true ∧ (0 ≤ l1 ∧ l1 < (ln b26 : Int)) ∧ isO K.1 b22 20 = true ∧ (0 ≤ l1 ∧ l1 < (ln b22 : Int)) ∧ Wp (d + 1) 179 88 [vR l0, vI (w32 (l1 + 1))] [] (mset M b22 (Int.toNat l1) (M b26 (Int.toNat l1))) K Q)) : Wp (d + 1) 179 88 [vR l0, vI l1] [] M K Q := by
  refine r_iload_n c179_88 rfl ?_
  refine r_aload_n c179_89 rfl ?_
  obtain ⟨s1, h⟩ := h
  obtain ⟨b2, h⟩ := h
  obtain ⟨s3, h⟩ := h
  obtain ⟨s4, h⟩ := h
  refine r_getR c179_90 s1 s3 s4 ?_
  refine r_iconst c179_93 ?_
  obtain ⟨s5, h⟩ := h
  obtain ⟨s6, h⟩ := h
  refine r_ia c179_94 s5 s6 ?_
  refine r_icmpP (P := (M b2 (Int.toNat (3 : Int))) ≤ l1) c179_95 rfl (fun hc => ?_) (fun hc => ?_)
  · replace h := h.1 hc
    refine r_aload_n c179_116 rfl ?_
    obtain ⟨s7, h⟩ := h
    obtain ⟨b8, h⟩ := h
    obtain ⟨s9, h⟩ := h
    obtain ⟨s10, h⟩ := h
    refine r_getR c179_117 s7 s9 s10 ?_
    refine r_aload_n c179_120 rfl ?_
    obtain ⟨s11, h⟩ := h
    obtain ⟨b12, h⟩ := h
    obtain ⟨s13, h⟩ := h
    obtain ⟨s14, h⟩ := h
    refine r_getR c179_121 s11 s13 s14 ?_
    refine r_aload_n c179_124 rfl ?_
    obtain ⟨s15, h⟩ := h
    obtain ⟨b16, h⟩ := h
    obtain ⟨s17, h⟩ := h
    obtain ⟨s18, h⟩ := h
    refine r_getR c179_125 s15 s17 s18 ?_
    refine r_iconst c179_128 ?_
    obtain ⟨s19, h⟩ := h
    obtain ⟨s20, h⟩ := h
    refine r_ia c179_129 s19 s20 ?_
    exact r_call c179_130 rfl rfl (Nat.le_of_ble_eq_true rfl) (okc_s rfl rfl rfl) h
  · replace h := h.2 hc
    refine r_aload_n c179_98 rfl ?_
    obtain ⟨s21, h⟩ := h
    obtain ⟨b22, h⟩ := h
    obtain ⟨s23, h⟩ := h
    obtain ⟨s24, h⟩ := h
    refine r_getR c179_99 s21 s23 s24 ?_
    refine r_iload_n c179_102 rfl ?_
    refine r_aload_n c179_103 rfl ?_
    obtain ⟨s25, h⟩ := h
    obtain ⟨b26, h⟩ := h
    obtain ⟨s27, h⟩ := h
    obtain ⟨s28, h⟩ := h
    refine r_getR c179_104 s25 s27 s28 ?_
    refine r_iload_n c179_107 rfl ?_
    obtain ⟨s29, h⟩ := h
    obtain ⟨s30, h⟩ := h
    refine r_ia c179_108 s29 s30 ?_
    obtain ⟨s31, h⟩ := h
    obtain ⟨s32, h⟩ := h
    refine r_ias c179_109 s31 s32 ?_
    refine r_iinc c179_110 rfl ?_
    refine r_goto c179_113 ?_
    exact h
theorem t179_133 {d : Nat} {l0 : Nat} {l1 : Int} {M : Mem} {K : KK} {Q : RR → Mem → KK → Prop} (h : Wp d 179 135 [vR l0, vI (0 : Int)] [] M K Q) : Wp d 179 133 [vR l0, vI l1] [] M K Q := by
  refine r_iconst c179_133 ?_
  refine r_istore_n c179_134 (Nat.le_of_ble_eq_true rfl) ?_
  exact h
theorem t179_135 {d : Nat} {l0 : Nat} {l1 : Int} {M : Mem} {K : KK} {Q : RR → Mem → KK → Prop} (h : ((27 : Int) ≤ l1 → Wp d 179 156 [vR l0, vI (0 : Int)] [] M K Q) ∧ (¬ ((27 : Int) ≤ l1) → isO K.1 l0 12 = true ∧ ∃ b2 : Nat, (M l0 31) = (b2 : Int) ∧ 0 < b2 ∧ isO K.1 b2 20 = true ∧ (0 ≤ l1 ∧ l1 < (ln b2 : Int)) ∧ Wp d 179 135 [vR l0, vI (w32 (l1 + 1))] [] (mset M b2 (Int.toNat l1) (0 : Int)) K Q)) : Wp d 179 135 [vR l0, vI l1] [] M K Q := by
  refine r_iload_n c179_135 rfl ?_
  refine r_bipush c179_136 ?_
  refine r_icmpP (P := (27 : Int) ≤ l1) c179_138 rfl (fun hc => ?_) (fun hc => ?_)
  · replace h := h.1 hc
    refine r_iconst c179_154 ?_
    refine r_istore_n c179_155 (Nat.le_of_ble_eq_true rfl) ?_
    exact h
  · replace h := h.2 hc
    refine r_aload_n c179_141 rfl ?_
    obtain ⟨s1, h⟩ := h
    obtain ⟨b2, h⟩ := h
    obtain ⟨s3, h⟩ := h
    obtain ⟨s4, h⟩ := h
    refine r_getR c179_142 s1 s3 s4 ?_
    refine r_iload_n c179_145 rfl ?_
    refine r_iconst c179_146 ?_
    obtain ⟨s5, h⟩ := h
    obtain ⟨s6, h⟩ := h
    refine r_ias c179_147 s5 s6 ?_
    refine r_iinc c179_148 rfl ?_
    refine r_goto c179_151 ?_
    exact h
theorem t179_156 {d : Nat} {l0 : Nat} {l1 : Int} {M : Mem} {K : KK} {Q : RR → Mem → KK → Prop} (h : ((6 : Int) ≤ l1 → isO K.1 l0 12 = true ∧ ∃ b2 : Nat, (M l0 31) = (b2 : Int) ∧ 0 < b2 ∧ isO K.1 l0 12 = true ∧ ∃ b6 : Nat, (M l0 12) = (b6 : Int) ∧ 0 < b6 ∧ isO K.1 b6 20 = true ∧ (0 ≤ (4 : Int) ∧ (4 : Int) < (ln b6 : Int)) ∧ isO K.1 b2 20 = true ∧ (0 ≤ (25 : Int) ∧ (25 : Int) < (ln b2 : Int)) ∧ isO K.1 l0 12 = true ∧ ∃ b14 : Nat, ((mset M b2 (Int.toNat (25 : Int)) (M b6 (Int.toNat (4 : Int)))) l0 31) = (b14 : Int) ∧ 0 < b14 ∧ isO K.1 b14 20 = true ∧ (0 ≤ (26 : Int) ∧ (26 : Int) < (ln b14 : Int)) ∧ isO K.1 l0 12 = true ∧ isO K.1 l0 12 = true ∧ isO K.1 l0 12 = true ∧ isO K.1 l0 12 = true ∧ isO K.1 l0 12 = true ∧ Q (.inl none) (mset (mset (mset (mset (mset (mset (mset M b2 (Int.toNat (25 : Int)) (M b6 (Int.toNat (4 : Int)))) b14 (Int.toNat (26 : Int)) (-1 : Int)) l0 21 (0 : Int)) l0 35 (0 : Int)) l0 36 (0 : Int)) l0 37 (0 : Int)) l0 38 (0 : Int)) K) ∧ (¬ ((6 : Int) ≤ l1) → isO K.1 l0 12 = true ∧ ∃ b25 : Nat, (M l0 31) = (b25 : Int) ∧ 0 < b25 ∧ isO K.1 b25 20 = true ∧ (0 ≤ (w32 ((0 : Int) + l1)) ∧ (w32 ((0 : Int) + l1)) < (ln b25 : Int)) ∧ isO K.1 l0 12 = true ∧ ∃ b31 : Nat, ((mset M b25 (Int.toNat (w32 ((0 : Int) + l1))) (-1 : Int)) l0 31) = (b31 : Int) ∧ 0 < b31 ∧ isO K.1 l0 12 = true ∧ ∃ b35 : Nat, ((mset M b25 (Int.toNat (w32 ((0 : Int) + l1))) (-1 : Int)) l0 12) = (b35 : Int) ∧ 0 < b35 ∧ isO K.1 b35 20 = true ∧ (0 ≤ (1 : Int) ∧ (1 : Int) < (ln b35 : Int)) ∧ (((mset M b25 (Int.toNat (w32 ((0 : Int) + l1))) (-1 : Int)) b35 (Int.toNat (1 : Int))) ≤ l1 → Wp d 179 201 [vR l0, vI l1] [vI (0 : Int), vI (w32 ((6 : Int) + l1)), vR b31] (mset M b25 (Int.toNat (w32 ((0 : Int) + l1))) (-1 : Int)) K Q) ∧ (¬ (((mset M b25 (Int.toNat (w32 ((0 : Int) + l1))) (-1 : Int)) b35 (Int.toNat (1 : Int))) ≤ l1) → isO K.1 l0 12 = true ∧ ∃ b41 : Nat, ((mset M b25 (Int.toNat (w32 ((0 : Int) + l1))) (-1 : Int)) l0 20) = (b41 : Int) ∧ 0 < b41 ∧ (Nat.ble 30 (tg b41) = true ∧ isO K.1 b41 (tg b41) = true) ∧ (0 ≤ l1 ∧ l1 < (ln b41 : Int)) ∧ ∃ b46 : Nat, ((mset M b25 (Int.toNat (w32 ((0 : Int) + l1))) (-1 : Int)) b41 (Int.toNat l1)) = (b46 : Int) ∧ 0 < b46 ∧ isO K.1 b46 20 = true ∧ (0 ≤ (1 : Int) ∧ (1 : Int) < (ln b46 : Int)) ∧ Wp d 179 201 [vR l0, vI l1] [vI ((mset M b25 (Int.toNat (w32 ((0 : Int) + l1))) (-1 : Int)) b46 (Int.toNat (1 : Int))), vI (w32 ((6 : Int) + l1)), vR b31] (mset M b25 (Int.toNat (w32 ((0 : Int) + l1))) (-1 : Int)) K Q))) : Wp d 179 156 [vR l0, vI l1] [] M K Q := by
  refine r_iload_n c179_156 rfl ?_
  refine r_bipush c179_157 ?_
  refine r_icmpP (P := (6 : Int) ≤ l1) c179_159 rfl (fun hc => ?_) (fun hc => ?_)
  · replace h := h.1 hc
    refine r_aload_n c179_208 rfl ?_
    obtain ⟨s1, h⟩ := h
    obtain ⟨b2, h⟩ := h
    obtain ⟨s3, h⟩ := h
    obtain ⟨s4, h⟩ := h
    refine r_getR c179_209 s1 s3 s4 ?_
    refine r_bipush c179_212 ?_
    refine r_aload_n c179_214 rfl ?_
    obtain ⟨s5, h⟩ := h
    obtain ⟨b6, h⟩ := h
    obtain ⟨s7, h⟩ := h
    obtain ⟨s8, h⟩ := h
    refine r_getR c179_215 s5 s7 s8 ?_
    refine r_iconst c179_218 ?_
    obtain ⟨s9, h⟩ := h
    obtain ⟨s10, h⟩ := h
    refine r_ia c179_219 s9 s10 ?_
    obtain ⟨s11, h⟩ := h
    obtain ⟨s12, h⟩ := h
    refine r_ias c179_220 s11 s12 ?_
    refine r_aload_n c179_221 rfl ?_
    obtain ⟨s13, h⟩ := h
    obtain ⟨b14, h⟩ := h
    obtain ⟨s15, h⟩ := h
    obtain ⟨s16, h⟩ := h
    refine r_getR c179_222 s13 s15 s16 ?_
    refine r_bipush c179_225 ?_
    refine r_iconst c179_227 ?_
    obtain ⟨s17, h⟩ := h
    obtain ⟨s18, h⟩ := h
    refine r_ias c179_228 s17 s18 ?_
    refine r_aload_n c179_229 rfl ?_
    refine r_iconst c179_230 ?_
    obtain ⟨s19, h⟩ := h
    refine r_putI c179_231 s19 ?_
    refine r_aload_n c179_234 rfl ?_
    refine r_iconst c179_235 ?_
    obtain ⟨s20, h⟩ := h
    refine r_putI c179_236 s20 ?_
    refine r_aload_n c179_239 rfl ?_
    refine r_iconst c179_240 ?_
    obtain ⟨s21, h⟩ := h
    refine r_putI c179_241 s21 ?_
    refine r_aload_n c179_244 rfl ?_
    refine r_iconst c179_245 ?_
    obtain ⟨s22, h⟩ := h
    refine r_putI c179_246 s22 ?_
    refine r_aload_n c179_249 rfl ?_
    refine r_iconst c179_250 ?_
    obtain ⟨s23, h⟩ := h
    refine r_putI c179_251 s23 ?_
    exact r_ret c179_254 h
  · replace h := h.2 hc
    refine r_aload_n c179_162 rfl ?_
    obtain ⟨s24, h⟩ := h
    obtain ⟨b25, h⟩ := h
    obtain ⟨s26, h⟩ := h
    obtain ⟨s27, h⟩ := h
    refine r_getR c179_163 s24 s26 s27 ?_
    refine r_iconst c179_166 ?_
    refine r_iload_n c179_167 rfl ?_
    refine r_iadd c179_168 ?_
    refine r_iconst c179_169 ?_
    obtain ⟨s28, h⟩ := h
    obtain ⟨s29, h⟩ := h
    refine r_ias c179_170 s28 s29 ?_
    refine r_aload_n c179_171 rfl ?_
    obtain ⟨s30, h⟩ := h
    obtain ⟨b31, h⟩ := h
    obtain ⟨s32, h⟩ := h
    obtain ⟨s33, h⟩ := h
    refine r_getR c179_172 s30 s32 s33 ?_
    refine r_bipush c179_175 ?_
    refine r_iload_n c179_177 rfl ?_
    refine r_iadd c179_178 ?_
    refine r_iload_n c179_179 rfl ?_
    refine r_aload_n c179_180 rfl ?_
    obtain ⟨s34, h⟩ := h
    obtain ⟨b35, h⟩ := h
    obtain ⟨s36, h⟩ := h
    obtain ⟨s37, h⟩ := h
    refine r_getR c179_181 s34 s36 s37 ?_
    refine r_iconst c179_184 ?_
    obtain ⟨s38, h⟩ := h
    obtain ⟨s39, h⟩ := h
    refine r_ia c179_185 s38 s39 ?_
    refine r_icmpP (P := ((mset M b25 (Int.toNat (w32 ((0 : Int) + l1))) (-1 : Int)) b35 (Int.toNat (1 : Int))) ≤ l1) c179_186 rfl (fun hc => ?_) (fun hc => ?_)
    · replace h := h.1 hc
      refine r_iconst c179_200 ?_
      exact h
    · replace h := h.2 hc
      refine r_aload_n c179_189 rfl ?_
      obtain ⟨s40, h⟩ := h
      obtain ⟨b41, h⟩ := h
      obtain ⟨s42, h⟩ := h
      obtain ⟨s43, h⟩ := h
      refine r_getR c179_190 s40 s42 s43 ?_
      refine r_iload_n c179_193 rfl ?_
      obtain ⟨s44, h⟩ := h
      obtain ⟨s45, h⟩ := h
      obtain ⟨b46, h⟩ := h
      obtain ⟨s47, h⟩ := h
      obtain ⟨s48, h⟩ := h
      refine r_aa c179_194 s44 s45 s47 s48 ?_
      refine r_iconst c179_195 ?_
      obtain ⟨s49, h⟩ := h
      obtain ⟨s50, h⟩ := h
      refine r_ia c179_196 s49 s50 ?_
      refine r_goto c179_197 ?_
      exact h
theorem t179_201 {d : Nat} {l0 : Nat} {l1 : Int} {t0 : Nat} {t1 : Int} {t2 : Int} {M : Mem} {K : KK} {Q : RR → Mem → KK → Prop} (h : isO K.1 t0 20 = true ∧ (0 ≤ t1 ∧ t1 < (ln t0 : Int)) ∧ Wp d 179 156 [vR l0, vI (w32 (l1 + 1))] [] (mset M t0 (Int.toNat t1) t2) K Q) : Wp d 179 201 [vR l0, vI l1] [vI t2, vI t1, vR t0] M K Q := by
  obtain ⟨s1, h⟩ := h
  obtain ⟨s2, h⟩ := h
  refine r_ias c179_201 s1 s2 ?_
  refine r_iinc c179_202 rfl ?_
  refine r_goto c179_205 ?_
  exact h
theorem t180_0 {d : Nat} {l0 : Nat} {l1 : Int} {l2 : Int} {M : Mem} {K : KK} {Q : RR → Mem → KK → Prop} (h : isO K.1 l0 12 = true ∧ ((M l0 5) = (0 : Int) → isO K.1 l0 12 = true ∧ ∃ b3 : Nat, (M l0 24) = (b3 : Int) ∧ 0 < b3 ∧ isO K.1 l0 12 = true ∧ (Nat.ble 30 (tg b3) = true ∧ isO K.1 b3 (tg b3) = true) ∧ (0 ≤ (M l0 22) ∧ (M l0 22) < (ln b3 : Int)) ∧ ∃ b9 : Nat, (M b3 (Int.toNat (M l0 22))) = (b9 : Int) ∧ 0 < b9 ∧ isO K.1 b9 20 = true ∧ (0 ≤ (0 : Int) ∧ (0 : Int) < (ln b9 : Int)) ∧ isO K.1 l0 12 = true ∧ ∃ b15 : Nat, ((mset M b9 (Int.toNat (0 : Int)) l1) l0 24) = (b15 : Int) ∧ 0 < b15 ∧ isO K.1 l0 12 = true ∧ (Nat.ble 30 (tg b15) = true ∧ isO K.1 b15 (tg b15) = true) ∧ (0 ≤ ((mset M b9 (Int.toNat (0 : Int)) l1) l0 22) ∧ ((mset M b9 (Int.toNat (0 : Int)) l1) l0 22) < (ln b15 : Int)) ∧ ∃ b21 : Nat, ((mset M b9 (Int.toNat (0 : Int)) l1) b15 (Int.toNat ((mset M b9 (Int.toNat (0 : Int)) l1) l0 22))) = (b21 : Int) ∧ 0 < b21 ∧ isO K.1 b21 20 = true ∧ (0 ≤ (1 : Int) ∧ (1 : Int) < (ln b21 : Int)) ∧ isO K.1 l0 12 = true ∧ isO K.1 l0 12 = true ∧ Q (.inl none) (mset (mset (mset M b9 (Int.toNat (0 : Int)) l1) b21 (Int.toNat (1 : Int)) l2) l0 22 (w32 (((mset (mset M b9 (Int.toNat (0 : Int)) l1) b21 (Int.toNat (1 : Int)) l2) l0 22) + (1 : Int)))) K) ∧ (¬ ((M l0 5) = (0 : Int)) → Q (.inl none) M K)) : Wp d 180 0 [vR l0, vI l1, vI l2] [] M K Q := by
  refine r_aload_n c180_0 rfl ?_
  obtain ⟨s1, h⟩ := h
  refine r_getI c180_1 s1 ?_
  refine r_ifP (P := (M l0 5) = (0 : Int)) c180_4 rfl (fun hc => ?_) (fun hc => ?_)
  · replace h := h.1 hc
    refine r_aload_n c180_8 rfl ?_
    obtain ⟨s2, h⟩ := h
    obtain ⟨b3, h⟩ := h
    obtain ⟨s4, h⟩ := h
    obtain ⟨s5, h⟩ := h
    refine r_getR c180_9 s2 s4 s5 ?_
    refine r_aload_n c180_12 rfl ?_
    obtain ⟨s6, h⟩ := h
    refine r_getI c180_13 s6 ?_
    obtain ⟨s7, h⟩ := h
    obtain ⟨s8, h⟩ := h
    obtain ⟨b9, h⟩ := h
    obtain ⟨s10, h⟩ := h
    obtain ⟨s11, h⟩ := h
    refine r_aa c180_16 s7 s8 s10 s11 ?_
    refine r_iconst c180_17 ?_
    refine r_iload_n c180_18 rfl ?_
    obtain ⟨s12, h⟩ := h
    obtain ⟨s13, h⟩ := h
    refine r_ias c180_19 s12 s13 ?_
    refine r_aload_n c180_20 rfl ?_
    obtain ⟨s14, h⟩ := h
    obtain ⟨b15, h⟩ := h
    obtain ⟨s16, h⟩ := h
    obtain ⟨s17, h⟩ := h
    refine r_getR c180_21 s14 s16 s17 ?_
    refine r_aload_n c180_24 rfl ?_
    obtain ⟨s18, h⟩ := h
    refine r_getI c180_25 s18 ?_
    obtain ⟨s19, h⟩ := h
    obtain ⟨s20, h⟩ := h
    obtain ⟨b21, h⟩ := h
    obtain ⟨s22, h⟩ := h
    obtain ⟨s23, h⟩ := h
    refine r_aa c180_28 s19 s20 s22 s23 ?_
    refine r_iconst c180_29 ?_
    refine r_iload_n c180_30 rfl ?_
    obtain ⟨s24, h⟩ := h
    obtain ⟨s25, h⟩ := h
    refine r_ias c180_31 s24 s25 ?_
    refine r_aload_n c180_32 rfl ?_
    refine r_dupr c180_33 ?_
    obtain ⟨s26, h⟩ := h
    refine r_getI c180_34 s26 ?_
    refine r_iconst c180_37 ?_
    refine r_iadd c180_38 ?_
    obtain ⟨s27, h⟩ := h
    refine r_putI c180_39 s27 ?_
    exact r_ret c180_42 h
  · replace h := h.2 hc
    exact r_ret c180_7 h
theorem t181_0 {d : Nat} {l0 : Nat} {M : Mem} {K : KK} {Q : RR → Mem → KK → Prop} (h : isO K.1 l0 12 = true ∧ (¬ (M l0 5) = (0 : Int) → Wp (d + 1) 181 28 [vR l0] [] M K Q) ∧ (¬ (¬ (M l0 5) = (0 : Int)) → isO K.1 l0 12 = true ∧ (¬ (M l0 8) = (6 : Int) → Wp (d + 1) 181 28 [vR l0] [] M K Q) ∧ (¬ (¬ (M l0 8) = (6 : Int)) → isO K.1 l0 12 = true ∧ isO K.1 l0 12 = true ∧ Wm d 160 [vR l0, vI (3 : Int), vI (M l0 4)] M K (Bk d 181 22 25 160 [vR l0] [] Q)))) : Wp (d + 1) 181 0 [vR l0] [] M K Q := by
  refine r_aload_n c181_0 rfl ?_
  obtain ⟨s1, h⟩ := h
  refine r_getI c181_1 s1 ?_
  refine r_ifP (P := ¬ (M l0 5) = (0 : Int)) c181_4 rfl (fun hc => ?_) (fun hc => ?_)
  · replace h := h.1 hc
    exact h
  · replace h := h.2 hc
    refine r_aload_n c181_7 rfl ?_
    obtain ⟨s2, h⟩ := h
    refine r_getI c181_8 s2 ?_
    refine r_bipush c181_11 ?_
    refine r_icmpP (P := ¬ (M l0 8) = (6 : Int)) c181_13 rfl (fun hc => ?_) (fun hc => ?_)
    · replace h := h.1 hc
      exact h
    · replace h := h.2 hc
      refine r_aload_n c181_16 rfl ?_
      refine r_iconst c181_17 ?_
      refine r_aload_n c181_18 rfl ?_
      obtain ⟨s3, h⟩ := h
      refine r_getI c181_19 s3 ?_
      obtain ⟨s4, h⟩ := h
      exact r_call c181_22 rfl rfl (Nat.le_of_ble_eq_true rfl) (okc_r rfl rfl s4) h
theorem t181_25 {d : Nat} {l0 : Nat} {M : Mem} {K : KK} {Q : RR → Mem → KK → Prop} (h : Wp d 181 45 [vR l0] [] M K Q) : Wp d 181 25 [vR l0] [] M K Q := by
  refine r_goto c181_25 ?_
  exact h
theorem t181_28 {d : Nat} {l0 : Nat} {M : Mem} {K : KK} {Q : RR → Mem → KK → Prop} (h : isO K.1 l0 12 = true ∧ (¬ (M l0 5) = (0 : Int) → Wp d 181 45 [vR l0] [] M K Q) ∧ (¬ (¬ (M l0 5) = (0 : Int)) → isO K.1 l0 12 = true ∧ isO K.1 l0 12 = true ∧ Wp d 181 45 [vR l0] [] (mset M l0 8 (w32 ((M l0 8) + (1 : Int)))) K Q)) : Wp d 181 28 [vR l0] [] M K Q := by
  refine r_aload_n c181_28 rfl ?_
  obtain ⟨s1, h⟩ := h
  refine r_getI c181_29 s1 ?_
  refine r_ifP (P := ¬ (M l0 5) = (0 : Int)) c181_32 rfl (fun hc => ?_) (fun hc => ?_)
  · replace h := h.1 hc
    exact h
  · replace h := h.2 hc
    refine r_aload_n c181_35 rfl ?_
    refine r_dupr c181_36 ?_
    obtain ⟨s2, h⟩ := h
    refine r_getI c181_37 s2 ?_
    refine r_iconst c181_40 ?_
    refine r_iadd c181_41 ?_
    obtain ⟨s3, h⟩ := h
    refine r_putI c181_42 s3 ?_
    exact h
theorem t181_45 {d : Nat} {l0 : Nat} {M : Mem} {K : KK} {Q : RR → Mem → KK → Prop} (h : isO K.1 l0 12 = true ∧ (¬ (M l0 5) = (0 : Int) → Wp d 181 57 [vR l0] [vI (0 : Int)] M K Q) ∧ (¬ (¬ (M l0 5) = (0 : Int)) → Wp d 181 57 [vR l0] [vI (1 : Int)] M K Q)) : Wp d 181 45 [vR l0] [] M K Q := by
  refine r_aload_n c181_45 rfl ?_
  obtain ⟨s1, h⟩ := h
  refine r_getI c181_46 s1 ?_
  refine r_ifP (P := ¬ (M l0 5) = (0 : Int)) c181_49 rfl (fun hc => ?_) (fun hc => ?_)
  · replace h := h.1 hc
    refine r_iconst c181_56 ?_
    exact h
  · replace h := h.2 hc
    refine r_iconst c181_52 ?_
    refine r_goto c181_53 ?_
    exact h
theorem t181_57 {d : Nat} {l0 : Nat} {t0 : Int} {M : Mem} {K : KK} {Q : RR → Mem → KK → Prop} (h : (t0 = 0 ∨ t0 = 1) ∧ Q (.inl (some (vI t0))) M K) : Wp d 181 57 [vR l0] [vI t0] M K Q := by
  obtain ⟨s1, h⟩ := h
  exact r_iret c181_57 (Or.inr s1) h
theorem t182_0 {d : Nat} {l0 : Nat} {M : Mem} {K : KK} {Q : RR → Mem → KK → Prop} (h : isO K.1 l0 12 = true ∧ Wm d 183 [vR l0] M K (Bk d 182 1 4 183 [vR l0, vU] [] Q)) : Wp (d + 1) 182 0 [vR l0, vU] [] M K Q := by
  refine r_aload_n c182_0 rfl ?_
  obtain ⟨s1, h⟩ := h
  exact r_call c182_1 rfl rfl (Nat.le_of_ble_eq_true rfl) (okc_r rfl rfl s1) h
theorem t182_4 {d : Nat} {l0 : Nat} {l1 : PV} {M : Mem} {K : KK} {Q : RR → Mem → KK → Prop} (h : isO K.1 l0 12 = true ∧ (¬ (M l0 5) = (0 : Int) → Q (.inl none) M K) ∧ (¬ (¬ (M l0 5) = (0 : Int)) → isO K.1 l0 12 = true ∧ Wm d 170 [vR l0, vI (43 : Int)] M K (Bk d 182 14 17 170 [vR l0, l1] [] Q))) : Wp (d + 1) 182 4 [vR l0, l1] [] M K Q := by
  refine r_aload_n c182_4 rfl ?_
  obtain ⟨s1, h⟩ := h
  refine r_getI c182_5 s1 ?_
  refine r_ifP (P := ¬ (M l0 5) = (0 : Int)) c182_8 rfl (fun hc => ?_) (fun hc => ?_)
  · replace h := h.1 hc
    exact r_ret c182_58 h
  · replace h := h.2 hc
    refine r_aload_n c182_11 rfl ?_
    refine r_bipush c182_12 ?_
    obtain ⟨s2, h⟩ := h
    exact r_call c182_14 rfl rfl (Nat.le_of_ble_eq_true rfl) (okc_r rfl rfl s2) h
theorem t182_17 {d : Nat} {l0 : Nat} {l1 : PV} {t0 : Int} {M : Mem} {K : KK} {Q : RR → Mem → KK → Prop} (h : (t0 = (0 : Int) → isO K.1 l0 12 = true ∧ Wm d 170 [vR l0, vI (45 : Int)] M K (Bk d 182 27 30 170 [vR l0, l1] [] Q)) ∧ (¬ (t0 = (0 : Int)) → Wp (d + 1) 182 38 [vR l0, l1] [vI (2 : Int)] M K Q)) : Wp (d + 1) 182 17 [vR l0, l1] [vI t0] M K Q := by
  refine r_ifP (P := t0 = (0 : Int)) c182_17 rfl (fun hc => ?_) (fun hc => ?_)
  · replace h := h.1 hc
    refine r_aload_n c182_24 rfl ?_
    refine r_bipush c182_25 ?_
    obtain ⟨s1, h⟩ := h
    exact r_call c182_27 rfl rfl (Nat.le_of_ble_eq_true rfl) (okc_r rfl rfl s1) h
  · replace h := h.2 hc
    refine r_iconst c182_20 ?_
    refine r_goto c182_21 ?_
    exact h
theorem t182_30 {d : Nat} {l0 : Nat} {l1 : PV} {t0 : Int} {M : Mem} {K : KK} {Q : RR → Mem → KK → Prop} (h : (t0 = (0 : Int) → Wp d 182 38 [vR l0, l1] [vI (-1 : Int)] M K Q) ∧ (¬ (t0 = (0 : Int)) → Wp d 182 38 [vR l0, l1] [vI (3 : Int)] M K Q)) : Wp d 182 30 [vR l0, l1] [vI t0] M K Q := by
  refine r_ifP (P := t0 = (0 : Int)) c182_30 rfl (fun hc => ?_) (fun hc => ?_)
  · replace h := h.1 hc
    refine r_iconst c182_37 ?_
    exact h
  · replace h := h.2 hc
    refine r_iconst c182_33 ?_
    refine r_goto c182_34 ?_
    exact h
theorem t182_38 {d : Nat} {l0 : Nat} {l1 : PV} {t0 : Int} {M : Mem} {K : KK} {Q : RR → Mem → KK → Prop} (h : (¬ t0 = (-1 : Int) → isO K.1 l0 12 = true ∧ Wm d 183 [vR l0] M K (Bk d 182 46 49 183 [vR l0, vI t0] [] Q)) ∧ (¬ (¬ t0 = (-1 : Int)) → Q (.inl none) M K)) : Wp (d + 1) 182 38 [vR l0, l1] [vI t0] M K Q := by
  refine r_istore_n c182_38 (Nat.le_of_ble_eq_true rfl) ?_
  refine r_iload_n c182_39 rfl ?_
  refine r_iconst c182_40 ?_
  refine r_icmpP (P := ¬ t0 = (-1 : Int)) c182_41 rfl (fun hc => ?_) (fun hc => ?_)
  · replace h := h.1 hc
    refine r_aload_n c182_45 rfl ?_
    obtain ⟨s1, h⟩ := h
    exact r_call c182_46 rfl rfl (Nat.le_of_ble_eq_true rfl) (okc_r rfl rfl s1) h
  · replace h := h.2 hc
    exact r_ret c182_44 h
theorem t182_49 {d : Nat} {l0 : Nat} {l1 : Int} {M : Mem} {K : KK} {Q : RR → Mem → KK → Prop} (h : isO K.1 l0 12 = true ∧ Wm d 180 [vR l0, vI l1, vI (0 : Int)] M K (Bk d 182 52 55 180 [vR l0, vI l1] [] Q)) : Wp (d + 1) 182 49 [vR l0, vI l1] [] M K Q := by
  refine r_aload_n c182_49 rfl ?_
  refine r_iload_n c182_50 rfl ?_
  refine r_iconst c182_51 ?_
  obtain ⟨s1, h⟩ := h
  exact r_call c182_52 rfl rfl (Nat.le_of_ble_eq_true rfl) (okc_r rfl rfl s1) h
theorem t182_55 {d : Nat} {l0 : Nat} {l1 : Int} {M : Mem} {K : KK} {Q : RR → Mem → KK → Prop} (h : Wp d 182 4 [vR l0, vI l1] [] M K Q) : Wp d 182 55 [vR l0, vI l1] [] M K Q := by
  refine r_goto c182_55 ?_
  exact h
theorem t183_0 {d : Nat} {l0 : Nat} {M : Mem} {K : KK} {Q : RR → Mem → KK → Prop} (h : isO K.1 l0 12 = true ∧ Wm d 185 [vR l0] M K (Bk d 183 1 4 185 [vR l0, vU] [] Q)) : Wp (d + 1) 183 0 [vR l0, vU] [] M K Q := by
  refine r_aload_n c183_0 rfl ?_
  obtain ⟨s1, h⟩ := h
  exact r_call c183_1 rfl rfl (Nat.le_of_ble_eq_true rfl) (okc_r rfl rfl s1) h
theorem t183_4 {d : Nat} {l0 : Nat} {l1 : PV} {M : Mem} {K : KK} {Q : RR → Mem → KK → Prop} (h : isO K.1 l0 12 = true ∧ (¬ (M l0 5) = (0 : Int) → Q (.inl none) M K) ∧ (¬ (¬ (M l0 5) = (0 : Int)) → isO K.1 l0 12 = true ∧ Wm d 170 [vR l0, vI (42 : Int)] M K (Bk d 183 14 17 170 [vR l0, l1] [] Q))) : Wp (d + 1) 183 4 [vR l0, l1] [] M K Q := by
  refine r_aload_n c183_4 rfl ?_
  obtain ⟨s1, h⟩ := h
  refine r_getI c183_5 s1 ?_
  refine r_ifP (P := ¬ (M l0 5) = (0 : Int)) c183_8 rfl (fun hc => ?_) (fun hc => ?_)
  · replace h := h.1 hc
    exact r_ret c183_72 h
  · replace h := h.2 hc
    refine r_aload_n c183_11 rfl ?_
    refine r_bipush c183_12 ?_
    obtain ⟨s2, h⟩ := h
    exact r_call c183_14 rfl rfl (Nat.le_of_ble_eq_true rfl) (okc_r rfl rfl s2) h
theorem t183_17 {d : Nat} {l0 : Nat} {l1 : PV} {t0 : Int} {M : Mem} {K : KK} {Q : RR → Mem → KK → Prop} (h : (t0 = (0 : Int) → isO K.1 l0 12 = true ∧ Wm d 170 [vR l0, vI (47 : Int)] M K (Bk d 183 27 30 170 [vR l0, l1] [] Q)) ∧ (¬ (t0 = (0 : Int)) → Wp (d + 1) 183 52 [vR l0, l1] [vI (4 : Int)] M K Q)) : Wp (d + 1) 183 17 [vR l0, l1] [vI t0] M K Q := by
  refine r_ifP (P := t0 = (0 : Int)) c183_17 rfl (fun hc => ?_) (fun hc => ?_)
  · replace h := h.1 hc
    refine r_aload_n c183_24 rfl ?_
    refine r_bipush c183_25 ?_
    obtain ⟨s1, h⟩ := h
    exact r_call c183_27 rfl rfl (Nat.le_of_ble_eq_true rfl) (okc_r rfl rfl s1) h
  · replace h := h.2 hc
    refine r_iconst c183_20 ?_
    refine r_goto c183_21 ?_
    exact h
theorem t183_30 {d : Nat} {l0 : Nat} {l1 : PV} {t0 : Int} {M : Mem} {K : KK} {Q : RR → Mem → KK → Prop} (h : (t0 = (0 : Int) → isO K.1 l0 12 = true ∧ Wm d 170 [vR l0, vI (37 : Int)] M K (Bk d 183 40 43 170 [vR l0, l1] [] Q)) ∧ (¬ (t0 = (0 : Int)) → Wp (d + 1) 183 52 [vR l0, l1] [vI (5 : Int)] M K Q)) : Wp (d + 1) 183 30 [vR l0, l1] [vI t0] M K Q := by
  refine r_ifP (P := t0 = (0 : Int)) c183_30 rfl (fun hc => ?_) (fun hc => ?_)
  · replace h := h.1 hc
    refine r_aload_n c183_37 rfl ?_
    refine r_bipush c183_38 ?_
    obtain ⟨s1, h⟩ := h
    exact r_call c183_40 rfl rfl (Nat.le_of_ble_eq_true rfl) (okc_r rfl rfl s1) h
  · replace h := h.2 hc
    refine r_iconst c183_33 ?_
    refine r_goto c183_34 ?_
    exact h
theorem t183_43 {d : Nat} {l0 : Nat} {l1 : PV} {t0 : Int} {M : Mem} {K : KK} {Q : RR → Mem → KK → Prop} (h : (t0 = (0 : Int) → Wp d 183 52 [vR l0, l1] [vI (-1 : Int)] M K Q) ∧ (¬ (t0 = (0 : Int)) → Wp d 183 52 [vR l0, l1] [vI (6 : Int)] M K Q)) : Wp d 183 43 [vR l0, l1] [vI t0] M K Q := by
  refine r_ifP (P := t0 = (0 : Int)) c183_43 rfl (fun hc => ?_) (fun hc => ?_)
  · replace h := h.1 hc
    refine r_iconst c183_51 ?_
    exact h
  · replace h := h.2 hc
    refine r_bipush c183_46 ?_
    refine r_goto c183_48 ?_
    exact h
theorem t183_52 {d : Nat} {l0 : Nat} {l1 : PV} {t0 : Int} {M : Mem} {K : KK} {Q : RR → Mem → KK → Prop} (h : (¬ t0 = (-1 : Int) → isO K.1 l0 12 = true ∧ Wm d 185 [vR l0] M K (Bk d 183 60 63 185 [vR l0, vI t0] [] Q)) ∧ (¬ (¬ t0 = (-1 : Int)) → Q (.inl none) M K)) : Wp (d + 1) 183 52 [vR l0, l1] [vI t0] M K Q := by
  refine r_istore_n c183_52 (Nat.le_of_ble_eq_true rfl) ?_
  refine r_iload_n c183_53 rfl ?_
  refine r_iconst c183_54 ?_
  refine r_icmpP (P := ¬ t0 = (-1 : Int)) c183_55 rfl (fun hc => ?_) (fun hc => ?_)
  · replace h := h.1 hc
    refine r_aload_n c183_59 rfl ?_
    obtain ⟨s1, h⟩ := h
    exact r_call c183_60 rfl rfl (Nat.le_of_ble_eq_true rfl) (okc_r rfl rfl s1) h
  · replace h := h.2 hc
    exact r_ret c183_58 h
theorem t183_63 {d : Nat} {l0 : Nat} {l1 : Int} {M : Mem} {K : KK} {Q : RR → Mem → KK → Prop} (h : isO K.1 l0 12 = true ∧ Wm d 180 [vR l0, vI l1, vI (0 : Int)] M K (Bk d 183 66 69 180 [vR l0, vI l1] [] Q)) : Wp (d + 1) 183 63 [vR l0, vI l1] [] M K Q := by
  refine r_aload_n c183_63 rfl ?_
  refine r_iload_n c183_64 rfl ?_
  refine r_iconst c183_65 ?_
  obtain ⟨s1, h⟩ := h
  exact r_call c183_66 rfl rfl (Nat.le_of_ble_eq_true rfl) (okc_r rfl rfl s1) h
theorem t183_69 {d : Nat} {l0 : Nat} {l1 : Int} {M : Mem} {K : KK} {Q : RR → Mem → KK → Prop} (h : Wp d 183 4 [vR l0, vI l1] [] M K Q) : Wp d 183 69 [vR l0, vI l1] [] M K Q := by
  refine r_goto c183_69 ?_
  exact h
theorem t184_0 {d : Nat} {l0 : Nat} {M : Mem} {K : KK} {Q : RR → Mem → KK → Prop} (h : isO K.1 l0 12 = true ∧ Wm d 168 [vR l0, vI (19 : Int), vI (21 : Int), vI (14 : Int), vI (0 : Int), vI (0 : Int), vI (0 : Int)] M K (Bk d 184 10 13 168 [vR l0] [] Q)) : Wp (d + 1) 184 0 [vR l0] [] M K Q := by
  refine r_aload_n c184_0 rfl ?_
  refine r_bipush c184_1 ?_
  refine r_bipush c184_3 ?_
  refine r_bipush c184_5 ?_
  refine r_iconst c184_7 ?_
  refine r_iconst c184_8 ?_
  refine r_iconst c184_9 ?_
  obtain ⟨s1, h⟩ := h
  exact r_call c184_10 rfl rfl (Nat.le_of_ble_eq_true rfl) (okc_r rfl rfl s1) h
theorem t184_13 {d : Nat} {l0 : Nat} {t0 : Int} {M : Mem} {K : KK} {Q : RR → Mem → KK → Prop} (h : (t0 = (0 : Int) → isO K.1 l0 12 = true ∧ Wm d 168 [vR l0, vI (25 : Int), vI (1 : Int), vI (18 : Int), vI (4 : Int), vI (19 : Int), vI (0 : Int)] M K (Bk d 184 28 31 168 [vR l0] [] Q)) ∧ (¬ (t0 = (0 : Int)) → Q (.inl (some (vI (0 : Int)))) M K)) : Wp (d + 1) 184 13 [vR l0] [vI t0] M K Q := by
  refine r_ifP (P := t0 = (0 : Int)) c184_13 rfl (fun hc => ?_) (fun hc => ?_)
  · replace h := h.1 hc
    refine r_aload_n c184_18 rfl ?_
    refine r_bipush c184_19 ?_
    refine r_iconst c184_21 ?_
    refine r_bipush c184_22 ?_
    refine r_iconst c184_24 ?_
    refine r_bipush c184_25 ?_
    refine r_iconst c184_27 ?_
    obtain ⟨s1, h⟩ := h
    exact r_call c184_28 rfl rfl (Nat.le_of_ble_eq_true rfl) (okc_r rfl rfl s1) h
  · replace h := h.2 hc
    refine r_iconst c184_16 ?_
    exact r_iret c184_17 (Or.inl rfl) h
theorem t184_31 {d : Nat} {l0 : Nat} {t0 : Int} {M : Mem} {K : KK} {Q : RR → Mem → KK → Prop} (h : (t0 = (0 : Int) → isO K.1 l0 12 = true ∧ Wm d 168 [vR l0, vI (7 : Int), vI (18 : Int), vI (5 : Int), vI (25 : Int), vI (0 : Int), vI (0 : Int)] M K (Bk d 184 46 49 168 [vR l0] [] Q)) ∧ (¬ (t0 = (0 : Int)) → Q (.inl (some (vI (1 : Int)))) M K)) : Wp (d + 1) 184 31 [vR l0] [vI t0] M K Q := by
  refine r_ifP (P := t0 = (0 : Int)) c184_31 rfl (fun hc => ?_) (fun hc => ?_)
  · replace h := h.1 hc
    refine r_aload_n c184_36 rfl ?_
    refine r_bipush c184_37 ?_
    refine r_bipush c184_39 ?_
    refine r_iconst c184_41 ?_
    refine r_bipush c184_42 ?_
    refine r_iconst c184_44 ?_
    refine r_iconst c184_45 ?_
    obtain ⟨s1, h⟩ := h
    exact r_call c184_46 rfl rfl (Nat.le_of_ble_eq_true rfl) (okc_r rfl rfl s1) h
  · replace h := h.2 hc
    refine r_iconst c184_34 ?_
    exact r_iret c184_35 (Or.inl rfl) h
theorem t184_49 {d : Nat} {l0 : Nat} {t0 : Int} {M : Mem} {K : KK} {Q : RR → Mem → KK → Prop} (h : (t0 = (0 : Int) → isO K.1 l0 12 = true ∧ Wm d 168 [vR l0, vI (18 : Int), vI (1 : Int), vI (9 : Int), vI (14 : Int), vI (0 : Int), vI (0 : Int)] M K (Bk d 184 64 67 168 [vR l0] [] Q)) ∧ (¬ (t0 = (0 : Int)) → Q (.inl (some (vI (2 : Int)))) M K)) : Wp (d + 1) 184 49 [vR l0] [vI t0] M K Q := by
  refine r_ifP (P := t0 = (0 : Int)) c184_49 rfl (fun hc => ?_) (fun hc => ?_)
  · replace h := h.1 hc
    refine r_aload_n c184_54 rfl ?_
    refine r_bipush c184_55 ?_
    refine r_iconst c184_57 ?_
    refine r_bipush c184_58 ?_
    refine r_bipush c184_60 ?_
    refine r_iconst c184_62 ?_
    refine r_iconst c184_63 ?_
    obtain ⟨s1, h⟩ := h
    exact r_call c184_64 rfl rfl (Nat.le_of_ble_eq_true rfl) (okc_r rfl rfl s1) h
  · replace h := h.2 hc
    refine r_iconst c184_52 ?_
    exact r_iret c184_53 (Or.inl rfl) h
theorem t184_67 {d : Nat} {l0 : Nat} {t0 : Int} {M : Mem} {K : KK} {Q : RR → Mem → KK → Prop} (h : (t0 = (0 : Int) → isO K.1 l0 12 = true ∧ Wm d 168 [vR l0, vI (23 : Int), vI (5 : Int), vI (20 : Int), vI (0 : Int), vI (0 : Int), vI (0 : Int)] M K (Bk d 184 81 84 168 [vR l0] [] Q)) ∧ (¬ (t0 = (0 : Int)) → Q (.inl (some (vI (3 : Int)))) M K)) : Wp (d + 1) 184 67 [vR l0] [vI t0] M K Q := by
  refine r_ifP (P := t0 = (0 : Int)) c184_67 rfl (fun hc => ?_) (fun hc => ?_)
  · replace h := h.1 hc
    refine r_aload_n c184_72 rfl ?_
    refine r_bipush c184_73 ?_
    refine r_iconst c184_75 ?_
    refine r_bipush c184_76 ?_
    refine r_iconst c184_78 ?_
    refine r_iconst c184_79 ?_
    refine r_iconst c184_80 ?_
    obtain ⟨s1, h⟩ := h
    exact r_call c184_81 rfl rfl (Nat.le_of_ble_eq_true rfl) (okc_r rfl rfl s1) h
  · replace h := h.2 hc
    refine r_iconst c184_70 ?_
    exact r_iret c184_71 (Or.inl rfl) h
theorem t184_84 {d : Nat} {l0 : Nat} {t0 : Int} {M : Mem} {K : KK} {Q : RR → Mem → KK → Prop} (h : (t0 = (0 : Int) → isO K.1 l0 12 = true ∧ Wm d 168 [vR l0, vI (13 : Int), vI (9 : Int), vI (12 : Int), vI (11 : Int), vI (0 : Int), vI (0 : Int)] M K (Bk d 184 100 103 168 [vR l0] [] Q)) ∧ (¬ (t0 = (0 : Int)) → Q (.inl (some (vI (4 : Int)))) M K)) : Wp (d + 1) 184 84 [vR l0] [vI t0] M K Q := by
  refine r_ifP (P := t0 = (0 : Int)) c184_84 rfl (fun hc => ?_) (fun hc => ?_)
  · replace h := h.1 hc
    refine r_aload_n c184_89 rfl ?_
    refine r_bipush c184_90 ?_
    refine r_bipush c184_92 ?_
    refine r_bipush c184_94 ?_
    refine r_bipush c184_96 ?_
    refine r_iconst c184_98 ?_
    refine r_iconst c184_99 ?_
    obtain ⟨s1, h⟩ := h
    exact r_call c184_100 rfl rfl (Nat.le_of_ble_eq_true rfl) (okc_r rfl rfl s1) h
  · replace h := h.2 hc
    refine r_iconst c184_87 ?_
    exact r_iret c184_88 (Or.inl rfl) h
theorem t184_103 {d : Nat} {l0 : Nat} {t0 : Int} {M : Mem} {K : KK} {Q : RR → Mem → KK → Prop} (h : (t0 = (0 : Int) → isO K.1 l0 12 = true ∧ Wm d 168 [vR l0, vI (4 : Int), vI (1 : Int), vI (25 : Int), vI (0 : Int), vI (0 : Int), vI (0 : Int)] M K (Bk d 184 116 119 168 [vR l0] [] Q)) ∧ (¬ (t0 = (0 : Int)) → Q (.inl (some (vI (5 : Int)))) M K)) : Wp (d + 1) 184 103 [vR l0] [vI t0] M K Q := by
  refine r_ifP (P := t0 = (0 : Int)) c184_103 rfl (fun hc => ?_) (fun hc => ?_)
  · replace h := h.1 hc
    refine r_aload_n c184_108 rfl ?_
    refine r_iconst c184_109 ?_
    refine r_iconst c184_110 ?_
    refine r_bipush c184_111 ?_
    refine r_iconst c184_113 ?_
    refine r_iconst c184_114 ?_
    refine r_iconst c184_115 ?_
    obtain ⟨s1, h⟩ := h
    exact r_call c184_116 rfl rfl (Nat.le_of_ble_eq_true rfl) (okc_r rfl rfl s1) h
  · replace h := h.2 hc
    refine r_iconst c184_106 ?_
    exact r_iret c184_107 (Or.inl rfl) h
theorem t184_119 {d : Nat} {l0 : Nat} {t0 : Int} {M : Mem} {K : KK} {Q : RR → Mem → KK → Prop} (h : (t0 = (0 : Int) → isO K.1 l0 12 = true ∧ Wm d 168 [vR l0, vI (6 : Int), vI (9 : Int), vI (18 : Int), vI (19 : Int), vI (20 : Int), vI (0 : Int)] M K (Bk d 184 137 140 168 [vR l0] [] Q)) ∧ (¬ (t0 = (0 : Int)) → Q (.inl (some (vI (6 : Int)))) M K)) : Wp (d + 1) 184 119 [vR l0] [vI t0] M K Q := by
  refine r_ifP (P := t0 = (0 : Int)) c184_119 rfl (fun hc => ?_) (fun hc => ?_)
  · replace h := h.1 hc
    refine r_aload_n c184_125 rfl ?_
    refine r_bipush c184_126 ?_
    refine r_bipush c184_128 ?_
    refine r_bipush c184_130 ?_
    refine r_bipush c184_132 ?_
    refine r_bipush c184_134 ?_
    refine r_iconst c184_136 ?_
    obtain ⟨s1, h⟩ := h
    exact r_call c184_137 rfl rfl (Nat.le_of_ble_eq_true rfl) (okc_r rfl rfl s1) h
  · replace h := h.2 hc
    refine r_bipush c184_122 ?_
    exact r_iret c184_124 (Or.inl rfl) h
theorem t184_140 {d : Nat} {l0 : Nat} {t0 : Int} {M : Mem} {K : KK} {Q : RR → Mem → KK → Prop} (h : (t0 = (0 : Int) → Wp d 184 149 [vR l0] [vI (-1 : Int)] M K Q) ∧ (¬ (t0 = (0 : Int)) → Wp d 184 149 [vR l0] [vI (7 : Int)] M K Q)) : Wp d 184 140 [vR l0] [vI t0] M K Q := by
  refine r_ifP (P := t0 = (0 : Int)) c184_140 rfl (fun hc => ?_) (fun hc => ?_)
  · replace h := h.1 hc
    refine r_iconst c184_148 ?_
    exact h
  · replace h := h.2 hc
    refine r_bipush c184_143 ?_
    refine r_goto c184_145 ?_
    exact h
theorem t184_149 {d : Nat} {l0 : Nat} {t0 : Int} {M : Mem} {K : KK} {Q : RR → Mem → KK → Prop} (h : Q (.inl (some (vI t0))) M K) : Wp d 184 149 [vR l0] [vI t0] M K Q := by
  exact r_iret c184_149 (Or.inl rfl) h
theorem t185_0 {d : Nat} {l0 : Nat} {M : Mem} {K : KK} {Q : RR → Mem → KK → Prop} (h : isO K.1 l0 12 = true ∧ ((M l0 5) = (0 : Int) → isO K.1 l0 12 = true ∧ Wm d 159 [vR l0] M K (Bk d 185 9 12 159 [vR l0, vU, vU] [] Q)) ∧ (¬ ((M l0 5) = (0 : Int)) → Q (.inl none) M K)) : Wp (d + 1) 185 0 [vR l0, vU, vU] [] M K Q := by
  refine r_aload_n c185_0 rfl ?_
  obtain ⟨s1, h⟩ := h
  refine r_getI c185_1 s1 ?_
  refine r_ifP (P := (M l0 5) = (0 : Int)) c185_4 rfl (fun hc => ?_) (fun hc => ?_)
  · replace h := h.1 hc
    refine r_aload_n c185_8 rfl ?_
    obtain ⟨s2, h⟩ := h
    exact r_call c185_9 rfl rfl (Nat.le_of_ble_eq_true rfl) (okc_r rfl rfl s2) h
  · replace h := h.2 hc
    exact r_ret c185_7 h
theorem t185_12 {d : Nat} {l0 : Nat} {M : Mem} {K : KK} {Q : RR → Mem → KK → Prop} (h : isO K.1 l0 12 = true ∧ Wm d 166 [vR l0, vI (12 : Int), vI (5 : Int), vI (1 : Int), vI (19 : Int), vI (20 : Int), vI (0 : Int)] M K (Bk d 185 22 25 166 [vR l0, vU, vU] [] Q)) : Wp (d + 1) 185 12 [vR l0, vU, vU] [] M K Q := by
  refine r_aload_n c185_12 rfl ?_
  refine r_bipush c185_13 ?_
  refine r_iconst c185_15 ?_
  refine r_iconst c185_16 ?_
  refine r_bipush c185_17 ?_
  refine r_bipush c185_19 ?_
  refine r_iconst c185_21 ?_
  obtain ⟨s1, h⟩ := h
  exact r_call c185_22 rfl rfl (Nat.le_of_ble_eq_true rfl) (okc_r rfl rfl s1) h
theorem t185_25 {d : Nat} {l0 : Nat} {t0 : Int} {M : Mem} {K : KK} {Q : RR → Mem → KK → Prop} (h : (t0 = (0 : Int) → isO K.1 l0 12 = true ∧ Wm d 166 [vR l0, vI (13 : Int), vI (15 : Int), vI (19 : Int), vI (20 : Int), vI (0 : Int), vI (0 : Int)] M K (Bk d 185 44 47 166 [vR l0, vU, vU] [] Q)) ∧ (¬ (t0 = (0 : Int)) → Wp (d + 1) 185 56 [vR l0, vU, vU] [vI (7 : Int)] M K Q)) : Wp (d + 1) 185 25 [vR l0, vU, vU] [vI t0] M K Q := by
  refine r_ifP (P := t0 = (0 : Int)) c185_25 rfl (fun hc => ?_) (fun hc => ?_)
  · replace h := h.1 hc
    refine r_aload_n c185_33 rfl ?_
    refine r_bipush c185_34 ?_
    refine r_bipush c185_36 ?_
    refine r_bipush c185_38 ?_
    refine r_bipush c185_40 ?_
    refine r_iconst c185_42 ?_
    refine r_iconst c185_43 ?_
    obtain ⟨s1, h⟩ := h
    exact r_call c185_44 rfl rfl (Nat.le_of_ble_eq_true rfl) (okc_r rfl rfl s1) h
  · replace h := h.2 hc
    refine r_bipush c185_28 ?_
    refine r_goto c185_30 ?_
    exact h
theorem t185_47 {d : Nat} {l0 : Nat} {t0 : Int} {M : Mem} {K : KK} {Q : RR → Mem → KK → Prop} (h : (t0 = (0 : Int) → Wp d 185 56 [vR l0, vU, vU] [vI (-1 : Int)] M K Q) ∧ (¬ (t0 = (0 : Int)) → Wp d 185 56 [vR l0, vU, vU] [vI (8 : Int)] M K Q)) : Wp d 185 47 [vR l0, vU, vU] [vI t0] M K Q := by
  refine r_ifP (P := t0 = (0 : Int)) c185_47 rfl (fun hc => ?_) (fun hc => ?_)
  · replace h := h.1 hc
    refine r_iconst c185_55 ?_
    exact h
  · replace h := h.2 hc
    refine r_bipush c185_50 ?_
    refine r_goto c185_52 ?_
    exact h
theorem t185_56 {d : Nat} {l0 : Nat} {t0 : Int} {M : Mem} {K : KK} {Q : RR → Mem → KK → Prop} (h : (t0 = (-1 : Int) → isO K.1 l0 12 = true ∧ isO K.1 l0 12 = true ∧ Wm d 158 [vR l0, vI (M l0 4)] M K (Bk d 185 122 125 158 [vR l0, vI t0, vU] [] Q)) ∧ (¬ (t0 = (-1 : Int)) → isO K.1 l0 12 = true ∧ Wm d 181 [vR l0] M K (Bk d 185 63 66 181 [vR l0, vI t0, vU] [] Q))) : Wp (d + 1) 185 56 [vR l0, vU, vU] [vI t0] M K Q := by
  refine r_istore_n c185_56 (Nat.le_of_ble_eq_true rfl) ?_
  refine r_iload_n c185_57 rfl ?_
  refine r_iconst c185_58 ?_
  refine r_icmpP (P := t0 = (-1 : Int)) c185_59 rfl (fun hc => ?_) (fun hc => ?_)
  · replace h := h.1 hc
    refine r_aload_n c185_117 rfl ?_
    refine r_aload_n c185_118 rfl ?_
    obtain ⟨s1, h⟩ := h
    refine r_getI c185_119 s1 ?_
    obtain ⟨s2, h⟩ := h
    exact r_call c185_122 rfl rfl (Nat.le_of_ble_eq_true rfl) (okc_r rfl rfl s2) h
  · replace h := h.2 hc
    refine r_aload_n c185_62 rfl ?_
    obtain ⟨s3, h⟩ := h
    exact r_call c185_63 rfl rfl (Nat.le_of_ble_eq_true rfl) (okc_r rfl rfl s3) h
theorem t185_66 {d : Nat} {l0 : Nat} {l1 : Int} {t0 : Int} {M : Mem} {K : KK} {Q : RR → Mem → KK → Prop} (h : (¬ t0 = (0 : Int) → isO K.1 l0 12 = true ∧ Wm d 167 [vR l0] M K (Bk d 185 71 74 167 [vR l0, vI l1, vU] [] Q)) ∧ (¬ (¬ t0 = (0 : Int)) → Q (.inl none) M K)) : Wp (d + 1) 185 66 [vR l0, vI l1, vU] [vI t0] M K Q := by
  refine r_ifP (P := ¬ t0 = (0 : Int)) c185_66 rfl (fun hc => ?_) (fun hc => ?_)
  · replace h := h.1 hc
    refine r_aload_n c185_70 rfl ?_
    obtain ⟨s1, h⟩ := h
    exact r_call c185_71 rfl rfl (Nat.le_of_ble_eq_true rfl) (okc_r rfl rfl s1) h
  · replace h := h.2 hc
    exact r_ret c185_69 h
theorem t185_74 {d : Nat} {l0 : Nat} {l1 : Int} {M : Mem} {K : KK} {Q : RR → Mem → KK → Prop} (h : isO K.1 l0 12 = true ∧ Wm d 169 [vR l0, vI (91 : Int)] M K (Bk d 185 77 80 169 [vR l0, vI l1, vU] [] Q)) : Wp (d + 1) 185 74 [vR l0, vI l1, vU] [] M K Q := by
  refine r_aload_n c185_74 rfl ?_
  refine r_bipush c185_75 ?_
  obtain ⟨s1, h⟩ := h
  exact r_call c185_77 rfl rfl (Nat.le_of_ble_eq_true rfl) (okc_r rfl rfl s1) h
theorem t185_80 {d : Nat} {l0 : Nat} {l1 : Int} {M : Mem} {K : KK} {Q : RR → Mem → KK → Prop} (h : isO K.1 l0 12 = true ∧ Wm d 182 [vR l0] M K (Bk d 185 81 84 182 [vR l0, vI l1, vU] [] Q)) : Wp (d + 1) 185 80 [vR l0, vI l1, vU] [] M K Q := by
  refine r_aload_n c185_80 rfl ?_
  obtain ⟨s1, h⟩ := h
  exact r_call c185_81 rfl rfl (Nat.le_of_ble_eq_true rfl) (okc_r rfl rfl s1) h
theorem t185_84 {d : Nat} {l0 : Nat} {l1 : Int} {M : Mem} {K : KK} {Q : RR → Mem → KK → Prop} (h : isO K.1 l0 12 = true ∧ Wm d 169 [vR l0, vI (44 : Int)] M K (Bk d 185 87 90 169 [vR l0, vI l1, vU] [] Q)) : Wp (d + 1) 185 84 [vR l0, vI l1, vU] [] M K Q := by
  refine r_aload_n c185_84 rfl ?_
  refine r_bipush c185_85 ?_
  obtain ⟨s1, h⟩ := h
  exact r_call c185_87 rfl rfl (Nat.le_of_ble_eq_true rfl) (okc_r rfl rfl s1) h
theorem t185_90 {d : Nat} {l0 : Nat} {l1 : Int} {M : Mem} {K : KK} {Q : RR → Mem → KK → Prop} (h : isO K.1 l0 12 = true ∧ Wm d 182 [vR l0] M K (Bk d 185 91 94 182 [vR l0, vI l1, vU] [] Q)) : Wp (d + 1) 185 90 [vR l0, vI l1, vU] [] M K Q := by
  refine r_aload_n c185_90 rfl ?_
  obtain ⟨s1, h⟩ := h
  exact r_call c185_91 rfl rfl (Nat.le_of_ble_eq_true rfl) (okc_r rfl rfl s1) h
theorem t185_94 {d : Nat} {l0 : Nat} {l1 : Int} {M : Mem} {K : KK} {Q : RR → Mem → KK → Prop} (h : isO K.1 l0 12 = true ∧ Wm d 169 [vR l0, vI (93 : Int)] M K (Bk d 185 97 100 169 [vR l0, vI l1, vU] [] Q)) : Wp (d + 1) 185 94 [vR l0, vI l1, vU] [] M K Q := by
  refine r_aload_n c185_94 rfl ?_
  refine r_bipush c185_95 ?_
  obtain ⟨s1, h⟩ := h
  exact r_call c185_97 rfl rfl (Nat.le_of_ble_eq_true rfl) (okc_r rfl rfl s1) h
theorem t185_100 {d : Nat} {l0 : Nat} {l1 : Int} {M : Mem} {K : KK} {Q : RR → Mem → KK → Prop} (h : isO K.1 l0 12 = true ∧ Wm d 180 [vR l0, vI l1, vI (0 : Int)] M K (Bk d 185 103 106 180 [vR l0, vI l1, vU] [] Q)) : Wp (d + 1) 185 100 [vR l0, vI l1, vU] [] M K Q := by
  refine r_aload_n c185_100 rfl ?_
  refine r_iload_n c185_101 rfl ?_
  refine r_iconst c185_102 ?_
  obtain ⟨s1, h⟩ := h
  exact r_call c185_103 rfl rfl (Nat.le_of_ble_eq_true rfl) (okc_r rfl rfl s1) h
theorem t185_106 {d : Nat} {l0 : Nat} {l1 : Int} {M : Mem} {K : KK} {Q : RR → Mem → KK → Prop} (h : isO K.1 l0 12 = true ∧ isO K.1 l0 12 = true ∧ Q (.inl none) (mset M l0 8 (w32 ((M l0 8) - (1 : Int)))) K) : Wp d 185 106 [vR l0, vI l1, vU] [] M K Q := by
  refine r_aload_n c185_106 rfl ?_
  refine r_dupr c185_107 ?_
  obtain ⟨s1, h⟩ := h
  refine r_getI c185_108 s1 ?_
  refine r_iconst c185_111 ?_
  refine r_isub c185_112 ?_
  obtain ⟨s2, h⟩ := h
  refine r_putI c185_113 s2 ?_
  exact r_ret c185_116 h
theorem t185_125 {d : Nat} {l0 : Nat} {l1 : Int} {t0 : Int} {M : Mem} {K : KK} {Q : RR → Mem → KK → Prop} (h : (¬ t0 = (40 : Int) → isO K.1 l0 12 = true ∧ Wm d 184 [vR l0] M K (Bk d 185 170 173 184 [vR l0, vI l1, vU] [] Q)) ∧ (¬ (¬ t0 = (40 : Int)) → isO K.1 l0 12 = true ∧ Wm d 181 [vR l0] M K (Bk d 185 131 134 181 [vR l0, vI l1, vU] [] Q))) : Wp (d + 1) 185 125 [vR l0, vI l1, vU] [vI t0] M K Q := by
  refine r_bipush c185_125 ?_
  refine r_icmpP (P := ¬ t0 = (40 : Int)) c185_127 rfl (fun hc => ?_) (fun hc => ?_)
  · replace h := h.1 hc
    refine r_aload_n c185_169 rfl ?_
    obtain ⟨s1, h⟩ := h
    exact r_call c185_170 rfl rfl (Nat.le_of_ble_eq_true rfl) (okc_r rfl rfl s1) h
  · replace h := h.2 hc
    refine r_aload_n c185_130 rfl ?_
    obtain ⟨s2, h⟩ := h
    exact r_call c185_131 rfl rfl (Nat.le_of_ble_eq_true rfl) (okc_r rfl rfl s2) h
theorem t185_134 {d : Nat} {l0 : Nat} {l1 : Int} {t0 : Int} {M : Mem} {K : KK} {Q : RR → Mem → KK → Prop} (h : (¬ t0 = (0 : Int) → isO K.1 l0 12 = true ∧ isO K.1 l0 12 = true ∧ isO K.1 l0 12 = true ∧ Wm d 182 [vR l0] (mset M l0 4 (w32 ((M l0 4) + (1 : Int)))) K (Bk d 185 149 152 182 [vR l0, vI l1, vU] [] Q)) ∧ (¬ (¬ t0 = (0 : Int)) → Q (.inl none) M K)) : Wp (d + 1) 185 134 [vR l0, vI l1, vU] [vI t0] M K Q := by
  refine r_ifP (P := ¬ t0 = (0 : Int)) c185_134 rfl (fun hc => ?_) (fun hc => ?_)
  · replace h := h.1 hc
    refine r_aload_n c185_138 rfl ?_
    refine r_dupr c185_139 ?_
    obtain ⟨s1, h⟩ := h
    refine r_getI c185_140 s1 ?_
    refine r_iconst c185_143 ?_
    refine r_iadd c185_144 ?_
    obtain ⟨s2, h⟩ := h
    refine r_putI c185_145 s2 ?_
    refine r_aload_n c185_148 rfl ?_
    obtain ⟨s3, h⟩ := h
    exact r_call c185_149 rfl rfl (Nat.le_of_ble_eq_true rfl) (okc_r rfl rfl s3) h
  · replace h := h.2 hc
    exact r_ret c185_137 h
theorem t185_152 {d : Nat} {l0 : Nat} {l1 : Int} {M : Mem} {K : KK} {Q : RR → Mem → KK → Prop} (h : isO K.1 l0 12 = true ∧ Wm d 169 [vR l0, vI (41 : Int)] M K (Bk d 185 155 158 169 [vR l0, vI l1, vU] [] Q)) : Wp (d + 1) 185 152 [vR l0, vI l1, vU] [] M K Q := by
  refine r_aload_n c185_152 rfl ?_
  refine r_bipush c185_153 ?_
  obtain ⟨s1, h⟩ := h
  exact r_call c185_155 rfl rfl (Nat.le_of_ble_eq_true rfl) (okc_r rfl rfl s1) h
theorem t185_158 {d : Nat} {l0 : Nat} {l1 : Int} {M : Mem} {K : KK} {Q : RR → Mem → KK → Prop} (h : isO K.1 l0 12 = true ∧ isO K.1 l0 12 = true ∧ Q (.inl none) (mset M l0 8 (w32 ((M l0 8) - (1 : Int)))) K) : Wp d 185 158 [vR l0, vI l1, vU] [] M K Q := by
  refine r_aload_n c185_158 rfl ?_
  refine r_dupr c185_159 ?_
  obtain ⟨s1, h⟩ := h
  refine r_getI c185_160 s1 ?_
  refine r_iconst c185_163 ?_
  refine r_isub c185_164 ?_
  obtain ⟨s2, h⟩ := h
  refine r_putI c185_165 s2 ?_
  exact r_ret c185_168 h
theorem t185_173 {d : Nat} {l0 : Nat} {l1 : Int} {t0 : Int} {M : Mem} {K : KK} {Q : RR → Mem → KK → Prop} (h : (t0 = (-1 : Int) → isO K.1 l0 12 = true ∧ Wm d 163 [vR l0, vI (0 : Int), vI (999 : Int)] M K (Bk d 185 195 198 163 [vR l0, vI l1, vI t0] [vI (0 : Int), vR l0] Q)) ∧ (¬ (t0 = (-1 : Int)) → isO K.1 l0 12 = true ∧ Wm d 180 [vR l0, vI (1 : Int), vI t0] M K (Bk d 185 182 185 180 [vR l0, vI l1, vI t0] [] Q))) : Wp (d + 1) 185 173 [vR l0, vI l1, vU] [vI t0] M K Q := by
  refine r_istore_n c185_173 (Nat.le_of_ble_eq_true rfl) ?_
  refine r_iload_n c185_174 rfl ?_
  refine r_iconst c185_175 ?_
  refine r_icmpP (P := t0 = (-1 : Int)) c185_176 rfl (fun hc => ?_) (fun hc => ?_)
  · replace h := h.1 hc
    refine r_aload_n c185_188 rfl ?_
    refine r_iconst c185_189 ?_
    refine r_aload_n c185_190 rfl ?_
    refine r_iconst c185_191 ?_
    refine r_sipush c185_192 ?_
    obtain ⟨s1, h⟩ := h
    exact r_call c185_195 rfl rfl (Nat.le_of_ble_eq_true rfl) (okc_r rfl rfl s1) h
  · replace h := h.2 hc
    refine r_aload_n c185_179 rfl ?_
    refine r_iconst c185_180 ?_
    refine r_iload_n c185_181 rfl ?_
    obtain ⟨s2, h⟩ := h
    exact r_call c185_182 rfl rfl (Nat.le_of_ble_eq_true rfl) (okc_r rfl rfl s2) h
theorem t185_185 {d : Nat} {l0 : Nat} {l1 : Int} {l2 : Int} {M : Mem} {K : KK} {Q : RR → Mem → KK → Prop} (h : Wp d 185 201 [vR l0, vI l1, vI l2] [] M K Q) : Wp d 185 185 [vR l0, vI l1, vI l2] [] M K Q := by
  refine r_goto c185_185 ?_
  exact h
theorem t185_198 {d : Nat} {l0 : Nat} {l1 : Int} {l2 : Int} {t0 : Nat} {t1 : Int} {t2 : Int} {M : Mem} {K : KK} {Q : RR → Mem → KK → Prop} (h : isO K.1 t0 12 = true ∧ Wm d 180 [vR t0, vI t1, vI t2] M K (Bk d 185 198 201 180 [vR l0, vI l1, vI l2] [] Q)) : Wp (d + 1) 185 198 [vR l0, vI l1, vI l2] [vI t2, vI t1, vR t0] M K Q := by
  obtain ⟨s1, h⟩ := h
  exact r_call c185_198 rfl rfl (Nat.le_of_ble_eq_true rfl) (okc_r rfl rfl s1) h
theorem t185_201 {d : Nat} {l0 : Nat} {l1 : Int} {l2 : Int} {M : Mem} {K : KK} {Q : RR → Mem → KK → Prop} (h : Q (.inl none) M K) : Wp d 185 201 [vR l0, vI l1, vI l2] [] M K Q := by
  exact r_ret c185_201 h
theorem t186_0 {d : Nat} {l0 : Nat} {l1 : Int} {M : Mem} {K : KK} {Q : RR → Mem → KK → Prop} (h : isO K.1 l0 12 = true ∧ isO K.1 l0 12 = true ∧ Wm d 153 [vI l1, vI (0 : Int), vI ((mset M l0 0 (0 : Int)) l0 1)] (mset M l0 0 (0 : Int)) K (Bk d 186 12 15 153 [vR l0, vI l1] [vR l0] Q)) : Wp (d + 1) 186 0 [vR l0, vI l1] [] M K Q := by
  refine r_aload_n c186_0 rfl ?_
  refine r_iconst c186_1 ?_
  obtain ⟨s1, h⟩ := h
  refine r_putI c186_2 s1 ?_
  refine r_aload_n c186_5 rfl ?_
  refine r_iload_n c186_6 rfl ?_
  refine r_iconst c186_7 ?_
  refine r_aload_n c186_8 rfl ?_
  obtain ⟨s2, h⟩ := h
  refine r_getI c186_9 s2 ?_
  exact r_call c186_12 rfl rfl (Nat.le_of_ble_eq_true rfl) (okc_s rfl rfl rfl) h
theorem t186_15 {d : Nat} {l0 : Nat} {l1 : Int} {t0 : Nat} {t1 : Int} {M : Mem} {K : KK} {Q : RR → Mem → KK → Prop} (h : (t1 = (0 : Int) → Wp d 186 25 [vR l0, vI l1] [vR t0] M K Q) ∧ (¬ (t1 = (0 : Int)) → (l1 ≤ (150 : Int) → Wp d 186 30 [vR l0, vI l1] [vI (0 : Int), vR t0] M K Q) ∧ (¬ (l1 ≤ (150 : Int)) → Wp d 186 25 [vR l0, vI l1] [vR t0] M K Q))) : Wp d 186 15 [vR l0, vI l1] [vI t1, vR t0] M K Q := by
  refine r_ifP (P := t1 = (0 : Int)) c186_15 rfl (fun hc => ?_) (fun hc => ?_)
  · replace h := h.1 hc
    exact h
  · replace h := h.2 hc
    refine r_iload_n c186_18 rfl ?_
    refine r_sipush c186_19 ?_
    refine r_icmpP (P := l1 ≤ (150 : Int)) c186_22 rfl (fun hc => ?_) (fun hc => ?_)
    · replace h := h.1 hc
      refine r_iconst c186_29 ?_
      exact h
    · replace h := h.2 hc
      exact h
theorem t186_25 {d : Nat} {l0 : Nat} {l1 : Int} {t0 : Nat} {M : Mem} {K : KK} {Q : RR → Mem → KK → Prop} (h : Wp d 186 30 [vR l0, vI l1] [vI (1 : Int), vR t0] M K Q) : Wp d 186 25 [vR l0, vI l1] [vR t0] M K Q := by
  refine r_iconst c186_25 ?_
  refine r_goto c186_26 ?_
  exact h
theorem t186_30 {d : Nat} {l0 : Nat} {l1 : Int} {t0 : Nat} {t1 : Int} {M : Mem} {K : KK} {Q : RR → Mem → KK → Prop} (h : isO K.1 t0 12 = true ∧ Wm d 152 [vR t0, vI t1, vI (1 : Int), vI (1 : Int)] M K (Bk d 186 32 35 152 [vR l0, vI l1] [] Q)) : Wp (d + 1) 186 30 [vR l0, vI l1] [vI t1, vR t0] M K Q := by
  refine r_iconst c186_30 ?_
  refine r_iconst c186_31 ?_
  obtain ⟨s1, h⟩ := h
  exact r_call c186_32 rfl rfl (Nat.le_of_ble_eq_true rfl) (okc_r rfl rfl s1) h
theorem t186_35 {d : Nat} {l0 : Nat} {l1 : Int} {t0 : Int} {M : Mem} {K : KK} {Q : RR → Mem → KK → Prop} (h : (t0 = (0 : Int) → isO K.1 l0 12 = true ∧ Wm d 171 [vR l0, vI l1] M K (Bk d 186 42 45 171 [vR l0, vI l1] [] Q)) ∧ (¬ (t0 = (0 : Int)) → Q (.inl (some (vI (0 : Int)))) M K)) : Wp (d + 1) 186 35 [vR l0, vI l1] [vI t0] M K Q := by
  refine r_ifP (P := t0 = (0 : Int)) c186_35 rfl (fun hc => ?_) (fun hc => ?_)
  · replace h := h.1 hc
    refine r_aload_n c186_40 rfl ?_
    refine r_iload_n c186_41 rfl ?_
    obtain ⟨s1, h⟩ := h
    exact r_call c186_42 rfl rfl (Nat.le_of_ble_eq_true rfl) (okc_r rfl rfl s1) h
  · replace h := h.2 hc
    refine r_iconst c186_38 ?_
    exact r_iret c186_39 (Or.inl rfl) h
theorem t186_45 {d : Nat} {l0 : Nat} {l1 : Int} {M : Mem} {K : KK} {Q : RR → Mem → KK → Prop} (h : isO K.1 l0 12 = true ∧ isO K.1 l0 12 = true ∧ Wm d 182 [vR l0] (mset M l0 22 (0 : Int)) K (Bk d 186 51 54 182 [vR l0, vI l1] [] Q)) : Wp (d + 1) 186 45 [vR l0, vI l1] [] M K Q := by
  refine r_aload_n c186_45 rfl ?_
  refine r_iconst c186_46 ?_
  obtain ⟨s1, h⟩ := h
  refine r_putI c186_47 s1 ?_
  refine r_aload_n c186_50 rfl ?_
  obtain ⟨s2, h⟩ := h
  exact r_call c186_51 rfl rfl (Nat.le_of_ble_eq_true rfl) (okc_r rfl rfl s2) h
theorem t186_54 {d : Nat} {l0 : Nat} {l1 : Int} {M : Mem} {K : KK} {Q : RR → Mem → KK → Prop} (h : isO K.1 l0 12 = true ∧ Wm d 159 [vR l0] M K (Bk d 186 55 58 159 [vR l0, vI l1] [] Q)) : Wp (d + 1) 186 54 [vR l0, vI l1] [] M K Q := by
  refine r_aload_n c186_54 rfl ?_
  obtain ⟨s1, h⟩ := h
  exact r_call c186_55 rfl rfl (Nat.le_of_ble_eq_true rfl) (okc_r rfl rfl s1) h
theorem t186_58 {d : Nat} {l0 : Nat} {l1 : Int} {M : Mem} {K : KK} {Q : RR → Mem → KK → Prop} (h : isO K.1 l0 12 = true ∧ (¬ (M l0 5) = (0 : Int) → Wp (d + 1) 186 85 [vR l0, vI l1] [] M K Q) ∧ (¬ (¬ (M l0 5) = (0 : Int)) → isO K.1 l0 12 = true ∧ isO K.1 l0 12 = true ∧ ((M l0 2) ≤ (M l0 4) → Wp (d + 1) 186 85 [vR l0, vI l1] [] M K Q) ∧ (¬ ((M l0 2) ≤ (M l0 4)) → isO K.1 l0 12 = true ∧ isO K.1 l0 12 = true ∧ Wm d 160 [vR l0, vI (1 : Int), vI (M l0 4)] M K (Bk d 186 82 85 160 [vR l0, vI l1] [] Q)))) : Wp (d + 1) 186 58 [vR l0, vI l1] [] M K Q := by
  refine r_aload_n c186_58 rfl ?_
  obtain ⟨s1, h⟩ := h
  refine r_getI c186_59 s1 ?_
  refine r_ifP (P := ¬ (M l0 5) = (0 : Int)) c186_62 rfl (fun hc => ?_) (fun hc => ?_)
  · replace h := h.1 hc
    exact h
  · replace h := h.2 hc
    refine r_aload_n c186_65 rfl ?_
    obtain ⟨s2, h⟩ := h
    refine r_getI c186_66 s2 ?_
    refine r_aload_n c186_69 rfl ?_
    obtain ⟨s3, h⟩ := h
    refine r_getI c186_70 s3 ?_
    refine r_icmpP (P := (M l0 2) ≤ (M l0 4)) c186_73 rfl (fun hc => ?_) (fun hc => ?_)
    · replace h := h.1 hc
      exact h
    · replace h := h.2 hc
      refine r_aload_n c186_76 rfl ?_
      refine r_iconst c186_77 ?_
      refine r_aload_n c186_78 rfl ?_
      obtain ⟨s4, h⟩ := h
      refine r_getI c186_79 s4 ?_
      obtain ⟨s5, h⟩ := h
      exact r_call c186_82 rfl rfl (Nat.le_of_ble_eq_true rfl) (okc_r rfl rfl s5) h
theorem t186_85 {d : Nat} {l0 : Nat} {l1 : Int} {M : Mem} {K : KK} {Q : RR → Mem → KK → Prop} (h : isO K.1 l0 12 = true ∧ ((M l0 5) = (0 : Int) → isO K.1 l0 12 = true ∧ isO K.1 l0 12 = true ∧ isO K.1 l0 12 = true ∧ isO K.1 l0 12 = true ∧ ∃ b6 : Nat, ((mset (mset M l0 3 (-1 : Int)) l0 21 ((mset M l0 3 (-1 : Int)) l0 22)) l0 24) = (b6 : Int) ∧ 0 < b6 ∧ isO K.1 l0 12 = true ∧ ∃ b10 : Nat, ((mset (mset M l0 3 (-1 : Int)) l0 21 ((mset M l0 3 (-1 : Int)) l0 22)) l0 23) = (b10 : Int) ∧ 0 < b10 ∧ isO K.1 l0 12 = true ∧ Wm d 177 [vR b6, vR b10, vI ((mset (mset M l0 3 (-1 : Int)) l0 21 ((mset M l0 3 (-1 : Int)) l0 22)) l0 21)] (mset (mset M l0 3 (-1 : Int)) l0 21 ((mset M l0 3 (-1 : Int)) l0 22)) K (Bk d 186 122 125 177 [vR l0, vI l1] [] Q)) ∧ (¬ ((M l0 5) = (0 : Int)) → isO K.1 l0 12 = true ∧ Wm d 172 [vR l0] M K (Bk d 186 93 96 172 [vR l0, vI l1] [] Q))) : Wp (d + 1) 186 85 [vR l0, vI l1] [] M K Q := by
  refine r_aload_n c186_85 rfl ?_
  obtain ⟨s1, h⟩ := h
  refine r_getI c186_86 s1 ?_
  refine r_ifP (P := (M l0 5) = (0 : Int)) c186_89 rfl (fun hc => ?_) (fun hc => ?_)
  · replace h := h.1 hc
    refine r_aload_n c186_97 rfl ?_
    refine r_iconst c186_98 ?_
    obtain ⟨s2, h⟩ := h
    refine r_putI c186_99 s2 ?_
    refine r_aload_n c186_102 rfl ?_
    refine r_aload_n c186_103 rfl ?_
    obtain ⟨s3, h⟩ := h
    refine r_getI c186_104 s3 ?_
    obtain ⟨s4, h⟩ := h
    refine r_putI c186_107 s4 ?_
    refine r_aload_n c186_110 rfl ?_
    obtain ⟨s5, h⟩ := h
    obtain ⟨b6, h⟩ := h
    obtain ⟨s7, h⟩ := h
    obtain ⟨s8, h⟩ := h
    refine r_getR c186_111 s5 s7 s8 ?_
    refine r_aload_n c186_114 rfl ?_
    obtain ⟨s9, h⟩ := h
    obtain ⟨b10, h⟩ := h
    obtain ⟨s11, h⟩ := h
    obtain ⟨s12, h⟩ := h
    refine r_getR c186_115 s9 s11 s12 ?_
    refine r_aload_n c186_118 rfl ?_
    obtain ⟨s13, h⟩ := h
    refine r_getI c186_119 s13 ?_
    exact r_call c186_122 rfl rfl (Nat.le_of_ble_eq_true rfl) (okc_s rfl rfl rfl) h
  · replace h := h.2 hc
    refine r_aload_n c186_92 rfl ?_
    obtain ⟨s14, h⟩ := h
    exact r_call c186_93 rfl rfl (Nat.le_of_ble_eq_true rfl) (okc_r rfl rfl s14) h
theorem t186_96 {d : Nat} {l0 : Nat} {l1 : Int} {t0 : Int} {M : Mem} {K : KK} {Q : RR → Mem → KK → Prop} (h : Q (.inl (some (vI t0))) M K) : Wp d 186 96 [vR l0, vI l1] [vI t0] M K Q := by
  exact r_iret c186_96 (Or.inl rfl) h
theorem t186_125 {d : Nat} {l0 : Nat} {l1 : Int} {M : Mem} {K : KK} {Q : RR → Mem → KK → Prop} (h : Q (.inl (some (vI (1 : Int)))) M K) : Wp d 186 125 [vR l0, vI l1] [] M K Q := by
  refine r_iconst c186_125 ?_
  exact r_iret c186_126 (Or.inl rfl) h
theorem t187_0 {d : Nat} {l0 : Int} {l1 : Int} {l2 : Int} {M : Mem} {K : KK} {Q : RR → Mem → KK → Prop} (h : Wp d 187 (tsw 1 96 2 7 #[39, 43, 47, 51, 73, 90] l0) [vI l0, vI l1, vI l2] [] M K Q) : Wp d 187 0 [vI l0, vI l1, vI l2] [] M K Q := by
  refine r_iload_n c187_0 rfl ?_
  refine r_tsw c187_1 ?_
  exact h
theorem t187_40 {d : Nat} {l0 : Int} {l1 : Int} {l2 : Int} {M : Mem} {K : KK} {Q : RR → Mem → KK → Prop} (h : Q (.inl (some (vI (w32 (l1 + l2))))) M K) : Wp d 187 40 [vI l0, vI l1, vI l2] [] M K Q := by
  refine r_iload_n c187_40 rfl ?_
  refine r_iload_n c187_41 rfl ?_
  refine r_iadd c187_42 ?_
  exact r_iret c187_43 (Or.inl rfl) h
theorem t187_44 {d : Nat} {l0 : Int} {l1 : Int} {l2 : Int} {M : Mem} {K : KK} {Q : RR → Mem → KK → Prop} (h : Q (.inl (some (vI (w32 (l1 - l2))))) M K) : Wp d 187 44 [vI l0, vI l1, vI l2] [] M K Q := by
  refine r_iload_n c187_44 rfl ?_
  refine r_iload_n c187_45 rfl ?_
  refine r_isub c187_46 ?_
  exact r_iret c187_47 (Or.inl rfl) h
theorem t187_48 {d : Nat} {l0 : Int} {l1 : Int} {l2 : Int} {M : Mem} {K : KK} {Q : RR → Mem → KK → Prop} (h : Q (.inl (some (vI (w32 (l1 * l2))))) M K) : Wp d 187 48 [vI l0, vI l1, vI l2] [] M K Q := by
  refine r_iload_n c187_48 rfl ?_
  refine r_iload_n c187_49 rfl ?_
  refine r_imul c187_50 ?_
  exact r_iret c187_51 (Or.inl rfl) h
theorem t187_52 {d : Nat} {l0 : Int} {l1 : Int} {l2 : Int} {M : Mem} {K : KK} {Q : RR → Mem → KK → Prop} (h : (¬ l2 = (0 : Int) → (¬ l2 = (-1 : Int) → l2 ≠ 0 ∧ Wp d 187 73 [vI l0, vI l1, vI l2] [vI (w32 (Int.tdiv l1 l2))] M K Q) ∧ (¬ (¬ l2 = (-1 : Int)) → Wp d 187 73 [vI l0, vI l1, vI l2] [vI (w32 (-l1))] M K Q)) ∧ (¬ (¬ l2 = (0 : Int)) → Wp d 187 73 [vI l0, vI l1, vI l2] [vI (0 : Int)] M K Q)) : Wp d 187 52 [vI l0, vI l1, vI l2] [] M K Q := by
  refine r_iload_n c187_52 rfl ?_
  refine r_ifP (P := ¬ l2 = (0 : Int)) c187_53 rfl (fun hc => ?_) (fun hc => ?_)
  · replace h := h.1 hc
    refine r_iload_n c187_60 rfl ?_
    refine r_iconst c187_61 ?_
    refine r_icmpP (P := ¬ l2 = (-1 : Int)) c187_62 rfl (fun hc => ?_) (fun hc => ?_)
    · replace h := h.1 hc
      refine r_iload_n c187_70 rfl ?_
      refine r_iload_n c187_71 rfl ?_
      obtain ⟨s1, h⟩ := h
      refine r_idiv c187_72 s1 ?_
      exact h
    · replace h := h.2 hc
      refine r_iload_n c187_65 rfl ?_
      refine r_ineg c187_66 ?_
      refine r_goto c187_67 ?_
      exact h
  · replace h := h.2 hc
    refine r_iconst c187_56 ?_
    refine r_goto c187_57 ?_
    exact h
theorem t187_73 {d : Nat} {l0 : Int} {l1 : Int} {l2 : Int} {t0 : Int} {M : Mem} {K : KK} {Q : RR → Mem → KK → Prop} (h : Q (.inl (some (vI t0))) M K) : Wp d 187 73 [vI l0, vI l1, vI l2] [vI t0] M K Q := by
  exact r_iret c187_73 (Or.inl rfl) h
theorem t187_74 {d : Nat} {l0 : Int} {l1 : Int} {l2 : Int} {M : Mem} {K : KK} {Q : RR → Mem → KK → Prop} (h : (l2 = (0 : Int) → Wp d 187 83 [vI l0, vI l1, vI l2] [] M K Q) ∧ (¬ (l2 = (0 : Int)) → (¬ l2 = (-1 : Int) → l2 ≠ 0 ∧ Wp d 187 90 [vI l0, vI l1, vI l2] [vI (Int.tmod l1 l2)] M K Q) ∧ (¬ (¬ l2 = (-1 : Int)) → Wp d 187 83 [vI l0, vI l1, vI l2] [] M K Q))) : Wp d 187 74 [vI l0, vI l1, vI l2] [] M K Q := by
  refine r_iload_n c187_74 rfl ?_
  refine r_ifP (P := l2 = (0 : Int)) c187_75 rfl (fun hc => ?_) (fun hc => ?_)
  · replace h := h.1 hc
    exact h
  · replace h := h.2 hc
    refine r_iload_n c187_78 rfl ?_
    refine r_iconst c187_79 ?_
    refine r_icmpP (P := ¬ l2 = (-1 : Int)) c187_80 rfl (fun hc => ?_) (fun hc => ?_)
    · replace h := h.1 hc
      refine r_iload_n c187_87 rfl ?_
      refine r_iload_n c187_88 rfl ?_
      obtain ⟨s1, h⟩ := h
      refine r_irem c187_89 s1 ?_
      exact h
    · replace h := h.2 hc
      exact h
theorem t187_83 {d : Nat} {l0 : Int} {l1 : Int} {l2 : Int} {M : Mem} {K : KK} {Q : RR → Mem → KK → Prop} (h : Wp d 187 90 [vI l0, vI l1, vI l2] [vI (0 : Int)] M K Q) : Wp d 187 83 [vI l0, vI l1, vI l2] [] M K Q := by
  refine r_iconst c187_83 ?_
  refine r_goto c187_84 ?_
  exact h
theorem t187_90 {d : Nat} {l0 : Int} {l1 : Int} {l2 : Int} {t0 : Int} {M : Mem} {K : KK} {Q : RR → Mem → KK → Prop} (h : Q (.inl (some (vI t0))) M K) : Wp d 187 90 [vI l0, vI l1, vI l2] [vI t0] M K Q := by
  exact r_iret c187_90 (Or.inl rfl) h
theorem t187_91 {d : Nat} {l0 : Int} {l1 : Int} {l2 : Int} {M : Mem} {K : KK} {Q : RR → Mem → KK → Prop} (h : Wm d 154 [vI l1, vI l2] M K (Bk d 187 93 96 154 [vI l0, vI l1, vI l2] [] Q)) : Wp (d + 1) 187 91 [vI l0, vI l1, vI l2] [] M K Q := by
  refine r_iload_n c187_91 rfl ?_
  refine r_iload_n c187_92 rfl ?_
  exact r_call c187_93 rfl rfl (Nat.le_of_ble_eq_true rfl) (okc_s rfl rfl rfl) h
theorem t187_96 {d : Nat} {l0 : Int} {l1 : Int} {l2 : Int} {t0 : Int} {M : Mem} {K : KK} {Q : RR → Mem → KK → Prop} (h : Q (.inl (some (vI t0))) M K) : Wp d 187 96 [vI l0, vI l1, vI l2] [vI t0] M K Q := by
  exact r_iret c187_96 (Or.inl rfl) h
theorem t187_97 {d : Nat} {l0 : Int} {l1 : Int} {l2 : Int} {M : Mem} {K : KK} {Q : RR → Mem → KK → Prop} (h : Wm d 155 [vI l1, vI l2] M K (Bk d 187 99 102 155 [vI l0, vI l1, vI l2] [] Q)) : Wp (d + 1) 187 97 [vI l0, vI l1, vI l2] [] M K Q := by
  refine r_iload_n c187_97 rfl ?_
  refine r_iload_n c187_98 rfl ?_
  exact r_call c187_99 rfl rfl (Nat.le_of_ble_eq_true rfl) (okc_s rfl rfl rfl) h
theorem t187_102 {d : Nat} {l0 : Int} {l1 : Int} {l2 : Int} {t0 : Int} {M : Mem} {K : KK} {Q : RR → Mem → KK → Prop} (h : Q (.inl (some (vI t0))) M K) : Wp d 187 102 [vI l0, vI l1, vI l2] [vI t0] M K Q := by
  exact r_iret c187_102 (Or.inl rfl) h
theorem t188_0 {d : Nat} {l0 : Nat} {M : Mem} {K : KK} {Q : RR → Mem → KK → Prop} (h : isO K.1 l0 12 = true ∧ ∃ b2 : Nat, (M l0 27) = (b2 : Int) ∧ 0 < b2 ∧ isO K.1 l0 12 = true ∧ ∃ b6 : Nat, (M l0 28) = (b6 : Int) ∧ 0 < b6 ∧ isO K.1 b6 20 = true ∧ (0 ≤ (0 : Int) ∧ (0 : Int) < (ln b6 : Int)) ∧ isO K.1 l0 12 = true ∧ ∃ b12 : Nat, (M l0 28) = (b12 : Int) ∧ 0 < b12 ∧ isO K.1 b12 20 = true ∧ (0 ≤ (1 : Int) ∧ (1 : Int) < (ln b12 : Int)) ∧ Wm d 155 [vI (1 : Int), vI (M b12 (Int.toNat (1 : Int)))] M K (Bk d 188 20 23 155 [vR l0, vI (0 : Int), vU] [vI (M b6 (Int.toNat (0 : Int))), vI (0 : Int), vR b2] Q)) : Wp (d + 1) 188 0 [vR l0, vU, vU] [] M K Q := by
  refine r_iconst c188_0 ?_
  refine r_istore_n c188_1 (Nat.le_of_ble_eq_true rfl) ?_
  refine r_aload_n c188_2 rfl ?_
  obtain ⟨s1, h⟩ := h
  obtain ⟨b2, h⟩ := h
  obtain ⟨s3, h⟩ := h
  obtain ⟨s4, h⟩ := h
  refine r_getR c188_3 s1 s3 s4 ?_
  refine r_iconst c188_6 ?_
  refine r_aload_n c188_7 rfl ?_
  obtain ⟨s5, h⟩ := h
  obtain ⟨b6, h⟩ := h
  obtain ⟨s7, h⟩ := h
  obtain ⟨s8, h⟩ := h
  refine r_getR c188_8 s5 s7 s8 ?_
  refine r_iconst c188_11 ?_
  obtain ⟨s9, h⟩ := h
  obtain ⟨s10, h⟩ := h
  refine r_ia c188_12 s9 s10 ?_
  refine r_iconst c188_13 ?_
  refine r_aload_n c188_14 rfl ?_
  obtain ⟨s11, h⟩ := h
  obtain ⟨b12, h⟩ := h
  obtain ⟨s13, h⟩ := h
  obtain ⟨s14, h⟩ := h
  refine r_getR c188_15 s11 s13 s14 ?_
  refine r_iconst c188_18 ?_
  obtain ⟨s15, h⟩ := h
  obtain ⟨s16, h⟩ := h
  refine r_ia c188_19 s15 s16 ?_
  exact r_call c188_20 rfl rfl (Nat.le_of_ble_eq_true rfl) (okc_s rfl rfl rfl) h
theorem t188_23 {d : Nat} {l0 : Nat} {l1 : Int} {t0 : Nat} {t1 : Int} {t2 : Int} {t3 : Int} {M : Mem} {K : KK} {Q : RR → Mem → KK → Prop} (h : t3 ≠ 0 ∧ isO K.1 l0 12 = true ∧ ∃ b3 : Nat, (M l0 28) = (b3 : Int) ∧ 0 < b3 ∧ isO K.1 b3 20 = true ∧ (0 ≤ (3 : Int) ∧ (3 : Int) < (ln b3 : Int)) ∧ isO K.1 l0 12 = true ∧ ∃ b9 : Nat, (M l0 28) = (b9 : Int) ∧ 0 < b9 ∧ isO K.1 b9 20 = true ∧ (0 ≤ (4 : Int) ∧ (4 : Int) < (ln b9 : Int)) ∧ isO K.1 t0 20 = true ∧ (0 ≤ t1 ∧ t1 < (ln t0 : Int)) ∧ Wp d 188 43 [vR l0, vI l1, vI (0 : Int)] [] (mset M t0 (Int.toNat t1) (w32 ((w32 ((w32 (Int.tdiv t2 t3)) + (M b3 (Int.toNat (3 : Int))))) + (w32 ((2 : Int) * (M b9 (Int.toNat (4 : Int)))))))) K Q) : Wp d 188 23 [vR l0, vI l1, vU] [vI t3, vI t2, vI t1, vR t0] M K Q := by
  obtain ⟨s1, h⟩ := h
  refine r_idiv c188_23 s1 ?_
  refine r_aload_n c188_24 rfl ?_
  obtain ⟨s2, h⟩ := h
  obtain ⟨b3, h⟩ := h
  obtain ⟨s4, h⟩ := h
  obtain ⟨s5, h⟩ := h
  refine r_getR c188_25 s2 s4 s5 ?_
  refine r_iconst c188_28 ?_
  obtain ⟨s6, h⟩ := h
  obtain ⟨s7, h⟩ := h
  refine r_ia c188_29 s6 s7 ?_
  refine r_iadd c188_30 ?_
  refine r_iconst c188_31 ?_
  refine r_aload_n c188_32 rfl ?_
  obtain ⟨s8, h⟩ := h
  obtain ⟨b9, h⟩ := h
  obtain ⟨s10, h⟩ := h
  obtain ⟨s11, h⟩ := h
  refine r_getR c188_33 s8 s10 s11 ?_
  refine r_iconst c188_36 ?_
  obtain ⟨s12, h⟩ := h
  obtain ⟨s13, h⟩ := h
  refine r_ia c188_37 s12 s13 ?_
  refine r_imul c188_38 ?_
  refine r_iadd c188_39 ?_
  obtain ⟨s14, h⟩ := h
  obtain ⟨s15, h⟩ := h
  refine r_ias c188_40 s14 s15 ?_
  refine r_iconst c188_41 ?_
  refine r_istore_n c188_42 (Nat.le_of_ble_eq_true rfl) ?_
  exact h
theorem t188_43 {d : Nat} {l0 : Nat} {l1 : Int} {l2 : Int} {M : Mem} {K : KK} {Q : RR → Mem → KK → Prop} (h : isO K.1 l0 12 = true ∧ ((M l0 21) ≤ l2 → isO K.1 l0 12 = true ∧ ∃ b3 : Nat, (M l0 27) = (b3 : Int) ∧ 0 < b3 ∧ isO K.1 b3 20 = true ∧ (0 ≤ (0 : Int) ∧ (0 : Int) < (ln b3 : Int)) ∧ Wm d 155 [vI (0 : Int), vI (M b3 (Int.toNat (0 : Int)))] M K (Bk d 188 161 164 155 [vR l0, vI l1, vI l2] [vI (99 : Int)] Q)) ∧ (¬ ((M l0 21) ≤ l2) → isO K.1 l0 12 = true ∧ ∃ b9 : Nat, (M l0 23) = (b9 : Int) ∧ 0 < b9 ∧ (Nat.ble 30 (tg b9) = true ∧ isO K.1 b9 (tg b9) = true) ∧ (0 ≤ l2 ∧ l2 < (ln b9 : Int)) ∧ ∃ b14 : Nat, (M b9 (Int.toNat l2)) = (b14 : Int) ∧ 0 < b14 ∧ isO K.1 b14 20 = true ∧ (0 ≤ (0 : Int) ∧ (0 : Int) < (ln b14 : Int)) ∧ ((2 : Int) ≤ (M b14 (Int.toNat (0 : Int))) → isO K.1 l0 12 = true ∧ ∃ b20 : Nat, (M l0 27) = (b20 : Int) ∧ 0 < b20 ∧ isO K.1 l0 12 = true ∧ ∃ b24 : Nat, (M l0 23) = (b24 : Int) ∧ 0 < b24 ∧ (Nat.ble 30 (tg b24) = true ∧ isO K.1 b24 (tg b24) = true) ∧ (0 ≤ l2 ∧ l2 < (ln b24 : Int)) ∧ ∃ b29 : Nat, (M b24 (Int.toNat l2)) = (b29 : Int) ∧ 0 < b29 ∧ isO K.1 b29 20 = true ∧ (0 ≤ (0 : Int) ∧ (0 : Int) < (ln b29 : Int)) ∧ isO K.1 l0 12 = true ∧ ∃ b35 : Nat, (M l0 27) = (b35 : Int) ∧ 0 < b35 ∧ isO K.1 b35 20 = true ∧ (0 ≤ (w32 ((w32 (l1 + (-1))) - (1 : Int))) ∧ (w32 ((w32 (l1 + (-1))) - (1 : Int))) < (ln b35 : Int)) ∧ isO K.1 l0 12 = true ∧ ∃ b41 : Nat, (M l0 27) = (b41 : Int) ∧ 0 < b41 ∧ isO K.1 b41 20 = true ∧ (0 ≤ (w32 (l1 + (-1))) ∧ (w32 (l1 + (-1))) < (ln b41 : Int)) ∧ Wm d 187 [vI (M b29 (Int.toNat (0 : Int))), vI (M b35 (Int.toNat (w32 ((w32 (l1 + (-1))) - (1 : Int))))), vI (M b41 (Int.toNat (w32 (l1 + (-1)))))] M K (Bk d 188 142 145 187 [vR l0, vI (w32 (l1 + (-1))), vI l2] [vI (w32 ((w32 (l1 + (-1))) - (1 : Int))), vR b20] Q)) ∧ (¬ ((2 : Int) ≤ (M b14 (Int.toNat (0 : Int)))) → isO K.1 l0 12 = true ∧ ∃ b47 : Nat, (M l0 27) = (b47 : Int) ∧ 0 < b47 ∧ isO K.1 l0 12 = true ∧ ∃ b51 : Nat, (M l0 23) = (b51 : Int) ∧ 0 < b51 ∧ (Nat.ble 30 (tg b51) = true ∧ isO K.1 b51 (tg b51) = true) ∧ (0 ≤ l2 ∧ l2 < (ln b51 : Int)) ∧ ∃ b56 : Nat, (M b51 (Int.toNat l2)) = (b56 : Int) ∧ 0 < b56 ∧ isO K.1 b56 20 = true ∧ (0 ≤ (0 : Int) ∧ (0 : Int) < (ln b56 : Int)) ∧ (¬ (M b56 (Int.toNat (0 : Int))) = (0 : Int) → isO K.1 l0 12 = true ∧ ∃ b62 : Nat, (M l0 28) = (b62 : Int) ∧ 0 < b62 ∧ isO K.1 l0 12 = true ∧ ∃ b66 : Nat, (M l0 23) = (b66 : Int) ∧ 0 < b66 ∧ (Nat.ble 30 (tg b66) = true ∧ isO K.1 b66 (tg b66) = true) ∧ (0 ≤ l2 ∧ l2 < (ln b66 : Int)) ∧ ∃ b71 : Nat, (M b66 (Int.toNat l2)) = (b71 : Int) ∧ 0 < b71 ∧ isO K.1 b71 20 = true ∧ (0 ≤ (1 : Int) ∧ (1 : Int) < (ln b71 : Int)) ∧ isO K.1 b62 20 = true ∧ (0 ≤ (M b71 (Int.toNat (1 : Int))) ∧ (M b71 (Int.toNat (1 : Int))) < (ln b62 : Int)) ∧ Wp (d + 1) 188 103 [vR l0, vI l1, vI l2] [vI (M b62 (Int.toNat (M b71 (Int.toNat (1 : Int))))), vI l1, vR b47] M K Q) ∧ (¬ (¬ (M b56 (Int.toNat (0 : Int))) = (0 : Int)) → isO K.1 l0 12 = true ∧ ∃ b79 : Nat, (M l0 23) = (b79 : Int) ∧ 0 < b79 ∧ (Nat.ble 30 (tg b79) = true ∧ isO K.1 b79 (tg b79) = true) ∧ (0 ≤ l2 ∧ l2 < (ln b79 : Int)) ∧ ∃ b84 : Nat, (M b79 (Int.toNat l2)) = (b84 : Int) ∧ 0 < b84 ∧ isO K.1 b84 20 = true ∧ (0 ≤ (1 : Int) ∧ (1 : Int) < (ln b84 : Int)) ∧ Wp (d + 1) 188 103 [vR l0, vI l1, vI l2] [vI (M b84 (Int.toNat (1 : Int))), vI l1, vR b47] M K Q)))) : Wp (d + 1) 188 43 [vR l0, vI l1, vI l2] [] M K Q := by
  refine r_iload_n c188_43 rfl ?_
  refine r_aload_n c188_44 rfl ?_
  obtain ⟨s1, h⟩ := h
  refine r_getI c188_45 s1 ?_
  refine r_icmpP (P := (M l0 21) ≤ l2) c188_48 rfl (fun hc => ?_) (fun hc => ?_)
  · replace h := h.1 hc
    refine r_bipush c188_152 ?_
    refine r_iconst c188_154 ?_
    refine r_aload_n c188_155 rfl ?_
    obtain ⟨s2, h⟩ := h
    obtain ⟨b3, h⟩ := h
    obtain ⟨s4, h⟩ := h
    obtain ⟨s5, h⟩ := h
    refine r_getR c188_156 s2 s4 s5 ?_
    refine r_iconst c188_159 ?_
    obtain ⟨s6, h⟩ := h
    obtain ⟨s7, h⟩ := h
    refine r_ia c188_160 s6 s7 ?_
    exact r_call c188_161 rfl rfl (Nat.le_of_ble_eq_true rfl) (okc_s rfl rfl rfl) h
  · replace h := h.2 hc
    refine r_aload_n c188_51 rfl ?_
    obtain ⟨s8, h⟩ := h
    obtain ⟨b9, h⟩ := h
    obtain ⟨s10, h⟩ := h
    obtain ⟨s11, h⟩ := h
    refine r_getR c188_52 s8 s10 s11 ?_
    refine r_iload_n c188_55 rfl ?_
    obtain ⟨s12, h⟩ := h
    obtain ⟨s13, h⟩ := h
    obtain ⟨b14, h⟩ := h
    obtain ⟨s15, h⟩ := h
    obtain ⟨s16, h⟩ := h
    refine r_aa c188_56 s12 s13 s15 s16 ?_
    refine r_iconst c188_57 ?_
    obtain ⟨s17, h⟩ := h
    obtain ⟨s18, h⟩ := h
    refine r_ia c188_58 s17 s18 ?_
    refine r_iconst c188_59 ?_
    refine r_icmpP (P := (2 : Int) ≤ (M b14 (Int.toNat (0 : Int)))) c188_60 rfl (fun hc => ?_) (fun hc => ?_)
    · replace h := h.1 hc
      refine r_iinc c188_110 rfl ?_
      refine r_aload_n c188_113 rfl ?_
      obtain ⟨s19, h⟩ := h
      obtain ⟨b20, h⟩ := h
      obtain ⟨s21, h⟩ := h
      obtain ⟨s22, h⟩ := h
      refine r_getR c188_114 s19 s21 s22 ?_
      refine r_iload_n c188_117 rfl ?_
      refine r_iconst c188_118 ?_
      refine r_isub c188_119 ?_
      refine r_aload_n c188_120 rfl ?_
      obtain ⟨s23, h⟩ := h
      obtain ⟨b24, h⟩ := h
      obtain ⟨s25, h⟩ := h
      obtain ⟨s26, h⟩ := h
      refine r_getR c188_121 s23 s25 s26 ?_
      refine r_iload_n c188_124 rfl ?_
      obtain ⟨s27, h⟩ := h
      obtain ⟨s28, h⟩ := h
      obtain ⟨b29, h⟩ := h
      obtain ⟨s30, h⟩ := h
      obtain ⟨s31, h⟩ := h
      refine r_aa c188_125 s27 s28 s30 s31 ?_
      refine r_iconst c188_126 ?_
      obtain ⟨s32, h⟩ := h
      obtain ⟨s33, h⟩ := h
      refine r_ia c188_127 s32 s33 ?_
      refine r_aload_n c188_128 rfl ?_
      obtain ⟨s34, h⟩ := h
      obtain ⟨b35, h⟩ := h
      obtain ⟨s36, h⟩ := h
      obtain ⟨s37, h⟩ := h
      refine r_getR c188_129 s34 s36 s37 ?_
      refine r_iload_n c188_132 rfl ?_
      refine r_iconst c188_133 ?_
      refine r_isub c188_134 ?_
      obtain ⟨s38, h⟩ := h
      obtain ⟨s39, h⟩ := h
      refine r_ia c188_135 s38 s39 ?_
      refine r_aload_n c188_136 rfl ?_
      obtain ⟨s40, h⟩ := h
      obtain ⟨b41, h⟩ := h
      obtain ⟨s42, h⟩ := h
      obtain ⟨s43, h⟩ := h
      refine r_getR c188_137 s40 s42 s43 ?_
      refine r_iload_n c188_140 rfl ?_
      obtain ⟨s44, h⟩ := h
      obtain ⟨s45, h⟩ := h
      refine r_ia c188_141 s44 s45 ?_
      exact r_call c188_142 rfl rfl (Nat.le_of_ble_eq_true rfl) (okc_s rfl rfl rfl) h
    · replace h := h.2 hc
      refine r_aload_n c188_63 rfl ?_
      obtain ⟨s46, h⟩ := h
      obtain ⟨b47, h⟩ := h
      obtain ⟨s48, h⟩ := h
      obtain ⟨s49, h⟩ := h
      refine r_getR c188_64 s46 s48 s49 ?_
      refine r_iload_n c188_67 rfl ?_
      refine r_aload_n c188_68 rfl ?_
      obtain ⟨s50, h⟩ := h
      obtain ⟨b51, h⟩ := h
      obtain ⟨s52, h⟩ := h
      obtain ⟨s53, h⟩ := h
      refine r_getR c188_69 s50 s52 s53 ?_
      refine r_iload_n c188_72 rfl ?_
      obtain ⟨s54, h⟩ := h
      obtain ⟨s55, h⟩ := h
      obtain ⟨b56, h⟩ := h
      obtain ⟨s57, h⟩ := h
      obtain ⟨s58, h⟩ := h
      refine r_aa c188_73 s54 s55 s57 s58 ?_
      refine r_iconst c188_74 ?_
      obtain ⟨s59, h⟩ := h
      obtain ⟨s60, h⟩ := h
      refine r_ia c188_75 s59 s60 ?_
      refine r_ifP (P := ¬ (M b56 (Int.toNat (0 : Int))) = (0 : Int)) c188_76 rfl (fun hc => ?_) (fun hc => ?_)
      · replace h := h.1 hc
        refine r_aload_n c188_90 rfl ?_
        obtain ⟨s61, h⟩ := h
        obtain ⟨b62, h⟩ := h
        obtain ⟨s63, h⟩ := h
        obtain ⟨s64, h⟩ := h
        refine r_getR c188_91 s61 s63 s64 ?_
        refine r_aload_n c188_94 rfl ?_
        obtain ⟨s65, h⟩ := h
        obtain ⟨b66, h⟩ := h
        obtain ⟨s67, h⟩ := h
        obtain ⟨s68, h⟩ := h
        refine r_getR c188_95 s65 s67 s68 ?_
        refine r_iload_n c188_98 rfl ?_
        obtain ⟨s69, h⟩ := h
        obtain ⟨s70, h⟩ := h
        obtain ⟨b71, h⟩ := h
        obtain ⟨s72, h⟩ := h
        obtain ⟨s73, h⟩ := h
        refine r_aa c188_99 s69 s70 s72 s73 ?_
        refine r_iconst c188_100 ?_
        obtain ⟨s74, h⟩ := h
        obtain ⟨s75, h⟩ := h
        refine r_ia c188_101 s74 s75 ?_
        obtain ⟨s76, h⟩ := h
        obtain ⟨s77, h⟩ := h
        refine r_ia c188_102 s76 s77 ?_
        exact h
      · replace h := h.2 hc
        refine r_aload_n c188_79 rfl ?_
        obtain ⟨s78, h⟩ := h
        obtain ⟨b79, h⟩ := h
        obtain ⟨s80, h⟩ := h
        obtain ⟨s81, h⟩ := h
        refine r_getR c188_80 s78 s80 s81 ?_
        refine r_iload_n c188_83 rfl ?_
        obtain ⟨s82, h⟩ := h
        obtain ⟨s83, h⟩ := h
        obtain ⟨b84, h⟩ := h
        obtain ⟨s85, h⟩ := h
        obtain ⟨s86, h⟩ := h
        refine r_aa c188_84 s82 s83 s85 s86 ?_
        refine r_iconst c188_85 ?_
        obtain ⟨s87, h⟩ := h
        obtain ⟨s88, h⟩ := h
        refine r_ia c188_86 s87 s88 ?_
        refine r_goto c188_87 ?_
        exact h
theorem t188_103 {d : Nat} {l0 : Nat} {l1 : Int} {l2 : Int} {t0 : Nat} {t1 : Int} {t2 : Int} {M : Mem} {K : KK} {Q : RR → Mem → KK → Prop} (h : isO K.1 t0 20 = true ∧ (0 ≤ t1 ∧ t1 < (ln t0 : Int)) ∧ Wp d 188 146 [vR l0, vI (w32 (l1 + 1)), vI l2] [] (mset M t0 (Int.toNat t1) t2) K Q) : Wp d 188 103 [vR l0, vI l1, vI l2] [vI t2, vI t1, vR t0] M K Q := by
  obtain ⟨s1, h⟩ := h
  obtain ⟨s2, h⟩ := h
  refine r_ias c188_103 s1 s2 ?_
  refine r_iinc c188_104 rfl ?_
  refine r_goto c188_107 ?_
  exact h
theorem t188_145 {d : Nat} {l0 : Nat} {l1 : Int} {l2 : Int} {t0 : Nat} {t1 : Int} {t2 : Int} {M : Mem} {K : KK} {Q : RR → Mem → KK → Prop} (h : isO K.1 t0 20 = true ∧ (0 ≤ t1 ∧ t1 < (ln t0 : Int)) ∧ Wp d 188 146 [vR l0, vI l1, vI l2] [] (mset M t0 (Int.toNat t1) t2) K Q) : Wp d 188 145 [vR l0, vI l1, vI l2] [vI t2, vI t1, vR t0] M K Q := by
  obtain ⟨s1, h⟩ := h
  obtain ⟨s2, h⟩ := h
  refine r_ias c188_145 s1 s2 ?_
  exact h
theorem t188_146 {d : Nat} {l0 : Nat} {l1 : Int} {l2 : Int} {M : Mem} {K : KK} {Q : RR → Mem → KK → Prop} (h : Wp d 188 43 [vR l0, vI l1, vI (w32 (l2 + 1))] [] M K Q) : Wp d 188 146 [vR l0, vI l1, vI l2] [] M K Q := by
  refine r_iinc c188_146 rfl ?_
  refine r_goto c188_149 ?_
  exact h
theorem t188_164 {d : Nat} {l0 : Nat} {l1 : Int} {l2 : Int} {t0 : Int} {t1 : Int} {M : Mem} {K : KK} {Q : RR → Mem → KK → Prop} (h : Wm d 154 [vI t0, vI t1] M K (Bk d 188 164 167 154 [vR l0, vI l1, vI l2] [] Q)) : Wp (d + 1) 188 164 [vR l0, vI l1, vI l2] [vI t1, vI t0] M K Q := by
  exact r_call c188_164 rfl rfl (Nat.le_of_ble_eq_true rfl) (okc_s rfl rfl rfl) h
theorem t188_167 {d : Nat} {l0 : Nat} {l1 : Int} {l2 : Int} {t0 : Int} {M : Mem} {K : KK} {Q : RR → Mem → KK → Prop} (h : Q (.inl (some (vI t0))) M K) : Wp d 188 167 [vR l0, vI l1, vI l2] [vI t0] M K Q := by
  exact r_iret c188_167 (Or.inl rfl) h
theorem t189_0 {d : Nat} {l0 : Nat} {M : Mem} {K : KK} {Q : RR → Mem → KK → Prop} (h : isO K.1 l0 12 = true ∧ Wm d 166 [vR l0, vI (12 : Int), vI (1 : Int), vI (25 : Int), vI (0 : Int), vI (0 : Int), vI (0 : Int)] M K (Bk d 189 9 12 166 [vR l0] [] Q)) : Wp (d + 1) 189 0 [vR l0] [] M K Q := by
  refine r_aload_n c189_0 rfl ?_
  refine r_bipush c189_1 ?_
  refine r_iconst c189_3 ?_
  refine r_bipush c189_4 ?_
  refine r_iconst c189_6 ?_
  refine r_iconst c189_7 ?_
  refine r_iconst c189_8 ?_
  obtain ⟨s1, h⟩ := h
  exact r_call c189_9 rfl rfl (Nat.le_of_ble_eq_true rfl) (okc_r rfl rfl s1) h
theorem t189_12 {d : Nat} {l0 : Nat} {t0 : Int} {M : Mem} {K : KK} {Q : RR → Mem → KK → Prop} (h : (t0 = (0 : Int) → isO K.1 l0 12 = true ∧ Wm d 166 [vR l0, vI (6 : Int), vI (15 : Int), vI (12 : Int), vI (4 : Int), vI (0 : Int), vI (0 : Int)] M K (Bk d 189 27 30 166 [vR l0] [] Q)) ∧ (¬ (t0 = (0 : Int)) → Q (.inl (some (vI (0 : Int)))) M K)) : Wp (d + 1) 189 12 [vR l0] [vI t0] M K Q := by
  refine r_ifP (P := t0 = (0 : Int)) c189_12 rfl (fun hc => ?_) (fun hc => ?_)
  · replace h := h.1 hc
    refine r_aload_n c189_17 rfl ?_
    refine r_bipush c189_18 ?_
    refine r_bipush c189_20 ?_
    refine r_bipush c189_22 ?_
    refine r_iconst c189_24 ?_
    refine r_iconst c189_25 ?_
    refine r_iconst c189_26 ?_
    obtain ⟨s1, h⟩ := h
    exact r_call c189_27 rfl rfl (Nat.le_of_ble_eq_true rfl) (okc_r rfl rfl s1) h
  · replace h := h.2 hc
    refine r_iconst c189_15 ?_
    exact r_iret c189_16 (Or.inl rfl) h
theorem t189_30 {d : Nat} {l0 : Nat} {t0 : Int} {M : Mem} {K : KK} {Q : RR → Mem → KK → Prop} (h : (t0 = (0 : Int) → isO K.1 l0 12 = true ∧ Wm d 166 [vR l0, vI (23 : Int), vI (5 : Int), vI (20 : Int), vI (0 : Int), vI (0 : Int), vI (0 : Int)] M K (Bk d 189 44 47 166 [vR l0] [] Q)) ∧ (¬ (t0 = (0 : Int)) → Q (.inl (some (vI (1 : Int)))) M K)) : Wp (d + 1) 189 30 [vR l0] [vI t0] M K Q := by
  refine r_ifP (P := t0 = (0 : Int)) c189_30 rfl (fun hc => ?_) (fun hc => ?_)
  · replace h := h.1 hc
    refine r_aload_n c189_35 rfl ?_
    refine r_bipush c189_36 ?_
    refine r_iconst c189_38 ?_
    refine r_bipush c189_39 ?_
    refine r_iconst c189_41 ?_
    refine r_iconst c189_42 ?_
    refine r_iconst c189_43 ?_
    obtain ⟨s1, h⟩ := h
    exact r_call c189_44 rfl rfl (Nat.le_of_ble_eq_true rfl) (okc_r rfl rfl s1) h
  · replace h := h.2 hc
    refine r_iconst c189_33 ?_
    exact r_iret c189_34 (Or.inl rfl) h
theorem t189_47 {d : Nat} {l0 : Nat} {t0 : Int} {M : Mem} {K : KK} {Q : RR → Mem → KK → Prop} (h : (t0 = (0 : Int) → isO K.1 l0 12 = true ∧ Wm d 166 [vR l0, vI (13 : Int), vI (9 : Int), vI (12 : Int), vI (11 : Int), vI (0 : Int), vI (0 : Int)] M K (Bk d 189 63 66 166 [vR l0] [] Q)) ∧ (¬ (t0 = (0 : Int)) → Q (.inl (some (vI (2 : Int)))) M K)) : Wp (d + 1) 189 47 [vR l0] [vI t0] M K Q := by
  refine r_ifP (P := t0 = (0 : Int)) c189_47 rfl (fun hc => ?_) (fun hc => ?_)
  · replace h := h.1 hc
    refine r_aload_n c189_52 rfl ?_
    refine r_bipush c189_53 ?_
    refine r_bipush c189_55 ?_
    refine r_bipush c189_57 ?_
    refine r_bipush c189_59 ?_
    refine r_iconst c189_61 ?_
    refine r_iconst c189_62 ?_
    obtain ⟨s1, h⟩ := h
    exact r_call c189_63 rfl rfl (Nat.le_of_ble_eq_true rfl) (okc_r rfl rfl s1) h
  · replace h := h.2 hc
    refine r_iconst c189_50 ?_
    exact r_iret c189_51 (Or.inl rfl) h
theorem t189_66 {d : Nat} {l0 : Nat} {t0 : Int} {M : Mem} {K : KK} {Q : RR → Mem → KK → Prop} (h : (t0 = (0 : Int) → isO K.1 l0 12 = true ∧ Wm d 166 [vR l0, vI (13 : Int), vI (15 : Int), vI (12 : Int), vI (5 : Int), vI (0 : Int), vI (0 : Int)] M K (Bk d 189 81 84 166 [vR l0] [] Q)) ∧ (¬ (t0 = (0 : Int)) → Q (.inl (some (vI (3 : Int)))) M K)) : Wp (d + 1) 189 66 [vR l0] [vI t0] M K Q := by
  refine r_ifP (P := t0 = (0 : Int)) c189_66 rfl (fun hc => ?_) (fun hc => ?_)
  · replace h := h.1 hc
    refine r_aload_n c189_71 rfl ?_
    refine r_bipush c189_72 ?_
    refine r_bipush c189_74 ?_
    refine r_bipush c189_76 ?_
    refine r_iconst c189_78 ?_
    refine r_iconst c189_79 ?_
    refine r_iconst c189_80 ?_
    obtain ⟨s1, h⟩ := h
    exact r_call c189_81 rfl rfl (Nat.le_of_ble_eq_true rfl) (okc_r rfl rfl s1) h
  · replace h := h.2 hc
    refine r_iconst c189_69 ?_
    exact r_iret c189_70 (Or.inl rfl) h
theorem t189_84 {d : Nat} {l0 : Nat} {t0 : Int} {M : Mem} {K : KK} {Q : RR → Mem → KK → Prop} (h : (t0 = (0 : Int) → isO K.1 l0 12 = true ∧ Wm d 166 [vR l0, vI (4 : Int), vI (1 : Int), vI (25 : Int), vI (0 : Int), vI (0 : Int), vI (0 : Int)] M K (Bk d 189 97 100 166 [vR l0] [] Q)) ∧ (¬ (t0 = (0 : Int)) → Q (.inl (some (vI (4 : Int)))) M K)) : Wp (d + 1) 189 84 [vR l0] [vI t0] M K Q := by
  refine r_ifP (P := t0 = (0 : Int)) c189_84 rfl (fun hc => ?_) (fun hc => ?_)
  · replace h := h.1 hc
    refine r_aload_n c189_89 rfl ?_
    refine r_iconst c189_90 ?_
    refine r_iconst c189_91 ?_
    refine r_bipush c189_92 ?_
    refine r_iconst c189_94 ?_
    refine r_iconst c189_95 ?_
    refine r_iconst c189_96 ?_
    obtain ⟨s1, h⟩ := h
    exact r_call c189_97 rfl rfl (Nat.le_of_ble_eq_true rfl) (okc_r rfl rfl s1) h
  · replace h := h.2 hc
    refine r_iconst c189_87 ?_
    exact r_iret c189_88 (Or.inl rfl) h
theorem t189_100 {d : Nat} {l0 : Nat} {t0 : Int} {M : Mem} {K : KK} {Q : RR → Mem → KK → Prop} (h : (t0 = (0 : Int) → isO K.1 l0 12 = true ∧ Wm d 166 [vR l0, vI (1 : Int), vI (7 : Int), vI (1 : Int), vI (9 : Int), vI (14 : Int), vI (0 : Int)] M K (Bk d 189 115 118 166 [vR l0] [] Q)) ∧ (¬ (t0 = (0 : Int)) → Q (.inl (some (vI (5 : Int)))) M K)) : Wp (d + 1) 189 100 [vR l0] [vI t0] M K Q := by
  refine r_ifP (P := t0 = (0 : Int)) c189_100 rfl (fun hc => ?_) (fun hc => ?_)
  · replace h := h.1 hc
    refine r_aload_n c189_105 rfl ?_
    refine r_iconst c189_106 ?_
    refine r_bipush c189_107 ?_
    refine r_iconst c189_109 ?_
    refine r_bipush c189_110 ?_
    refine r_bipush c189_112 ?_
    refine r_iconst c189_114 ?_
    obtain ⟨s1, h⟩ := h
    exact r_call c189_115 rfl rfl (Nat.le_of_ble_eq_true rfl) (okc_r rfl rfl s1) h
  · replace h := h.2 hc
    refine r_iconst c189_103 ?_
    exact r_iret c189_104 (Or.inl rfl) h
theorem t189_118 {d : Nat} {l0 : Nat} {t0 : Int} {M : Mem} {K : KK} {Q : RR → Mem → KK → Prop} (h : (t0 = (0 : Int) → Wp d 189 127 [vR l0] [vI (-1 : Int)] M K Q) ∧ (¬ (t0 = (0 : Int)) → Wp d 189 127 [vR l0] [vI (6 : Int)] M K Q)) : Wp d 189 118 [vR l0] [vI t0] M K Q := by
  refine r_ifP (P := t0 = (0 : Int)) c189_118 rfl (fun hc => ?_) (fun hc => ?_)
  · replace h := h.1 hc
    refine r_iconst c189_126 ?_
    exact h
  · replace h := h.2 hc
    refine r_bipush c189_121 ?_
    refine r_goto c189_123 ?_
    exact h
theorem t189_127 {d : Nat} {l0 : Nat} {t0 : Int} {M : Mem} {K : KK} {Q : RR → Mem → KK → Prop} (h : Q (.inl (some (vI t0))) M K) : Wp d 189 127 [vR l0] [vI t0] M K Q := by
  exact r_iret c189_127 (Or.inl rfl) h
theorem t190_0 {d : Nat} {l0 : Nat} {M : Mem} {K : KK} {Q : RR → Mem → KK → Prop} (h : isO K.1 l0 12 = true ∧ Wm d 189 [vR l0] M K (Bk d 190 1 4 189 [vR l0, vU, vU] [] Q)) : Wp (d + 1) 190 0 [vR l0, vU, vU] [] M K Q := by
  refine r_aload_n c190_0 rfl ?_
  obtain ⟨s1, h⟩ := h
  exact r_call c190_1 rfl rfl (Nat.le_of_ble_eq_true rfl) (okc_r rfl rfl s1) h
theorem t190_4 {d : Nat} {l0 : Nat} {t0 : Int} {M : Mem} {K : KK} {Q : RR → Mem → KK → Prop} (h : (¬ t0 = (-1 : Int) → Wp (d + 1) 190 19 [vR l0, vI t0, vU] [] M K Q) ∧ (¬ (¬ t0 = (-1 : Int)) → isO K.1 l0 12 = true ∧ isO K.1 l0 12 = true ∧ Wm d 160 [vR l0, vI (1 : Int), vI (M l0 4)] M K (Bk d 190 16 19 160 [vR l0, vI t0, vU] [] Q))) : Wp (d + 1) 190 4 [vR l0, vU, vU] [vI t0] M K Q := by
  refine r_istore_n c190_4 (Nat.le_of_ble_eq_true rfl) ?_
  refine r_iload_n c190_5 rfl ?_
  refine r_iconst c190_6 ?_
  refine r_icmpP (P := ¬ t0 = (-1 : Int)) c190_7 rfl (fun hc => ?_) (fun hc => ?_)
  · replace h := h.1 hc
    exact h
  · replace h := h.2 hc
    refine r_aload_n c190_10 rfl ?_
    refine r_iconst c190_11 ?_
    refine r_aload_n c190_12 rfl ?_
    obtain ⟨s1, h⟩ := h
    refine r_getI c190_13 s1 ?_
    obtain ⟨s2, h⟩ := h
    exact r_call c190_16 rfl rfl (Nat.le_of_ble_eq_true rfl) (okc_r rfl rfl s2) h
theorem t190_19 {d : Nat} {l0 : Nat} {l1 : Int} {M : Mem} {K : KK} {Q : RR → Mem → KK → Prop} (h : (¬ l1 = (6 : Int) → Wp (d + 1) 190 33 [vR l0, vI l1, vU] [] M K Q) ∧ (¬ (¬ l1 = (6 : Int)) → isO K.1 l0 12 = true ∧ Wm d 181 [vR l0] M K (Bk d 190 26 29 181 [vR l0, vI l1, vU] [] Q))) : Wp (d + 1) 190 19 [vR l0, vI l1, vU] [] M K Q := by
  refine r_iload_n c190_19 rfl ?_
  refine r_bipush c190_20 ?_
  refine r_icmpP (P := ¬ l1 = (6 : Int)) c190_22 rfl (fun hc => ?_) (fun hc => ?_)
  · replace h := h.1 hc
    exact h
  · replace h := h.2 hc
    refine r_aload_n c190_25 rfl ?_
    obtain ⟨s1, h⟩ := h
    exact r_call c190_26 rfl rfl (Nat.le_of_ble_eq_true rfl) (okc_r rfl rfl s1) h
theorem t190_29 {d : Nat} {l0 : Nat} {l1 : Int} {t0 : Int} {M : Mem} {K : KK} {Q : RR → Mem → KK → Prop} (h : (¬ t0 = (0 : Int) → Wp d 190 33 [vR l0, vI l1, vU] [] M K Q) ∧ (¬ (¬ t0 = (0 : Int)) → Q (.inl none) M K)) : Wp d 190 29 [vR l0, vI l1, vU] [vI t0] M K Q := by
  refine r_ifP (P := ¬ t0 = (0 : Int)) c190_29 rfl (fun hc => ?_) (fun hc => ?_)
  · replace h := h.1 hc
    exact h
  · replace h := h.2 hc
    exact r_ret c190_32 h
theorem t190_33 {d : Nat} {l0 : Nat} {l1 : Int} {M : Mem} {K : KK} {Q : RR → Mem → KK → Prop} (h : isO K.1 l0 12 = true ∧ ((M l0 5) = (0 : Int) → isO K.1 l0 12 = true ∧ Wm d 167 [vR l0] M K (Bk d 190 42 45 167 [vR l0, vI l1, vU] [] Q)) ∧ (¬ ((M l0 5) = (0 : Int)) → Q (.inl none) M K)) : Wp (d + 1) 190 33 [vR l0, vI l1, vU] [] M K Q := by
  refine r_aload_n c190_33 rfl ?_
  obtain ⟨s1, h⟩ := h
  refine r_getI c190_34 s1 ?_
  refine r_ifP (P := (M l0 5) = (0 : Int)) c190_37 rfl (fun hc => ?_) (fun hc => ?_)
  · replace h := h.1 hc
    refine r_aload_n c190_41 rfl ?_
    obtain ⟨s2, h⟩ := h
    exact r_call c190_42 rfl rfl (Nat.le_of_ble_eq_true rfl) (okc_r rfl rfl s2) h
  · replace h := h.2 hc
    exact r_ret c190_40 h
theorem t190_45 {d : Nat} {l0 : Nat} {l1 : Int} {M : Mem} {K : KK} {Q : RR → Mem → KK → Prop} (h : isO K.1 l0 12 = true ∧ ∃ b2 : Nat, (M l0 29) = (b2 : Int) ∧ 0 < b2 ∧ isO K.1 l0 12 = true ∧ (Nat.ble 30 (tg b2) = true ∧ isO K.1 b2 (tg b2) = true) ∧ (0 ≤ (M l0 30) ∧ (M l0 30) < (ln b2 : Int)) ∧ ∃ b8 : Nat, (M b2 (Int.toNat (M l0 30))) = (b8 : Int) ∧ 0 < b8 ∧ isO K.1 l0 12 = true ∧ isO K.1 l0 12 = true ∧ isO K.1 b8 20 = true ∧ (0 ≤ (0 : Int) ∧ (0 : Int) < (ln b8 : Int)) ∧ ((4 : Int) ≤ l1 → Wp (d + 1) 190 90 [vR l0, vI l1, vR b8] [] (mset (mset M l0 30 (w32 ((M l0 30) + (1 : Int)))) b8 (Int.toNat (0 : Int)) l1) K Q) ∧ (¬ ((4 : Int) ≤ l1) → isO K.1 l0 12 = true ∧ ∃ b16 : Nat, ((mset (mset M l0 30 (w32 ((M l0 30) + (1 : Int)))) b8 (Int.toNat (0 : Int)) l1) l0 12) = (b16 : Int) ∧ 0 < b16 ∧ isO K.1 b16 20 = true ∧ (0 ≤ (1 : Int) ∧ (1 : Int) < (ln b16 : Int)) ∧ isO K.1 l0 12 = true ∧ Wm d 163 [vR l0, vI (0 : Int), vI (w32 (((mset (mset M l0 30 (w32 ((M l0 30) + (1 : Int)))) b8 (Int.toNat (0 : Int)) l1) b16 (Int.toNat (1 : Int))) - (1 : Int)))] (mset (mset M l0 30 (w32 ((M l0 30) + (1 : Int)))) b8 (Int.toNat (0 : Int)) l1) K (Bk d 190 86 89 163 [vR l0, vI l1, vR b8] [vI (1 : Int), vR b8] Q))) : Wp (d + 1) 190 45 [vR l0, vI l1, vU] [] M K Q := by
  refine r_aload_n c190_45 rfl ?_
  obtain ⟨s1, h⟩ := h
  obtain ⟨b2, h⟩ := h
  obtain ⟨s3, h⟩ := h
  obtain ⟨s4, h⟩ := h
  refine r_getR c190_46 s1 s3 s4 ?_
  refine r_aload_n c190_49 rfl ?_
  obtain ⟨s5, h⟩ := h
  refine r_getI c190_50 s5 ?_
  obtain ⟨s6, h⟩ := h
  obtain ⟨s7, h⟩ := h
  obtain ⟨b8, h⟩ := h
  obtain ⟨s9, h⟩ := h
  obtain ⟨s10, h⟩ := h
  refine r_aa c190_53 s6 s7 s9 s10 ?_
  refine r_astore_n c190_54 (Nat.le_of_ble_eq_true rfl) ?_
  refine r_aload_n c190_55 rfl ?_
  refine r_dupr c190_56 ?_
  obtain ⟨s11, h⟩ := h
  refine r_getI c190_57 s11 ?_
  refine r_iconst c190_60 ?_
  refine r_iadd c190_61 ?_
  obtain ⟨s12, h⟩ := h
  refine r_putI c190_62 s12 ?_
  refine r_aload_n c190_65 rfl ?_
  refine r_iconst c190_66 ?_
  refine r_iload_n c190_67 rfl ?_
  obtain ⟨s13, h⟩ := h
  obtain ⟨s14, h⟩ := h
  refine r_ias c190_68 s13 s14 ?_
  refine r_iload_n c190_69 rfl ?_
  refine r_iconst c190_70 ?_
  refine r_icmpP (P := (4 : Int) ≤ l1) c190_71 rfl (fun hc => ?_) (fun hc => ?_)
  · replace h := h.1 hc
    exact h
  · replace h := h.2 hc
    refine r_aload_n c190_74 rfl ?_
    refine r_iconst c190_75 ?_
    refine r_aload_n c190_76 rfl ?_
    refine r_iconst c190_77 ?_
    refine r_aload_n c190_78 rfl ?_
    obtain ⟨s15, h⟩ := h
    obtain ⟨b16, h⟩ := h
    obtain ⟨s17, h⟩ := h
    obtain ⟨s18, h⟩ := h
    refine r_getR c190_79 s15 s17 s18 ?_
    refine r_iconst c190_82 ?_
    obtain ⟨s19, h⟩ := h
    obtain ⟨s20, h⟩ := h
    refine r_ia c190_83 s19 s20 ?_
    refine r_iconst c190_84 ?_
    refine r_isub c190_85 ?_
    obtain ⟨s21, h⟩ := h
    exact r_call c190_86 rfl rfl (Nat.le_of_ble_eq_true rfl) (okc_r rfl rfl s21) h
theorem t190_89 {d : Nat} {l0 : Nat} {l1 : Int} {l2 : Nat} {t0 : Nat} {t1 : Int} {t2 : Int} {M : Mem} {K : KK} {Q : RR → Mem → KK → Prop} (h : isO K.1 t0 20 = true ∧ (0 ≤ t1 ∧ t1 < (ln t0 : Int)) ∧ Wp d 190 90 [vR l0, vI l1, vR l2] [] (mset M t0 (Int.toNat t1) t2) K Q) : Wp d 190 89 [vR l0, vI l1, vR l2] [vI t2, vI t1, vR t0] M K Q := by
  obtain ⟨s1, h⟩ := h
  obtain ⟨s2, h⟩ := h
  refine r_ias c190_89 s1 s2 ?_
  exact h
theorem t190_90 {d : Nat} {l0 : Nat} {l1 : Int} {l2 : Nat} {M : Mem} {K : KK} {Q : RR → Mem → KK → Prop} (h : (l1 = (0 : Int) → Wp d 190 99 [vR l0, vI l1, vR l2] [] M K Q) ∧ (¬ (l1 = (0 : Int)) → (¬ l1 = (4 : Int) → Wp d 190 115 [vR l0, vI l1, vR l2] [] M K Q) ∧ (¬ (¬ l1 = (4 : Int)) → Wp d 190 99 [vR l0, vI l1, vR l2] [] M K Q))) : Wp d 190 90 [vR l0, vI l1, vR l2] [] M K Q := by
  refine r_iload_n c190_90 rfl ?_
  refine r_ifP (P := l1 = (0 : Int)) c190_91 rfl (fun hc => ?_) (fun hc => ?_)
  · replace h := h.1 hc
    exact h
  · replace h := h.2 hc
    refine r_iload_n c190_94 rfl ?_
    refine r_iconst c190_95 ?_
    refine r_icmpP (P := ¬ l1 = (4 : Int)) c190_96 rfl (fun hc => ?_) (fun hc => ?_)
    · replace h := h.1 hc
      exact h
    · replace h := h.2 hc
      exact h
theorem t190_99 {d : Nat} {l0 : Nat} {l1 : Int} {l2 : Nat} {M : Mem} {K : KK} {Q : RR → Mem → KK → Prop} (h : isO K.1 l0 12 = true ∧ ∃ b2 : Nat, (M l0 12) = (b2 : Int) ∧ 0 < b2 ∧ isO K.1 b2 20 = true ∧ (0 ≤ (0 : Int) ∧ (0 : Int) < (ln b2 : Int)) ∧ isO K.1 l0 12 = true ∧ Wm d 163 [vR l0, vI (0 : Int), vI (w32 ((M b2 (Int.toNat (0 : Int))) - (1 : Int)))] M K (Bk d 190 111 114 163 [vR l0, vI l1, vR l2] [vI (2 : Int), vR l2] Q)) : Wp (d + 1) 190 99 [vR l0, vI l1, vR l2] [] M K Q := by
  refine r_aload_n c190_99 rfl ?_
  refine r_iconst c190_100 ?_
  refine r_aload_n c190_101 rfl ?_
  refine r_iconst c190_102 ?_
  refine r_aload_n c190_103 rfl ?_
  obtain ⟨s1, h⟩ := h
  obtain ⟨b2, h⟩ := h
  obtain ⟨s3, h⟩ := h
  obtain ⟨s4, h⟩ := h
  refine r_getR c190_104 s1 s3 s4 ?_
  refine r_iconst c190_107 ?_
  obtain ⟨s5, h⟩ := h
  obtain ⟨s6, h⟩ := h
  refine r_ia c190_108 s5 s6 ?_
  refine r_iconst c190_109 ?_
  refine r_isub c190_110 ?_
  obtain ⟨s7, h⟩ := h
  exact r_call c190_111 rfl rfl (Nat.le_of_ble_eq_true rfl) (okc_r rfl rfl s7) h
theorem t190_114 {d : Nat} {l0 : Nat} {l1 : Int} {l2 : Nat} {t0 : Nat} {t1 : Int} {t2 : Int} {M : Mem} {K : KK} {Q : RR → Mem → KK → Prop} (h : isO K.1 t0 20 = true ∧ (0 ≤ t1 ∧ t1 < (ln t0 : Int)) ∧ Wp d 190 115 [vR l0, vI l1, vR l2] [] (mset M t0 (Int.toNat t1) t2) K Q) : Wp d 190 114 [vR l0, vI l1, vR l2] [vI t2, vI t1, vR t0] M K Q := by
  obtain ⟨s1, h⟩ := h
  obtain ⟨s2, h⟩ := h
  refine r_ias c190_114 s1 s2 ?_
  exact h
theorem t190_115 {d : Nat} {l0 : Nat} {l1 : Int} {l2 : Nat} {M : Mem} {K : KK} {Q : RR → Mem → KK → Prop} (h : (¬ l1 = (6 : Int) → Wp (d + 1) 190 188 [vR l0, vI l1, vR l2] [] M K Q) ∧ (¬ (¬ l1 = (6 : Int)) → isO K.1 l0 12 = true ∧ Wm d 163 [vR l0, vI (0 : Int), vI (30 : Int)] M K (Bk d 190 127 130 163 [vR l0, vI l1, vR l2] [vI (1 : Int), vR l2] Q))) : Wp (d + 1) 190 115 [vR l0, vI l1, vR l2] [] M K Q := by
  refine r_iload_n c190_115 rfl ?_
  refine r_bipush c190_116 ?_
  refine r_icmpP (P := ¬ l1 = (6 : Int)) c190_118 rfl (fun hc => ?_) (fun hc => ?_)
  · replace h := h.1 hc
    exact h
  · replace h := h.2 hc
    refine r_aload_n c190_121 rfl ?_
    refine r_iconst c190_122 ?_
    refine r_aload_n c190_123 rfl ?_
    refine r_iconst c190_124 ?_
    refine r_bipush c190_125 ?_
    obtain ⟨s1, h⟩ := h
    exact r_call c190_127 rfl rfl (Nat.le_of_ble_eq_true rfl) (okc_r rfl rfl s1) h
theorem t190_130 {d : Nat} {l0 : Nat} {l1 : Int} {l2 : Nat} {t0 : Nat} {t1 : Int} {t2 : Int} {M : Mem} {K : KK} {Q : RR → Mem → KK → Prop} (h : isO K.1 t0 20 = true ∧ (0 ≤ t1 ∧ t1 < (ln t0 : Int)) ∧ isO K.1 l0 12 = true ∧ Wm d 169 [vR l0, vI (91 : Int)] (mset M t0 (Int.toNat t1) t2) K (Bk d 190 134 137 169 [vR l0, vI l1, vR l2] [] Q)) : Wp (d + 1) 190 130 [vR l0, vI l1, vR l2] [vI t2, vI t1, vR t0] M K Q := by
  obtain ⟨s1, h⟩ := h
  obtain ⟨s2, h⟩ := h
  refine r_ias c190_130 s1 s2 ?_
  refine r_aload_n c190_131 rfl ?_
  refine r_bipush c190_132 ?_
  obtain ⟨s3, h⟩ := h
  exact r_call c190_134 rfl rfl (Nat.le_of_ble_eq_true rfl) (okc_r rfl rfl s3) h
theorem t190_137 {d : Nat} {l0 : Nat} {l1 : Int} {l2 : Nat} {M : Mem} {K : KK} {Q : RR → Mem → KK → Prop} (h : isO K.1 l0 12 = true ∧ Wm d 159 [vR l0] M K (Bk d 190 138 141 159 [vR l0, vI l1, vR l2] [] Q)) : Wp (d + 1) 190 137 [vR l0, vI l1, vR l2] [] M K Q := by
  refine r_aload_n c190_137 rfl ?_
  obtain ⟨s1, h⟩ := h
  exact r_call c190_138 rfl rfl (Nat.le_of_ble_eq_true rfl) (okc_r rfl rfl s1) h
theorem t190_141 {d : Nat} {l0 : Nat} {l1 : Int} {l2 : Nat} {M : Mem} {K : KK} {Q : RR → Mem → KK → Prop} (h : isO K.1 l0 12 = true ∧ (¬ (M l0 5) = (0 : Int) → Wp (d + 1) 190 172 [vR l0, vI l1, vR l2] [] M K Q) ∧ (¬ (¬ (M l0 5) = (0 : Int)) → isO K.1 l0 12 = true ∧ isO K.1 l0 12 = true ∧ Wm d 158 [vR l0, vI (M l0 4)] M K (Bk d 190 153 156 158 [vR l0, vI l1, vR l2] [] Q))) : Wp (d + 1) 190 141 [vR l0, vI l1, vR l2] [] M K Q := by
  refine r_aload_n c190_141 rfl ?_
  obtain ⟨s1, h⟩ := h
  refine r_getI c190_142 s1 ?_
  refine r_ifP (P := ¬ (M l0 5) = (0 : Int)) c190_145 rfl (fun hc => ?_) (fun hc => ?_)
  · replace h := h.1 hc
    exact h
  · replace h := h.2 hc
    refine r_aload_n c190_148 rfl ?_
    refine r_aload_n c190_149 rfl ?_
    obtain ⟨s2, h⟩ := h
    refine r_getI c190_150 s2 ?_
    obtain ⟨s3, h⟩ := h
    exact r_call c190_153 rfl rfl (Nat.le_of_ble_eq_true rfl) (okc_r rfl rfl s3) h
theorem t190_156 {d : Nat} {l0 : Nat} {l1 : Int} {l2 : Nat} {t0 : Int} {M : Mem} {K : KK} {Q : RR → Mem → KK → Prop} (h : (t0 = (93 : Int) → Wp (d + 1) 190 172 [vR l0, vI l1, vR l2] [] M K Q) ∧ (¬ (t0 = (93 : Int)) → isO K.1 l0 12 = true ∧ Wm d 190 [vR l0] M K (Bk d 190 162 165 190 [vR l0, vI l1, vR l2] [] Q))) : Wp (d + 1) 190 156 [vR l0, vI l1, vR l2] [vI t0] M K Q := by
  refine r_bipush c190_156 ?_
  refine r_icmpP (P := t0 = (93 : Int)) c190_158 rfl (fun hc => ?_) (fun hc => ?_)
  · replace h := h.1 hc
    exact h
  · replace h := h.2 hc
    refine r_aload_n c190_161 rfl ?_
    obtain ⟨s1, h⟩ := h
    exact r_call c190_162 rfl rfl (Nat.le_of_ble_eq_true rfl) (okc_r rfl rfl s1) h
theorem t190_165 {d : Nat} {l0 : Nat} {l1 : Int} {l2 : Nat} {M : Mem} {K : KK} {Q : RR → Mem → KK → Prop} (h : isO K.1 l0 12 = true ∧ Wm d 159 [vR l0] M K (Bk d 190 166 169 159 [vR l0, vI l1, vR l2] [] Q)) : Wp (d + 1) 190 165 [vR l0, vI l1, vR l2] [] M K Q := by
  refine r_aload_n c190_165 rfl ?_
  obtain ⟨s1, h⟩ := h
  exact r_call c190_166 rfl rfl (Nat.le_of_ble_eq_true rfl) (okc_r rfl rfl s1) h
theorem t190_169 {d : Nat} {l0 : Nat} {l1 : Int} {l2 : Nat} {M : Mem} {K : KK} {Q : RR → Mem → KK → Prop} (h : Wp d 190 141 [vR l0, vI l1, vR l2] [] M K Q) : Wp d 190 169 [vR l0, vI l1, vR l2] [] M K Q := by
  refine r_goto c190_169 ?_
  exact h
theorem t190_172 {d : Nat} {l0 : Nat} {l1 : Int} {l2 : Nat} {M : Mem} {K : KK} {Q : RR → Mem → KK → Prop} (h : isO K.1 l0 12 = true ∧ Wm d 169 [vR l0, vI (93 : Int)] M K (Bk d 190 175 178 169 [vR l0, vI l1, vR l2] [] Q)) : Wp (d + 1) 190 172 [vR l0, vI l1, vR l2] [] M K Q := by
  refine r_aload_n c190_172 rfl ?_
  refine r_bipush c190_173 ?_
  obtain ⟨s1, h⟩ := h
  exact r_call c190_175 rfl rfl (Nat.le_of_ble_eq_true rfl) (okc_r rfl rfl s1) h
theorem t190_178 {d : Nat} {l0 : Nat} {l1 : Int} {l2 : Nat} {M : Mem} {K : KK} {Q : RR → Mem → KK → Prop} (h : isO K.1 l0 12 = true ∧ isO K.1 l0 12 = true ∧ Wp d 190 188 [vR l0, vI l1, vR l2] [] (mset M l0 8 (w32 ((M l0 8) - (1 : Int)))) K Q) : Wp d 190 178 [vR l0, vI l1, vR l2] [] M K Q := by
  refine r_aload_n c190_178 rfl ?_
  refine r_dupr c190_179 ?_
  obtain ⟨s1, h⟩ := h
  refine r_getI c190_180 s1 ?_
  refine r_iconst c190_183 ?_
  refine r_isub c190_184 ?_
  obtain ⟨s2, h⟩ := h
  refine r_putI c190_185 s2 ?_
  exact h
theorem t190_188 {d : Nat} {l0 : Nat} {l1 : Int} {l2 : Nat} {M : Mem} {K : KK} {Q : RR → Mem → KK → Prop} (h : isO K.1 l0 12 = true ∧ isO K.1 l2 20 = true ∧ (0 ≤ (3 : Int) ∧ (3 : Int) < (ln l2 : Int)) ∧ isO K.1 l0 12 = true ∧ Wm d 169 [vR l0, vI (59 : Int)] (mset M l2 (Int.toNat (3 : Int)) (M l0 30)) K (Bk d 190 198 201 169 [vR l0, vI l1, vR l2] [] Q)) : Wp (d + 1) 190 188 [vR l0, vI l1, vR l2] [] M K Q := by
  refine r_aload_n c190_188 rfl ?_
  refine r_iconst c190_189 ?_
  refine r_aload_n c190_190 rfl ?_
  obtain ⟨s1, h⟩ := h
  refine r_getI c190_191 s1 ?_
  obtain ⟨s2, h⟩ := h
  obtain ⟨s3, h⟩ := h
  refine r_ias c190_194 s2 s3 ?_
  refine r_aload_n c190_195 rfl ?_
  refine r_bipush c190_196 ?_
  obtain ⟨s4, h⟩ := h
  exact r_call c190_198 rfl rfl (Nat.le_of_ble_eq_true rfl) (okc_r rfl rfl s4) h
theorem t190_201 {d : Nat} {l0 : Nat} {l1 : Int} {l2 : Nat} {M : Mem} {K : KK} {Q : RR → Mem → KK → Prop} (h : Q (.inl none) M K) : Wp d 190 201 [vR l0, vI l1, vR l2] [] M K Q := by
  exact r_ret c190_201 h
theorem t191_0 {d : Nat} {l0 : Nat} {l1 : Int} {M : Mem} {K : KK} {Q : RR → Mem → KK → Prop} (h : isO K.1 l0 12 = true ∧ isO K.1 l0 12 = true ∧ Wm d 153 [vI l1, vI (0 : Int), vI ((mset M l0 0 (0 : Int)) l0 1)] (mset M l0 0 (0 : Int)) K (Bk d 191 12 15 153 [vR l0, vI l1, vU, vU, vU, vU, vU] [vR l0] Q)) : Wp (d + 1) 191 0 [vR l0, vI l1, vU, vU, vU, vU, vU] [] M K Q := by
  refine r_aload_n c191_0 rfl ?_
  refine r_iconst c191_1 ?_
  obtain ⟨s1, h⟩ := h
  refine r_putI c191_2 s1 ?_
  refine r_aload_n c191_5 rfl ?_
  refine r_iload_n c191_6 rfl ?_
  refine r_iconst c191_7 ?_
  refine r_aload_n c191_8 rfl ?_
  obtain ⟨s2, h⟩ := h
  refine r_getI c191_9 s2 ?_
  exact r_call c191_12 rfl rfl (Nat.le_of_ble_eq_true rfl) (okc_s rfl rfl rfl) h
theorem t191_15 {d : Nat} {l0 : Nat} {l1 : Int} {t0 : Nat} {t1 : Int} {M : Mem} {K : KK} {Q : RR → Mem → KK → Prop} (h : (t1 = (0 : Int) → Wp d 191 24 [vR l0, vI l1, vU, vU, vU, vU, vU] [vR t0] M K Q) ∧ (¬ (t1 = (0 : Int)) → (l1 ≤ (60 : Int) → Wp d 191 29 [vR l0, vI l1, vU, vU, vU, vU, vU] [vI (0 : Int), vR t0] M K Q) ∧ (¬ (l1 ≤ (60 : Int)) → Wp d 191 24 [vR l0, vI l1, vU, vU, vU, vU, vU] [vR t0] M K Q))) : Wp d 191 15 [vR l0, vI l1, vU, vU, vU, vU, vU] [vI t1, vR t0] M K Q := by
  refine r_ifP (P := t1 = (0 : Int)) c191_15 rfl (fun hc => ?_) (fun hc => ?_)
  · replace h := h.1 hc
    exact h
  · replace h := h.2 hc
    refine r_iload_n c191_18 rfl ?_
    refine r_bipush c191_19 ?_
    refine r_icmpP (P := l1 ≤ (60 : Int)) c191_21 rfl (fun hc => ?_) (fun hc => ?_)
    · replace h := h.1 hc
      refine r_iconst c191_28 ?_
      exact h
    · replace h := h.2 hc
      exact h
theorem t191_24 {d : Nat} {l0 : Nat} {l1 : Int} {t0 : Nat} {M : Mem} {K : KK} {Q : RR → Mem → KK → Prop} (h : Wp d 191 29 [vR l0, vI l1, vU, vU, vU, vU, vU] [vI (1 : Int), vR t0] M K Q) : Wp d 191 24 [vR l0, vI l1, vU, vU, vU, vU, vU] [vR t0] M K Q := by
  refine r_iconst c191_24 ?_
  refine r_goto c191_25 ?_
  exact h
theorem t191_29 {d : Nat} {l0 : Nat} {l1 : Int} {t0 : Nat} {t1 : Int} {M : Mem} {K : KK} {Q : RR → Mem → KK → Prop} (h : isO K.1 t0 12 = true ∧ Wm d 152 [vR t0, vI t1, vI (1 : Int), vI (1 : Int)] M K (Bk d 191 31 34 152 [vR l0, vI l1, vU, vU, vU, vU, vU] [] Q)) : Wp (d + 1) 191 29 [vR l0, vI l1, vU, vU, vU, vU, vU] [vI t1, vR t0] M K Q := by
  refine r_iconst c191_29 ?_
  refine r_iconst c191_30 ?_
  obtain ⟨s1, h⟩ := h
  exact r_call c191_31 rfl rfl (Nat.le_of_ble_eq_true rfl) (okc_r rfl rfl s1) h
theorem t191_34 {d : Nat} {l0 : Nat} {l1 : Int} {t0 : Int} {M : Mem} {K : KK} {Q : RR → Mem → KK → Prop} (h : (t0 = (0 : Int) → isO K.1 l0 12 = true ∧ Wm d 171 [vR l0, vI l1] M K (Bk d 191 41 44 171 [vR l0, vI l1, vU, vU, vU, vU, vU] [] Q)) ∧ (¬ (t0 = (0 : Int)) → Q (.inl (some (vI (0 : Int)))) M K)) : Wp (d + 1) 191 34 [vR l0, vI l1, vU, vU, vU, vU, vU] [vI t0] M K Q := by
  refine r_ifP (P := t0 = (0 : Int)) c191_34 rfl (fun hc => ?_) (fun hc => ?_)
  · replace h := h.1 hc
    refine r_aload_n c191_39 rfl ?_
    refine r_iload_n c191_40 rfl ?_
    obtain ⟨s1, h⟩ := h
    exact r_call c191_41 rfl rfl (Nat.le_of_ble_eq_true rfl) (okc_r rfl rfl s1) h
  · replace h := h.2 hc
    refine r_iconst c191_37 ?_
    exact r_iret c191_38 (Or.inl rfl) h
theorem t191_44 {d : Nat} {l0 : Nat} {l1 : Int} {M : Mem} {K : KK} {Q : RR → Mem → KK → Prop} (h : Wp d 191 48 [vR l0, vI l1, vI (0 : Int), vI (0 : Int), vU, vU, vU] [] M K Q) : Wp d 191 44 [vR l0, vI l1, vU, vU, vU, vU, vU] [] M K Q := by
  refine r_iconst c191_44 ?_
  refine r_istore_n c191_45 (Nat.le_of_ble_eq_true rfl) ?_
  refine r_iconst c191_46 ?_
  refine r_istore_n c191_47 (Nat.le_of_ble_eq_true rfl) ?_
  exact h
theorem t191_48 {d : Nat} {l0 : Nat} {l1 : Int} {l2 : Int} {l3 : Int} {l4 : PV} {l5 : PV} {l6 : PV} {M : Mem} {K : KK} {Q : RR → Mem → KK → Prop} (h : isO K.1 l0 12 = true ∧ (¬ (M l0 5) = (0 : Int) → Wp (d + 1) 191 168 [vR l0, vI l1, vI l2, vI l3, l4, l5, l6] [] M K Q) ∧ (¬ (¬ (M l0 5) = (0 : Int)) → isO K.1 l0 12 = true ∧ isO K.1 l0 12 = true ∧ ((M l0 2) ≤ (M l0 4) → Wp (d + 1) 191 168 [vR l0, vI l1, vI l2, vI l3, l4, l5, l6] [] M K Q) ∧ (¬ ((M l0 2) ≤ (M l0 4)) → isO K.1 l0 12 = true ∧ isO K.1 l0 12 = true ∧ ∃ b6 : Nat, (M l0 12) = (b6 : Int) ∧ 0 < b6 ∧ isO K.1 b6 20 = true ∧ (0 ≤ (2 : Int) ∧ (2 : Int) < (ln b6 : Int)) ∧ isO K.1 l0 12 = true ∧ Wm d 163 [vR l0, vI (0 : Int), vI (w32 ((M b6 (Int.toNat (2 : Int))) - (1 : Int)))] M K (Bk d 191 82 85 163 [vR l0, vI l1, vI l2, vI l3, vI (M l0 4), l5, l6] [] Q)))) : Wp (d + 1) 191 48 [vR l0, vI l1, vI l2, vI l3, l4, l5, l6] [] M K Q := by
  refine r_aload_n c191_48 rfl ?_
  obtain ⟨s1, h⟩ := h
  refine r_getI c191_49 s1 ?_
  refine r_ifP (P := ¬ (M l0 5) = (0 : Int)) c191_52 rfl (fun hc => ?_) (fun hc => ?_)
  · replace h := h.1 hc
    exact h
  · replace h := h.2 hc
    refine r_aload_n c191_55 rfl ?_
    obtain ⟨s2, h⟩ := h
    refine r_getI c191_56 s2 ?_
    refine r_aload_n c191_59 rfl ?_
    obtain ⟨s3, h⟩ := h
    refine r_getI c191_60 s3 ?_
    refine r_icmpP (P := (M l0 2) ≤ (M l0 4)) c191_63 rfl (fun hc => ?_) (fun hc => ?_)
    · replace h := h.1 hc
      exact h
    · replace h := h.2 hc
      refine r_aload_n c191_66 rfl ?_
      obtain ⟨s4, h⟩ := h
      refine r_getI c191_67 s4 ?_
      refine r_istore c191_70 (Nat.le_of_ble_eq_true rfl) ?_
      refine r_aload_n c191_72 rfl ?_
      refine r_iconst c191_73 ?_
      refine r_aload_n c191_74 rfl ?_
      obtain ⟨s5, h⟩ := h
      obtain ⟨b6, h⟩ := h
      obtain ⟨s7, h⟩ := h
      obtain ⟨s8, h⟩ := h
      refine r_getR c191_75 s5 s7 s8 ?_
      refine r_iconst c191_78 ?_
      obtain ⟨s9, h⟩ := h
      obtain ⟨s10, h⟩ := h
      refine r_ia c191_79 s9 s10 ?_
      refine r_iconst c191_80 ?_
      refine r_isub c191_81 ?_
      obtain ⟨s11, h⟩ := h
      exact r_call c191_82 rfl rfl (Nat.le_of_ble_eq_true rfl) (okc_r rfl rfl s11) h
theorem t191_85 {d : Nat} {l0 : Nat} {l1 : Int} {l2 : Int} {l3 : Int} {l4 : Int} {l5 : PV} {l6 : PV} {t0 : Int} {M : Mem} {K : KK} {Q : RR → Mem → KK → Prop} (h : isO K.1 l0 12 = true ∧ (¬ (M l0 5) = (0 : Int) → Wp (d + 1) 191 110 [vR l0, vI l1, vI l2, vI l3, vI l4, vI t0, l6] [] M K Q) ∧ (¬ (¬ (M l0 5) = (0 : Int)) → Wm d 156 [vI l3, vI t0] M K (Bk d 191 97 100 156 [vR l0, vI l1, vI l2, vI l3, vI l4, vI t0, l6] [] Q))) : Wp (d + 1) 191 85 [vR l0, vI l1, vI l2, vI l3, vI l4, l5, l6] [vI t0] M K Q := by
  refine r_istore c191_85 (Nat.le_of_ble_eq_true rfl) ?_
  refine r_aload_n c191_87 rfl ?_
  obtain ⟨s1, h⟩ := h
  refine r_getI c191_88 s1 ?_
  refine r_ifP (P := ¬ (M l0 5) = (0 : Int)) c191_91 rfl (fun hc => ?_) (fun hc => ?_)
  · replace h := h.1 hc
    exact h
  · replace h := h.2 hc
    refine r_iload_n c191_94 rfl ?_
    refine r_iload c191_95 rfl ?_
    exact r_call c191_97 rfl rfl (Nat.le_of_ble_eq_true rfl) (okc_s rfl rfl rfl) h
theorem t191_100 {d : Nat} {l0 : Nat} {l1 : Int} {l2 : Int} {l3 : Int} {l4 : Int} {l5 : Int} {l6 : PV} {t0 : Int} {M : Mem} {K : KK} {Q : RR → Mem → KK → Prop} (h : (t0 = (0 : Int) → Wp (d + 1) 191 110 [vR l0, vI l1, vI l2, vI l3, vI l4, vI l5, l6] [] M K Q) ∧ (¬ (t0 = (0 : Int)) → isO K.1 l0 12 = true ∧ Wm d 160 [vR l0, vI (2 : Int), vI l4] M K (Bk d 191 107 110 160 [vR l0, vI l1, vI l2, vI l3, vI l4, vI l5, l6] [] Q))) : Wp (d + 1) 191 100 [vR l0, vI l1, vI l2, vI l3, vI l4, vI l5, l6] [vI t0] M K Q := by
  refine r_ifP (P := t0 = (0 : Int)) c191_100 rfl (fun hc => ?_) (fun hc => ?_)
  · replace h := h.1 hc
    exact h
  · replace h := h.2 hc
    refine r_aload_n c191_103 rfl ?_
    refine r_iconst c191_104 ?_
    refine r_iload c191_105 rfl ?_
    obtain ⟨s1, h⟩ := h
    exact r_call c191_107 rfl rfl (Nat.le_of_ble_eq_true rfl) (okc_r rfl rfl s1) h
theorem t191_110 {d : Nat} {l0 : Nat} {l1 : Int} {l2 : Int} {l3 : Int} {l4 : Int} {l5 : Int} {l6 : PV} {M : Mem} {K : KK} {Q : RR → Mem → KK → Prop} (h : isO K.1 l0 12 = true ∧ Wm d 163 [vR l0, vI (0 : Int), vI (1 : Int)] M K (Bk d 191 113 116 163 [vR l0, vI l1, vI l2, vI l3, vI l4, vI l5, l6] [] Q)) : Wp (d + 1) 191 110 [vR l0, vI l1, vI l2, vI l3, vI l4, vI l5, l6] [] M K Q := by
  refine r_aload_n c191_110 rfl ?_
  refine r_iconst c191_111 ?_
  refine r_iconst c191_112 ?_
  obtain ⟨s1, h⟩ := h
  exact r_call c191_113 rfl rfl (Nat.le_of_ble_eq_true rfl) (okc_r rfl rfl s1) h
theorem t191_116 {d : Nat} {l0 : Nat} {l1 : Int} {l2 : Int} {l3 : Int} {l4 : Int} {l5 : Int} {l6 : PV} {t0 : Int} {M : Mem} {K : KK} {Q : RR → Mem → KK → Prop} (h : isO K.1 l0 12 = true ∧ Wm d 169 [vR l0, vI (59 : Int)] M K (Bk d 191 121 124 169 [vR l0, vI l1, vI l2, vI l3, vI l4, vI l5, vI t0] [] Q)) : Wp (d + 1) 191 116 [vR l0, vI l1, vI l2, vI l3, vI l4, vI l5, l6] [vI t0] M K Q := by
  refine r_istore c191_116 (Nat.le_of_ble_eq_true rfl) ?_
  refine r_aload_n c191_118 rfl ?_
  refine r_bipush c191_119 ?_
  obtain ⟨s1, h⟩ := h
  exact r_call c191_121 rfl rfl (Nat.le_of_ble_eq_true rfl) (okc_r rfl rfl s1) h
theorem t191_124 {d : Nat} {l0 : Nat} {l1 : Int} {l2 : Int} {l3 : Int} {l4 : Int} {l5 : Int} {l6 : Int} {M : Mem} {K : KK} {Q : RR → Mem → KK → Prop} (h : isO K.1 l0 12 = true ∧ (¬ (M l0 5) = (0 : Int) → Wp d 191 161 [vR l0, vI l1, vI l2, vI l3, vI l4, vI l5, vI l6] [] M K Q) ∧ (¬ (¬ (M l0 5) = (0 : Int)) → isO K.1 l0 12 = true ∧ ∃ b3 : Nat, (M l0 26) = (b3 : Int) ∧ 0 < b3 ∧ (Nat.ble 30 (tg b3) = true ∧ isO K.1 b3 (tg b3) = true) ∧ (0 ≤ l2 ∧ l2 < (ln b3 : Int)) ∧ ∃ b8 : Nat, (M b3 (Int.toNat l2)) = (b8 : Int) ∧ 0 < b8 ∧ isO K.1 b8 20 = true ∧ (0 ≤ (0 : Int) ∧ (0 : Int) < (ln b8 : Int)) ∧ isO K.1 l0 12 = true ∧ ∃ b14 : Nat, ((mset M b8 (Int.toNat (0 : Int)) l5) l0 26) = (b14 : Int) ∧ 0 < b14 ∧ (Nat.ble 30 (tg b14) = true ∧ isO K.1 b14 (tg b14) = true) ∧ (0 ≤ l2 ∧ l2 < (ln b14 : Int)) ∧ ∃ b19 : Nat, ((mset M b8 (Int.toNat (0 : Int)) l5) b14 (Int.toNat l2)) = (b19 : Int) ∧ 0 < b19 ∧ isO K.1 b19 20 = true ∧ (0 ≤ (1 : Int) ∧ (1 : Int) < (ln b19 : Int)) ∧ Wp d 191 161 [vR l0, vI l1, vI (w32 (l2 + 1)), vI (jor l3 (jshl (1 : Int) l5)), vI l4, vI l5, vI l6] [] (mset (mset M b8 (Int.toNat (0 : Int)) l5) b19 (Int.toNat (1 : Int)) l6) K Q)) : Wp d 191 124 [vR l0, vI l1, vI l2, vI l3, vI l4, vI l5, vI l6] [] M K Q := by
  refine r_aload_n c191_124 rfl ?_
  obtain ⟨s1, h⟩ := h
  refine r_getI c191_125 s1 ?_
  refine r_ifP (P := ¬ (M l0 5) = (0 : Int)) c191_128 rfl (fun hc => ?_) (fun hc => ?_)
  · replace h := h.1 hc
    exact h
  · replace h := h.2 hc
    refine r_iload_n c191_131 rfl ?_
    refine r_iconst c191_132 ?_
    refine r_iload c191_133 rfl ?_
    refine r_ishl c191_135 ?_
    refine r_ior c191_136 ?_
    refine r_istore_n c191_137 (Nat.le_of_ble_eq_true rfl) ?_
    refine r_aload_n c191_138 rfl ?_
    obtain ⟨s2, h⟩ := h
    obtain ⟨b3, h⟩ := h
    obtain ⟨s4, h⟩ := h
    obtain ⟨s5, h⟩ := h
    refine r_getR c191_139 s2 s4 s5 ?_
    refine r_iload_n c191_142 rfl ?_
    obtain ⟨s6, h⟩ := h
    obtain ⟨s7, h⟩ := h
    obtain ⟨b8, h⟩ := h
    obtain ⟨s9, h⟩ := h
    obtain ⟨s10, h⟩ := h
    refine r_aa c191_143 s6 s7 s9 s10 ?_
    refine r_iconst c191_144 ?_
    refine r_iload c191_145 rfl ?_
    obtain ⟨s11, h⟩ := h
    obtain ⟨s12, h⟩ := h
    refine r_ias c191_147 s11 s12 ?_
    refine r_aload_n c191_148 rfl ?_
    obtain ⟨s13, h⟩ := h
    obtain ⟨b14, h⟩ := h
    obtain ⟨s15, h⟩ := h
    obtain ⟨s16, h⟩ := h
    refine r_getR c191_149 s13 s15 s16 ?_
    refine r_iload_n c191_152 rfl ?_
    obtain ⟨s17, h⟩ := h
    obtain ⟨s18, h⟩ := h
    obtain ⟨b19, h⟩ := h
    obtain ⟨s20, h⟩ := h
    obtain ⟨s21, h⟩ := h
    refine r_aa c191_153 s17 s18 s20 s21 ?_
    refine r_iconst c191_154 ?_
    refine r_iload c191_155 rfl ?_
    obtain ⟨s22, h⟩ := h
    obtain ⟨s23, h⟩ := h
    refine r_ias c191_157 s22 s23 ?_
    refine r_iinc c191_158 rfl ?_
    exact h
theorem t191_161 {d : Nat} {l0 : Nat} {l1 : Int} {l2 : Int} {l3 : Int} {l4 : Int} {l5 : Int} {l6 : Int} {M : Mem} {K : KK} {Q : RR → Mem → KK → Prop} (h : isO K.1 l0 12 = true ∧ Wm d 159 [vR l0] M K (Bk d 191 162 165 159 [vR l0, vI l1, vI l2, vI l3, vI l4, vI l5, vI l6] [] Q)) : Wp (d + 1) 191 161 [vR l0, vI l1, vI l2, vI l3, vI l4, vI l5, vI l6] [] M K Q := by
  refine r_aload_n c191_161 rfl ?_
  obtain ⟨s1, h⟩ := h
  exact r_call c191_162 rfl rfl (Nat.le_of_ble_eq_true rfl) (okc_r rfl rfl s1) h
theorem t191_165 {d : Nat} {l0 : Nat} {l1 : Int} {l2 : Int} {l3 : Int} {l4 : Int} {l5 : Int} {l6 : Int} {M : Mem} {K : KK} {Q : RR → Mem → KK → Prop} (h : Wp d 191 48 [vR l0, vI l1, vI l2, vI l3, vI l4, vI l5, vI l6] [] M K Q) : Wp d 191 165 [vR l0, vI l1, vI l2, vI l3, vI l4, vI l5, vI l6] [] M K Q := by
  refine r_goto c191_165 ?_
  exact h
theorem t191_168 {d : Nat} {l0 : Nat} {l1 : Int} {l2 : Int} {l3 : Int} {l4 : PV} {l5 : PV} {l6 : PV} {M : Mem} {K : KK} {Q : RR → Mem → KK → Prop} (h : isO K.1 l0 12 = true ∧ ((M l0 5) = (0 : Int) → isO K.1 l0 12 = true ∧ isO K.1 l0 12 = true ∧ isO K.1 l0 12 = true ∧ ∃ b5 : Nat, ((mset (mset M l0 3 (-1 : Int)) l0 35 l2) l0 26) = (b5 : Int) ∧ 0 < b5 ∧ isO K.1 l0 12 = true ∧ ∃ b9 : Nat, ((mset (mset M l0 3 (-1 : Int)) l0 35 l2) l0 25) = (b9 : Int) ∧ 0 < b9 ∧ Wm d 177 [vR b5, vR b9, vI l2] (mset (mset M l0 3 (-1 : Int)) l0 35 l2) K (Bk d 191 199 202 177 [vR l0, vI l1, vI l2, vI l3, l4, l5, l6] [] Q)) ∧ (¬ ((M l0 5) = (0 : Int)) → isO K.1 l0 12 = true ∧ Wm d 172 [vR l0] M K (Bk d 191 176 179 172 [vR l0, vI l1, vI l2, vI l3, l4, l5, l6] [] Q))) : Wp (d + 1) 191 168 [vR l0, vI l1, vI l2, vI l3, l4, l5, l6] [] M K Q := by
  refine r_aload_n c191_168 rfl ?_
  obtain ⟨s1, h⟩ := h
  refine r_getI c191_169 s1 ?_
  refine r_ifP (P := (M l0 5) = (0 : Int)) c191_172 rfl (fun hc => ?_) (fun hc => ?_)
  · replace h := h.1 hc
    refine r_aload_n c191_180 rfl ?_
    refine r_iconst c191_181 ?_
    obtain ⟨s2, h⟩ := h
    refine r_putI c191_182 s2 ?_
    refine r_aload_n c191_185 rfl ?_
    refine r_iload_n c191_186 rfl ?_
    obtain ⟨s3, h⟩ := h
    refine r_putI c191_187 s3 ?_
    refine r_aload_n c191_190 rfl ?_
    obtain ⟨s4, h⟩ := h
    obtain ⟨b5, h⟩ := h
    obtain ⟨s6, h⟩ := h
    obtain ⟨s7, h⟩ := h
    refine r_getR c191_191 s4 s6 s7 ?_
    refine r_aload_n c191_194 rfl ?_
    obtain ⟨s8, h⟩ := h
    obtain ⟨b9, h⟩ := h
    obtain ⟨s10, h⟩ := h
    obtain ⟨s11, h⟩ := h
    refine r_getR c191_195 s8 s10 s11 ?_
    refine r_iload_n c191_198 rfl ?_
    exact r_call c191_199 rfl rfl (Nat.le_of_ble_eq_true rfl) (okc_s rfl rfl rfl) h
  · replace h := h.2 hc
    refine r_aload_n c191_175 rfl ?_
    obtain ⟨s12, h⟩ := h
    exact r_call c191_176 rfl rfl (Nat.le_of_ble_eq_true rfl) (okc_r rfl rfl s12) h
theorem t191_179 {d : Nat} {l0 : Nat} {l1 : Int} {l2 : Int} {l3 : Int} {l4 : PV} {l5 : PV} {l6 : PV} {t0 : Int} {M : Mem} {K : KK} {Q : RR → Mem → KK → Prop} (h : Q (.inl (some (vI t0))) M K) : Wp d 191 179 [vR l0, vI l1, vI l2, vI l3, l4, l5, l6] [vI t0] M K Q := by
  exact r_iret c191_179 (Or.inl rfl) h
theorem t191_202 {d : Nat} {l0 : Nat} {l1 : Int} {l2 : Int} {l3 : Int} {l4 : PV} {l5 : PV} {l6 : PV} {M : Mem} {K : KK} {Q : RR → Mem → KK → Prop} (h : Q (.inl (some (vI l2))) M K) : Wp d 191 202 [vR l0, vI l1, vI l2, vI l3, l4, l5, l6] [] M K Q := by
  refine r_iload_n c191_202 rfl ?_
  exact r_iret c191_203 (Or.inl rfl) h
theorem t192_0 {d : Nat} {l0 : Nat} {M : Mem} {K : KK} {Q : RR → Mem → KK → Prop} (h : isO K.1 l0 12 = true ∧ isO K.1 l0 12 = true ∧ Q (.inl (some (vI ((mset M l0 0 (0 : Int)) l0 3)))) (mset M l0 0 (0 : Int)) K) : Wp d 192 0 [vR l0] [] M K Q := by
  refine r_aload_n c192_0 rfl ?_
  refine r_iconst c192_1 ?_
  obtain ⟨s1, h⟩ := h
  refine r_putI c192_2 s1 ?_
  refine r_aload_n c192_5 rfl ?_
  obtain ⟨s2, h⟩ := h
  refine r_getI c192_6 s2 ?_
  exact r_iret c192_9 (Or.inl rfl) h
theorem t193_0 {d : Nat} {l0 : Nat} {l1 : Nat} {M : Mem} {K : KK} {Q : RR → Mem → KK → Prop} (h : isO K.1 l1 20 = true ∧ (0 ≤ (26 : Int) ∧ (26 : Int) < (ln l1 : Int)) ∧ ((M l1 (Int.toNat (26 : Int))) = (-1 : Int) → isO K.1 l0 12 = true ∧ ∃ b4 : Nat, (M l0 12) = (b4 : Int) ∧ 0 < b4 ∧ isO K.1 b4 20 = true ∧ (0 ≤ (3 : Int) ∧ (3 : Int) < (ln b4 : Int)) ∧ (¬ (M b4 (Int.toNat (3 : Int))) = (0 : Int) → isO K.1 l0 12 = true ∧ ∃ b10 : Nat, (M l0 18) = (b10 : Int) ∧ 0 < b10 ∧ isO K.1 l1 20 = true ∧ (0 ≤ (24 : Int) ∧ (24 : Int) < (ln l1 : Int)) ∧ isO K.1 l0 12 = true ∧ ∃ b16 : Nat, (M l0 12) = (b16 : Int) ∧ 0 < b16 ∧ isO K.1 b16 20 = true ∧ (0 ≤ (3 : Int) ∧ (3 : Int) < (ln b16 : Int)) ∧ (M b16 (Int.toNat (3 : Int))) ≠ 0 ∧ isO K.1 b10 20 = true ∧ (0 ≤ (Int.tmod (M l1 (Int.toNat (24 : Int))) (M b16 (Int.toNat (3 : Int)))) ∧ (Int.tmod (M l1 (Int.toNat (24 : Int))) (M b16 (Int.toNat (3 : Int)))) < (ln b10 : Int)) ∧ Wp d 193 44 [vR l0, vR l1] [vI (M b10 (Int.toNat (Int.tmod (M l1 (Int.toNat (24 : Int))) (M b16 (Int.toNat (3 : Int))))))] M K Q) ∧ (¬ (¬ (M b4 (Int.toNat (3 : Int))) = (0 : Int)) → Wp d 193 44 [vR l0, vR l1] [vI (0 : Int)] M K Q)) ∧ (¬ ((M l1 (Int.toNat (26 : Int))) = (-1 : Int)) → isO K.1 l1 20 = true ∧ (0 ≤ (26 : Int) ∧ (26 : Int) < (ln l1 : Int)) ∧ Wp d 193 44 [vR l0, vR l1] [vI (M l1 (Int.toNat (26 : Int)))] M K Q)) : Wp d 193 0 [vR l0, vR l1] [] M K Q := by
  refine r_aload_n c193_0 rfl ?_
  refine r_bipush c193_1 ?_
  obtain ⟨s1, h⟩ := h
  obtain ⟨s2, h⟩ := h
  refine r_ia c193_3 s1 s2 ?_
  refine r_iconst c193_4 ?_
  refine r_icmpP (P := (M l1 (Int.toNat (26 : Int))) = (-1 : Int)) c193_5 rfl (fun hc => ?_) (fun hc => ?_)
  · replace h := h.1 hc
    refine r_aload_n c193_15 rfl ?_
    obtain ⟨s3, h⟩ := h
    obtain ⟨b4, h⟩ := h
    obtain ⟨s5, h⟩ := h
    obtain ⟨s6, h⟩ := h
    refine r_getR c193_16 s3 s5 s6 ?_
    refine r_iconst c193_19 ?_
    obtain ⟨s7, h⟩ := h
    obtain ⟨s8, h⟩ := h
    refine r_ia c193_20 s7 s8 ?_
    refine r_ifP (P := ¬ (M b4 (Int.toNat (3 : Int))) = (0 : Int)) c193_21 rfl (fun hc => ?_) (fun hc => ?_)
    · replace h := h.1 hc
      refine r_aload_n c193_28 rfl ?_
      obtain ⟨s9, h⟩ := h
      obtain ⟨b10, h⟩ := h
      obtain ⟨s11, h⟩ := h
      obtain ⟨s12, h⟩ := h
      refine r_getR c193_29 s9 s11 s12 ?_
      refine r_aload_n c193_32 rfl ?_
      refine r_bipush c193_33 ?_
      obtain ⟨s13, h⟩ := h
      obtain ⟨s14, h⟩ := h
      refine r_ia c193_35 s13 s14 ?_
      refine r_aload_n c193_36 rfl ?_
      obtain ⟨s15, h⟩ := h
      obtain ⟨b16, h⟩ := h
      obtain ⟨s17, h⟩ := h
      obtain ⟨s18, h⟩ := h
      refine r_getR c193_37 s15 s17 s18 ?_
      refine r_iconst c193_40 ?_
      obtain ⟨s19, h⟩ := h
      obtain ⟨s20, h⟩ := h
      refine r_ia c193_41 s19 s20 ?_
      obtain ⟨s21, h⟩ := h
      refine r_irem c193_42 s21 ?_
      obtain ⟨s22, h⟩ := h
      obtain ⟨s23, h⟩ := h
      refine r_ia c193_43 s22 s23 ?_
      exact h
    · replace h := h.2 hc
      refine r_iconst c193_24 ?_
      refine r_goto c193_25 ?_
      exact h
  · replace h := h.2 hc
    refine r_aload_n c193_8 rfl ?_
    refine r_bipush c193_9 ?_
    obtain ⟨s24, h⟩ := h
    obtain ⟨s25, h⟩ := h
    refine r_ia c193_11 s24 s25 ?_
    refine r_goto c193_12 ?_
    exact h
theorem t193_44 {d : Nat} {l0 : Nat} {l1 : Nat} {t0 : Int} {M : Mem} {K : KK} {Q : RR → Mem → KK → Prop} (h : Q (.inl (some (vI t0))) M K) : Wp d 193 44 [vR l0, vR l1] [vI t0] M K Q := by
  exact r_iret c193_44 (Or.inl rfl) h
theorem t194_0 {d : Nat} {l0 : Nat} {l1 : Int} {l2 : Int} {l3 : Int} {l4 : Int} {l5 : Int} {l6 : Int} {l7 : Int} {M : Mem} {K : KK} {Q : RR → Mem → KK → Prop} (h : Wp d 194 6 [vR l0, vI l1, vI l2, vI l3, vI l4, vI l5, vI l6, vI l7, vI (0 : Int), vI l2] [] M K Q) : Wp d 194 0 [vR l0, vI l1, vI l2, vI l3, vI l4, vI l5, vI l6, vI l7, vU, vU] [] M K Q := by
  refine r_iconst c194_0 ?_
  refine r_istore c194_1 (Nat.le_of_ble_eq_true rfl) ?_
  refine r_iload_n c194_3 rfl ?_
  refine r_istore c194_4 (Nat.le_of_ble_eq_true rfl) ?_
  exact h
theorem t194_6 {d : Nat} {l0 : Nat} {l1 : Int} {l2 : Int} {l3 : Int} {l4 : Int} {l5 : Int} {l6 : Int} {l7 : Int} {l8 : Int} {l9 : Int} {M : Mem} {K : KK} {Q : RR → Mem → KK → Prop} (h : isO K.1 l0 12 = true ∧ ∃ b2 : Nat, (M l0 20) = (b2 : Int) ∧ 0 < b2 ∧ (Nat.ble 30 (tg b2) = true ∧ isO K.1 b2 (tg b2) = true) ∧ (0 ≤ l1 ∧ l1 < (ln b2 : Int)) ∧ ∃ b7 : Nat, (M b2 (Int.toNat l1)) = (b7 : Int) ∧ 0 < b7 ∧ isO K.1 b7 20 = true ∧ (0 ≤ (0 : Int) ∧ (0 : Int) < (ln b7 : Int)) ∧ ((w32 (l2 + (M b7 (Int.toNat (0 : Int))))) ≤ l9 → isO K.1 l0 12 = true ∧ ∃ b13 : Nat, (M l0 28) = (b13 : Int) ∧ 0 < b13 ∧ isO K.1 b13 20 = true ∧ (0 ≤ (0 : Int) ∧ (0 : Int) < (ln b13 : Int)) ∧ isO K.1 l0 12 = true ∧ ∃ b19 : Nat, ((mset M b13 (Int.toNat (0 : Int)) l8) l0 28) = (b19 : Int) ∧ 0 < b19 ∧ isO K.1 l0 12 = true ∧ ∃ b23 : Nat, ((mset M b13 (Int.toNat (0 : Int)) l8) l0 20) = (b23 : Int) ∧ 0 < b23 ∧ (Nat.ble 30 (tg b23) = true ∧ isO K.1 b23 (tg b23) = true) ∧ (0 ≤ l1 ∧ l1 < (ln b23 : Int)) ∧ ∃ b28 : Nat, ((mset M b13 (Int.toNat (0 : Int)) l8) b23 (Int.toNat l1)) = (b28 : Int) ∧ 0 < b28 ∧ isO K.1 b28 20 = true ∧ (0 ≤ (0 : Int) ∧ (0 : Int) < (ln b28 : Int)) ∧ isO K.1 b19 20 = true ∧ (0 ≤ (1 : Int) ∧ (1 : Int) < (ln b19 : Int)) ∧ isO K.1 l0 12 = true ∧ ∃ b36 : Nat, ((mset (mset M b13 (Int.toNat (0 : Int)) l8) b19 (Int.toNat (1 : Int)) ((mset M b13 (Int.toNat (0 : Int)) l8) b28 (Int.toNat (0 : Int)))) l0 28) = (b36 : Int) ∧ 0 < b36 ∧ isO K.1 b36 20 = true ∧ (0 ≤ (2 : Int) ∧ (2 : Int) < (ln b36 : Int)) ∧ isO K.1 l0 12 = true ∧ ∃ b42 : Nat, ((mset (mset (mset M b13 (Int.toNat (0 : Int)) l8) b19 (Int.toNat (1 : Int)) ((mset M b13 (Int.toNat (0 : Int)) l8) b28 (Int.toNat (0 : Int)))) b36 (Int.toNat (2 : Int)) l3) l0 28) = (b42 : Int) ∧ 0 < b42 ∧ isO K.1 b42 20 = true ∧ (0 ≤ (3 : Int) ∧ (3 : Int) < (ln b42 : Int)) ∧ isO K.1 l0 12 = true ∧ ∃ b48 : Nat, ((mset (mset (mset (mset M b13 (Int.toNat (0 : Int)) l8) b19 (Int.toNat (1 : Int)) ((mset M b13 (Int.toNat (0 : Int)) l8) b28 (Int.toNat (0 : Int)))) b36 (Int.toNat (2 : Int)) l3) b42 (Int.toNat (3 : Int)) l4) l0 28) = (b48 : Int) ∧ 0 < b48 ∧ isO K.1 b48 20 = true ∧ (0 ≤ (4 : Int) ∧ (4 : Int) < (ln b48 : Int)) ∧ isO K.1 l0 12 = true ∧ ∃ b54 : Nat, ((mset (mset (mset (mset (mset M b13 (Int.toNat (0 : Int)) l8) b19 (Int.toNat (1 : Int)) ((mset M b13 (Int.toNat (0 : Int)) l8) b28 (Int.toNat (0 : Int)))) b36 (Int.toNat (2 : Int)) l3) b42 (Int.toNat (3 : Int)) l4) b48 (Int.toNat (4 : Int)) l5) l0 28) = (b54 : Int) ∧ 0 < b54 ∧ isO K.1 b54 20 = true ∧ (0 ≤ (5 : Int) ∧ (5 : Int) < (ln b54 : Int)) ∧ isO K.1 l0 12 = true ∧ ∃ b60 : Nat, ((mset (mset (mset (mset (mset (mset M b13 (Int.toNat (0 : Int)) l8) b19 (Int.toNat (1 : Int)) ((mset M b13 (Int.toNat (0 : Int)) l8) b28 (Int.toNat (0 : Int)))) b36 (Int.toNat (2 : Int)) l3) b42 (Int.toNat (3 : Int)) l4) b48 (Int.toNat (4 : Int)) l5) b54 (Int.toNat (5 : Int)) l6) l0 28) = (b60 : Int) ∧ 0 < b60 ∧ isO K.1 b60 20 = true ∧ (0 ≤ (6 : Int) ∧ (6 : Int) < (ln b60 : Int)) ∧ isO K.1 l0 12 = true ∧ ∃ b66 : Nat, ((mset (mset (mset (mset (mset (mset (mset M b13 (Int.toNat (0 : Int)) l8) b19 (Int.toNat (1 : Int)) ((mset M b13 (Int.toNat (0 : Int)) l8) b28 (Int.toNat (0 : Int)))) b36 (Int.toNat (2 : Int)) l3) b42 (Int.toNat (3 : Int)) l4) b48 (Int.toNat (4 : Int)) l5) b54 (Int.toNat (5 : Int)) l6) b60 (Int.toNat (6 : Int)) l7) l0 28) = (b66 : Int) ∧ 0 < b66 ∧ isO K.1 b66 20 = true ∧ (0 ≤ (7 : Int) ∧ (7 : Int) < (ln b66 : Int)) ∧ isO K.1 l0 12 = true ∧ Wm d 188 [vR l0] (mset (mset (mset (mset (mset (mset (mset (mset M b13 (Int.toNat (0 : Int)) l8) b19 (Int.toNat (1 : Int)) ((mset M b13 (Int.toNat (0 : Int)) l8) b28 (Int.toNat (0 : Int)))) b36 (Int.toNat (2 : Int)) l3) b42 (Int.toNat (3 : Int)) l4) b48 (Int.toNat (4 : Int)) l5) b54 (Int.toNat (5 : Int)) l6) b60 (Int.toNat (6 : Int)) l7) b66 (Int.toNat (7 : Int)) l2) K (Bk d 194 110 113 188 [vR l0, vI l1, vI l2, vI l3, vI l4, vI l5, vI l6, vI l7, vI l8, vI l9] [] Q)) ∧ (¬ ((w32 (l2 + (M b7 (Int.toNat (0 : Int))))) ≤ l9) → isO K.1 l0 12 = true ∧ ∃ b73 : Nat, (M l0 14) = (b73 : Int) ∧ 0 < b73 ∧ isO K.1 b73 20 = true ∧ (0 ≤ l9 ∧ l9 < (ln b73 : Int)) ∧ Wp (d + 1) 194 6 [vR l0, vI l1, vI l2, vI l3, vI l4, vI l5, vI l6, vI l7, vI (w32 (l8 + (M b73 (Int.toNat l9)))), vI (w32 (l9 + 1))] [] M K Q)) : Wp (d + 1) 194 6 [vR l0, vI l1, vI l2, vI l3, vI l4, vI l5, vI l6, vI l7, vI l8, vI l9] [] M K Q := by
  refine r_iload c194_6 rfl ?_
  refine r_iload_n c194_8 rfl ?_
  refine r_aload_n c194_9 rfl ?_
  obtain ⟨s1, h⟩ := h
  obtain ⟨b2, h⟩ := h
  obtain ⟨s3, h⟩ := h
  obtain ⟨s4, h⟩ := h
  refine r_getR c194_10 s1 s3 s4 ?_
  refine r_iload_n c194_13 rfl ?_
  obtain ⟨s5, h⟩ := h
  obtain ⟨s6, h⟩ := h
  obtain ⟨b7, h⟩ := h
  obtain ⟨s8, h⟩ := h
  obtain ⟨s9, h⟩ := h
  refine r_aa c194_14 s5 s6 s8 s9 ?_
  refine r_iconst c194_15 ?_
  obtain ⟨s10, h⟩ := h
  obtain ⟨s11, h⟩ := h
  refine r_ia c194_16 s10 s11 ?_
  refine r_iadd c194_17 ?_
  refine r_icmpP (P := (w32 (l2 + (M b7 (Int.toNat (0 : Int))))) ≤ l9) c194_18 rfl (fun hc => ?_) (fun hc => ?_)
  · replace h := h.1 hc
    refine r_aload_n c194_39 rfl ?_
    obtain ⟨s12, h⟩ := h
    obtain ⟨b13, h⟩ := h
    obtain ⟨s14, h⟩ := h
    obtain ⟨s15, h⟩ := h
    refine r_getR c194_40 s12 s14 s15 ?_
    refine r_iconst c194_43 ?_
    refine r_iload c194_44 rfl ?_
    obtain ⟨s16, h⟩ := h
    obtain ⟨s17, h⟩ := h
    refine r_ias c194_46 s16 s17 ?_
    refine r_aload_n c194_47 rfl ?_
    obtain ⟨s18, h⟩ := h
    obtain ⟨b19, h⟩ := h
    obtain ⟨s20, h⟩ := h
    obtain ⟨s21, h⟩ := h
    refine r_getR c194_48 s18 s20 s21 ?_
    refine r_iconst c194_51 ?_
    refine r_aload_n c194_52 rfl ?_
    obtain ⟨s22, h⟩ := h
    obtain ⟨b23, h⟩ := h
    obtain ⟨s24, h⟩ := h
    obtain ⟨s25, h⟩ := h
    refine r_getR c194_53 s22 s24 s25 ?_
    refine r_iload_n c194_56 rfl ?_
    obtain ⟨s26, h⟩ := h
    obtain ⟨s27, h⟩ := h
    obtain ⟨b28, h⟩ := h
    obtain ⟨s29, h⟩ := h
    obtain ⟨s30, h⟩ := h
    refine r_aa c194_57 s26 s27 s29 s30 ?_
    refine r_iconst c194_58 ?_
    obtain ⟨s31, h⟩ := h
    obtain ⟨s32, h⟩ := h
    refine r_ia c194_59 s31 s32 ?_
    obtain ⟨s33, h⟩ := h
    obtain ⟨s34, h⟩ := h
    refine r_ias c194_60 s33 s34 ?_
    refine r_aload_n c194_61 rfl ?_
    obtain ⟨s35, h⟩ := h
    obtain ⟨b36, h⟩ := h
    obtain ⟨s37, h⟩ := h
    obtain ⟨s38, h⟩ := h
    refine r_getR c194_62 s35 s37 s38 ?_
    refine r_iconst c194_65 ?_
    refine r_iload_n c194_66 rfl ?_
    obtain ⟨s39, h⟩ := h
    obtain ⟨s40, h⟩ := h
    refine r_ias c194_67 s39 s40 ?_
    refine r_aload_n c194_68 rfl ?_
    obtain ⟨s41, h⟩ := h
    obtain ⟨b42, h⟩ := h
    obtain ⟨s43, h⟩ := h
    obtain ⟨s44, h⟩ := h
    refine r_getR c194_69 s41 s43 s44 ?_
    refine r_iconst c194_72 ?_
    refine r_iload c194_73 rfl ?_
    obtain ⟨s45, h⟩ := h
    obtain ⟨s46, h⟩ := h
    refine r_ias c194_75 s45 s46 ?_
    refine r_aload_n c194_76 rfl ?_
    obtain ⟨s47, h⟩ := h
    obtain ⟨b48, h⟩ := h
    obtain ⟨s49, h⟩ := h
    obtain ⟨s50, h⟩ := h
    refine r_getR c194_77 s47 s49 s50 ?_
    refine r_iconst c194_80 ?_
    refine r_iload c194_81 rfl ?_
    obtain ⟨s51, h⟩ := h
    obtain ⟨s52, h⟩ := h
    refine r_ias c194_83 s51 s52 ?_
    refine r_aload_n c194_84 rfl ?_
    obtain ⟨s53, h⟩ := h
    obtain ⟨b54, h⟩ := h
    obtain ⟨s55, h⟩ := h
    obtain ⟨s56, h⟩ := h
    refine r_getR c194_85 s53 s55 s56 ?_
    refine r_iconst c194_88 ?_
    refine r_iload c194_89 rfl ?_
    obtain ⟨s57, h⟩ := h
    obtain ⟨s58, h⟩ := h
    refine r_ias c194_91 s57 s58 ?_
    refine r_aload_n c194_92 rfl ?_
    obtain ⟨s59, h⟩ := h
    obtain ⟨b60, h⟩ := h
    obtain ⟨s61, h⟩ := h
    obtain ⟨s62, h⟩ := h
    refine r_getR c194_93 s59 s61 s62 ?_
    refine r_bipush c194_96 ?_
    refine r_iload c194_98 rfl ?_
    obtain ⟨s63, h⟩ := h
    obtain ⟨s64, h⟩ := h
    refine r_ias c194_100 s63 s64 ?_
    refine r_aload_n c194_101 rfl ?_
    obtain ⟨s65, h⟩ := h
    obtain ⟨b66, h⟩ := h
    obtain ⟨s67, h⟩ := h
    obtain ⟨s68, h⟩ := h
    refine r_getR c194_102 s65 s67 s68 ?_
    refine r_bipush c194_105 ?_
    refine r_iload_n c194_107 rfl ?_
    obtain ⟨s69, h⟩ := h
    obtain ⟨s70, h⟩ := h
    refine r_ias c194_108 s69 s70 ?_
    refine r_aload_n c194_109 rfl ?_
    obtain ⟨s71, h⟩ := h
    exact r_call c194_110 rfl rfl (Nat.le_of_ble_eq_true rfl) (okc_r rfl rfl s71) h
  · replace h := h.2 hc
    refine r_iload c194_21 rfl ?_
    refine r_aload_n c194_23 rfl ?_
    obtain ⟨s72, h⟩ := h
    obtain ⟨b73, h⟩ := h
    obtain ⟨s74, h⟩ := h
    obtain ⟨s75, h⟩ := h
    refine r_getR c194_24 s72 s74 s75 ?_
    refine r_iload c194_27 rfl ?_
    obtain ⟨s76, h⟩ := h
    obtain ⟨s77, h⟩ := h
    refine r_ia c194_29 s76 s77 ?_
    refine r_iadd c194_30 ?_
    refine r_istore c194_31 (Nat.le_of_ble_eq_true rfl) ?_
    refine r_iinc c194_33 rfl ?_
    refine r_goto c194_36 ?_
    exact h
theorem t194_113 {d : Nat} {l0 : Nat} {l1 : Int} {l2 : Int} {l3 : Int} {l4 : Int} {l5 : Int} {l6 : Int} {l7 : Int} {l8 : Int} {l9 : Int} {t0 : Int} {M : Mem} {K : KK} {Q : RR → Mem → KK → Prop} (h : Q (.inl (some (vI t0))) M K) : Wp d 194 113 [vR l0, vI l1, vI l2, vI l3, vI l4, vI l5, vI l6, vI l7, vI l8, vI l9] [vI t0] M K Q := by
  exact r_iret c194_113 (Or.inl rfl) h
theorem t195_0 {d : Nat} {l0 : Nat} {l1 : Nat} {l2 : Int} {M : Mem} {K : KK} {Q : RR → Mem → KK → Prop} (h : isO K.1 l1 20 = true ∧ (0 ≤ (w32 ((0 : Int) + l2)) ∧ (w32 ((0 : Int) + l2)) < (ln l1 : Int)) ∧ (¬ (M l1 (Int.toNat (w32 ((0 : Int) + l2)))) = (-1 : Int) → isO K.1 l1 20 = true ∧ (0 ≤ (w32 ((0 : Int) + l2)) ∧ (w32 ((0 : Int) + l2)) < (ln l1 : Int)) ∧ isO K.1 l1 20 = true ∧ (0 ≤ (w32 ((6 : Int) + l2)) ∧ (w32 ((6 : Int) + l2)) < (ln l1 : Int)) ∧ isO K.1 l0 12 = true ∧ Wm d 193 [vR l0, vR l1] M K (Bk d 195 28 31 193 [vR l0, vR l1, vI l2] [vI (M l1 (Int.toNat (w32 ((6 : Int) + l2)))), vI (M l1 (Int.toNat (w32 ((0 : Int) + l2)))), vI l2, vR l0] Q)) ∧ (¬ (¬ (M l1 (Int.toNat (w32 ((0 : Int) + l2)))) = (-1 : Int)) → Wp (d + 1) 195 50 [vR l0, vR l1, vI l2] [vI (0 : Int)] M K Q)) : Wp (d + 1) 195 0 [vR l0, vR l1, vI l2] [] M K Q := by
  refine r_aload_n c195_0 rfl ?_
  refine r_iconst c195_1 ?_
  refine r_iload_n c195_2 rfl ?_
  refine r_iadd c195_3 ?_
  obtain ⟨s1, h⟩ := h
  obtain ⟨s2, h⟩ := h
  refine r_ia c195_4 s1 s2 ?_
  refine r_iconst c195_5 ?_
  refine r_icmpP (P := ¬ (M l1 (Int.toNat (w32 ((0 : Int) + l2)))) = (-1 : Int)) c195_6 rfl (fun hc => ?_) (fun hc => ?_)
  · replace h := h.1 hc
    refine r_aload_n c195_13 rfl ?_
    refine r_iload_n c195_14 rfl ?_
    refine r_aload_n c195_15 rfl ?_
    refine r_iconst c195_16 ?_
    refine r_iload_n c195_17 rfl ?_
    refine r_iadd c195_18 ?_
    obtain ⟨s3, h⟩ := h
    obtain ⟨s4, h⟩ := h
    refine r_ia c195_19 s3 s4 ?_
    refine r_aload_n c195_20 rfl ?_
    refine r_bipush c195_21 ?_
    refine r_iload_n c195_23 rfl ?_
    refine r_iadd c195_24 ?_
    obtain ⟨s5, h⟩ := h
    obtain ⟨s6, h⟩ := h
    refine r_ia c195_25 s5 s6 ?_
    refine r_aload_n c195_26 rfl ?_
    refine r_aload_n c195_27 rfl ?_
    obtain ⟨s7, h⟩ := h
    exact r_call c195_28 rfl rfl (Nat.le_of_ble_eq_true rfl) (okc_r rfl rfl s7) h
  · replace h := h.2 hc
    refine r_iconst c195_9 ?_
    refine r_goto c195_10 ?_
    exact h
theorem t195_31 {d : Nat} {l0 : Nat} {l1 : Nat} {l2 : Int} {t0 : Nat} {t1 : Int} {t2 : Int} {t3 : Int} {t4 : Int} {M : Mem} {K : KK} {Q : RR → Mem → KK → Prop} (h : isO K.1 l1 20 = true ∧ (0 ≤ (w32 ((12 : Int) + l2)) ∧ (w32 ((12 : Int) + l2)) < (ln l1 : Int)) ∧ isO K.1 l1 20 = true ∧ (0 ≤ (w32 ((18 : Int) + l2)) ∧ (w32 ((18 : Int) + l2)) < (ln l1 : Int)) ∧ isO K.1 l1 20 = true ∧ (0 ≤ (24 : Int) ∧ (24 : Int) < (ln l1 : Int)) ∧ isO K.1 t0 12 = true ∧ Wm d 194 [vR t0, vI t1, vI t2, vI t3, vI t4, vI (M l1 (Int.toNat (w32 ((12 : Int) + l2)))), vI (M l1 (Int.toNat (w32 ((18 : Int) + l2)))), vI (M l1 (Int.toNat (24 : Int)))] M K (Bk d 195 47 50 194 [vR l0, vR l1, vI l2] [] Q)) : Wp (d + 1) 195 31 [vR l0, vR l1, vI l2] [vI t4, vI t3, vI t2, vI t1, vR t0] M K Q := by
  refine r_aload_n c195_31 rfl ?_
  refine r_bipush c195_32 ?_
  refine r_iload_n c195_34 rfl ?_
  refine r_iadd c195_35 ?_
  obtain ⟨s1, h⟩ := h
  obtain ⟨s2, h⟩ := h
  refine r_ia c195_36 s1 s2 ?_
  refine r_aload_n c195_37 rfl ?_
  refine r_bipush c195_38 ?_
  refine r_iload_n c195_40 rfl ?_
  refine r_iadd c195_41 ?_
  obtain ⟨s3, h⟩ := h
  obtain ⟨s4, h⟩ := h
  refine r_ia c195_42 s3 s4 ?_
  refine r_aload_n c195_43 rfl ?_
  refine r_bipush c195_44 ?_
  obtain ⟨s5, h⟩ := h
  obtain ⟨s6, h⟩ := h
  refine r_ia c195_46 s5 s6 ?_
  obtain ⟨s7, h⟩ := h
  exact r_call c195_47 rfl rfl (Nat.le_of_ble_eq_true rfl) (okc_r rfl rfl s7) h
theorem t195_50 {d : Nat} {l0 : Nat} {l1 : Nat} {l2 : Int} {t0 : Int} {M : Mem} {K : KK} {Q : RR → Mem → KK → Prop} (h : Q (.inl (some (vI t0))) M K) : Wp d 195 50 [vR l0, vR l1, vI l2] [vI t0] M K Q := by
  exact r_iret c195_50 (Or.inl rfl) h
theorem t196_0 {d : Nat} {l0 : Nat} {l1 : Nat} {l2 : Int} {M : Mem} {K : KK} {Q : RR → Mem → KK → Prop} (h : Wp d 196 2 [vR l0, vR l1, vI l2, vI (0 : Int)] [] M K Q) : Wp d 196 0 [vR l0, vR l1, vI l2, vU] [] M K Q := by
  refine r_iconst c196_0 ?_
  refine r_istore_n c196_1 (Nat.le_of_ble_eq_true rfl) ?_
  exact h
theorem t196_2 {d : Nat} {l0 : Nat} {l1 : Nat} {l2 : Int} {l3 : Int} {M : Mem} {K : KK} {Q : RR → Mem → KK → Prop} (h : isO K.1 l0 12 = true ∧ ∃ b2 : Nat, (M l0 12) = (b2 : Int) ∧ 0 < b2 ∧ isO K.1 b2 20 = true ∧ (0 ≤ (1 : Int) ∧ (1 : Int) < (ln b2 : Int)) ∧ ((M b2 (Int.toNat (1 : Int))) ≤ l3 → Q (.inl (some (vI (-1 : Int)))) M K) ∧ (¬ ((M b2 (Int.toNat (1 : Int))) ≤ l3) → isO K.1 l1 20 = true ∧ (0 ≤ (w32 ((0 : Int) + l3)) ∧ (w32 ((0 : Int) + l3)) < (ln l1 : Int)) ∧ ((M l1 (Int.toNat (w32 ((0 : Int) + l3)))) = (-1 : Int) → Wp (d + 1) 196 51 [vR l0, vR l1, vI l2, vI l3] [] M K Q) ∧ (¬ ((M l1 (Int.toNat (w32 ((0 : Int) + l3)))) = (-1 : Int)) → isO K.1 l1 20 = true ∧ (0 ≤ (w32 ((0 : Int) + l3)) ∧ (w32 ((0 : Int) + l3)) < (ln l1 : Int)) ∧ isO K.1 l1 20 = true ∧ (0 ≤ (w32 ((0 : Int) + l3)) ∧ (w32 ((0 : Int) + l3)) < (ln l1 : Int)) ∧ isO K.1 l0 12 = true ∧ ∃ b14 : Nat, (M l0 20) = (b14 : Int) ∧ 0 < b14 ∧ (Nat.ble 30 (tg b14) = true ∧ isO K.1 b14 (tg b14) = true) ∧ (0 ≤ l3 ∧ l3 < (ln b14 : Int)) ∧ ∃ b19 : Nat, (M b14 (Int.toNat l3)) = (b19 : Int) ∧ 0 < b19 ∧ isO K.1 b19 20 = true ∧ (0 ≤ (0 : Int) ∧ (0 : Int) < (ln b19 : Int)) ∧ Wm d 153 [vI l2, vI (M l1 (Int.toNat (w32 ((0 : Int) + l3)))), vI (w32 ((w32 ((M l1 (Int.toNat (w32 ((0 : Int) + l3)))) + (M b19 (Int.toNat (0 : Int))))) - (1 : Int)))] M K (Bk d 196 43 46 153 [vR l0, vR l1, vI l2, vI l3] [] Q)))) : Wp (d + 1) 196 2 [vR l0, vR l1, vI l2, vI l3] [] M K Q := by
  refine r_iload_n c196_2 rfl ?_
  refine r_aload_n c196_3 rfl ?_
  obtain ⟨s1, h⟩ := h
  obtain ⟨b2, h⟩ := h
  obtain ⟨s3, h⟩ := h
  obtain ⟨s4, h⟩ := h
  refine r_getR c196_4 s1 s3 s4 ?_
  refine r_iconst c196_7 ?_
  obtain ⟨s5, h⟩ := h
  obtain ⟨s6, h⟩ := h
  refine r_ia c196_8 s5 s6 ?_
  refine r_icmpP (P := (M b2 (Int.toNat (1 : Int))) ≤ l3) c196_9 rfl (fun hc => ?_) (fun hc => ?_)
  · replace h := h.1 hc
    refine r_iconst c196_57 ?_
    exact r_iret c196_58 (Or.inl rfl) h
  · replace h := h.2 hc
    refine r_aload_n c196_12 rfl ?_
    refine r_iconst c196_13 ?_
    refine r_iload_n c196_14 rfl ?_
    refine r_iadd c196_15 ?_
    obtain ⟨s7, h⟩ := h
    obtain ⟨s8, h⟩ := h
    refine r_ia c196_16 s7 s8 ?_
    refine r_iconst c196_17 ?_
    refine r_icmpP (P := (M l1 (Int.toNat (w32 ((0 : Int) + l3)))) = (-1 : Int)) c196_18 rfl (fun hc => ?_) (fun hc => ?_)
    · replace h := h.1 hc
      exact h
    · replace h := h.2 hc
      refine r_iload_n c196_21 rfl ?_
      refine r_aload_n c196_22 rfl ?_
      refine r_iconst c196_23 ?_
      refine r_iload_n c196_24 rfl ?_
      refine r_iadd c196_25 ?_
      obtain ⟨s9, h⟩ := h
      obtain ⟨s10, h⟩ := h
      refine r_ia c196_26 s9 s10 ?_
      refine r_aload_n c196_27 rfl ?_
      refine r_iconst c196_28 ?_
      refine r_iload_n c196_29 rfl ?_
      refine r_iadd c196_30 ?_
      obtain ⟨s11, h⟩ := h
      obtain ⟨s12, h⟩ := h
      refine r_ia c196_31 s11 s12 ?_
      refine r_aload_n c196_32 rfl ?_
      obtain ⟨s13, h⟩ := h
      obtain ⟨b14, h⟩ := h
      obtain ⟨s15, h⟩ := h
      obtain ⟨s16, h⟩ := h
      refine r_getR c196_33 s13 s15 s16 ?_
      refine r_iload_n c196_36 rfl ?_
      obtain ⟨s17, h⟩ := h
      obtain ⟨s18, h⟩ := h
      obtain ⟨b19, h⟩ := h
      obtain ⟨s20, h⟩ := h
      obtain ⟨s21, h⟩ := h
      refine r_aa c196_37 s17 s18 s20 s21 ?_
      refine r_iconst c196_38 ?_
      obtain ⟨s22, h⟩ := h
      obtain ⟨s23, h⟩ := h
      refine r_ia c196_39 s22 s23 ?_
      refine r_iadd c196_40 ?_
      refine r_iconst c196_41 ?_
      refine r_isub c196_42 ?_
      exact r_call c196_43 rfl rfl (Nat.le_of_ble_eq_true rfl) (okc_s rfl rfl rfl) h
theorem t196_46 {d : Nat} {l0 : Nat} {l1 : Nat} {l2 : Int} {l3 : Int} {t0 : Int} {M : Mem} {K : KK} {Q : RR → Mem → KK → Prop} (h : (t0 = (0 : Int) → Wp d 196 51 [vR l0, vR l1, vI l2, vI l3] [] M K Q) ∧ (¬ (t0 = (0 : Int)) → Q (.inl (some (vI l3))) M K)) : Wp d 196 46 [vR l0, vR l1, vI l2, vI l3] [vI t0] M K Q := by
  refine r_ifP (P := t0 = (0 : Int)) c196_46 rfl (fun hc => ?_) (fun hc => ?_)
  · replace h := h.1 hc
    exact h
  · replace h := h.2 hc
    refine r_iload_n c196_49 rfl ?_
    exact r_iret c196_50 (Or.inl rfl) h
theorem t196_51 {d : Nat} {l0 : Nat} {l1 : Nat} {l2 : Int} {l3 : Int} {M : Mem} {K : KK} {Q : RR → Mem → KK → Prop} (h : Wp d 196 2 [vR l0, vR l1, vI l2, vI (w32 (l3 + 1))] [] M K Q) : Wp d 196 51 [vR l0, vR l1, vI l2, vI l3] [] M K Q := by
  refine r_iinc c196_51 rfl ?_
  refine r_goto c196_54 ?_
  exact h
theorem t197_0 {d : Nat} {l0 : Nat} {l1 : Nat} {l2 : Int} {l3 : Int} {M : Mem} {K : KK} {Q : RR → Mem → KK → Prop} (h : isO K.1 l0 12 = true ∧ ∃ b2 : Nat, (M l0 20) = (b2 : Int) ∧ 0 < b2 ∧ (Nat.ble 30 (tg b2) = true ∧ isO K.1 b2 (tg b2) = true) ∧ (0 ≤ l2 ∧ l2 < (ln b2 : Int)) ∧ ∃ b7 : Nat, (M b2 (Int.toNat l2)) = (b7 : Int) ∧ 0 < b7 ∧ isO K.1 b7 20 = true ∧ (0 ≤ (0 : Int) ∧ (0 : Int) < (ln b7 : Int)) ∧ isO K.1 l0 12 = true ∧ ∃ b13 : Nat, (M l0 12) = (b13 : Int) ∧ 0 < b13 ∧ isO K.1 b13 20 = true ∧ (0 ≤ (0 : Int) ∧ (0 : Int) < (ln b13 : Int)) ∧ ((w32 (l3 + (M b7 (Int.toNat (0 : Int))))) ≤ (M b13 (Int.toNat (0 : Int))) → Wp d 197 24 [vR l0, vR l1, vI l2, vI l3, vI l3] [] M K Q) ∧ (¬ ((w32 (l3 + (M b7 (Int.toNat (0 : Int))))) ≤ (M b13 (Int.toNat (0 : Int)))) → Q (.inl (some (vI (0 : Int)))) M K)) : Wp d 197 0 [vR l0, vR l1, vI l2, vI l3, vU] [] M K Q := by
  refine r_iload_n c197_0 rfl ?_
  refine r_aload_n c197_1 rfl ?_
  obtain ⟨s1, h⟩ := h
  obtain ⟨b2, h⟩ := h
  obtain ⟨s3, h⟩ := h
  obtain ⟨s4, h⟩ := h
  refine r_getR c197_2 s1 s3 s4 ?_
  refine r_iload_n c197_5 rfl ?_
  obtain ⟨s5, h⟩ := h
  obtain ⟨s6, h⟩ := h
  obtain ⟨b7, h⟩ := h
  obtain ⟨s8, h⟩ := h
  obtain ⟨s9, h⟩ := h
  refine r_aa c197_6 s5 s6 s8 s9 ?_
  refine r_iconst c197_7 ?_
  obtain ⟨s10, h⟩ := h
  obtain ⟨s11, h⟩ := h
  refine r_ia c197_8 s10 s11 ?_
  refine r_iadd c197_9 ?_
  refine r_aload_n c197_10 rfl ?_
  obtain ⟨s12, h⟩ := h
  obtain ⟨b13, h⟩ := h
  obtain ⟨s14, h⟩ := h
  obtain ⟨s15, h⟩ := h
  refine r_getR c197_11 s12 s14 s15 ?_
  refine r_iconst c197_14 ?_
  obtain ⟨s16, h⟩ := h
  obtain ⟨s17, h⟩ := h
  refine r_ia c197_15 s16 s17 ?_
  refine r_icmpP (P := (w32 (l3 + (M b7 (Int.toNat (0 : Int))))) ≤ (M b13 (Int.toNat (0 : Int)))) c197_16 rfl (fun hc => ?_) (fun hc => ?_)
  · replace h := h.1 hc
    refine r_iload_n c197_21 rfl ?_
    refine r_istore c197_22 (Nat.le_of_ble_eq_true rfl) ?_
    exact h
  · replace h := h.2 hc
    refine r_iconst c197_19 ?_
    exact r_iret c197_20 (by decide) h
theorem t197_24 {d : Nat} {l0 : Nat} {l1 : Nat} {l2 : Int} {l3 : Int} {l4 : Int} {M : Mem} {K : KK} {Q : RR → Mem → KK → Prop} (h : isO K.1 l0 12 = true ∧ ∃ b2 : Nat, (M l0 20) = (b2 : Int) ∧ 0 < b2 ∧ (Nat.ble 30 (tg b2) = true ∧ isO K.1 b2 (tg b2) = true) ∧ (0 ≤ l2 ∧ l2 < (ln b2 : Int)) ∧ ∃ b7 : Nat, (M b2 (Int.toNat l2)) = (b7 : Int) ∧ 0 < b7 ∧ isO K.1 b7 20 = true ∧ (0 ≤ (0 : Int) ∧ (0 : Int) < (ln b7 : Int)) ∧ ((w32 (l3 + (M b7 (Int.toNat (0 : Int))))) ≤ l4 → Q (.inl (some (vI (1 : Int)))) M K) ∧ (¬ ((w32 (l3 + (M b7 (Int.toNat (0 : Int))))) ≤ l4) → isO K.1 l0 12 = true ∧ Wm d 196 [vR l0, vR l1, vI l4] M K (Bk d 197 43 46 196 [vR l0, vR l1, vI l2, vI l3, vI l4] [] Q))) : Wp (d + 1) 197 24 [vR l0, vR l1, vI l2, vI l3, vI l4] [] M K Q := by
  refine r_iload c197_24 rfl ?_
  refine r_iload_n c197_26 rfl ?_
  refine r_aload_n c197_27 rfl ?_
  obtain ⟨s1, h⟩ := h
  obtain ⟨b2, h⟩ := h
  obtain ⟨s3, h⟩ := h
  obtain ⟨s4, h⟩ := h
  refine r_getR c197_28 s1 s3 s4 ?_
  refine r_iload_n c197_31 rfl ?_
  obtain ⟨s5, h⟩ := h
  obtain ⟨s6, h⟩ := h
  obtain ⟨b7, h⟩ := h
  obtain ⟨s8, h⟩ := h
  obtain ⟨s9, h⟩ := h
  refine r_aa c197_32 s5 s6 s8 s9 ?_
  refine r_iconst c197_33 ?_
  obtain ⟨s10, h⟩ := h
  obtain ⟨s11, h⟩ := h
  refine r_ia c197_34 s10 s11 ?_
  refine r_iadd c197_35 ?_
  refine r_icmpP (P := (w32 (l3 + (M b7 (Int.toNat (0 : Int))))) ≤ l4) c197_36 rfl (fun hc => ?_) (fun hc => ?_)
  · replace h := h.1 hc
    refine r_iconst c197_69 ?_
    exact r_iret c197_70 (by decide) h
  · replace h := h.2 hc
    refine r_aload_n c197_39 rfl ?_
    refine r_aload_n c197_40 rfl ?_
    refine r_iload c197_41 rfl ?_
    obtain ⟨s12, h⟩ := h
    exact r_call c197_43 rfl rfl (Nat.le_of_ble_eq_true rfl) (okc_r rfl rfl s12) h
theorem t197_46 {d : Nat} {l0 : Nat} {l1 : Nat} {l2 : Int} {l3 : Int} {l4 : Int} {t0 : Int} {M : Mem} {K : KK} {Q : RR → Mem → KK → Prop} (h : (t0 = (-1 : Int) → Wp (d + 1) 197 63 [vR l0, vR l1, vI l2, vI l3, vI l4] [] M K Q) ∧ (¬ (t0 = (-1 : Int)) → isO K.1 l0 12 = true ∧ Wm d 196 [vR l0, vR l1, vI l4] M K (Bk d 197 54 57 196 [vR l0, vR l1, vI l2, vI l3, vI l4] [] Q))) : Wp (d + 1) 197 46 [vR l0, vR l1, vI l2, vI l3, vI l4] [vI t0] M K Q := by
  refine r_iconst c197_46 ?_
  refine r_icmpP (P := t0 = (-1 : Int)) c197_47 rfl (fun hc => ?_) (fun hc => ?_)
  · replace h := h.1 hc
    exact h
  · replace h := h.2 hc
    refine r_aload_n c197_50 rfl ?_
    refine r_aload_n c197_51 rfl ?_
    refine r_iload c197_52 rfl ?_
    obtain ⟨s1, h⟩ := h
    exact r_call c197_54 rfl rfl (Nat.le_of_ble_eq_true rfl) (okc_r rfl rfl s1) h
theorem t197_57 {d : Nat} {l0 : Nat} {l1 : Nat} {l2 : Int} {l3 : Int} {l4 : Int} {t0 : Int} {M : Mem} {K : KK} {Q : RR → Mem → KK → Prop} (h : (t0 = l2 → Wp d 197 63 [vR l0, vR l1, vI l2, vI l3, vI l4] [] M K Q) ∧ (¬ (t0 = l2) → Q (.inl (some (vI (0 : Int)))) M K)) : Wp d 197 57 [vR l0, vR l1, vI l2, vI l3, vI l4] [vI t0] M K Q := by
  refine r_iload_n c197_57 rfl ?_
  refine r_icmpP (P := t0 = l2) c197_58 rfl (fun hc => ?_) (fun hc => ?_)
  · replace h := h.1 hc
    exact h
  · replace h := h.2 hc
    refine r_iconst c197_61 ?_
    exact r_iret c197_62 (by decide) h
theorem t197_63 {d : Nat} {l0 : Nat} {l1 : Nat} {l2 : Int} {l3 : Int} {l4 : Int} {M : Mem} {K : KK} {Q : RR → Mem → KK → Prop} (h : Wp d 197 24 [vR l0, vR l1, vI l2, vI l3, vI (w32 (l4 + 1))] [] M K Q) : Wp d 197 63 [vR l0, vR l1, vI l2, vI l3, vI l4] [] M K Q := by
  refine r_iinc c197_63 rfl ?_
  refine r_goto c197_66 ?_
  exact h
theorem t198_0 {d : Nat} {l0 : Nat} {l1 : Nat} {M : Mem} {K : KK} {Q : RR → Mem → KK → Prop} (h : Wp d 198 2 [vR l0, vR l1, vI (0 : Int)] [] M K Q) : Wp d 198 0 [vR l0, vR l1, vU] [] M K Q := by
  refine r_iconst c198_0 ?_
  refine r_istore_n c198_1 (Nat.le_of_ble_eq_true rfl) ?_
  exact h
theorem t198_2 {d : Nat} {l0 : Nat} {l1 : Nat} {l2 : Int} {M : Mem} {K : KK} {Q : RR → Mem → KK → Prop} (h : isO K.1 l0 12 = true ∧ ∃ b2 : Nat, (M l0 12) = (b2 : Int) ∧ 0 < b2 ∧ isO K.1 b2 20 = true ∧ (0 ≤ (1 : Int) ∧ (1 : Int) < (ln b2 : Int)) ∧ ((M b2 (Int.toNat (1 : Int))) ≤ l2 → Wp (d + 1) 198 43 [vR l0, vR l1, vI (0 : Int)] [] M K Q) ∧ (¬ ((M b2 (Int.toNat (1 : Int))) ≤ l2) → isO K.1 l1 20 = true ∧ (0 ≤ (w32 ((6 : Int) + l2)) ∧ (w32 ((6 : Int) + l2)) < (ln l1 : Int)) ∧ isO K.1 l0 12 = true ∧ Wm d 195 [vR l0, vR l1, vI l2] M K (Bk d 198 27 30 195 [vR l0, vR l1, vI l2] [vI (M l1 (Int.toNat (w32 ((6 : Int) + l2)))), vI (0 : Int), vI (w32 ((6 : Int) + l2)), vR l1] Q))) : Wp (d + 1) 198 2 [vR l0, vR l1, vI l2] [] M K Q := by
  refine r_iload_n c198_2 rfl ?_
  refine r_aload_n c198_3 rfl ?_
  obtain ⟨s1, h⟩ := h
  obtain ⟨b2, h⟩ := h
  obtain ⟨s3, h⟩ := h
  obtain ⟨s4, h⟩ := h
  refine r_getR c198_4 s1 s3 s4 ?_
  refine r_iconst c198_7 ?_
  obtain ⟨s5, h⟩ := h
  obtain ⟨s6, h⟩ := h
  refine r_ia c198_8 s5 s6 ?_
  refine r_icmpP (P := (M b2 (Int.toNat (1 : Int))) ≤ l2) c198_9 rfl (fun hc => ?_) (fun hc => ?_)
  · replace h := h.1 hc
    refine r_iconst c198_41 ?_
    refine r_istore_n c198_42 (Nat.le_of_ble_eq_true rfl) ?_
    exact h
  · replace h := h.2 hc
    refine r_aload_n c198_12 rfl ?_
    refine r_bipush c198_13 ?_
    refine r_iload_n c198_15 rfl ?_
    refine r_iadd c198_16 ?_
    refine r_iconst c198_17 ?_
    refine r_aload_n c198_18 rfl ?_
    refine r_bipush c198_19 ?_
    refine r_iload_n c198_21 rfl ?_
    refine r_iadd c198_22 ?_
    obtain ⟨s7, h⟩ := h
    obtain ⟨s8, h⟩ := h
    refine r_ia c198_23 s7 s8 ?_
    refine r_aload_n c198_24 rfl ?_
    refine r_aload_n c198_25 rfl ?_
    refine r_iload_n c198_26 rfl ?_
    obtain ⟨s9, h⟩ := h
    exact r_call c198_27 rfl rfl (Nat.le_of_ble_eq_true rfl) (okc_r rfl rfl s9) h
theorem t198_30 {d : Nat} {l0 : Nat} {l1 : Nat} {l2 : Int} {t0 : Nat} {t1 : Int} {t2 : Int} {t3 : Int} {t4 : Int} {M : Mem} {K : KK} {Q : RR → Mem → KK → Prop} (h : Wm d 155 [vI t2, vI (w32 (t3 - t4))] M K (Bk d 198 31 34 155 [vR l0, vR l1, vI l2] [vI t1, vR t0] Q)) : Wp (d + 1) 198 30 [vR l0, vR l1, vI l2] [vI t4, vI t3, vI t2, vI t1, vR t0] M K Q := by
  refine r_isub c198_30 ?_
  exact r_call c198_31 rfl rfl (Nat.le_of_ble_eq_true rfl) (okc_s rfl rfl rfl) h
theorem t198_34 {d : Nat} {l0 : Nat} {l1 : Nat} {l2 : Int} {t0 : Nat} {t1 : Int} {t2 : Int} {M : Mem} {K : KK} {Q : RR → Mem → KK → Prop} (h : isO K.1 t0 20 = true ∧ (0 ≤ t1 ∧ t1 < (ln t0 : Int)) ∧ Wp d 198 2 [vR l0, vR l1, vI (w32 (l2 + 1))] [] (mset M t0 (Int.toNat t1) t2) K Q) : Wp d 198 34 [vR l0, vR l1, vI l2] [vI t2, vI t1, vR t0] M K Q := by
  obtain ⟨s1, h⟩ := h
  obtain ⟨s2, h⟩ := h
  refine r_ias c198_34 s1 s2 ?_
  refine r_iinc c198_35 rfl ?_
  refine r_goto c198_38 ?_
  exact h
theorem t198_43 {d : Nat} {l0 : Nat} {l1 : Nat} {l2 : Int} {M : Mem} {K : KK} {Q : RR → Mem → KK → Prop} (h : isO K.1 l0 12 = true ∧ ∃ b2 : Nat, (M l0 12) = (b2 : Int) ∧ 0 < b2 ∧ isO K.1 b2 20 = true ∧ (0 ≤ (1 : Int) ∧ (1 : Int) < (ln b2 : Int)) ∧ ((M b2 (Int.toNat (1 : Int))) ≤ l2 → isO K.1 l1 20 = true ∧ (0 ≤ (24 : Int) ∧ (24 : Int) < (ln l1 : Int)) ∧ isO K.1 l1 20 = true ∧ (0 ≤ (24 : Int) ∧ (24 : Int) < (ln l1 : Int)) ∧ Q (.inl none) (mset M l1 (Int.toNat (24 : Int)) (w32 ((M l1 (Int.toNat (24 : Int))) + (1 : Int)))) K) ∧ (¬ ((M b2 (Int.toNat (1 : Int))) ≤ l2) → isO K.1 l1 20 = true ∧ (0 ≤ (w32 ((12 : Int) + l2)) ∧ (w32 ((12 : Int) + l2)) < (ln l1 : Int)) ∧ isO K.1 l1 20 = true ∧ (0 ≤ (w32 ((18 : Int) + l2)) ∧ (w32 ((18 : Int) + l2)) < (ln l1 : Int)) ∧ Wp d 198 43 [vR l0, vR l1, vI (w32 (l2 + 1))] [] (mset (mset M l1 (Int.toNat (w32 ((12 : Int) + l2))) (0 : Int)) l1 (Int.toNat (w32 ((18 : Int) + l2))) (0 : Int)) K Q)) : Wp d 198 43 [vR l0, vR l1, vI l2] [] M K Q := by
  refine r_iload_n c198_43 rfl ?_
  refine r_aload_n c198_44 rfl ?_
  obtain ⟨s1, h⟩ := h
  obtain ⟨b2, h⟩ := h
  obtain ⟨s3, h⟩ := h
  obtain ⟨s4, h⟩ := h
  refine r_getR c198_45 s1 s3 s4 ?_
  refine r_iconst c198_48 ?_
  obtain ⟨s5, h⟩ := h
  obtain ⟨s6, h⟩ := h
  refine r_ia c198_49 s5 s6 ?_
  refine r_icmpP (P := (M b2 (Int.toNat (1 : Int))) ≤ l2) c198_50 rfl (fun hc => ?_) (fun hc => ?_)
  · replace h := h.1 hc
    refine r_aload_n c198_73 rfl ?_
    refine r_bipush c198_74 ?_
    refine r_dup2 c198_76 ?_
    obtain ⟨s7, h⟩ := h
    obtain ⟨s8, h⟩ := h
    refine r_ia c198_77 s7 s8 ?_
    refine r_iconst c198_78 ?_
    refine r_iadd c198_79 ?_
    obtain ⟨s9, h⟩ := h
    obtain ⟨s10, h⟩ := h
    refine r_ias c198_80 s9 s10 ?_
    exact r_ret c198_81 h
  · replace h := h.2 hc
    refine r_aload_n c198_53 rfl ?_
    refine r_bipush c198_54 ?_
    refine r_iload_n c198_56 rfl ?_
    refine r_iadd c198_57 ?_
    refine r_iconst c198_58 ?_
    obtain ⟨s11, h⟩ := h
    obtain ⟨s12, h⟩ := h
    refine r_ias c198_59 s11 s12 ?_
    refine r_aload_n c198_60 rfl ?_
    refine r_bipush c198_61 ?_
    refine r_iload_n c198_63 rfl ?_
    refine r_iadd c198_64 ?_
    refine r_iconst c198_65 ?_
    obtain ⟨s13, h⟩ := h
    obtain ⟨s14, h⟩ := h
    refine r_ias c198_66 s13 s14 ?_
    refine r_iinc c198_67 rfl ?_
    refine r_goto c198_70 ?_
    exact h
theorem t199_0 {d : Nat} {l0 : Nat} {l1 : Nat} {l2 : Int} {M : Mem} {K : KK} {Q : RR → Mem → KK → Prop} (h : isO K.1 l0 12 = true ∧ Wm d 196 [vR l0, vR l1, vI l2] M K (Bk d 199 3 6 196 [vR l0, vR l1, vI l2, vU] [] Q)) : Wp (d + 1) 199 0 [vR l0, vR l1, vI l2, vU] [] M K Q := by
  refine r_aload_n c199_0 rfl ?_
  refine r_aload_n c199_1 rfl ?_
  refine r_iload_n c199_2 rfl ?_
  obtain ⟨s1, h⟩ := h
  exact r_call c199_3 rfl rfl (Nat.le_of_ble_eq_true rfl) (okc_r rfl rfl s1) h
theorem t199_6 {d : Nat} {l0 : Nat} {l1 : Nat} {l2 : Int} {t0 : Int} {M : Mem} {K : KK} {Q : RR → Mem → KK → Prop} (h : (¬ t0 = (-1 : Int) → isO K.1 l1 20 = true ∧ (0 ≤ (w32 ((6 : Int) + t0)) ∧ (w32 ((6 : Int) + t0)) < (ln l1 : Int)) ∧ Wm d 154 [vI (99 : Int), vI (w32 ((M l1 (Int.toNat (w32 ((6 : Int) + t0)))) + (5 : Int)))] M K (Bk d 199 29 32 154 [vR l0, vR l1, vI l2, vI t0] [vI (w32 ((6 : Int) + t0)), vR l1] Q)) ∧ (¬ (¬ t0 = (-1 : Int)) → Q (.inl (some (vI (0 : Int)))) M K)) : Wp (d + 1) 199 6 [vR l0, vR l1, vI l2, vU] [vI t0] M K Q := by
  refine r_istore_n c199_6 (Nat.le_of_ble_eq_true rfl) ?_
  refine r_iload_n c199_7 rfl ?_
  refine r_iconst c199_8 ?_
  refine r_icmpP (P := ¬ t0 = (-1 : Int)) c199_9 rfl (fun hc => ?_) (fun hc => ?_)
  · replace h := h.1 hc
    refine r_aload_n c199_14 rfl ?_
    refine r_bipush c199_15 ?_
    refine r_iload_n c199_17 rfl ?_
    refine r_iadd c199_18 ?_
    refine r_bipush c199_19 ?_
    refine r_aload_n c199_21 rfl ?_
    refine r_bipush c199_22 ?_
    refine r_iload_n c199_24 rfl ?_
    refine r_iadd c199_25 ?_
    obtain ⟨s1, h⟩ := h
    obtain ⟨s2, h⟩ := h
    refine r_ia c199_26 s1 s2 ?_
    refine r_iconst c199_27 ?_
    refine r_iadd c199_28 ?_
    exact r_call c199_29 rfl rfl (Nat.le_of_ble_eq_true rfl) (okc_s rfl rfl rfl) h
  · replace h := h.2 hc
    refine r_iconst c199_12 ?_
    exact r_iret c199_13 (by decide) h
theorem t199_32 {d : Nat} {l0 : Nat} {l1 : Nat} {l2 : Int} {l3 : Int} {t0 : Nat} {t1 : Int} {t2 : Int} {M : Mem} {K : KK} {Q : RR → Mem → KK → Prop} (h : isO K.1 t0 20 = true ∧ (0 ≤ t1 ∧ t1 < (ln t0 : Int)) ∧ Q (.inl (some (vI (1 : Int)))) (mset M t0 (Int.toNat t1) t2) K) : Wp d 199 32 [vR l0, vR l1, vI l2, vI l3] [vI t2, vI t1, vR t0] M K Q := by
  obtain ⟨s1, h⟩ := h
  obtain ⟨s2, h⟩ := h
  refine r_ias c199_32 s1 s2 ?_
  refine r_iconst c199_33 ?_
  exact r_iret c199_34 (by decide) h
theorem t200_0 {d : Nat} {l0 : Nat} {l1 : Nat} {l2 : Nat} {M : Mem} {K : KK} {Q : RR → Mem → KK → Prop} (h : isO K.1 l2 20 = true ∧ (0 ≤ (1 : Int) ∧ (1 : Int) < (ln l2 : Int)) ∧ isO K.1 l2 20 = true ∧ (0 ≤ (2 : Int) ∧ (2 : Int) < (ln l2 : Int)) ∧ isO K.1 l2 20 = true ∧ (0 ≤ (0 : Int) ∧ (0 : Int) < (ln l2 : Int)) ∧ ((4 : Int) ≤ (M l2 (Int.toNat (0 : Int))) → Wp d 200 29 [vR l0, vR l1, vR l2, vI (M l2 (Int.toNat (1 : Int))), vI (M l2 (Int.toNat (2 : Int))), vU] [] M K Q) ∧ (¬ ((4 : Int) ≤ (M l2 (Int.toNat (0 : Int)))) → isO K.1 l1 20 = true ∧ (0 ≤ (w32 ((0 : Int) + (M l2 (Int.toNat (1 : Int))))) ∧ (w32 ((0 : Int) + (M l2 (Int.toNat (1 : Int))))) < (ln l1 : Int)) ∧ (¬ (M l1 (Int.toNat (w32 ((0 : Int) + (M l2 (Int.toNat (1 : Int))))))) = (-1 : Int) → Wp d 200 29 [vR l0, vR l1, vR l2, vI (M l2 (Int.toNat (1 : Int))), vI (M l2 (Int.toNat (2 : Int))), vU] [] M K Q) ∧ (¬ (¬ (M l1 (Int.toNat (w32 ((0 : Int) + (M l2 (Int.toNat (1 : Int))))))) = (-1 : Int)) → Wp d 200 30 [vR l0, vR l1, vR l2, vI (M l2 (Int.toNat (1 : Int))), vI (M l2 (Int.toNat (2 : Int))), vU] [vI (1 : Int)] M K Q))) : Wp d 200 0 [vR l0, vR l1, vR l2, vU, vU, vU] [] M K Q := by
  refine r_aload_n c200_0 rfl ?_
  refine r_iconst c200_1 ?_
  obtain ⟨s1, h⟩ := h
  obtain ⟨s2, h⟩ := h
  refine r_ia c200_2 s1 s2 ?_
  refine r_istore_n c200_3 (Nat.le_of_ble_eq_true rfl) ?_
  refine r_aload_n c200_4 rfl ?_
  refine r_iconst c200_5 ?_
  obtain ⟨s3, h⟩ := h
  obtain ⟨s4, h⟩ := h
  refine r_ia c200_6 s3 s4 ?_
  refine r_istore c200_7 (Nat.le_of_ble_eq_true rfl) ?_
  refine r_aload_n c200_9 rfl ?_
  refine r_iconst c200_10 ?_
  obtain ⟨s5, h⟩ := h
  obtain ⟨s6, h⟩ := h
  refine r_ia c200_11 s5 s6 ?_
  refine r_iconst c200_12 ?_
  refine r_icmpP (P := (4 : Int) ≤ (M l2 (Int.toNat (0 : Int)))) c200_13 rfl (fun hc => ?_) (fun hc => ?_)
  · replace h := h.1 hc
    exact h
  · replace h := h.2 hc
    refine r_aload_n c200_16 rfl ?_
    refine r_iconst c200_17 ?_
    refine r_iload_n c200_18 rfl ?_
    refine r_iadd c200_19 ?_
    obtain ⟨s7, h⟩ := h
    obtain ⟨s8, h⟩ := h
    refine r_ia c200_20 s7 s8 ?_
    refine r_iconst c200_21 ?_
    refine r_icmpP (P := ¬ (M l1 (Int.toNat (w32 ((0 : Int) + (M l2 (Int.toNat (1 : Int))))))) = (-1 : Int)) c200_22 rfl (fun hc => ?_) (fun hc => ?_)
    · replace h := h.1 hc
      exact h
    · replace h := h.2 hc
      refine r_iconst c200_25 ?_
      refine r_goto c200_26 ?_
      exact h
theorem t200_29 {d : Nat} {l0 : Nat} {l1 : Nat} {l2 : Nat} {l3 : Int} {l4 : Int} {M : Mem} {K : KK} {Q : RR → Mem → KK → Prop} (h : Wp d 200 30 [vR l0, vR l1, vR l2, vI l3, vI l4, vU] [vI (0 : Int)] M K Q) : Wp d 200 29 [vR l0, vR l1, vR l2, vI l3, vI l4, vU] [] M K Q := by
  refine r_iconst c200_29 ?_
  exact h
theorem t200_30 {d : Nat} {l0 : Nat} {l1 : Nat} {l2 : Nat} {l3 : Int} {l4 : Int} {t0 : Int} {M : Mem} {K : KK} {Q : RR → Mem → KK → Prop} (h : isO K.1 l2 20 = true ∧ (0 ≤ (0 : Int) ∧ (0 : Int) < (ln l2 : Int)) ∧ Wp d 200 (tsw 35 168 0 4 #[33, 60, 89, 119, 160] (M l2 (Int.toNat (0 : Int)))) [vR l0, vR l1, vR l2, vI l3, vI l4, vI t0] [] M K Q) : Wp d 200 30 [vR l0, vR l1, vR l2, vI l3, vI l4, vU] [vI t0] M K Q := by
  refine r_istore c200_30 (Nat.le_of_ble_eq_true rfl) ?_
  refine r_aload_n c200_32 rfl ?_
  refine r_iconst c200_33 ?_
  obtain ⟨s1, h⟩ := h
  obtain ⟨s2, h⟩ := h
  refine r_ia c200_34 s1 s2 ?_
  refine r_tsw c200_35 ?_
  exact h
theorem t200_68 {d : Nat} {l0 : Nat} {l1 : Nat} {l2 : Nat} {l3 : Int} {l4 : Int} {l5 : Int} {M : Mem} {K : KK} {Q : RR → Mem → KK → Prop} (h : (l5 = (0 : Int) → Wp (d + 1) 200 84 [vR l0, vR l1, vR l2, vI l3, vI l4, vI l5] [] M K Q) ∧ (¬ (l5 = (0 : Int)) → isO K.1 l0 12 = true ∧ Wm d 197 [vR l0, vR l1, vI l3, vI l4] M K (Bk d 200 78 81 197 [vR l0, vR l1, vR l2, vI l3, vI l4, vI l5] [] Q))) : Wp (d + 1) 200 68 [vR l0, vR l1, vR l2, vI l3, vI l4, vI l5] [] M K Q := by
  refine r_iload c200_68 rfl ?_
  refine r_ifP (P := l5 = (0 : Int)) c200_70 rfl (fun hc => ?_) (fun hc => ?_)
  · replace h := h.1 hc
    exact h
  · replace h := h.2 hc
    refine r_aload_n c200_73 rfl ?_
    refine r_aload_n c200_74 rfl ?_
    refine r_iload_n c200_75 rfl ?_
    refine r_iload c200_76 rfl ?_
    obtain ⟨s1, h⟩ := h
    exact r_call c200_78 rfl rfl (Nat.le_of_ble_eq_true rfl) (okc_r rfl rfl s1) h
theorem t200_81 {d : Nat} {l0 : Nat} {l1 : Nat} {l2 : Nat} {l3 : Int} {l4 : Int} {l5 : Int} {t0 : Int} {M : Mem} {K : KK} {Q : RR → Mem → KK → Prop} (h : (¬ t0 = (0 : Int) → isO K.1 l1 20 = true ∧ (0 ≤ (w32 ((0 : Int) + l3)) ∧ (w32 ((0 : Int) + l3)) < (ln l1 : Int)) ∧ Q (.inl (some (vI (1 : Int)))) (mset M l1 (Int.toNat (w32 ((0 : Int) + l3))) l4) K) ∧ (¬ (¬ t0 = (0 : Int)) → Wp d 200 84 [vR l0, vR l1, vR l2, vI l3, vI l4, vI l5] [] M K Q)) : Wp d 200 81 [vR l0, vR l1, vR l2, vI l3, vI l4, vI l5] [vI t0] M K Q := by
  refine r_ifP (P := ¬ t0 = (0 : Int)) c200_81 rfl (fun hc => ?_) (fun hc => ?_)
  · replace h := h.1 hc
    refine r_aload_n c200_86 rfl ?_
    refine r_iconst c200_87 ?_
    refine r_iload_n c200_88 rfl ?_
    refine r_iadd c200_89 ?_
    refine r_iload c200_90 rfl ?_
    obtain ⟨s1, h⟩ := h
    obtain ⟨s2, h⟩ := h
    refine r_ias c200_92 s1 s2 ?_
    refine r_iconst c200_93 ?_
    exact r_iret c200_94 (by decide) h
  · replace h := h.2 hc
    exact h
theorem t200_84 {d : Nat} {l0 : Nat} {l1 : Nat} {l2 : Nat} {l3 : Int} {l4 : Int} {l5 : Int} {M : Mem} {K : KK} {Q : RR → Mem → KK → Prop} (h : Q (.inl (some (vI (0 : Int)))) M K) : Wp d 200 84 [vR l0, vR l1, vR l2, vI l3, vI l4, vI l5] [] M K Q := by
  refine r_iconst c200_84 ?_
  exact r_iret c200_85 (by decide) h
theorem t200_95 {d : Nat} {l0 : Nat} {l1 : Nat} {l2 : Nat} {l3 : Int} {l4 : Int} {l5 : Int} {M : Mem} {K : KK} {Q : RR → Mem → KK → Prop} (h : (l5 = (0 : Int) → isO K.1 l1 20 = true ∧ (0 ≤ (w32 ((0 : Int) + l3)) ∧ (w32 ((0 : Int) + l3)) < (ln l1 : Int)) ∧ isO K.1 l1 20 = true ∧ (0 ≤ (w32 ((12 : Int) + l3)) ∧ (w32 ((12 : Int) + l3)) < (ln l1 : Int)) ∧ isO K.1 l1 20 = true ∧ (0 ≤ (w32 ((18 : Int) + l3)) ∧ (w32 ((18 : Int) + l3)) < (ln l1 : Int)) ∧ Q (.inl (some (vI (1 : Int)))) (mset (mset (mset M l1 (Int.toNat (w32 ((0 : Int) + l3))) (-1 : Int)) l1 (Int.toNat (w32 ((12 : Int) + l3))) (0 : Int)) l1 (Int.toNat (w32 ((18 : Int) + l3))) (0 : Int)) K) ∧ (¬ (l5 = (0 : Int)) → Q (.inl (some (vI (0 : Int)))) M K)) : Wp d 200 95 [vR l0, vR l1, vR l2, vI l3, vI l4, vI l5] [] M K Q := by
  refine r_iload c200_95 rfl ?_
  refine r_ifP (P := l5 = (0 : Int)) c200_97 rfl (fun hc => ?_) (fun hc => ?_)
  · replace h := h.1 hc
    refine r_aload_n c200_102 rfl ?_
    refine r_iconst c200_103 ?_
    refine r_iload_n c200_104 rfl ?_
    refine r_iadd c200_105 ?_
    refine r_iconst c200_106 ?_
    obtain ⟨s1, h⟩ := h
    obtain ⟨s2, h⟩ := h
    refine r_ias c200_107 s1 s2 ?_
    refine r_aload_n c200_108 rfl ?_
    refine r_bipush c200_109 ?_
    refine r_iload_n c200_111 rfl ?_
    refine r_iadd c200_112 ?_
    refine r_iconst c200_113 ?_
    obtain ⟨s3, h⟩ := h
    obtain ⟨s4, h⟩ := h
    refine r_ias c200_114 s3 s4 ?_
    refine r_aload_n c200_115 rfl ?_
    refine r_bipush c200_116 ?_
    refine r_iload_n c200_118 rfl ?_
    refine r_iadd c200_119 ?_
    refine r_iconst c200_120 ?_
    obtain ⟨s5, h⟩ := h
    obtain ⟨s6, h⟩ := h
    refine r_ias c200_121 s5 s6 ?_
    refine r_iconst c200_122 ?_
    exact r_iret c200_123 (by decide) h
  · replace h := h.2 hc
    refine r_iconst c200_100 ?_
    exact r_iret c200_101 (by decide) h
theorem t200_124 {d : Nat} {l0 : Nat} {l1 : Nat} {l2 : Nat} {l3 : Int} {l4 : Int} {l5 : Int} {M : Mem} {K : KK} {Q : RR → Mem → KK → Prop} (h : (¬ l5 = (0 : Int) → Wp d 200 140 [vR l0, vR l1, vR l2, vI l3, vI l4, vI l5] [] M K Q) ∧ (¬ (¬ l5 = (0 : Int)) → isO K.1 l1 20 = true ∧ (0 ≤ (w32 ((12 : Int) + l3)) ∧ (w32 ((12 : Int) + l3)) < (ln l1 : Int)) ∧ (¬ (M l1 (Int.toNat (w32 ((12 : Int) + l3)))) = (9 : Int) → isO K.1 l1 20 = true ∧ (0 ≤ (w32 ((12 : Int) + l3)) ∧ (w32 ((12 : Int) + l3)) < (ln l1 : Int)) ∧ isO K.1 l1 20 = true ∧ (0 ≤ (w32 ((12 : Int) + l3)) ∧ (w32 ((12 : Int) + l3)) < (ln l1 : Int)) ∧ Q (.inl (some (vI (1 : Int)))) (mset M l1 (Int.toNat (w32 ((12 : Int) + l3))) (w32 ((M l1 (Int.toNat (w32 ((12 : Int) + l3)))) + (1 : Int)))) K) ∧ (¬ (¬ (M l1 (Int.toNat (w32 ((12 : Int) + l3)))) = (9 : Int)) → Wp d 200 140 [vR l0, vR l1, vR l2, vI l3, vI l4, vI l5] [] M K Q))) : Wp d 200 124 [vR l0, vR l1, vR l2, vI l3, vI l4, vI l5] [] M K Q := by
  refine r_iload c200_124 rfl ?_
  refine r_ifP (P := ¬ l5 = (0 : Int)) c200_126 rfl (fun hc => ?_) (fun hc => ?_)
  · replace h := h.1 hc
    exact h
  · replace h := h.2 hc
    refine r_aload_n c200_129 rfl ?_
    refine r_bipush c200_130 ?_
    refine r_iload_n c200_132 rfl ?_
    refine r_iadd c200_133 ?_
    obtain ⟨s1, h⟩ := h
    obtain ⟨s2, h⟩ := h
    refine r_ia c200_134 s1 s2 ?_
    refine r_bipush c200_135 ?_
    refine r_icmpP (P := ¬ (M l1 (Int.toNat (w32 ((12 : Int) + l3)))) = (9 : Int)) c200_137 rfl (fun hc => ?_) (fun hc => ?_)
    · replace h := h.1 hc
      refine r_aload_n c200_142 rfl ?_
      refine r_bipush c200_143 ?_
      refine r_iload_n c200_145 rfl ?_
      refine r_iadd c200_146 ?_
      refine r_dup2 c200_147 ?_
      obtain ⟨s3, h⟩ := h
      obtain ⟨s4, h⟩ := h
      refine r_ia c200_148 s3 s4 ?_
      refine r_iconst c200_149 ?_
      refine r_iadd c200_150 ?_
      obtain ⟨s5, h⟩ := h
      obtain ⟨s6, h⟩ := h
      refine r_ias c200_151 s5 s6 ?_
      refine r_iconst c200_152 ?_
      exact r_iret c200_153 (by decide) h
    · replace h := h.2 hc
      exact h
theorem t200_140 {d : Nat} {l0 : Nat} {l1 : Nat} {l2 : Nat} {l3 : Int} {l4 : Int} {l5 : Int} {M : Mem} {K : KK} {Q : RR → Mem → KK → Prop} (h : Q (.inl (some (vI (0 : Int)))) M K) : Wp d 200 140 [vR l0, vR l1, vR l2, vI l3, vI l4, vI l5] [] M K Q := by
  refine r_iconst c200_140 ?_
  exact r_iret c200_141 (by decide) h
theorem t200_154 {d : Nat} {l0 : Nat} {l1 : Nat} {l2 : Nat} {l3 : Int} {l4 : Int} {l5 : Int} {M : Mem} {K : KK} {Q : RR → Mem → KK → Prop} (h : (¬ l5 = (0 : Int) → Wp d 200 176 [vR l0, vR l1, vR l2, vI l3, vI l4, vI l5] [] M K Q) ∧ (¬ (¬ l5 = (0 : Int)) → isO K.1 l1 20 = true ∧ (0 ≤ (w32 ((18 : Int) + l3)) ∧ (w32 ((18 : Int) + l3)) < (ln l1 : Int)) ∧ ((M l1 (Int.toNat (w32 ((18 : Int) + l3)))) = (1 : Int) → Wp d 200 176 [vR l0, vR l1, vR l2, vI l3, vI l4, vI l5] [] M K Q) ∧ (¬ ((M l1 (Int.toNat (w32 ((18 : Int) + l3)))) = (1 : Int)) → isO K.1 l1 20 = true ∧ (0 ≤ (25 : Int) ∧ (25 : Int) < (ln l1 : Int)) ∧ (¬ (M l1 (Int.toNat (25 : Int))) = (0 : Int) → isO K.1 l1 20 = true ∧ (0 ≤ (w32 ((18 : Int) + l3)) ∧ (w32 ((18 : Int) + l3)) < (ln l1 : Int)) ∧ isO K.1 l1 20 = true ∧ (0 ≤ (25 : Int) ∧ (25 : Int) < (ln l1 : Int)) ∧ isO K.1 l1 20 = true ∧ (0 ≤ (25 : Int) ∧ (25 : Int) < (ln l1 : Int)) ∧ Q (.inl (some (vI (1 : Int)))) (mset (mset M l1 (Int.toNat (w32 ((18 : Int) + l3))) (1 : Int)) l1 (Int.toNat (25 : Int)) (w32 (((mset M l1 (Int.toNat (w32 ((18 : Int) + l3))) (1 : Int)) l1 (Int.toNat (25 : Int))) - (1 : Int)))) K) ∧ (¬ (¬ (M l1 (Int.toNat (25 : Int))) = (0 : Int)) → Wp d 200 176 [vR l0, vR l1, vR l2, vI l3, vI l4, vI l5] [] M K Q)))) : Wp d 200 154 [vR l0, vR l1, vR l2, vI l3, vI l4, vI l5] [] M K Q := by
  refine r_iload c200_154 rfl ?_
  refine r_ifP (P := ¬ l5 = (0 : Int)) c200_156 rfl (fun hc => ?_) (fun hc => ?_)
  · replace h := h.1 hc
    exact h
  · replace h := h.2 hc
    refine r_aload_n c200_159 rfl ?_
    refine r_bipush c200_160 ?_
    refine r_iload_n c200_162 rfl ?_
    refine r_iadd c200_163 ?_
    obtain ⟨s1, h⟩ := h
    obtain ⟨s2, h⟩ := h
    refine r_ia c200_164 s1 s2 ?_
    refine r_iconst c200_165 ?_
    refine r_icmpP (P := (M l1 (Int.toNat (w32 ((18 : Int) + l3)))) = (1 : Int)) c200_166 rfl (fun hc => ?_) (fun hc => ?_)
    · replace h := h.1 hc
      exact h
    · replace h := h.2 hc
      refine r_aload_n c200_169 rfl ?_
      refine r_bipush c200_170 ?_
      obtain ⟨s3, h⟩ := h
      obtain ⟨s4, h⟩ := h
      refine r_ia c200_172 s3 s4 ?_
      refine r_ifP (P := ¬ (M l1 (Int.toNat (25 : Int))) = (0 : Int)) c200_173 rfl (fun hc => ?_) (fun hc => ?_)
      · replace h := h.1 hc
        refine r_aload_n c200_178 rfl ?_
        refine r_bipush c200_179 ?_
        refine r_iload_n c200_181 rfl ?_
        refine r_iadd c200_182 ?_
        refine r_iconst c200_183 ?_
        obtain ⟨s5, h⟩ := h
        obtain ⟨s6, h⟩ := h
        refine r_ias c200_184 s5 s6 ?_
        refine r_aload_n c200_185 rfl ?_
        refine r_bipush c200_186 ?_
        refine r_dup2 c200_188 ?_
        obtain ⟨s7, h⟩ := h
        obtain ⟨s8, h⟩ := h
        refine r_ia c200_189 s7 s8 ?_
        refine r_iconst c200_190 ?_
        refine r_isub c200_191 ?_
        obtain ⟨s9, h⟩ := h
        obtain ⟨s10, h⟩ := h
        refine r_ias c200_192 s9 s10 ?_
        refine r_iconst c200_193 ?_
        exact r_iret c200_194 (by decide) h
      · replace h := h.2 hc
        exact h
theorem t200_176 {d : Nat} {l0 : Nat} {l1 : Nat} {l2 : Nat} {l3 : Int} {l4 : Int} {l5 : Int} {M : Mem} {K : KK} {Q : RR → Mem → KK → Prop} (h : Q (.inl (some (vI (0 : Int)))) M K) : Wp d 200 176 [vR l0, vR l1, vR l2, vI l3, vI l4, vI l5] [] M K Q := by
  refine r_iconst c200_176 ?_
  exact r_iret c200_177 (by decide) h
theorem t200_195 {d : Nat} {l0 : Nat} {l1 : Nat} {l2 : Nat} {l3 : Int} {l4 : Int} {l5 : Int} {M : Mem} {K : KK} {Q : RR → Mem → KK → Prop} (h : isO K.1 l0 12 = true ∧ Wm d 199 [vR l0, vR l1, vI l4] M K (Bk d 200 199 202 199 [vR l0, vR l1, vR l2, vI l3, vI l4, vI l5] [] Q)) : Wp (d + 1) 200 195 [vR l0, vR l1, vR l2, vI l3, vI l4, vI l5] [] M K Q := by
  refine r_aload_n c200_195 rfl ?_
  refine r_aload_n c200_196 rfl ?_
  refine r_iload c200_197 rfl ?_
  obtain ⟨s1, h⟩ := h
  exact r_call c200_199 rfl rfl (Nat.le_of_ble_eq_true rfl) (okc_r rfl rfl s1) h
theorem t200_202 {d : Nat} {l0 : Nat} {l1 : Nat} {l2 : Nat} {l3 : Int} {l4 : Int} {l5 : Int} {t0 : Int} {M : Mem} {K : KK} {Q : RR → Mem → KK → Prop} (h : (t0 = 0 ∨ t0 = 1) ∧ Q (.inl (some (vI t0))) M K) : Wp d 200 202 [vR l0, vR l1, vR l2, vI l3, vI l4, vI l5] [vI t0] M K Q := by
  obtain ⟨s1, h⟩ := h
  exact r_iret c200_202 (Or.inr s1) h
theorem t200_203 {d : Nat} {l0 : Nat} {l1 : Nat} {l2 : Nat} {l3 : Int} {l4 : Int} {l5 : Int} {M : Mem} {K : KK} {Q : RR → Mem → KK → Prop} (h : isO K.1 l1 20 = true ∧ (0 ≤ (24 : Int) ∧ (24 : Int) < (ln l1 : Int)) ∧ ((M l1 (Int.toNat (24 : Int))) < (500 : Int) → isO K.1 l0 12 = true ∧ Wm d 198 [vR l0, vR l1] M K (Bk d 200 217 220 198 [vR l0, vR l1, vR l2, vI l3, vI l4, vI l5] [] Q)) ∧ (¬ ((M l1 (Int.toNat (24 : Int))) < (500 : Int)) → Q (.inl (some (vI (0 : Int)))) M K)) : Wp (d + 1) 200 203 [vR l0, vR l1, vR l2, vI l3, vI l4, vI l5] [] M K Q := by
  refine r_aload_n c200_203 rfl ?_
  refine r_bipush c200_204 ?_
  obtain ⟨s1, h⟩ := h
  obtain ⟨s2, h⟩ := h
  refine r_ia c200_206 s1 s2 ?_
  refine r_sipush c200_207 ?_
  refine r_icmpP (P := (M l1 (Int.toNat (24 : Int))) < (500 : Int)) c200_210 rfl (fun hc => ?_) (fun hc => ?_)
  · replace h := h.1 hc
    refine r_aload_n c200_215 rfl ?_
    refine r_aload_n c200_216 rfl ?_
    obtain ⟨s3, h⟩ := h
    exact r_call c200_217 rfl rfl (Nat.le_of_ble_eq_true rfl) (okc_r rfl rfl s3) h
  · replace h := h.2 hc
    refine r_iconst c200_213 ?_
    exact r_iret c200_214 (by decide) h
theorem t200_220 {d : Nat} {l0 : Nat} {l1 : Nat} {l2 : Nat} {l3 : Int} {l4 : Int} {l5 : Int} {M : Mem} {K : KK} {Q : RR → Mem → KK → Prop} (h : Q (.inl (some (vI (1 : Int)))) M K) : Wp d 200 220 [vR l0, vR l1, vR l2, vI l3, vI l4, vI l5] [] M K Q := by
  refine r_iconst c200_220 ?_
  exact r_iret c200_221 (by decide) h
theorem t201_0 {d : Nat} {l0 : Nat} {l1 : Int} {l2 : Int} {M : Mem} {K : KK} {Q : RR → Mem → KK → Prop} (h : Wp d 201 2 [vR l0, vI l1, vI l2, vI l1, vU] [] M K Q) : Wp d 201 0 [vR l0, vI l1, vI l2, vU, vU] [] M K Q := by
  refine r_iload_n c201_0 rfl ?_
  refine r_istore_n c201_1 (Nat.le_of_ble_eq_true rfl) ?_
  exact h
theorem t201_2 {d : Nat} {l0 : Nat} {l1 : Int} {l2 : Int} {l3 : Int} {l4 : PV} {M : Mem} {K : KK} {Q : RR → Mem → KK → Prop} (h : (l2 ≤ l3 → Wp (d + 1) 201 156 [vR l0, vI l1, vI l2, vI l3, l4] [] M K Q) ∧ (¬ (l2 ≤ l3) → isO K.1 l0 12 = true ∧ ((200 : Int) ≤ (M l0 40) → Wp (d + 1) 201 156 [vR l0, vI l1, vI l2, vI l3, l4] [] M K Q) ∧ (¬ ((200 : Int) ≤ (M l0 40)) → isO K.1 l0 12 = true ∧ isO K.1 l0 12 = true ∧ isO K.1 l0 12 = true ∧ ∃ b5 : Nat, ((mset M l0 40 (w32 ((M l0 40) + (1 : Int)))) l0 29) = (b5 : Int) ∧ 0 < b5 ∧ (Nat.ble 30 (tg b5) = true ∧ isO K.1 b5 (tg b5) = true) ∧ (0 ≤ l3 ∧ l3 < (ln b5 : Int)) ∧ ∃ b10 : Nat, ((mset M l0 40 (w32 ((M l0 40) + (1 : Int)))) b5 (Int.toNat l3)) = (b10 : Int) ∧ 0 < b10 ∧ isO K.1 b10 20 = true ∧ (0 ≤ (0 : Int) ∧ (0 : Int) < (ln b10 : Int)) ∧ (¬ ((mset M l0 40 (w32 ((M l0 40) + (1 : Int)))) b10 (Int.toNat (0 : Int))) = (6 : Int) → isO K.1 l0 12 = true ∧ ∃ b16 : Nat, ((mset M l0 40 (w32 ((M l0 40) + (1 : Int)))) l0 31) = (b16 : Int) ∧ 0 < b16 ∧ isO K.1 l0 12 = true ∧ ∃ b20 : Nat, ((mset M l0 40 (w32 ((M l0 40) + (1 : Int)))) l0 29) = (b20 : Int) ∧ 0 < b20 ∧ (Nat.ble 30 (tg b20) = true ∧ isO K.1 b20 (tg b20) = true) ∧ (0 ≤ l3 ∧ l3 < (ln b20 : Int)) ∧ ∃ b25 : Nat, ((mset M l0 40 (w32 ((M l0 40) + (1 : Int)))) b20 (Int.toNat l3)) = (b25 : Int) ∧ 0 < b25 ∧ isO K.1 l0 12 = true ∧ Wm d 200 [vR l0, vR b16, vR b25] (mset M l0 40 (w32 ((M l0 40) + (1 : Int)))) K (Bk d 201 101 104 200 [vR l0, vI l1, vI l2, vI l3, l4] [] Q)) ∧ (¬ (¬ ((mset M l0 40 (w32 ((M l0 40) + (1 : Int)))) b10 (Int.toNat (0 : Int))) = (6 : Int)) → Wp (d + 1) 201 43 [vR l0, vI l1, vI l2, vI l3, vI (0 : Int)] [] (mset M l0 40 (w32 ((M l0 40) + (1 : Int)))) K Q)))) : Wp (d + 1) 201 2 [vR l0, vI l1, vI l2, vI l3, l4] [] M K Q := by
  refine r_iload_n c201_2 rfl ?_
  refine r_iload_n c201_3 rfl ?_
  refine r_icmpP (P := l2 ≤ l3) c201_4 rfl (fun hc => ?_) (fun hc => ?_)
  · replace h := h.1 hc
    exact h
  · replace h := h.2 hc
    refine r_aload_n c201_7 rfl ?_
    obtain ⟨s1, h⟩ := h
    refine r_getI c201_8 s1 ?_
    refine r_sipush c201_11 ?_
    refine r_icmpP (P := (200 : Int) ≤ (M l0 40)) c201_14 rfl (fun hc => ?_) (fun hc => ?_)
    · replace h := h.1 hc
      exact h
    · replace h := h.2 hc
      refine r_aload_n c201_17 rfl ?_
      refine r_dupr c201_18 ?_
      obtain ⟨s2, h⟩ := h
      refine r_getI c201_19 s2 ?_
      refine r_iconst c201_22 ?_
      refine r_iadd c201_23 ?_
      obtain ⟨s3, h⟩ := h
      refine r_putI c201_24 s3 ?_
      refine r_aload_n c201_27 rfl ?_
      obtain ⟨s4, h⟩ := h
      obtain ⟨b5, h⟩ := h
      obtain ⟨s6, h⟩ := h
      obtain ⟨s7, h⟩ := h
      refine r_getR c201_28 s4 s6 s7 ?_
      refine r_iload_n c201_31 rfl ?_
      obtain ⟨s8, h⟩ := h
      obtain ⟨s9, h⟩ := h
      obtain ⟨b10, h⟩ := h
      obtain ⟨s11, h⟩ := h
      obtain ⟨s12, h⟩ := h
      refine r_aa c201_32 s8 s9 s11 s12 ?_
      refine r_iconst c201_33 ?_
      obtain ⟨s13, h⟩ := h
      obtain ⟨s14, h⟩ := h
      refine r_ia c201_34 s13 s14 ?_
      refine r_bipush c201_35 ?_
      refine r_icmpP (P := ¬ ((mset M l0 40 (w32 ((M l0 40) + (1 : Int)))) b10 (Int.toNat (0 : Int))) = (6 : Int)) c201_37 rfl (fun hc => ?_) (fun hc => ?_)
      · replace h := h.1 hc
        refine r_aload_n c201_90 rfl ?_
        refine r_aload_n c201_91 rfl ?_
        obtain ⟨s15, h⟩ := h
        obtain ⟨b16, h⟩ := h
        obtain ⟨s17, h⟩ := h
        obtain ⟨s18, h⟩ := h
        refine r_getR c201_92 s15 s17 s18 ?_
        refine r_aload_n c201_95 rfl ?_
        obtain ⟨s19, h⟩ := h
        obtain ⟨b20, h⟩ := h
        obtain ⟨s21, h⟩ := h
        obtain ⟨s22, h⟩ := h
        refine r_getR c201_96 s19 s21 s22 ?_
        refine r_iload_n c201_99 rfl ?_
        obtain ⟨s23, h⟩ := h
        obtain ⟨s24, h⟩ := h
        obtain ⟨b25, h⟩ := h
        obtain ⟨s26, h⟩ := h
        obtain ⟨s27, h⟩ := h
        refine r_aa c201_100 s23 s24 s26 s27 ?_
        obtain ⟨s28, h⟩ := h
        exact r_call c201_101 rfl rfl (Nat.le_of_ble_eq_true rfl) (okc_r rfl rfl s28) h
      · replace h := h.2 hc
        refine r_iconst c201_40 ?_
        refine r_istore c201_41 (Nat.le_of_ble_eq_true rfl) ?_
        exact h
theorem t201_43 {d : Nat} {l0 : Nat} {l1 : Int} {l2 : Int} {l3 : Int} {l4 : Int} {M : Mem} {K : KK} {Q : RR → Mem → KK → Prop} (h : isO K.1 l0 12 = true ∧ ∃ b2 : Nat, (M l0 29) = (b2 : Int) ∧ 0 < b2 ∧ (Nat.ble 30 (tg b2) = true ∧ isO K.1 b2 (tg b2) = true) ∧ (0 ≤ l3 ∧ l3 < (ln b2 : Int)) ∧ ∃ b7 : Nat, (M b2 (Int.toNat l3)) = (b7 : Int) ∧ 0 < b7 ∧ isO K.1 b7 20 = true ∧ (0 ≤ (1 : Int) ∧ (1 : Int) < (ln b7 : Int)) ∧ ((M b7 (Int.toNat (1 : Int))) ≤ l4 → Wp (d + 1) 201 87 [vR l0, vI l1, vI l2, vI l3, vI l4] [] M K Q) ∧ (¬ ((M b7 (Int.toNat (1 : Int))) ≤ l4) → isO K.1 l0 12 = true ∧ ((200 : Int) ≤ (M l0 40) → Wp (d + 1) 201 87 [vR l0, vI l1, vI l2, vI l3, vI l4] [] M K Q) ∧ (¬ ((200 : Int) ≤ (M l0 40)) → isO K.1 l0 12 = true ∧ ∃ b14 : Nat, (M l0 29) = (b14 : Int) ∧ 0 < b14 ∧ (Nat.ble 30 (tg b14) = true ∧ isO K.1 b14 (tg b14) = true) ∧ (0 ≤ l3 ∧ l3 < (ln b14 : Int)) ∧ ∃ b19 : Nat, (M b14 (Int.toNat l3)) = (b19 : Int) ∧ 0 < b19 ∧ isO K.1 b19 20 = true ∧ (0 ≤ (3 : Int) ∧ (3 : Int) < (ln b19 : Int)) ∧ isO K.1 l0 12 = true ∧ Wm d 201 [vR l0, vI (w32 (l3 + (1 : Int))), vI (M b19 (Int.toNat (3 : Int)))] M K (Bk d 201 78 81 201 [vR l0, vI l1, vI l2, vI l3, vI l4] [] Q)))) : Wp (d + 1) 201 43 [vR l0, vI l1, vI l2, vI l3, vI l4] [] M K Q := by
  refine r_iload c201_43 rfl ?_
  refine r_aload_n c201_45 rfl ?_
  obtain ⟨s1, h⟩ := h
  obtain ⟨b2, h⟩ := h
  obtain ⟨s3, h⟩ := h
  obtain ⟨s4, h⟩ := h
  refine r_getR c201_46 s1 s3 s4 ?_
  refine r_iload_n c201_49 rfl ?_
  obtain ⟨s5, h⟩ := h
  obtain ⟨s6, h⟩ := h
  obtain ⟨b7, h⟩ := h
  obtain ⟨s8, h⟩ := h
  obtain ⟨s9, h⟩ := h
  refine r_aa c201_50 s5 s6 s8 s9 ?_
  refine r_iconst c201_51 ?_
  obtain ⟨s10, h⟩ := h
  obtain ⟨s11, h⟩ := h
  refine r_ia c201_52 s10 s11 ?_
  refine r_icmpP (P := (M b7 (Int.toNat (1 : Int))) ≤ l4) c201_53 rfl (fun hc => ?_) (fun hc => ?_)
  · replace h := h.1 hc
    exact h
  · replace h := h.2 hc
    refine r_aload_n c201_56 rfl ?_
    obtain ⟨s12, h⟩ := h
    refine r_getI c201_57 s12 ?_
    refine r_sipush c201_60 ?_
    refine r_icmpP (P := (200 : Int) ≤ (M l0 40)) c201_63 rfl (fun hc => ?_) (fun hc => ?_)
    · replace h := h.1 hc
      exact h
    · replace h := h.2 hc
      refine r_aload_n c201_66 rfl ?_
      refine r_iload_n c201_67 rfl ?_
      refine r_iconst c201_68 ?_
      refine r_iadd c201_69 ?_
      refine r_aload_n c201_70 rfl ?_
      obtain ⟨s13, h⟩ := h
      obtain ⟨b14, h⟩ := h
      obtain ⟨s15, h⟩ := h
      obtain ⟨s16, h⟩ := h
      refine r_getR c201_71 s13 s15 s16 ?_
      refine r_iload_n c201_74 rfl ?_
      obtain ⟨s17, h⟩ := h
      obtain ⟨s18, h⟩ := h
      obtain ⟨b19, h⟩ := h
      obtain ⟨s20, h⟩ := h
      obtain ⟨s21, h⟩ := h
      refine r_aa c201_75 s17 s18 s20 s21 ?_
      refine r_iconst c201_76 ?_
      obtain ⟨s22, h⟩ := h
      obtain ⟨s23, h⟩ := h
      refine r_ia c201_77 s22 s23 ?_
      obtain ⟨s24, h⟩ := h
      exact r_call c201_78 rfl rfl (Nat.le_of_ble_eq_true rfl) (okc_r rfl rfl s24) h
theorem t201_81 {d : Nat} {l0 : Nat} {l1 : Int} {l2 : Int} {l3 : Int} {l4 : Int} {M : Mem} {K : KK} {Q : RR → Mem → KK → Prop} (h : Wp d 201 43 [vR l0, vI l1, vI l2, vI l3, vI (w32 (l4 + 1))] [] M K Q) : Wp d 201 81 [vR l0, vI l1, vI l2, vI l3, vI l4] [] M K Q := by
  refine r_iinc c201_81 rfl ?_
  refine r_goto c201_84 ?_
  exact h
theorem t201_87 {d : Nat} {l0 : Nat} {l1 : Int} {l2 : Int} {l3 : Int} {l4 : Int} {M : Mem} {K : KK} {Q : RR → Mem → KK → Prop} (h : Wp d 201 144 [vR l0, vI l1, vI l2, vI l3, vI l4] [] M K Q) : Wp d 201 87 [vR l0, vI l1, vI l2, vI l3, vI l4] [] M K Q := by
  refine r_goto c201_87 ?_
  exact h
theorem t201_104 {d : Nat} {l0 : Nat} {l1 : Int} {l2 : Int} {l3 : Int} {l4 : PV} {t0 : Int} {M : Mem} {K : KK} {Q : RR → Mem → KK → Prop} (h : isO K.1 l0 12 = true ∧ (t0 = (0 : Int) → Wp d 201 121 [vR l0, vI l1, vI l2, vI l3, vI t0] [vI (0 : Int), vI (M l0 41), vR l0] M K Q) ∧ (¬ (t0 = (0 : Int)) → Wp d 201 121 [vR l0, vI l1, vI l2, vI l3, vI t0] [vI (1 : Int), vI (M l0 41), vR l0] M K Q)) : Wp d 201 104 [vR l0, vI l1, vI l2, vI l3, l4] [vI t0] M K Q := by
  refine r_istore c201_104 (Nat.le_of_ble_eq_true rfl) ?_
  refine r_aload_n c201_106 rfl ?_
  refine r_dupr c201_107 ?_
  obtain ⟨s1, h⟩ := h
  refine r_getI c201_108 s1 ?_
  refine r_iload c201_111 rfl ?_
  refine r_ifP (P := t0 = (0 : Int)) c201_113 rfl (fun hc => ?_) (fun hc => ?_)
  · replace h := h.1 hc
    refine r_iconst c201_120 ?_
    exact h
  · replace h := h.2 hc
    refine r_iconst c201_116 ?_
    refine r_goto c201_117 ?_
    exact h
theorem t201_121 {d : Nat} {l0 : Nat} {l1 : Int} {l2 : Int} {l3 : Int} {l4 : Int} {t0 : Nat} {t1 : Int} {t2 : Int} {M : Mem} {K : KK} {Q : RR → Mem → KK → Prop} (h : isO K.1 t0 12 = true ∧ isO K.1 l0 12 = true ∧ (l4 = (0 : Int) → Wp d 201 140 [vR l0, vI l1, vI l2, vI l3, vI l4] [vI (1 : Int), vI ((mset M t0 41 (w32 (t1 + t2))) l0 37), vR l0] (mset M t0 41 (w32 (t1 + t2))) K Q) ∧ (¬ (l4 = (0 : Int)) → Wp d 201 140 [vR l0, vI l1, vI l2, vI l3, vI l4] [vI (0 : Int), vI ((mset M t0 41 (w32 (t1 + t2))) l0 37), vR l0] (mset M t0 41 (w32 (t1 + t2))) K Q)) : Wp d 201 121 [vR l0, vI l1, vI l2, vI l3, vI l4] [vI t2, vI t1, vR t0] M K Q := by
  refine r_iadd c201_121 ?_
  obtain ⟨s1, h⟩ := h
  refine r_putI c201_122 s1 ?_
  refine r_aload_n c201_125 rfl ?_
  refine r_dupr c201_126 ?_
  obtain ⟨s2, h⟩ := h
  refine r_getI c201_127 s2 ?_
  refine r_iload c201_130 rfl ?_
  refine r_ifP (P := l4 = (0 : Int)) c201_132 rfl (fun hc => ?_) (fun hc => ?_)
  · replace h := h.1 hc
    refine r_iconst c201_139 ?_
    exact h
  · replace h := h.2 hc
    refine r_iconst c201_135 ?_
    refine r_goto c201_136 ?_
    exact h
theorem t201_140 {d : Nat} {l0 : Nat} {l1 : Int} {l2 : Int} {l3 : Int} {l4 : Int} {t0 : Nat} {t1 : Int} {t2 : Int} {M : Mem} {K : KK} {Q : RR → Mem → KK → Prop} (h : isO K.1 t0 12 = true ∧ Wp d 201 144 [vR l0, vI l1, vI l2, vI l3, vI l4] [] (mset M t0 37 (w32 (t1 + t2))) K Q) : Wp d 201 140 [vR l0, vI l1, vI l2, vI l3, vI l4] [vI t2, vI t1, vR t0] M K Q := by
  refine r_iadd c201_140 ?_
  obtain ⟨s1, h⟩ := h
  refine r_putI c201_141 s1 ?_
  exact h
theorem t201_144 {d : Nat} {l0 : Nat} {l1 : Int} {l2 : Int} {l3 : Int} {l4 : Int} {M : Mem} {K : KK} {Q : RR → Mem → KK → Prop} (h : isO K.1 l0 12 = true ∧ ∃ b2 : Nat, (M l0 29) = (b2 : Int) ∧ 0 < b2 ∧ (Nat.ble 30 (tg b2) = true ∧ isO K.1 b2 (tg b2) = true) ∧ (0 ≤ l3 ∧ l3 < (ln b2 : Int)) ∧ ∃ b7 : Nat, (M b2 (Int.toNat l3)) = (b7 : Int) ∧ 0 < b7 ∧ isO K.1 b7 20 = true ∧ (0 ≤ (3 : Int) ∧ (3 : Int) < (ln b7 : Int)) ∧ Wp d 201 2 [vR l0, vI l1, vI l2, vI (M b7 (Int.toNat (3 : Int))), vI l4] [] M K Q) : Wp d 201 144 [vR l0, vI l1, vI l2, vI l3, vI l4] [] M K Q := by
  refine r_aload_n c201_144 rfl ?_
  obtain ⟨s1, h⟩ := h
  obtain ⟨b2, h⟩ := h
  obtain ⟨s3, h⟩ := h
  obtain ⟨s4, h⟩ := h
  refine r_getR c201_145 s1 s3 s4 ?_
  refine r_iload_n c201_148 rfl ?_
  obtain ⟨s5, h⟩ := h
  obtain ⟨s6, h⟩ := h
  obtain ⟨b7, h⟩ := h
  obtain ⟨s8, h⟩ := h
  obtain ⟨s9, h⟩ := h
  refine r_aa c201_149 s5 s6 s8 s9 ?_
  refine r_iconst c201_150 ?_
  obtain ⟨s10, h⟩ := h
  obtain ⟨s11, h⟩ := h
  refine r_ia c201_151 s10 s11 ?_
  refine r_istore_n c201_152 (Nat.le_of_ble_eq_true rfl) ?_
  refine r_goto c201_153 ?_
  exact h
theorem t201_156 {d : Nat} {l0 : Nat} {l1 : Int} {l2 : Int} {l3 : Int} {l4 : PV} {M : Mem} {K : KK} {Q : RR → Mem → KK → Prop} (h : Q (.inl none) M K) : Wp d 201 156 [vR l0, vI l1, vI l2, vI l3, l4] [] M K Q := by
  exact r_ret c201_156 h
theorem t202_0 {d : Nat} {l0 : Nat} {l1 : Int} {M : Mem} {K : KK} {Q : RR → Mem → KK → Prop} (h : isO K.1 l0 12 = true ∧ isO K.1 l0 12 = true ∧ Wm d 153 [vI l1, vI (0 : Int), vI ((mset M l0 0 (0 : Int)) l0 1)] (mset M l0 0 (0 : Int)) K (Bk d 202 12 15 153 [vR l0, vI l1] [vR l0] Q)) : Wp (d + 1) 202 0 [vR l0, vI l1] [] M K Q := by
  refine r_aload_n c202_0 rfl ?_
  refine r_iconst c202_1 ?_
  obtain ⟨s1, h⟩ := h
  refine r_putI c202_2 s1 ?_
  refine r_aload_n c202_5 rfl ?_
  refine r_iload_n c202_6 rfl ?_
  refine r_iconst c202_7 ?_
  refine r_aload_n c202_8 rfl ?_
  obtain ⟨s2, h⟩ := h
  refine r_getI c202_9 s2 ?_
  exact r_call c202_12 rfl rfl (Nat.le_of_ble_eq_true rfl) (okc_s rfl rfl rfl) h
theorem t202_15 {d : Nat} {l0 : Nat} {l1 : Int} {t0 : Nat} {t1 : Int} {M : Mem} {K : KK} {Q : RR → Mem → KK → Prop} (h : (t1 = (0 : Int) → Wp d 202 25 [vR l0, vI l1] [vR t0] M K Q) ∧ (¬ (t1 = (0 : Int)) → (l1 ≤ (150 : Int) → Wp d 202 30 [vR l0, vI l1] [vI (0 : Int), vR t0] M K Q) ∧ (¬ (l1 ≤ (150 : Int)) → Wp d 202 25 [vR l0, vI l1] [vR t0] M K Q))) : Wp d 202 15 [vR l0, vI l1] [vI t1, vR t0] M K Q := by
  refine r_ifP (P := t1 = (0 : Int)) c202_15 rfl (fun hc => ?_) (fun hc => ?_)
  · replace h := h.1 hc
    exact h
  · replace h := h.2 hc
    refine r_iload_n c202_18 rfl ?_
    refine r_sipush c202_19 ?_
    refine r_icmpP (P := l1 ≤ (150 : Int)) c202_22 rfl (fun hc => ?_) (fun hc => ?_)
    · replace h := h.1 hc
      refine r_iconst c202_29 ?_
      exact h
    · replace h := h.2 hc
      exact h
theorem t202_25 {d : Nat} {l0 : Nat} {l1 : Int} {t0 : Nat} {M : Mem} {K : KK} {Q : RR → Mem → KK → Prop} (h : Wp d 202 30 [vR l0, vI l1] [vI (1 : Int), vR t0] M K Q) : Wp d 202 25 [vR l0, vI l1] [vR t0] M K Q := by
  refine r_iconst c202_25 ?_
  refine r_goto c202_26 ?_
  exact h
theorem t202_30 {d : Nat} {l0 : Nat} {l1 : Int} {t0 : Nat} {t1 : Int} {M : Mem} {K : KK} {Q : RR → Mem → KK → Prop} (h : isO K.1 t0 12 = true ∧ Wm d 152 [vR t0, vI t1, vI (1 : Int), vI (1 : Int)] M K (Bk d 202 32 35 152 [vR l0, vI l1] [] Q)) : Wp (d + 1) 202 30 [vR l0, vI l1] [vI t1, vR t0] M K Q := by
  refine r_iconst c202_30 ?_
  refine r_iconst c202_31 ?_
  obtain ⟨s1, h⟩ := h
  exact r_call c202_32 rfl rfl (Nat.le_of_ble_eq_true rfl) (okc_r rfl rfl s1) h
theorem t202_35 {d : Nat} {l0 : Nat} {l1 : Int} {t0 : Int} {M : Mem} {K : KK} {Q : RR → Mem → KK → Prop} (h : (t0 = (0 : Int) → isO K.1 l0 12 = true ∧ (¬ (M l0 36) = (16 : Int) → isO K.1 l0 12 = true ∧ Wm d 171 [vR l0, vI l1] M K (Bk d 202 64 67 171 [vR l0, vI l1] [] Q)) ∧ (¬ (¬ (M l0 36) = (16 : Int)) → isO K.1 l0 12 = true ∧ isO K.1 l0 12 = true ∧ Q (.inl (some (vI (-20 : Int)))) (mset (mset M l0 1 (0 : Int)) l0 3 (-1 : Int)) K)) ∧ (¬ (t0 = (0 : Int)) → Q (.inl (some (vI (0 : Int)))) M K)) : Wp (d + 1) 202 35 [vR l0, vI l1] [vI t0] M K Q := by
  refine r_ifP (P := t0 = (0 : Int)) c202_35 rfl (fun hc => ?_) (fun hc => ?_)
  · replace h := h.1 hc
    refine r_aload_n c202_40 rfl ?_
    obtain ⟨s1, h⟩ := h
    refine r_getI c202_41 s1 ?_
    refine r_bipush c202_44 ?_
    refine r_icmpP (P := ¬ (M l0 36) = (16 : Int)) c202_46 rfl (fun hc => ?_) (fun hc => ?_)
    · replace h := h.1 hc
      refine r_aload_n c202_62 rfl ?_
      refine r_iload_n c202_63 rfl ?_
      obtain ⟨s2, h⟩ := h
      exact r_call c202_64 rfl rfl (Nat.le_of_ble_eq_true rfl) (okc_r rfl rfl s2) h
    · replace h := h.2 hc
      refine r_aload_n c202_49 rfl ?_
      refine r_iconst c202_50 ?_
      obtain ⟨s3, h⟩ := h
      refine r_putI c202_51 s3 ?_
      refine r_aload_n c202_54 rfl ?_
      refine r_iconst c202_55 ?_
      obtain ⟨s4, h⟩ := h
      refine r_putI c202_56 s4 ?_
      refine r_bipush c202_59 ?_
      exact r_iret c202_61 (Or.inl rfl) h
  · replace h := h.2 hc
    refine r_iconst c202_38 ?_
    exact r_iret c202_39 (Or.inl rfl) h
theorem t202_67 {d : Nat} {l0 : Nat} {l1 : Int} {M : Mem} {K : KK} {Q : RR → Mem → KK → Prop} (h : isO K.1 l0 12 = true ∧ Wp d 202 72 [vR l0, vI l1] [] (mset M l0 30 (0 : Int)) K Q) : Wp d 202 67 [vR l0, vI l1] [] M K Q := by
  refine r_aload_n c202_67 rfl ?_
  refine r_iconst c202_68 ?_
  obtain ⟨s1, h⟩ := h
  refine r_putI c202_69 s1 ?_
  exact h
theorem t202_72 {d : Nat} {l0 : Nat} {l1 : Int} {M : Mem} {K : KK} {Q : RR → Mem → KK → Prop} (h : isO K.1 l0 12 = true ∧ (¬ (M l0 5) = (0 : Int) → Wp (d + 1) 202 101 [vR l0, vI l1] [] M K Q) ∧ (¬ (¬ (M l0 5) = (0 : Int)) → isO K.1 l0 12 = true ∧ isO K.1 l0 12 = true ∧ ((M l0 2) ≤ (M l0 4) → Wp (d + 1) 202 101 [vR l0, vI l1] [] M K Q) ∧ (¬ ((M l0 2) ≤ (M l0 4)) → isO K.1 l0 12 = true ∧ Wm d 190 [vR l0] M K (Bk d 202 91 94 190 [vR l0, vI l1] [] Q)))) : Wp (d + 1) 202 72 [vR l0, vI l1] [] M K Q := by
  refine r_aload_n c202_72 rfl ?_
  obtain ⟨s1, h⟩ := h
  refine r_getI c202_73 s1 ?_
  refine r_ifP (P := ¬ (M l0 5) = (0 : Int)) c202_76 rfl (fun hc => ?_) (fun hc => ?_)
  · replace h := h.1 hc
    exact h
  · replace h := h.2 hc
    refine r_aload_n c202_79 rfl ?_
    obtain ⟨s2, h⟩ := h
    refine r_getI c202_80 s2 ?_
    refine r_aload_n c202_83 rfl ?_
    obtain ⟨s3, h⟩ := h
    refine r_getI c202_84 s3 ?_
    refine r_icmpP (P := (M l0 2) ≤ (M l0 4)) c202_87 rfl (fun hc => ?_) (fun hc => ?_)
    · replace h := h.1 hc
      exact h
    · replace h := h.2 hc
      refine r_aload_n c202_90 rfl ?_
      obtain ⟨s4, h⟩ := h
      exact r_call c202_91 rfl rfl (Nat.le_of_ble_eq_true rfl) (okc_r rfl rfl s4) h
theorem t202_94 {d : Nat} {l0 : Nat} {l1 : Int} {M : Mem} {K : KK} {Q : RR → Mem → KK → Prop} (h : isO K.1 l0 12 = true ∧ Wm d 159 [vR l0] M K (Bk d 202 95 98 159 [vR l0, vI l1] [] Q)) : Wp (d + 1) 202 94 [vR l0, vI l1] [] M K Q := by
  refine r_aload_n c202_94 rfl ?_
  obtain ⟨s1, h⟩ := h
  exact r_call c202_95 rfl rfl (Nat.le_of_ble_eq_true rfl) (okc_r rfl rfl s1) h
theorem t202_98 {d : Nat} {l0 : Nat} {l1 : Int} {M : Mem} {K : KK} {Q : RR → Mem → KK → Prop} (h : Wp d 202 72 [vR l0, vI l1] [] M K Q) : Wp d 202 98 [vR l0, vI l1] [] M K Q := by
  refine r_goto c202_98 ?_
  exact h
theorem t202_101 {d : Nat} {l0 : Nat} {l1 : Int} {M : Mem} {K : KK} {Q : RR → Mem → KK → Prop} (h : isO K.1 l0 12 = true ∧ ((M l0 5) = (0 : Int) → isO K.1 l0 12 = true ∧ isO K.1 l0 12 = true ∧ ∃ b4 : Nat, ((mset M l0 3 (-1 : Int)) l0 31) = (b4 : Int) ∧ 0 < b4 ∧ isO K.1 l0 12 = true ∧ ∃ b8 : Nat, ((mset M l0 3 (-1 : Int)) l0 33) = (b8 : Int) ∧ 0 < b8 ∧ isO K.1 l0 12 = true ∧ (Nat.ble 30 (tg b8) = true ∧ isO K.1 b8 (tg b8) = true) ∧ (0 ≤ ((mset M l0 3 (-1 : Int)) l0 36) ∧ ((mset M l0 3 (-1 : Int)) l0 36) < (ln b8 : Int)) ∧ ∃ b14 : Nat, ((mset M l0 3 (-1 : Int)) b8 (Int.toNat ((mset M l0 3 (-1 : Int)) l0 36))) = (b14 : Int) ∧ 0 < b14 ∧ Wm d 178 [vR b4, vR b14] (mset M l0 3 (-1 : Int)) K (Bk d 202 131 134 178 [vR l0, vI l1] [] Q)) ∧ (¬ ((M l0 5) = (0 : Int)) → isO K.1 l0 12 = true ∧ Wm d 172 [vR l0] M K (Bk d 202 109 112 172 [vR l0, vI l1] [] Q))) : Wp (d + 1) 202 101 [vR l0, vI l1] [] M K Q := by
  refine r_aload_n c202_101 rfl ?_
  obtain ⟨s1, h⟩ := h
  refine r_getI c202_102 s1 ?_
  refine r_ifP (P := (M l0 5) = (0 : Int)) c202_105 rfl (fun hc => ?_) (fun hc => ?_)
  · replace h := h.1 hc
    refine r_aload_n c202_113 rfl ?_
    refine r_iconst c202_114 ?_
    obtain ⟨s2, h⟩ := h
    refine r_putI c202_115 s2 ?_
    refine r_aload_n c202_118 rfl ?_
    obtain ⟨s3, h⟩ := h
    obtain ⟨b4, h⟩ := h
    obtain ⟨s5, h⟩ := h
    obtain ⟨s6, h⟩ := h
    refine r_getR c202_119 s3 s5 s6 ?_
    refine r_aload_n c202_122 rfl ?_
    obtain ⟨s7, h⟩ := h
    obtain ⟨b8, h⟩ := h
    obtain ⟨s9, h⟩ := h
    obtain ⟨s10, h⟩ := h
    refine r_getR c202_123 s7 s9 s10 ?_
    refine r_aload_n c202_126 rfl ?_
    obtain ⟨s11, h⟩ := h
    refine r_getI c202_127 s11 ?_
    obtain ⟨s12, h⟩ := h
    obtain ⟨s13, h⟩ := h
    obtain ⟨b14, h⟩ := h
    obtain ⟨s15, h⟩ := h
    obtain ⟨s16, h⟩ := h
    refine r_aa c202_130 s12 s13 s15 s16 ?_
    exact r_call c202_131 rfl rfl (Nat.le_of_ble_eq_true rfl) (okc_s rfl rfl rfl) h
  · replace h := h.2 hc
    refine r_aload_n c202_108 rfl ?_
    obtain ⟨s17, h⟩ := h
    exact r_call c202_109 rfl rfl (Nat.le_of_ble_eq_true rfl) (okc_r rfl rfl s17) h
theorem t202_112 {d : Nat} {l0 : Nat} {l1 : Int} {t0 : Int} {M : Mem} {K : KK} {Q : RR → Mem → KK → Prop} (h : Q (.inl (some (vI t0))) M K) : Wp d 202 112 [vR l0, vI l1] [vI t0] M K Q := by
  exact r_iret c202_112 (Or.inl rfl) h
theorem t202_134 {d : Nat} {l0 : Nat} {l1 : Int} {M : Mem} {K : KK} {Q : RR → Mem → KK → Prop} (h : isO K.1 l0 12 = true ∧ isO K.1 l0 12 = true ∧ isO K.1 l0 12 = true ∧ isO K.1 l0 12 = true ∧ isO K.1 l0 12 = true ∧ isO K.1 l0 12 = true ∧ isO K.1 l0 12 = true ∧ Wm d 201 [vR l0, vI (0 : Int), vI ((mset (mset (mset (mset M l0 36 (w32 ((M l0 36) + (1 : Int)))) l0 40 (0 : Int)) l0 41 (0 : Int)) l0 37 (0 : Int)) l0 30)] (mset (mset (mset (mset M l0 36 (w32 ((M l0 36) + (1 : Int)))) l0 40 (0 : Int)) l0 41 (0 : Int)) l0 37 (0 : Int)) K (Bk d 202 165 168 201 [vR l0, vI l1] [] Q)) : Wp (d + 1) 202 134 [vR l0, vI l1] [] M K Q := by
  refine r_aload_n c202_134 rfl ?_
  refine r_dupr c202_135 ?_
  obtain ⟨s1, h⟩ := h
  refine r_getI c202_136 s1 ?_
  refine r_iconst c202_139 ?_
  refine r_iadd c202_140 ?_
  obtain ⟨s2, h⟩ := h
  refine r_putI c202_141 s2 ?_
  refine r_aload_n c202_144 rfl ?_
  refine r_iconst c202_145 ?_
  obtain ⟨s3, h⟩ := h
  refine r_putI c202_146 s3 ?_
  refine r_aload_n c202_149 rfl ?_
  refine r_iconst c202_150 ?_
  obtain ⟨s4, h⟩ := h
  refine r_putI c202_151 s4 ?_
  refine r_aload_n c202_154 rfl ?_
  refine r_iconst c202_155 ?_
  obtain ⟨s5, h⟩ := h
  refine r_putI c202_156 s5 ?_
  refine r_aload_n c202_159 rfl ?_
  refine r_iconst c202_160 ?_
  refine r_aload_n c202_161 rfl ?_
  obtain ⟨s6, h⟩ := h
  refine r_getI c202_162 s6 ?_
  obtain ⟨s7, h⟩ := h
  exact r_call c202_165 rfl rfl (Nat.le_of_ble_eq_true rfl) (okc_r rfl rfl s7) h
theorem t202_168 {d : Nat} {l0 : Nat} {l1 : Int} {M : Mem} {K : KK} {Q : RR → Mem → KK → Prop} (h : isO K.1 l0 12 = true ∧ Q (.inl (some (vI (M l0 41)))) M K) : Wp d 202 168 [vR l0, vI l1] [] M K Q := by
  refine r_aload_n c202_168 rfl ?_
  obtain ⟨s1, h⟩ := h
  refine r_getI c202_169 s1 ?_
  exact r_iret c202_172 (Or.inl rfl) h
theorem t203_0 {d : Nat} {l0 : Nat} {M : Mem} {K : KK} {Q : RR → Mem → KK → Prop} (h : isO K.1 l0 12 = true ∧ isO K.1 l0 12 = true ∧ (¬ ((mset M l0 0 (0 : Int)) l0 36) = (0 : Int) → isO K.1 l0 12 = true ∧ isO K.1 l0 12 = true ∧ isO K.1 l0 12 = true ∧ ∃ b6 : Nat, ((mset (mset M l0 0 (0 : Int)) l0 36 (w32 (((mset M l0 0 (0 : Int)) l0 36) - (1 : Int)))) l0 33) = (b6 : Int) ∧ 0 < b6 ∧ isO K.1 l0 12 = true ∧ (Nat.ble 30 (tg b6) = true ∧ isO K.1 b6 (tg b6) = true) ∧ (0 ≤ ((mset (mset M l0 0 (0 : Int)) l0 36 (w32 (((mset M l0 0 (0 : Int)) l0 36) - (1 : Int)))) l0 36) ∧ ((mset (mset M l0 0 (0 : Int)) l0 36 (w32 (((mset M l0 0 (0 : Int)) l0 36) - (1 : Int)))) l0 36) < (ln b6 : Int)) ∧ ∃ b12 : Nat, ((mset (mset M l0 0 (0 : Int)) l0 36 (w32 (((mset M l0 0 (0 : Int)) l0 36) - (1 : Int)))) b6 (Int.toNat ((mset (mset M l0 0 (0 : Int)) l0 36 (w32 (((mset M l0 0 (0 : Int)) l0 36) - (1 : Int)))) l0 36))) = (b12 : Int) ∧ 0 < b12 ∧ isO K.1 l0 12 = true ∧ ∃ b16 : Nat, ((mset (mset M l0 0 (0 : Int)) l0 36 (w32 (((mset M l0 0 (0 : Int)) l0 36) - (1 : Int)))) l0 31) = (b16 : Int) ∧ 0 < b16 ∧ Wm d 178 [vR b12, vR b16] (mset (mset M l0 0 (0 : Int)) l0 36 (w32 (((mset M l0 0 (0 : Int)) l0 36) - (1 : Int)))) K (Bk d 203 37 40 178 [vR l0] [] Q)) ∧ (¬ (¬ ((mset M l0 0 (0 : Int)) l0 36) = (0 : Int)) → Q (.inl (some (vI (-1 : Int)))) (mset M l0 0 (0 : Int)) K)) : Wp (d + 1) 203 0 [vR l0] [] M K Q := by
  refine r_aload_n c203_0 rfl ?_
  refine r_iconst c203_1 ?_
  obtain ⟨s1, h⟩ := h
  refine r_putI c203_2 s1 ?_
  refine r_aload_n c203_5 rfl ?_
  obtain ⟨s2, h⟩ := h
  refine r_getI c203_6 s2 ?_
  refine r_ifP (P := ¬ ((mset M l0 0 (0 : Int)) l0 36) = (0 : Int)) c203_9 rfl (fun hc => ?_) (fun hc => ?_)
  · replace h := h.1 hc
    refine r_aload_n c203_14 rfl ?_
    refine r_dupr c203_15 ?_
    obtain ⟨s3, h⟩ := h
    refine r_getI c203_16 s3 ?_
    refine r_iconst c203_19 ?_
    refine r_isub c203_20 ?_
    obtain ⟨s4, h⟩ := h
    refine r_putI c203_21 s4 ?_
    refine r_aload_n c203_24 rfl ?_
    obtain ⟨s5, h⟩ := h
    obtain ⟨b6, h⟩ := h
    obtain ⟨s7, h⟩ := h
    obtain ⟨s8, h⟩ := h
    refine r_getR c203_25 s5 s7 s8 ?_
    refine r_aload_n c203_28 rfl ?_
    obtain ⟨s9, h⟩ := h
    refine r_getI c203_29 s9 ?_
    obtain ⟨s10, h⟩ := h
    obtain ⟨s11, h⟩ := h
    obtain ⟨b12, h⟩ := h
    obtain ⟨s13, h⟩ := h
    obtain ⟨s14, h⟩ := h
    refine r_aa c203_32 s10 s11 s13 s14 ?_
    refine r_aload_n c203_33 rfl ?_
    obtain ⟨s15, h⟩ := h
    obtain ⟨b16, h⟩ := h
    obtain ⟨s17, h⟩ := h
    obtain ⟨s18, h⟩ := h
    refine r_getR c203_34 s15 s17 s18 ?_
    exact r_call c203_37 rfl rfl (Nat.le_of_ble_eq_true rfl) (okc_s rfl rfl rfl) h
  · replace h := h.2 hc
    refine r_iconst c203_12 ?_
    exact r_iret c203_13 (Or.inl rfl) h
theorem t203_40 {d : Nat} {l0 : Nat} {M : Mem} {K : KK} {Q : RR → Mem → KK → Prop} (h : isO K.1 l0 12 = true ∧ isO K.1 l0 12 = true ∧ Q (.inl (some (vI ((mset M l0 37 (0 : Int)) l0 36)))) (mset M l0 37 (0 : Int)) K) : Wp d 203 40 [vR l0] [] M K Q := by
  refine r_aload_n c203_40 rfl ?_
  refine r_iconst c203_41 ?_
  obtain ⟨s1, h⟩ := h
  refine r_putI c203_42 s1 ?_
  refine r_aload_n c203_45 rfl ?_
  obtain ⟨s2, h⟩ := h
  refine r_getI c203_46 s2 ?_
  exact r_iret c203_49 (Or.inl rfl) h
