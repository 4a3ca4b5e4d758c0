theorem u145_0 {d : Nat} {l1 : Int} {l2 : Int} {M : Mem} {K : KK} {Q : RR → Mem → KK → Prop} (hK : K.1 = 923) (hX : FX M)  (h : ∃ b1 : Nat, (M 32 14) = (b1 : Int) ∧ isO 923 b1 8 = true ∧ (¬ (jand (M b1 1) (jxor l1 (-1)) = 0 ∧ jand (M b1 2) l1 = 0) → Q (.inl (some (vI (0 : Int)))) M K) ∧ ((jand (M b1 1) (jxor l1 (-1)) = 0 ∧ jand (M b1 2) l1 = 0) → ∃ b6 : Nat, (M 32 11) = (b6 : Int) ∧ isO 923 b6 0 = true ∧ ∃ c9 : Mem, ∃ z10 : Nat, (l1 = (z10 : Int) ∧ CC M b6 c9 ∧ CW c9 ∧ z10 < 2147483648) ∧ (¬ (deedS c9 z10) = l2 → Q (.inl (some (vI (0 : Int)))) M K) ∧ ((deedS c9 z10) = l2 → Q (.inl (some (vI (1 : Int)))) M K))) : Wp (d + 1) 145 0 [vR 32, vI l1, vI l2] [] M K Q := by
  refine r_aload_n c145_0 rfl ?_
  obtain ⟨b1, h⟩ := h
  obtain ⟨e2, h⟩ := h
  obtain ⟨k3, h⟩ := h
  refine r_getR c145_1 (oK hK o32) e2 (by have := (isO_d k3).1; omega) ?_
  refine r_iload_n c145_4 rfl ?_
  refine r_call c145_5 rfl rfl (Nat.le_of_ble_eq_true rfl) (okc_r rfl rfl (oK hK k3)) (g78 hK hX k3  (Bk_v ?_))
  refine r_ifP (P := ¬ (jand (M b1 1) (jxor l1 (-1)) = 0 ∧ jand (M b1 2) l1 = 0)) c145_8 bI_eq (fun hc4 => ?_) (fun hc4 => ?_)
  · replace h := h.1 hc4
    refine r_iconst c145_27 ?_
    exact r_iret c145_28 (by decide) h
  · have hc5 := Classical.not_not.mp hc4
    replace h := h.2 hc5
    refine r_aload_n c145_11 rfl ?_
    obtain ⟨b6, h⟩ := h
    obtain ⟨e7, h⟩ := h
    obtain ⟨k8, h⟩ := h
    refine r_getR c145_12 (oK hK o32) e7 (by have := (isO_d k8).1; omega) ?_
    refine r_iload_n c145_15 rfl ?_
    obtain ⟨c9, h⟩ := h
    obtain ⟨z10, h⟩ := h
    obtain ⟨p11, h⟩ := h
    refine r_call c145_16 rfl rfl (Nat.le_of_ble_eq_true rfl) (okc_r rfl rfl (oK hK k8)) (g10z hK hX k8 p11 (Bk_v ?_))
    refine r_iload_n c145_19 rfl ?_
    refine r_icmpP (P := ¬ (deedS c9 z10) = l2) c145_20 rfl (fun hc12 => ?_) (fun hc12 => ?_)
    · replace h := h.1 hc12
      refine r_iconst c145_27 ?_
      exact r_iret c145_28 (by decide) h
    · have hc13 := Classical.not_not.mp hc12
      replace h := h.2 hc13
      refine r_iconst c145_23 ?_
      refine r_goto c145_24 ?_
      exact r_iret c145_28 (by decide) h
theorem u146_0 {d : Nat} {l1 : Int} {l2 : Int} {M : Mem} {K : KK} {Q : RR → Mem → KK → Prop} (hK : K.1 = 923) (hX : FX M)  (h : Wp (d + 1) 146 8 [vR 32, vI l1, vI l2, vI (0 : Int), vI (0 : Int), vI (0 : Int)] [] M K Q) : Wp (d + 1) 146 0 [vR 32, vI l1, vI l2, vU, vU, vU] [] M K Q := by
  refine r_iconst c146_0 ?_
  refine r_istore_n c146_1 (Nat.le_of_ble_eq_true rfl) ?_
  refine r_iconst c146_2 ?_
  refine r_istore c146_3 (Nat.le_of_ble_eq_true rfl) ?_
  refine r_iconst c146_5 ?_
  refine r_istore c146_6 (Nat.le_of_ble_eq_true rfl) ?_
  exact h
theorem u146_8 {d : Nat} {l1 : Int} {l2 : Int} {l3 : Int} {l4 : Int} {l5 : Int} {M : Mem} {K : KK} {Q : RR → Mem → KK → Prop} (hK : K.1 = 923) (hX : FX M)  (h : ∃ b1 : Nat, (M 32 11) = (b1 : Int) ∧ isO 923 b1 0 = true ∧ ((jshl (1 : Int) (M b1 7)) ≤ l5 → Q (.inl (some (vI (jmax l3 l4)))) M K) ∧ (¬ ((jshl (1 : Int) (M b1 7)) ≤ l5) → Wm d 145 [vR 32, vI l5, vI l1] M K (Bk d 146 26 29 145 [vR 32, vI l1, vI l2, vI l3, vI l4, vI l5] [] Q))) : Wp (d + 1) 146 8 [vR 32, vI l1, vI l2, vI l3, vI l4, vI l5] [] M K Q := by
  refine r_iload c146_8 rfl ?_
  refine r_iconst c146_10 ?_
  refine r_aload_n c146_11 rfl ?_
  obtain ⟨b1, h⟩ := h
  obtain ⟨e2, h⟩ := h
  obtain ⟨k3, h⟩ := h
  refine r_getR c146_12 (oK hK o32) e2 (by have := (isO_d k3).1; omega) ?_
  refine r_getIe c146_15 (oK hK k3) rfl ?_
  refine r_ishl c146_18 ?_
  refine r_icmpP (P := (jshl (1 : Int) (M b1 7)) ≤ l5) c146_19 rfl (fun hc4 => ?_) (fun hc4 => ?_)
  · replace h := h.1 hc4
    refine r_iload_n c146_60 rfl ?_
    refine r_iload c146_61 rfl ?_
    refine r_max c146_63 (Nat.le_of_ble_eq_true rfl) ?_
    exact r_iret c146_66 (Or.inl rfl) h
  · replace h := h.2 hc4
    refine r_aload_n c146_22 rfl ?_
    refine r_iload c146_23 rfl ?_
    refine r_iload_n c146_25 rfl ?_
    exact r_call c146_26 rfl rfl (Nat.le_of_ble_eq_true rfl) (okc_r rfl rfl (oK hK o32)) h
theorem u146_29 {d : Nat} {l1 : Int} {l2 : Int} {l3 : Int} {l4 : Int} {l5 : Int} {t0 : Int} {M : Mem} {K : KK} {Q : RR → Mem → KK → Prop} (hK : K.1 = 923) (hX : FX M)  (h : (t0 = (0 : Int) → Wp (d + 1) 146 8 [vR 32, vI l1, vI l2, vI l3, vI l4, vI (w32 (l5 + 1))] [] M K Q) ∧ (¬ (t0 = (0 : Int)) → Wp (d + 1) 146 8 [vR 32, vI l1, vI l2, vI (w32 (l3 + (jand (jshr l5 l2) (1 : Int)))), vI (w32 (l4 + (w32 ((1 : Int) - (jand (jshr l5 l2) (1 : Int)))))), vI (w32 (l5 + 1))] [] M K Q)) : Wp (d + 1) 146 29 [vR 32, vI l1, vI l2, vI l3, vI l4, vI l5] [vI t0] M K Q := by
  refine r_ifP (P := t0 = (0 : Int)) c146_29 rfl (fun hc1 => ?_) (fun hc1 => ?_)
  · replace h := h.1 hc1
    refine r_iinc c146_54 rfl ?_
    refine r_goto c146_57 ?_
    exact h
  · replace h := h.2 hc1
    refine r_iload_n c146_32 rfl ?_
    refine r_iload c146_33 rfl ?_
    refine r_iload_n c146_35 rfl ?_
    refine r_ishr c146_36 ?_
    refine r_iconst c146_37 ?_
    refine r_iand c146_38 ?_
    refine r_iadd c146_39 ?_
    refine r_istore_n c146_40 (Nat.le_of_ble_eq_true rfl) ?_
    refine r_iload c146_41 rfl ?_
    refine r_iconst c146_43 ?_
    refine r_iload c146_44 rfl ?_
    refine r_iload_n c146_46 rfl ?_
    refine r_ishr c146_47 ?_
    refine r_iconst c146_48 ?_
    refine r_iand c146_49 ?_
    refine r_isub c146_50 ?_
    refine r_iadd c146_51 ?_
    refine r_istore c146_52 (Nat.le_of_ble_eq_true rfl) ?_
    refine r_iinc c146_54 rfl ?_
    refine r_goto c146_57 ?_
    exact h
theorem u228_0 {d : Nat} {l1 : Int} {l2 : Int} {M : Mem} {K : KK} {Q : RR → Mem → KK → Prop} (hK : K.1 = 923) (hX : FX M)  (h : Wp (d + 1) 228 5 [vR 440, vI l1, vI l2, vI (0 : Int), vI (0 : Int)] [] M K Q) : Wp (d + 1) 228 0 [vR 440, vI l1, vI l2, vU, vU] [] M K Q := by
  refine r_iconst c228_0 ?_
  refine r_istore_n c228_1 (Nat.le_of_ble_eq_true rfl) ?_
  refine r_iconst c228_2 ?_
  refine r_istore c228_3 (Nat.le_of_ble_eq_true rfl) ?_
  exact h
theorem u228_5 {d : Nat} {l1 : Int} {l2 : Int} {l3 : Int} {l4 : Int} {M : Mem} {K : KK} {Q : RR → Mem → KK → Prop} (hK : K.1 = 923) (hX : FX M)  (h : ((M 444 2) ≤ l4 → Wp (d + 1) 228 48 [vR 440, vI l1, vI l2, vI l3, vI (0 : Int)] [] M K Q) ∧ (¬ ((M 444 2) ≤ l4) → (¬ (jand (jshr l1 l4) 1 = 1) → Wp (d + 1) 228 5 [vR 440, vI l1, vI l2, vI (w32 (l3 + (0 : Int))), vI (w32 (l4 + 1))] [] M K Q) ∧ ((jand (jshr l1 l4) 1 = 1) → (0 ≤ l4 ∧ l4 < (8 : Int)) ∧ Wp (d + 1) 228 5 [vR 440, vI l1, vI l2, vI (w32 (l3 + (M 448 (Int.toNat l4)))), vI (w32 (l4 + 1))] [] M K Q))) : Wp (d + 1) 228 5 [vR 440, vI l1, vI l2, vI l3, vI l4] [] M K Q := by
  refine r_iload c228_5 rfl ?_
  refine r_aload_n c228_7 rfl ?_
  refine r_getR c228_8 (oK hK o440) (FX.get (b := 444) hX (by decide) (by decide +kernel) (by decide)) (by decide) ?_
  refine r_iconst c228_11 ?_
  refine r_iae c228_12 (oK hK o444) (bd l444 (by decide)) rfl ?_
  refine r_icmpP (P := (M 444 2) ≤ l4) c228_13 rfl (fun hc1 => ?_) (fun hc1 => ?_)
  · replace h := h.1 hc1
    refine r_iconst c228_45 ?_
    refine r_istore c228_46 (Nat.le_of_ble_eq_true rfl) ?_
    exact h
  · replace h := h.2 hc1
    refine r_iload_n c228_16 rfl ?_
    refine r_iload_n c228_17 rfl ?_
    refine r_iload c228_18 rfl ?_
    refine r_call c228_20 rfl rfl (Nat.le_of_ble_eq_true rfl) (okc_s rfl rfl rfl) (g156 hK hX  (Bk_v ?_))
    refine r_ifP (P := ¬ (jand (jshr l1 l4) 1 = 1)) c228_23 bI_eq (fun hc2 => ?_) (fun hc2 => ?_)
    · replace h := h.1 hc2
      refine r_iconst c228_36 ?_
      refine r_iadd c228_37 ?_
      refine r_istore_n c228_38 (Nat.le_of_ble_eq_true rfl) ?_
      refine r_iinc c228_39 rfl ?_
      refine r_goto c228_42 ?_
      exact h
    · have hc3 := Classical.not_not.mp hc2
      replace h := h.2 hc3
      refine r_aload_n c228_26 rfl ?_
      refine r_getR c228_27 (oK hK o440) (FX.get (b := 448) hX (by decide) (by decide +kernel) (by decide)) (by decide) ?_
      refine r_iload c228_30 rfl ?_
      obtain ⟨s4, h⟩ := h
      refine r_iae c228_32 (oK hK o448) (bd l448 s4) rfl ?_
      refine r_goto c228_33 ?_
      refine r_iadd c228_37 ?_
      refine r_istore_n c228_38 (Nat.le_of_ble_eq_true rfl) ?_
      refine r_iinc c228_39 rfl ?_
      refine r_goto c228_42 ?_
      exact h
theorem u228_48 {d : Nat} {l1 : Int} {l2 : Int} {l3 : Int} {l4 : Int} {M : Mem} {K : KK} {Q : RR → Mem → KK → Prop} (hK : K.1 = 923) (hX : FX M)  (h : ((M 440 35) ≤ l4 → (¬ l3 = l2 → Q (.inl (some (vI (0 : Int)))) M K) ∧ (l3 = l2 → Q (.inl (some (vI (1 : Int)))) M K)) ∧ (¬ ((M 440 35) ≤ l4) → (0 ≤ l4 ∧ l4 < (8 : Int)) ∧ (0 ≤ l4 ∧ l4 < (8 : Int)) ∧ (¬ (M (788 + Int.toNat l4) 1) = (1 : Int) → (¬ (jand (jshr l1 (M (788 + Int.toNat l4) 0)) 1 = 1) → Wp (d + 1) 228 48 [vR 440, vI l1, vI l2, vI l3, vI (w32 (l4 + 1))] [] M K Q) ∧ ((jand (jshr l1 (M (788 + Int.toNat l4) 0)) 1 = 1) → Q (.inl (some (vI (0 : Int)))) M K)) ∧ ((M (788 + Int.toNat l4) 1) = (1 : Int) → ((bI (jand (jshr l1 (M (788 + Int.toNat l4) 0)) 1 = 1)) = (1 : Int) → Wp (d + 1) 228 48 [vR 440, vI l1, vI l2, vI l3, vI (w32 (l4 + 1))] [] M K Q) ∧ (¬ ((bI (jand (jshr l1 (M (788 + Int.toNat l4) 0)) 1 = 1)) = (1 : Int)) → Q (.inl (some (vI (0 : Int)))) M K)))) : Wp (d + 1) 228 48 [vR 440, vI l1, vI l2, vI l3, vI l4] [] M K Q := by
  refine r_iload c228_48 rfl ?_
  refine r_aload_n c228_50 rfl ?_
  refine r_getIe c228_51 (oK hK o440) rfl ?_
  refine r_icmpP (P := (M 440 35) ≤ l4) c228_54 rfl (fun hc1 => ?_) (fun hc1 => ?_)
  · replace h := h.1 hc1
    refine r_iload_n c228_99 rfl ?_
    refine r_iload_n c228_100 rfl ?_
    refine r_icmpP (P := ¬ l3 = l2) c228_101 rfl (fun hc2 => ?_) (fun hc2 => ?_)
    · replace h := h.1 hc2
      refine r_iconst c228_108 ?_
      exact r_iret c228_109 (by decide) h
    · have hc3 := Classical.not_not.mp hc2
      replace h := h.2 hc3
      refine r_iconst c228_104 ?_
      refine r_goto c228_105 ?_
      exact r_iret c228_109 (by decide) h
  · replace h := h.2 hc1
    refine r_iload_n c228_57 rfl ?_
    refine r_aload_n c228_58 rfl ?_
    refine r_getR c228_59 (oK hK o440) (FX.get (b := 787) hX (by decide) (by decide +kernel) (by decide)) (by decide) ?_
    refine r_iload c228_62 rfl ?_
    obtain ⟨s4, h⟩ := h
    refine r_aa c228_64 (mrw o787 hK) (bd l787 s4) (rf787 hX s4) (by omega) ?_
    refine r_iconst c228_65 ?_
    refine r_iae c228_66 (oK hK (ro787 s4)) (bd (rz787 s4) (by decide)) rfl ?_
    refine r_call c228_67 rfl rfl (Nat.le_of_ble_eq_true rfl) (okc_s rfl rfl rfl) (g156 hK hX  (Bk_v ?_))
    refine r_aload_n c228_70 rfl ?_
    refine r_getR c228_71 (oK hK o440) (FX.get (b := 787) hX (by decide) (by decide +kernel) (by decide)) (by decide) ?_
    refine r_iload c228_74 rfl ?_
    obtain ⟨s5, h⟩ := h
    refine r_aa c228_76 (mrw o787 hK) (bd l787 s5) (rf787 hX s5) (by omega) ?_
    refine r_iconst c228_77 ?_
    refine r_iae c228_78 (oK hK (ro787 s5)) (bd (rz787 s5) (by decide)) rfl ?_
    refine r_iconst c228_79 ?_
    refine r_icmpP (P := ¬ (M (788 + Int.toNat l4) 1) = (1 : Int)) c228_80 rfl (fun hc6 => ?_) (fun hc6 => ?_)
    · replace h := h.1 hc6
      refine r_iconst c228_87 ?_
      refine r_icmpP (P := ¬ (jand (jshr l1 (M (788 + Int.toNat l4) 0)) 1 = 1)) c228_88 bI_eq (fun hc8 => ?_) (fun hc8 => ?_)
      · replace h := h.1 hc8
        refine r_iinc c228_93 rfl ?_
        refine r_goto c228_96 ?_
        exact h
      · have hc9 := Classical.not_not.mp hc8
        replace h := h.2 hc9
        refine r_iconst c228_91 ?_
        exact r_iret c228_92 (by decide) h
    · have hc7 := Classical.not_not.mp hc6
      replace h := h.2 hc7
      refine r_iconst c228_83 ?_
      refine r_goto c228_84 ?_
      refine r_icmpP (P := (bI (jand (jshr l1 (M (788 + Int.toNat l4) 0)) 1 = 1)) = (1 : Int)) c228_88 rfl (fun hc10 => ?_) (fun hc10 => ?_)
      · replace h := h.1 hc10
        refine r_iinc c228_93 rfl ?_
        refine r_goto c228_96 ?_
        exact h
      · replace h := h.2 hc10
        refine r_iconst c228_91 ?_
        exact r_iret c228_92 (by decide) h
theorem u230_0 {d : Nat} {l1 : Int} {M : Mem} {K : KK} {Q : RR → Mem → KK → Prop} (hK : K.1 = 923) (hX : FX M)  (h : Wp d 230 2 [vR 440, vI l1, vI (0 : Int)] [] M K Q) : Wp d 230 0 [vR 440, vI l1, vU] [] M K Q := by
  refine r_iconst c230_0 ?_
  refine r_istore_n c230_1 (Nat.le_of_ble_eq_true rfl) ?_
  exact h
theorem u230_2 {d : Nat} {l1 : Int} {l2 : Int} {M : Mem} {K : KK} {Q : RR → Mem → KK → Prop} (hK : K.1 = 923) (hX : FX M)  (h : ((M 440 35) ≤ l2 → Q (.inl (some (vI (0 : Int)))) M K) ∧ (¬ ((M 440 35) ≤ l2) → (0 ≤ l2 ∧ l2 < (8 : Int)) ∧ (¬ (M (788 + Int.toNat l2) 0) = l1 → Wp d 230 2 [vR 440, vI l1, vI (w32 (l2 + 1))] [] M K Q) ∧ ((M (788 + Int.toNat l2) 0) = l1 → Q (.inl (some (vI (1 : Int)))) M K))) : Wp d 230 2 [vR 440, vI l1, vI l2] [] M K Q := by
  refine r_iload_n c230_2 rfl ?_
  refine r_aload_n c230_3 rfl ?_
  refine r_getIe c230_4 (oK hK o440) rfl ?_
  refine r_icmpP (P := (M 440 35) ≤ l2) c230_7 rfl (fun hc1 => ?_) (fun hc1 => ?_)
  · replace h := h.1 hc1
    refine r_iconst c230_30 ?_
    exact r_iret c230_31 (by decide) h
  · replace h := h.2 hc1
    refine r_aload_n c230_10 rfl ?_
    refine r_getR c230_11 (oK hK o440) (FX.get (b := 787) hX (by decide) (by decide +kernel) (by decide)) (by decide) ?_
    refine r_iload_n c230_14 rfl ?_
    obtain ⟨s2, h⟩ := h
    refine r_aa c230_15 (mrw o787 hK) (bd l787 s2) (rf787 hX s2) (by omega) ?_
    refine r_iconst c230_16 ?_
    refine r_iae c230_17 (oK hK (ro787 s2)) (bd (rz787 s2) (by decide)) rfl ?_
    refine r_iload_n c230_18 rfl ?_
    refine r_icmpP (P := ¬ (M (788 + Int.toNat l2) 0) = l1) c230_19 rfl (fun hc3 => ?_) (fun hc3 => ?_)
    · replace h := h.1 hc3
      refine r_iinc c230_24 rfl ?_
      refine r_goto c230_27 ?_
      exact h
    · have hc4 := Classical.not_not.mp hc3
      replace h := h.2 hc4
      refine r_iconst c230_22 ?_
      exact r_iret c230_23 (by decide) h
/-! the questions mayBe and ask -/
/-- the lines agree with the set -/
def agB (Y : LC) (S : Nat) : Bool := Y.all (fun x => S.testBit x.1.toNat == decide (x.2 = 1))
theorem agB_iff {Y : LC} {S : Nat} : agB Y S = true ↔ ∀ x ∈ Y, (S.testBit x.1.toNat = true ↔ x.2 = 1) := by
  unfold agB
  rw [List.all_eq_true]
  constructor
  · intro h x hx
    have := h x hx
    rw [beq_iff_eq, Bool.eq_iff_iff, decide_eq_true_eq] at this
    exact this
  · intro h x hx
    rw [beq_iff_eq, Bool.eq_iff_iff, decide_eq_true_eq]; exact h x hx
theorem gD {Y : LC} {j : Nat} (h : j < Y.length) : Y.getD j (0, 0) = Y[j] := by simp [List.getD, h]
theorem gD_mem {Y : LC} {j : Nat} (h : j < Y.length) : Y.getD j (0, 0) ∈ Y := by rw [gD h]; exact List.getElem_mem h
theorem SY_agr {M : Mem} {s : Nat} {L : LC} {S : Nat} (h : SY M s L) (hw : SW L) (hS : S < 2147483648) : (jand (M s 1) (jxor (S : Int) (-1)) = 0 ∧ jand (M s 2) (S : Int) = 0) ↔ agB L S = true := by
  have l1 := bitsOf_lt (b := 1) L hw
  have l0 := bitsOf_lt (b := 0) L hw
  rw [h.2.1, h.2.2, jandn_n (by omega) (by omega), jand_n (by omega) (by omega), agB_iff]
  have e1 : ((bitsOf L 1 ^^^ (bitsOf L 1 &&& S) : Nat) : Int) = 0 ↔ ∀ i, (bitsOf L 1).testBit i = true → S.testBit i = true := by
    rw [show (((bitsOf L 1 ^^^ (bitsOf L 1 &&& S) : Nat) : Int) = 0) ↔ (bitsOf L 1 ^^^ (bitsOf L 1 &&& S) = 0) by omega, zero_tb]
    constructor
    · intro h i hi
      have := h i
      rw [tb_andn, hi] at this
      cases hq : S.testBit i with
      | true => rfl
      | false => rw [hq] at this; exact absurd this (by decide)
    · intro h i
      rw [tb_andn]
      cases hq : (bitsOf L 1).testBit i with
      | false => rfl
      | true => rw [h i hq]; rfl
  have e0 : ((bitsOf L 0 &&& S : Nat) : Int) = 0 ↔ ∀ i, (bitsOf L 0).testBit i = true → ¬ S.testBit i = true := by
    rw [show (((bitsOf L 0 &&& S : Nat) : Int) = 0) ↔ (bitsOf L 0 &&& S = 0) by omega, zero_tb]
    constructor
    · intro h i hi hs
      have := h i
      rw [Nat.testBit_and, hi, hs] at this; exact absurd this (by decide)
    · intro h i
      rw [Nat.testBit_and]
      cases hq : (bitsOf L 0).testBit i with
      | false => rfl
      | true =>
        cases hs : S.testBit i with
        | false => rfl
        | true => exact absurd hs (h i hq)
  rw [e1, e0]
  constructor
  · rintro ⟨h1, h2⟩ x hx
    have hxw := hw x hx
    rcases hxw.2 with h4 | h4
    · have := h2 x.1.toNat ((bitsOf_tb L hw).mpr ⟨x, hx, h4, by omega⟩)
      exact ⟨fun h => absurd h this, fun h => by omega⟩
    · have := h1 x.1.toNat ((bitsOf_tb L hw).mpr ⟨x, hx, h4, by omega⟩)
      exact ⟨fun _ => h4, fun _ => this⟩
  · intro h
    refine ⟨fun i hi => ?_, fun i hi hs => ?_⟩
    · obtain ⟨x, hx, h2, h3⟩ := (bitsOf_tb L hw).mp hi
      have := (h x hx).mpr h2
      rw [h3, Int.toNat_natCast] at this; exact this
    · obtain ⟨x, hx, h2, h3⟩ := (bitsOf_tb L hw).mp hi
      have := (h x hx).mp (by rw [h3, Int.toNat_natCast]; exact hs)
      omega
/-- a set of deeds that the lines and the yards allow -/
def mdB (c : Mem) (Y : LC) (y : Int) (S : Nat) : Bool := agB Y S && decide (deedS c S = y)
/-- many, least, in each, in any, of the sets below k -/
def mbF (c : Mem) (Y : LC) (y : Int) : Nat → Nat × Int × Nat × Nat
  | 0 => (0, -1, 2 ^ nDe c - 1, 0)
  | k + 1 => match mdB c Y y k with
    | true => ((mbF c Y y k).1 + 1, if (mbF c Y y k).2.1 = -1 then (k : Int) else (mbF c Y y k).2.1, (mbF c Y y k).2.2.1 &&& k, (mbF c Y y k).2.2.2 ||| k)
    | false => mbF c Y y k
def mayS (c : Mem) (Y : LC) (y w : Int) : Int := if w = 0 then ((mbF c Y y (2 ^ nDe c)).1 : Int) else if w = 1 then (mbF c Y y (2 ^ nDe c)).2.1 else if (mbF c Y y (2 ^ nDe c)).1 = 0 then 0 else if w = 2 then ((mbF c Y y (2 ^ nDe c)).2.2.1 : Int) else ((2 ^ nDe c - 1 - (mbF c Y y (2 ^ nDe c)).2.2.2 : Nat) : Int)
/-- with the deed, and all -/
def awF (c : Mem) (Y : LC) (y : Int) (d : Nat) : Nat → Nat × Nat
  | 0 => (0, 0)
  | k + 1 => match mdB c Y y k with
    | true => ((awF c Y y d k).1 + (if k.testBit d = true then 1 else 0), (awF c Y y d k).2 + 1)
    | false => awF c Y y d k
def awW (c : Mem) (Y : LC) (y : Int) (d : Nat) : Int := max ((awF c Y y d (2 ^ nDe c)).1 : Int) (((awF c Y y d (2 ^ nDe c)).2 : Int) - ((awF c Y y d (2 ^ nDe c)).1 : Int))
/-- the deed to ask of, deeds below d -/
def asF (c : Mem) (Y : LC) (y : Int) : Nat → Int × Int
  | 0 => (-1, -1)
  | d + 1 => match spk Y (d : Int) with
    | true => asF c Y y d
    | false => if (asF c Y y d).1 = -1 ∨ awW c Y y d < (asF c Y y d).2 then ((d : Int), awW c Y y d) else asF c Y y d
section OP5
variable {d : Nat} {M M' : Mem} {K : KK} {Q : RR → Mem → KK → Prop} {c s : Mem} {L Y : LC} {y : Int}
theorem mbF_rg {n : Nat} (hn : nDe c ≤ n) : ∀ k, k ≤ 2 ^ nDe c → (mbF c Y y k).1 ≤ k ∧ ((mbF c Y y k).1 = 0 ↔ (mbF c Y y k).2.1 = -1) ∧ (mbF c Y y k).2.2.1 < 2 ^ nDe c ∧ (mbF c Y y k).2.2.2 < 2 ^ nDe c := by
  intro k
  have p0 : 0 < 2 ^ nDe c := Nat.pow_pos (by decide)
  induction k with
  | zero => intro _; exact ⟨Nat.le_refl _, ⟨fun _ => rfl, fun _ => rfl⟩, by show 2 ^ nDe c - 1 < _; omega, p0⟩
  | succ k ih =>
    intro hk
    obtain ⟨a, b, e, f⟩ := ih (by omega)
    simp only [mbF]
    split
    · dsimp only
      refine ⟨by omega, ⟨fun h => by omega, fun h => ?_⟩, Nat.lt_of_le_of_lt Nat.and_le_left e, Nat.or_lt_two_pow f (by omega)⟩
      split at h <;> omega
    · exact ⟨by omega, b, e, f⟩
theorem awF_rg {d : Nat} : ∀ k, (awF c Y y d k).1 ≤ (awF c Y y d k).2 ∧ (awF c Y y d k).2 ≤ k := by
  intro k
  induction k with
  | zero => exact ⟨Nat.le_refl _, Nat.le_refl _⟩
  | succ k ih =>
    simp only [awF]
    split
    · dsimp only
      split <;> omega
    · omega
theorem p8 {n : Nat} (h : n ≤ 8) : 2 ^ n ≤ 256 := by
  have h6 : 2 ^ n ≤ 2 ^ 8 := Nat.pow_le_pow_right (by decide) h
  exact h6
theorem g145 {S : Nat} (hK : K.1 = 923) (hX : FX M) (h : GC M c L s) (hY : SYC M Y) (hw : SW Y) (hS : S < 2147483648) (k : Q (.inl (some (vI (bI (mdB c Y y S = true))))) M K) : Wm (d + 1) 145 [vR 32, vI (S : Int), vI y] M K Q := by
  obtain ⟨cm, l, a, b, e, f⟩ := h
  obtain ⟨t, t1, t2, t3⟩ := hY
  refine u145_0 hK hX ⟨t, t1, t2, ?_⟩
  rw [SY_agr t3 hw hS]
  refine ⟨fun h9 => ?_, fun h9 => ⟨cm, a, b, c, S, ⟨rfl, e.1, e.2.1, hS⟩, fun h8 => ?_, fun h8 => ?_⟩⟩
  · rw [bI_f (fun h => h9 (by unfold mdB at h; rw [Bool.and_eq_true] at h; exact h.1))] at k; exact k
  · rw [bI_f (fun h => h8 (by unfold mdB at h; rw [Bool.and_eq_true, decide_eq_true_eq] at h; exact h.2))] at k; exact k
  · rw [bI_t (by unfold mdB; rw [Bool.and_eq_true, decide_eq_true_eq]; exact ⟨h9, h8⟩)] at k; exact k
theorem g146 {dd : Nat} (hK : K.1 = 923) (hX : FX M) (h : GC M c L s) (hY : SYC M Y) (hw : SW Y) (hd : dd < 8) (k : Q (.inl (some (vI (awW c Y y dd)))) M K) : Wm (d + 2) 146 [vR 32, vI y, vI (dd : Int)] M K Q := by
  have hg := h
  obtain ⟨cm, l, a, b, e, f⟩ := h
  have hD := e.2.1.n.2.2
  have p2 := p8 hD.2
  have e7 := (e.1.g e.2.1).2.2.1
  refine u146_0 hK hX ?_
  have loop : ∀ f i, i + f = 2 ^ nDe c → Wp (d + 2) 146 8 [vR 32, vI y, vI (dd : Int), vI ((awF c Y y dd i).1 : Int), vI (((awF c Y y dd i).2 : Int) - ((awF c Y y dd i).1 : Int)), vI (i : Int)] [] M K Q := by
    intro f9
    induction f9 with
    | zero =>
      intro i hi
      have hin : i = 2 ^ nDe c := by omega
      subst hin
      refine u146_8 hK hX ⟨cm, a, b, fun _ => ?_, fun h9 => absurd (by rw [e7, jshl_1 (by omega)]; omega) h9⟩
      rw [jmax_eq]; exact k
    | succ f9 ih =>
      intro i hi
      have nx := ih (i + 1) (by omega)
      have r := awF_rg (c := c) (Y := Y) (y := y) (d := dd) i
      simp only [awF] at nx
      refine u146_8 hK hX ⟨cm, a, b, fun h9 => absurd h9 (by rw [e7, jshl_1 (by omega)]; omega), fun _ => ?_⟩
      refine g145 hK hX hg hY hw (by omega) (Bk_v (u146_29 hK hX ?_))
      cases hm : mdB c Y y i with
      | false =>
        rw [hm] at nx
        refine ⟨fun _ => ?_, fun h9 => absurd (bI_f (by decide)) h9⟩
        rw [w1 (by omega)]; exact nx
      | true =>
        rw [hm] at nx
        refine ⟨fun h9 => absurd h9 (by rw [bI_t rfl]; decide), fun _ => ?_⟩
        rw [bit_n (by omega) (by omega), w1 (i := i) (by omega)]
        dsimp only at nx
        by_cases ht : i.testBit dd = true
        · rw [if_pos ht] at nx ⊢
          rw [w32_id (z := 1 - 1) (by omega), w32_id (z := _ + (1 : Int)) (by omega), w32_id (by omega)]
          rw [show (((awF c Y y dd i).1 + 1 : Nat) : Int) = ((awF c Y y dd i).1 : Int) + 1 by omega, show (((awF c Y y dd i).2 + 1 : Nat) : Int) - (((awF c Y y dd i).1 : Int) + 1) = ((awF c Y y dd i).2 : Int) - ((awF c Y y dd i).1 : Int) + (1 - 1) by omega] at nx
          exact nx
        · rw [if_neg ht] at nx ⊢
          rw [w32_id (z := 1 - 0) (by omega), w32_id (z := ((awF c Y y dd i).1 : Int) + 0) (by omega), w32_id (by omega)]
          rw [show (((awF c Y y dd i).1 + 0 : Nat) : Int) = ((awF c Y y dd i).1 : Int) + 0 by omega, show (((awF c Y y dd i).2 + 1 : Nat) : Int) - (((awF c Y y dd i).1 : Int) + 0) = ((awF c Y y dd i).2 : Int) - ((awF c Y y dd i).1 : Int) + (1 - 0) by omega] at nx
          exact nx
  have := loop (2 ^ nDe c) 0 (Nat.zero_add _)
  rw [show (((awF c Y y dd 0).2 : Nat) : Int) - ((awF c Y y dd 0).1 : Int) = 0 by simp [awF]] at this
  exact this
theorem g228 {S : Nat} (hK : K.1 = 923) (hX : FX M) (h : GM M c L s) (hY : SYM M Y) (hw : SW Y) (hS : S < 2147483648) (k : Q (.inl (some (vI (bI (mdB c Y y S = true))))) M K) : Wm (d + 1) 228 [vR 440, vI (S : Int), vI y] M K Q := by
  have hD := h.1.2.1.n.2.2
  have e443 : M 444 2 = (nDe c : Int) := (h.1.1.1 2 (by decide)).trans hD.1
  obtain ⟨y1, y2, y3⟩ := hY
  refine u228_0 hK hX ?_
  have hb : ∀ i, i ≤ nDe c → 0 ≤ sumF (fun p => bitI S p * c 4 p) i ∧ sumF (fun p => bitI S p * c 4 p) i ≤ 9 * (i : Int) := by
    intro i
    induction i with
    | zero => intro _; simp [sumF]
    | succ i ih9 =>
      intro hi
      have := ih9 (by omega)
      have := h.1.2.1.de (show i < nDe c by omega)
      simp only [sumF]
      have r9 : 0 ≤ bitI S i * c 4 i ∧ bitI S i * c 4 i ≤ 9 := by unfold bitI; split <;> omega
      omega
  -- the lines
  have lines : ∀ f i, i + f = Y.length → (∀ j, j < i → (S.testBit (Y.getD j (0, 0)).1.toNat = true ↔ (Y.getD j (0, 0)).2 = 1)) → Wp (d + 1) 228 48 [vR 440, vI (S : Int), vI y, vI (deedS c S), vI (i : Int)] [] M K Q := by
    intro f
    induction f with
    | zero =>
      intro i hi hag
      have hin : i = Y.length := by omega
      subst hin
      have ha : agB Y S = true := agB_iff.mpr (fun x hx => by
        obtain ⟨j, hj, rfl⟩ := List.getElem_of_mem hx
        have := hag j hj
        rw [gD hj] at this; exact this)
      refine u228_48 hK hX ⟨fun _ => ⟨fun h9 => ?_, fun h9 => ?_⟩, fun h9 => absurd (by omega) h9⟩
      · rw [bI_f (fun h => h9 (by unfold mdB at h; rw [Bool.and_eq_true, decide_eq_true_eq] at h; exact h.2))] at k; exact k
      · rw [bI_t (by unfold mdB; rw [Bool.and_eq_true, decide_eq_true_eq]; exact ⟨ha, h9⟩)] at k; exact k
    | succ f ih =>
      intro i hi hag
      have hil : i < Y.length := by omega
      obtain ⟨q0, q1⟩ := y3 i hil
      have hx := hw (Y.getD i (0, 0)) (gD_mem hil)
      have bad : ¬ (S.testBit (Y.getD i (0, 0)).1.toNat = true ↔ (Y.getD i (0, 0)).2 = 1) → Q (.inl (some (vI 0))) M K := by
        intro hn
        rw [bI_f (fun h => hn ?_)] at k
        · exact k
        · unfold mdB at h
          rw [Bool.and_eq_true] at h
          have := agB_iff.mp h.1 (Y.getD i (0, 0)) (gD_mem hil)
          exact this
      have nx : (S.testBit (Y.getD i (0, 0)).1.toNat = true ↔ (Y.getD i (0, 0)).2 = 1) → Wp (d + 1) 228 48 [vR 440, vI (S : Int), vI y, vI (deedS c S), vI (w32 ((i : Int) + 1))] [] M K Q := by
        intro hn
        rw [w1 (by omega)]
        refine ih (i + 1) (by omega) (fun j hj => ?_)
        by_cases hji : j = i
        · subst hji; exact hn
        · exact hag j (by omega)
      have eb : jand (jshr (S : Int) (Y.getD i (0, 0)).1) 1 = 1 ↔ S.testBit (Y.getD i (0, 0)).1.toNat = true := by
        have := bit_1 (T := S) (p := (Y.getD i (0, 0)).1.toNat) (by omega) (by omega)
        rw [Int.toNat_of_nonneg hx.1.1] at this; exact this
      refine u228_48 hK hX ⟨fun h9 => absurd h9 (by omega), fun _ => ⟨by omega, by omega, ?_⟩⟩
      rw [Int.toNat_natCast, q0, q1]
      refine ⟨fun h9 => ⟨fun h8 => ?_, fun h8 => ?_⟩, fun h9 => ⟨fun h8 => ?_, fun h8 => ?_⟩⟩
      · exact nx ⟨fun h => absurd (eb.mpr h) h8, fun h => absurd h h9⟩
      · exact bad (fun h => h9 (h.mp (eb.mp h8)))
      · refine nx ⟨fun _ => h9, fun _ => ?_⟩
        by_cases ht : jand (jshr (S : Int) (Y.getD i (0, 0)).1) 1 = 1
        · exact eb.mp ht
        · rw [bI_f ht] at h8; exact absurd h8 (by decide)
      · refine bad (fun h => h8 (bI_t (eb.mpr (h.mpr h9))))
  have loop : ∀ f i, i + f = nDe c → Wp (d + 1) 228 5 [vR 440, vI (S : Int), vI y, vI (sumF (fun p => bitI S p * c 4 p) i), vI (i : Int)] [] M K Q := by
    intro f
    induction f with
    | zero =>
      intro i hi
      have hin : i = nDe c := by omega
      subst hin
      refine u228_5 hK hX ⟨fun _ => ?_, fun h9 => absurd (by omega) h9⟩
      exact lines Y.length 0 (Nat.zero_add _) (fun j hj => absurd hj (by omega))
    | succ f ih =>
      intro i hi
      have nx := ih (i + 1) (by omega)
      have r := hb i (by omega)
      have r2 := h.1.2.1.de (show i < nDe c by omega)
      simp only [sumF] at nx
      refine u228_5 hK hX ⟨fun h9 => absurd h9 (by omega), fun _ => ?_⟩
      rw [bit_1 (by omega) (by omega), Int.toNat_natCast, h.1.1.2.2.2.1 i (by omega), w1 (i := i) (by omega), w32_id (z := sumF _ _ + 0) (by omega), w32_id (z := sumF _ _ + c 4 i) (by omega)]
      refine ⟨fun h9 => ?_, fun h9 => ⟨by omega, ?_⟩⟩
      · rw [show bitI S i * c 4 i = 0 by unfold bitI; rw [if_neg h9]; omega] at nx; exact nx
      · rw [show bitI S i * c 4 i = c 4 i by unfold bitI; rw [if_pos h9]; omega] at nx; exact nx
  exact loop (nDe c) 0 (Nat.zero_add _)
theorem g230 {v : Int} (hK : K.1 = 923) (hX : FX M) (hY : SYM M Y) (k : Q (.inl (some (vI (bI (spk Y v = true))))) M K) : Wm d 230 [vR 440, vI v] M K Q := by
  obtain ⟨y1, y2, y3⟩ := hY
  refine u230_0 hK hX ?_
  have loop : ∀ f i, i + f = Y.length → (∀ j, j < i → (Y.getD j (0, 0)).1 ≠ v) → Wp d 230 2 [vR 440, vI v, vI (i : Int)] [] M K Q := by
    intro f
    induction f with
    | zero =>
      intro i hi hag
      refine u230_2 hK hX ⟨fun _ => ?_, fun h9 => absurd (by omega) h9⟩
      rw [bI_f (fun h => ?_)] at k
      · exact k
      · obtain ⟨x, hx, h3⟩ := spk_iff.mp h
        obtain ⟨j, hj, rfl⟩ := List.getElem_of_mem hx
        have := hag j (by omega)
        rw [gD hj] at this; exact this h3
    | succ f ih =>
      intro i hi hag
      have hil : i < Y.length := by omega
      obtain ⟨q0, q1⟩ := y3 i hil
      refine u230_2 hK hX ⟨fun h9 => absurd h9 (by omega), fun _ => ⟨by omega, ?_⟩⟩
      rw [Int.toNat_natCast, q0, w1 (by omega)]
      refine ⟨fun h9 => ih (i + 1) (by omega) (fun j hj => ?_), fun h9 => ?_⟩
      · by_cases hji : j = i
        · subst hji; exact h9
        · exact hag j (by omega)
      · rw [bI_t (spk_iff.mpr ⟨_, gD_mem hil, h9⟩)] at k; exact k
  exact loop Y.length 0 (Nat.zero_add _) (fun j hj => absurd hj (by omega))
end OP5
