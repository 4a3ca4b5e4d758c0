theorem u250_0 {d : Nat} {l0 : Int} {l1 : Int} {l2 : Int} {M : Mem} {K : KK} {Q : RR → Mem → KK → Prop} (hK : K.1 = 923) (hX : FX M)  (h : (¬ ((1 : Int) ≤ l0 ∧ l0 ≤ (96 : Int)) → Q (.inl (some (vI (0 : Int)))) M K) ∧ (((1 : Int) ≤ l0 ∧ l0 ≤ (96 : Int)) → (¬ ((0 : Int) ≤ l1 ∧ l1 ≤ (16 : Int)) → Q (.inl (some (vI (0 : Int)))) M K) ∧ (((0 : Int) ≤ l1 ∧ l1 ≤ (16 : Int)) → (¬ ((0 : Int) ≤ l2 ∧ l2 ≤ (16 : Int)) → Q (.inl (some (vI (0 : Int)))) M K) ∧ (((0 : Int) ≤ l2 ∧ l2 ≤ (16 : Int)) → Q (.inl (some (vI (1 : Int)))) M K)))) : Wp (d + 1) 250 0 [vI l0, vI l1, vI l2] [] M K Q := by
  refine r_iload_n c250_0 rfl ?_
  refine r_iconst c250_1 ?_
  refine r_bipush c250_2 ?_
  refine r_call c250_4 rfl rfl (Nat.le_of_ble_eq_true rfl) (okc_s rfl rfl rfl) (g153 hK hX  (Bk_v ?_))
  refine r_ifP (P := ¬ ((1 : Int) ≤ l0 ∧ l0 ≤ (96 : Int))) c250_7 bI_eq (fun hc1 => ?_) (fun hc1 => ?_)
  · replace h := h.1 hc1
    refine r_iconst c250_34 ?_
    exact r_iret c250_35 (by decide) h
  · have hc2 := Classical.not_not.mp hc1
    replace h := h.2 hc2
    refine r_iload_n c250_10 rfl ?_
    refine r_iconst c250_11 ?_
    refine r_bipush c250_12 ?_
    refine r_call c250_14 rfl rfl (Nat.le_of_ble_eq_true rfl) (okc_s rfl rfl rfl) (g153 hK hX  (Bk_v ?_))
    refine r_ifP (P := ¬ ((0 : Int) ≤ l1 ∧ l1 ≤ (16 : Int))) c250_17 bI_eq (fun hc3 => ?_) (fun hc3 => ?_)
    · replace h := h.1 hc3
      refine r_iconst c250_34 ?_
      exact r_iret c250_35 (by decide) h
    · have hc4 := Classical.not_not.mp hc3
      replace h := h.2 hc4
      refine r_iload_n c250_20 rfl ?_
      refine r_iconst c250_21 ?_
      refine r_bipush c250_22 ?_
      refine r_call c250_24 rfl rfl (Nat.le_of_ble_eq_true rfl) (okc_s rfl rfl rfl) (g153 hK hX  (Bk_v ?_))
      refine r_ifP (P := ¬ ((0 : Int) ≤ l2 ∧ l2 ≤ (16 : Int))) c250_27 bI_eq (fun hc5 => ?_) (fun hc5 => ?_)
      · replace h := h.1 hc5
        refine r_iconst c250_34 ?_
        exact r_iret c250_35 (by decide) h
      · have hc6 := Classical.not_not.mp hc5
        replace h := h.2 hc6
        refine r_iconst c250_30 ?_
        refine r_goto c250_31 ?_
        exact r_iret c250_35 (by decide) h
section OP8
variable {d : Nat} {M M' : Mem} {K : KK} {Q : RR → Mem → KK → Prop} {c s : Mem} {L Y : LC}
theorem g250 {a b e : Int} (hK : K.1 = 923) (hX : FX M) (k : Q (.inl (some (vI (bI ((1 ≤ a ∧ a ≤ 96) ∧ (0 ≤ b ∧ b ≤ 16) ∧ (0 ≤ e ∧ e ≤ 16)))))) M K) : Wm (d + 1) 250 [vI a, vI b, vI e] M K Q := by
  refine u250_0 hK hX ?_
  have kt : ((1 ≤ a ∧ a ≤ 96) ∧ (0 ≤ b ∧ b ≤ 16) ∧ (0 ≤ e ∧ e ≤ 16)) → Q (.inl (some (vI 1))) M K := fun h => by rw [bI_t h] at k; exact k
  have kf : ¬ ((1 ≤ a ∧ a ≤ 96) ∧ (0 ≤ b ∧ b ≤ 16) ∧ (0 ≤ e ∧ e ≤ 16)) → Q (.inl (some (vI 0))) M K := fun h => by rw [bI_f h] at k; exact k
  exact ⟨fun h => kf (fun h9 => h h9.1), fun h => ⟨fun h2 => kf (fun h9 => h2 h9.2.1), fun h2 => ⟨fun h3 => kf (fun h9 => h3 h9.2.2), fun h3 => kt ⟨h, h2, h3⟩⟩⟩⟩
end OP8
theorem u130_0 {d : Nat} {l1 : Int} {l2 : Int} {l3 : Int} {l4 : Int} {l5 : Int} {M : Mem} {K : KK} {Q : RR → Mem → KK → Prop} (hK : K.1 = 923) (hX : FX M)  (h : (¬ ((1 ≤ l2 ∧ l2 ≤ 96) ∧ (0 ≤ l3 ∧ l3 ≤ 16) ∧ (0 ≤ l4 ∧ l4 ≤ 16)) → Q (.inr 0) (mset M 32 19 (w32 ((M 32 19) + 1))) (K.1, K.2.1 + 1, K.2.2 + 6)) ∧ (((1 ≤ l2 ∧ l2 ≤ 96) ∧ (0 ≤ l3 ∧ l3 ≤ 16) ∧ (0 ≤ l4 ∧ l4 ≤ 16)) → (¬ ((0 : Int) ≤ l5 ∧ l5 ≤ (3 : Int)) → Q (.inr 0) (mset M 32 19 (w32 ((M 32 19) + 1))) (K.1, K.2.1 + 1, K.2.2 + 6)) ∧ (((0 : Int) ≤ l5 ∧ l5 ≤ (3 : Int)) → ∃ b5 : Nat, (M 32 11) = (b5 : Int) ∧ isO 923 b5 0 = true ∧ ∃ c8 : Mem, ∃ s9 : Mem, ∃ L10 : LC, ∃ la11 : Nat, ∃ n12 : Nat, (l2 = (n12 : Int) ∧ (148 + 4 < 40 ∨ 40 + 4 < 148) ∧ SKc M b5 40 c8 s9 ∧ LWC M b5 L10 la11 ∧ s9 4 0 + (n12 : Int) ≤ 2000) ∧ (∀ (M16 : Mem), FX M16 → (FrS8 M M16 ∧ LK M16 148 c8 (sumI c8 L10 l3 l4 s9 l1 n12).1 ∧ LW c8 (sumI c8 L10 l3 l4 s9 l1 n12).1 ∧ M16 147 2 = ((sumI c8 L10 l3 l4 s9 l1 n12).2.2.1 : Int) ∧ M16 147 3 = ((sumI c8 L10 l3 l4 s9 l1 n12).2.2.2 : Int)) → (l5 = (0 : Int) → ∃ b17 : Nat, (M16 32 11) = (b17 : Int) ∧ isO 923 b17 0 = true ∧ ∃ c20 : Mem, ∃ s21 : Mem, SKc M16 b17 148 c20 s21 ∧ Q (.inl (some (vI (greyS c20 s21)))) M16 K) ∧ (l5 = (1 : Int) → ∃ b23 : Nat, (M16 32 11) = (b23 : Int) ∧ isO 923 b23 0 = true ∧ ∃ c26 : Mem, ∃ s27 : Mem, SKc M16 b23 148 c26 s27 ∧ Q (.inl (some (vI (whiteS c26 s27 : Int)))) M16 K) ∧ (l5 = (2 : Int) → Q (.inl (some (vI (M16 147 2)))) M16 K) ∧ (l5 < (0 : Int) ∨ (2 : Int) < l5 → Q (.inl (some (vI (M16 147 3)))) M16 K))))) : Wp (d + 5) 130 0 [vR 32, vI l1, vI l2, vI l3, vI l4, vI l5] [] M K Q := by
  refine r_aload_n c130_0 rfl ?_
  refine r_iload_n c130_1 rfl ?_
  refine r_iload_n c130_2 rfl ?_
  refine r_iload c130_3 rfl ?_
  refine r_call c130_5 rfl rfl (Nat.le_of_ble_eq_true rfl) (okc_s rfl rfl rfl) (g141 hK hX  (Bk_v ?_))
  refine r_ifP (P := ¬ ((1 ≤ l2 ∧ l2 ≤ 96) ∧ (0 ≤ l3 ∧ l3 ≤ 16) ∧ (0 ≤ l4 ∧ l4 ≤ 16))) c130_8 bI_eq (fun hc1 => ?_) (fun hc1 => ?_)
  · replace h := h.1 hc1
    refine r_iconst c130_25 ?_
    refine r_call c130_26 rfl rfl (Nat.le_of_ble_eq_true rfl) (okc_r rfl rfl (oK hK o32)) (n136_0 hK hX (Bk_e rfl rfl rfl ?_))
    exact h
  · have hc2 := Classical.not_not.mp hc1
    replace h := h.2 hc2
    refine r_iload c130_11 rfl ?_
    refine r_iconst c130_13 ?_
    refine r_iconst c130_14 ?_
    refine r_call c130_15 rfl rfl (Nat.le_of_ble_eq_true rfl) (okc_s rfl rfl rfl) (g142 hK hX  (Bk_v ?_))
    refine r_ifP (P := ¬ ((0 : Int) ≤ l5 ∧ l5 ≤ (3 : Int))) c130_18 bI_eq (fun hc3 => ?_) (fun hc3 => ?_)
    · replace h := h.1 hc3
      refine r_iconst c130_25 ?_
      refine r_call c130_26 rfl rfl (Nat.le_of_ble_eq_true rfl) (okc_r rfl rfl (oK hK o32)) (n136_0 hK hX (Bk_e rfl rfl rfl ?_))
      exact h
    · have hc4 := Classical.not_not.mp hc3
      replace h := h.2 hc4
      refine r_iconst c130_21 ?_
      refine r_goto c130_22 ?_
      refine r_call c130_26 rfl rfl (Nat.le_of_ble_eq_true rfl) (okc_r rfl rfl (oK hK o32)) (n136_1 hK hX (Bk_n ?_))
      refine r_aload_n c130_29 rfl ?_
      refine r_getR c130_30 (oK hK o32) (FX.get (b := 147) hX (by decide) (by decide +kernel) (by decide)) (by decide) ?_
      refine r_aload_n c130_33 rfl ?_
      obtain ⟨b5, h⟩ := h
      obtain ⟨e6, h⟩ := h
      obtain ⟨k7, h⟩ := h
      refine r_getR c130_34 (oK hK o32) e6 (by have := (isO_d k7).1; omega) ?_
      refine r_aload_n c130_37 rfl ?_
      refine r_getR c130_38 (oK hK o32) (FX.get (b := 40) hX (by decide) (by decide +kernel) (by decide)) (by decide) ?_
      refine r_iload_n c130_41 rfl ?_
      refine r_iload_n c130_42 rfl ?_
      refine r_iload_n c130_43 rfl ?_
      refine r_iload c130_44 rfl ?_
      obtain ⟨c8, h⟩ := h
      obtain ⟨s9, h⟩ := h
      obtain ⟨L10, h⟩ := h
      obtain ⟨la11, h⟩ := h
      obtain ⟨n12, h⟩ := h
      obtain ⟨p13, h⟩ := h
      refine r_call c130_46 rfl rfl (Nat.le_of_ble_eq_true rfl) (okc_r rfl rfl (oK hK o147)) (g80z hK hX k7 o40 p13 (fun M16 x14 p15 => Bk_n ?_))
      replace h := h M16 x14 p15
      refine r_iload c130_49 rfl ?_
      refine r_tsw c130_51 ?_
      by_cases hv0 : l5 = (0 : Int)
      · rw [show tsw 51 63 0 2 #[25, 40, 55] l5 = 76 from by rw [hv0]; decide]
        replace h := h.1 hv0
        refine r_aload_n c130_76 rfl ?_
        refine r_getR c130_77 (oK hK o32) (FX.get (b := 147) x14 (by decide) (by decide +kernel) (by decide)) (by decide) ?_
        refine r_getR c130_80 (oK hK o147) (FX.get (b := 148) x14 (by decide) (by decide +kernel) (by decide)) (by decide) ?_
        refine r_aload_n c130_83 rfl ?_
        obtain ⟨b17, h⟩ := h
        obtain ⟨e18, h⟩ := h
        obtain ⟨k19, h⟩ := h
        refine r_getR c130_84 (oK hK o32) e18 (by have := (isO_d k19).1; omega) ?_
        obtain ⟨c20, h⟩ := h
        obtain ⟨s21, h⟩ := h
        obtain ⟨p22, h⟩ := h
        refine r_call c130_87 rfl rfl (Nat.le_of_ble_eq_true rfl) (okc_r rfl rfl (oK hK o148)) (g43 hK x14 o148 k19 p22 (Bk_v ?_))
        exact r_iret c130_90 (Or.inl rfl) h
      by_cases hv1 : l5 = (1 : Int)
      · rw [show tsw 51 63 0 2 #[25, 40, 55] l5 = 91 from by rw [hv1]; decide]
        replace h := h.2.1 hv1
        refine r_aload_n c130_91 rfl ?_
        refine r_getR c130_92 (oK hK o32) (FX.get (b := 147) x14 (by decide) (by decide +kernel) (by decide)) (by decide) ?_
        refine r_getR c130_95 (oK hK o147) (FX.get (b := 148) x14 (by decide) (by decide +kernel) (by decide)) (by decide) ?_
        refine r_aload_n c130_98 rfl ?_
        obtain ⟨b23, h⟩ := h
        obtain ⟨e24, h⟩ := h
        obtain ⟨k25, h⟩ := h
        refine r_getR c130_99 (oK hK o32) e24 (by have := (isO_d k25).1; omega) ?_
        obtain ⟨c26, h⟩ := h
        obtain ⟨s27, h⟩ := h
        obtain ⟨p28, h⟩ := h
        refine r_call c130_102 rfl rfl (Nat.le_of_ble_eq_true rfl) (okc_r rfl rfl (oK hK o148)) (g41 hK x14 o148 k25 p28 (Bk_v ?_))
        exact r_iret c130_105 (Or.inl rfl) h
      by_cases hv2 : l5 = (2 : Int)
      · rw [show tsw 51 63 0 2 #[25, 40, 55] l5 = 106 from by rw [hv2]; decide]
        replace h := h.2.2.1 hv2
        refine r_aload_n c130_106 rfl ?_
        refine r_getR c130_107 (oK hK o32) (FX.get (b := 147) x14 (by decide) (by decide +kernel) (by decide)) (by decide) ?_
        refine r_getIe c130_110 (oK hK o147) rfl ?_
        exact r_iret c130_113 (Or.inl rfl) h
      have hvd : l5 < (0 : Int) ∨ (2 : Int) < l5 := by omega
      rw [show tsw 51 63 0 2 #[25, 40, 55] l5 = 114 from by unfold tsw; rw [if_pos hvd]; decide]
      replace h := h.2.2.2 hvd
      refine r_aload_n c130_114 rfl ?_
      refine r_getR c130_115 (oK hK o32) (FX.get (b := 147) x14 (by decide) (by decide +kernel) (by decide)) (by decide) ?_
      refine r_getIe c130_118 (oK hK o147) rfl ?_
      exact r_iret c130_121 (Or.inl rfl) h
theorem u131_0 {d : Nat} {l1 : Int} {l2 : Int} {l3 : Int} {l4 : Int} {l5 : Int} {l6 : Int} {l7 : Int} {M : Mem} {K : KK} {Q : RR → Mem → KK → Prop} (hK : K.1 = 923) (hX : FX M)  (h : (¬ ((1 : Int) ≤ l2 ∧ l2 ≤ (20 : Int)) → Q (.inr 0) (mset M 32 19 (w32 ((M 32 19) + 1))) (K.1, K.2.1 + 1, K.2.2 + 6)) ∧ (((1 : Int) ≤ l2 ∧ l2 ≤ (20 : Int)) → (¬ ((1 ≤ l3 ∧ l3 ≤ 96) ∧ (0 ≤ l4 ∧ l4 ≤ 16) ∧ (0 ≤ l5 ∧ l5 ≤ 16)) → Q (.inr 0) (mset M 32 19 (w32 ((M 32 19) + 1))) (K.1, K.2.1 + 1, K.2.2 + 6)) ∧ (((1 ≤ l3 ∧ l3 ≤ 96) ∧ (0 ≤ l4 ∧ l4 ≤ 16) ∧ (0 ≤ l5 ∧ l5 ≤ 16)) → (¬ ((0 : Int) ≤ l6 ∧ l6 ≤ (2 : Int)) → Q (.inr 0) (mset M 32 19 (w32 ((M 32 19) + 1))) (K.1, K.2.1 + 1, K.2.2 + 6)) ∧ (((0 : Int) ≤ l6 ∧ l6 ≤ (2 : Int)) → ∃ b7 : Nat, (M 32 11) = (b7 : Int) ∧ isO 923 b7 0 = true ∧ (((0 : Int) ≤ l7 ∧ l7 ≤ (w32 ((M b7 6) - (1 : Int)))) → Wp (d + 5) 131 71 [vR 32, vI l1, vI l2, vI l3, vI l4, vI l5, vI l6, vI l7, vI (-1 : Int), vI (-1 : Int), vI (0 : Int), vI (0 : Int), vU] [] M K Q) ∧ (¬ ((0 : Int) ≤ l7 ∧ l7 ≤ (w32 ((M b7 6) - (1 : Int)))) → Q (.inr 0) (mset M 32 19 (w32 ((M 32 19) + 1))) (K.1, K.2.1 + 1, K.2.2 + 6)))))) : Wp (d + 5) 131 0 [vR 32, vI l1, vI l2, vI l3, vI l4, vI l5, vI l6, vI l7, vU, vU, vU, vU, vU] [] M K Q := by
  refine r_aload_n c131_0 rfl ?_
  refine r_iload_n c131_1 rfl ?_
  refine r_iconst c131_2 ?_
  refine r_bipush c131_3 ?_
  refine r_call c131_5 rfl rfl (Nat.le_of_ble_eq_true rfl) (okc_s rfl rfl rfl) (g142 hK hX  (Bk_v ?_))
  refine r_ifP (P := ¬ ((1 : Int) ≤ l2 ∧ l2 ≤ (20 : Int))) c131_8 bI_eq (fun hc1 => ?_) (fun hc1 => ?_)
  · replace h := h.1 hc1
    refine r_iconst c131_36 ?_
    refine r_call c131_37 rfl rfl (Nat.le_of_ble_eq_true rfl) (okc_r rfl rfl (oK hK o32)) (n136_0 hK hX (Bk_e rfl rfl rfl ?_))
    exact h
  · have hc2 := Classical.not_not.mp hc1
    replace h := h.2 hc2
    refine r_iload_n c131_11 rfl ?_
    refine r_iload c131_12 rfl ?_
    refine r_iload c131_14 rfl ?_
    refine r_call c131_16 rfl rfl (Nat.le_of_ble_eq_true rfl) (okc_s rfl rfl rfl) (g141 hK hX  (Bk_v ?_))
    refine r_ifP (P := ¬ ((1 ≤ l3 ∧ l3 ≤ 96) ∧ (0 ≤ l4 ∧ l4 ≤ 16) ∧ (0 ≤ l5 ∧ l5 ≤ 16))) c131_19 bI_eq (fun hc3 => ?_) (fun hc3 => ?_)
    · replace h := h.1 hc3
      refine r_iconst c131_36 ?_
      refine r_call c131_37 rfl rfl (Nat.le_of_ble_eq_true rfl) (okc_r rfl rfl (oK hK o32)) (n136_0 hK hX (Bk_e rfl rfl rfl ?_))
      exact h
    · have hc4 := Classical.not_not.mp hc3
      replace h := h.2 hc4
      refine r_iload c131_22 rfl ?_
      refine r_iconst c131_24 ?_
      refine r_iconst c131_25 ?_
      refine r_call c131_26 rfl rfl (Nat.le_of_ble_eq_true rfl) (okc_s rfl rfl rfl) (g142 hK hX  (Bk_v ?_))
      refine r_ifP (P := ¬ ((0 : Int) ≤ l6 ∧ l6 ≤ (2 : Int))) c131_29 bI_eq (fun hc5 => ?_) (fun hc5 => ?_)
      · replace h := h.1 hc5
        refine r_iconst c131_36 ?_
        refine r_call c131_37 rfl rfl (Nat.le_of_ble_eq_true rfl) (okc_r rfl rfl (oK hK o32)) (n136_0 hK hX (Bk_e rfl rfl rfl ?_))
        exact h
      · have hc6 := Classical.not_not.mp hc5
        replace h := h.2 hc6
        refine r_iconst c131_32 ?_
        refine r_goto c131_33 ?_
        refine r_call c131_37 rfl rfl (Nat.le_of_ble_eq_true rfl) (okc_r rfl rfl (oK hK o32)) (n136_1 hK hX (Bk_n ?_))
        refine r_aload_n c131_40 rfl ?_
        refine r_iload c131_41 rfl ?_
        refine r_iconst c131_43 ?_
        refine r_aload_n c131_44 rfl ?_
        obtain ⟨b7, h⟩ := h
        obtain ⟨e8, h⟩ := h
        obtain ⟨k9, h⟩ := h
        refine r_getR c131_45 (oK hK o32) e8 (by have := (isO_d k9).1; omega) ?_
        refine r_getIe c131_48 (oK hK k9) rfl ?_
        refine r_iconst c131_51 ?_
        refine r_isub c131_52 ?_
        refine r_call c131_53 rfl rfl (Nat.le_of_ble_eq_true rfl) (okc_s rfl rfl rfl) (g142 hK hX  (Bk_v ?_))
        refine r_call c131_56 rfl rfl (Nat.le_of_ble_eq_true rfl) (okc_r rfl rfl (oK hK o32)) (n136b hK hX (fun hc => Bk_n ?_) (fun hc => Bk_e rfl rfl rfl ?_))
        · replace h := h.1 hc
          refine r_iconst c131_59 ?_
          refine r_istore c131_60 (Nat.le_of_ble_eq_true rfl) ?_
          refine r_iconst c131_62 ?_
          refine r_istore c131_63 (Nat.le_of_ble_eq_true rfl) ?_
          refine r_iconst c131_65 ?_
          refine r_istore c131_66 (Nat.le_of_ble_eq_true rfl) ?_
          refine r_iconst c131_68 ?_
          refine r_istore c131_69 (Nat.le_of_ble_eq_true rfl) ?_
          exact h
        · replace h := h.2 hc
          exact h
theorem u131_71 {d : Nat} {l1 : Int} {l2 : Int} {l3 : Int} {l4 : Int} {l5 : Int} {l6 : Int} {l7 : Int} {l8 : Int} {l9 : Int} {l10 : Int} {l11 : Int} {l12 : PV} {M : Mem} {K : KK} {Q : RR → Mem → KK → Prop} (hK : K.1 = 923) (hX : FX M)  (h : (l2 ≤ l11 → (¬ l6 = (0 : Int) → (¬ l6 = (1 : Int) → Q (.inl (some (vI l10))) M K) ∧ (l6 = (1 : Int) → Q (.inl (some (vI l9))) M K)) ∧ (l6 = (0 : Int) → Q (.inl (some (vI l8))) M K)) ∧ (¬ (l2 ≤ l11) → ∃ b6 : Nat, (M 32 11) = (b6 : Int) ∧ isO 923 b6 0 = true ∧ ∃ c9 : Mem, ∃ s10 : Mem, ∃ L11 : LC, ∃ la12 : Nat, ∃ n13 : Nat, (l3 = (n13 : Int) ∧ (148 + 4 < 40 ∨ 40 + 4 < 148) ∧ SKc M b6 40 c9 s10 ∧ LWC M b6 L11 la12 ∧ s10 4 0 + (n13 : Int) ≤ 2000) ∧ (∀ (M17 : Mem), FX M17 → (FrS8 M M17 ∧ LK M17 148 c9 (sumI c9 L11 l4 l5 s10 (w32 (l1 + l11)) n13).1 ∧ LW c9 (sumI c9 L11 l4 l5 s10 (w32 (l1 + l11)) n13).1 ∧ M17 147 2 = ((sumI c9 L11 l4 l5 s10 (w32 (l1 + l11)) n13).2.2.1 : Int) ∧ M17 147 3 = ((sumI c9 L11 l4 l5 s10 (w32 (l1 + l11)) n13).2.2.2 : Int)) → ∃ b18 : Nat, (M17 32 11) = (b18 : Int) ∧ isO 923 b18 0 = true ∧ ∃ c21 : Mem, ∃ s22 : Mem, SKc M17 b18 148 c21 s22 ∧ (¬ l8 = (-1 : Int) → (0 ≤ l7 ∧ l7 < (6 : Int)) ∧ (¬ (M17 149 (Int.toNat l7)) = (0 : Int) → Wp (d + 5) 131 71 [vR 32, vI l1, vI l2, vI l3, vI l4, vI l5, vI l6, vI l7, vI (jmin l8 (greyS c21 s22)), vI (jmax l9 (greyS c21 s22)), vI (w32 (l10 + (0 : Int))), vI (w32 (l11 + 1)), vI (greyS c21 s22)] [] M17 K Q) ∧ ((M17 149 (Int.toNat l7)) = (0 : Int) → Wp (d + 5) 131 71 [vR 32, vI l1, vI l2, vI l3, vI l4, vI l5, vI l6, vI l7, vI (jmin l8 (greyS c21 s22)), vI (jmax l9 (greyS c21 s22)), vI (w32 (l10 + (1 : Int))), vI (w32 (l11 + 1)), vI (greyS c21 s22)] [] M17 K Q)) ∧ (l8 = (-1 : Int) → (0 ≤ l7 ∧ l7 < (6 : Int)) ∧ (¬ (M17 149 (Int.toNat l7)) = (0 : Int) → Wp (d + 5) 131 71 [vR 32, vI l1, vI l2, vI l3, vI l4, vI l5, vI l6, vI l7, vI (greyS c21 s22), vI (jmax l9 (greyS c21 s22)), vI (w32 (l10 + (0 : Int))), vI (w32 (l11 + 1)), vI (greyS c21 s22)] [] M17 K Q) ∧ ((M17 149 (Int.toNat l7)) = (0 : Int) → Wp (d + 5) 131 71 [vR 32, vI l1, vI l2, vI l3, vI l4, vI l5, vI l6, vI l7, vI (greyS c21 s22), vI (jmax l9 (greyS c21 s22)), vI (w32 (l10 + (1 : Int))), vI (w32 (l11 + 1)), vI (greyS c21 s22)] [] M17 K Q))))) : Wp (d + 5) 131 71 [vR 32, vI l1, vI l2, vI l3, vI l4, vI l5, vI l6, vI l7, vI l8, vI l9, vI l10, vI l11, l12] [] M K Q := by
  refine r_iload c131_71 rfl ?_
  refine r_iload_n c131_73 rfl ?_
  refine r_icmpP (P := l2 ≤ l11) c131_74 rfl (fun hc1 => ?_) (fun hc1 => ?_)
  · replace h := h.1 hc1
    refine r_iload c131_178 rfl ?_
    refine r_ifP (P := ¬ l6 = (0 : Int)) c131_180 rfl (fun hc2 => ?_) (fun hc2 => ?_)
    · replace h := h.1 hc2
      refine r_iload c131_188 rfl ?_
      refine r_iconst c131_190 ?_
      refine r_icmpP (P := ¬ l6 = (1 : Int)) c131_191 rfl (fun hc4 => ?_) (fun hc4 => ?_)
      · replace h := h.1 hc4
        refine r_iload c131_199 rfl ?_
        exact r_iret c131_201 (Or.inl rfl) h
      · have hc5 := Classical.not_not.mp hc4
        replace h := h.2 hc5
        refine r_iload c131_194 rfl ?_
        refine r_goto c131_196 ?_
        exact r_iret c131_201 (Or.inl rfl) h
    · have hc3 := Classical.not_not.mp hc2
      replace h := h.2 hc3
      refine r_iload c131_183 rfl ?_
      refine r_goto c131_185 ?_
      exact r_iret c131_201 (Or.inl rfl) h
  · replace h := h.2 hc1
    refine r_aload_n c131_77 rfl ?_
    refine r_getR c131_78 (oK hK o32) (FX.get (b := 147) hX (by decide) (by decide +kernel) (by decide)) (by decide) ?_
    refine r_aload_n c131_81 rfl ?_
    obtain ⟨b6, h⟩ := h
    obtain ⟨e7, h⟩ := h
    obtain ⟨k8, h⟩ := h
    refine r_getR c131_82 (oK hK o32) e7 (by have := (isO_d k8).1; omega) ?_
    refine r_aload_n c131_85 rfl ?_
    refine r_getR c131_86 (oK hK o32) (FX.get (b := 40) hX (by decide) (by decide +kernel) (by decide)) (by decide) ?_
    refine r_iload_n c131_89 rfl ?_
    refine r_iload c131_90 rfl ?_
    refine r_iadd c131_92 ?_
    refine r_iload_n c131_93 rfl ?_
    refine r_iload c131_94 rfl ?_
    refine r_iload c131_96 rfl ?_
    obtain ⟨c9, h⟩ := h
    obtain ⟨s10, h⟩ := h
    obtain ⟨L11, h⟩ := h
    obtain ⟨la12, h⟩ := h
    obtain ⟨n13, h⟩ := h
    obtain ⟨p14, h⟩ := h
    refine r_call c131_98 rfl rfl (Nat.le_of_ble_eq_true rfl) (okc_r rfl rfl (oK hK o147)) (g80z hK hX k8 o40 p14 (fun M17 x15 p16 => Bk_n ?_))
    replace h := h M17 x15 p16
    refine r_aload_n c131_101 rfl ?_
    refine r_getR c131_102 (oK hK o32) (FX.get (b := 147) x15 (by decide) (by decide +kernel) (by decide)) (by decide) ?_
    refine r_getR c131_105 (oK hK o147) (FX.get (b := 148) x15 (by decide) (by decide +kernel) (by decide)) (by decide) ?_
    refine r_aload_n c131_108 rfl ?_
    obtain ⟨b18, h⟩ := h
    obtain ⟨e19, h⟩ := h
    obtain ⟨k20, h⟩ := h
    refine r_getR c131_109 (oK hK o32) e19 (by have := (isO_d k20).1; omega) ?_
    obtain ⟨c21, h⟩ := h
    obtain ⟨s22, h⟩ := h
    obtain ⟨p23, h⟩ := h
    refine r_call c131_112 rfl rfl (Nat.le_of_ble_eq_true rfl) (okc_r rfl rfl (oK hK o148)) (g43 hK x15 o148 k20 p23 (Bk_v ?_))
    refine r_istore c131_115 (Nat.le_of_ble_eq_true rfl) ?_
    refine r_iload c131_117 rfl ?_
    refine r_iconst c131_119 ?_
    refine r_icmpP (P := ¬ l8 = (-1 : Int)) c131_120 rfl (fun hc24 => ?_) (fun hc24 => ?_)
    · replace h := h.1 hc24
      refine r_iload c131_128 rfl ?_
      refine r_iload c131_130 rfl ?_
      refine r_min c131_132 (Nat.le_of_ble_eq_true rfl) ?_
      refine r_istore c131_135 (Nat.le_of_ble_eq_true rfl) ?_
      refine r_iload c131_137 rfl ?_
      refine r_iload c131_139 rfl ?_
      refine r_max c131_141 (Nat.le_of_ble_eq_true rfl) ?_
      refine r_istore c131_144 (Nat.le_of_ble_eq_true rfl) ?_
      refine r_iload c131_146 rfl ?_
      refine r_aload_n c131_148 rfl ?_
      refine r_getR c131_149 (oK hK o32) (FX.get (b := 147) x15 (by decide) (by decide +kernel) (by decide)) (by decide) ?_
      refine r_getR c131_152 (oK hK o147) (FX.get (b := 148) x15 (by decide) (by decide +kernel) (by decide)) (by decide) ?_
      refine r_getR c131_155 (oK hK o148) (FX.get (b := 149) x15 (by decide) (by decide +kernel) (by decide)) (by decide) ?_
      refine r_iload c131_158 rfl ?_
      obtain ⟨s26, h⟩ := h
      refine r_iae c131_160 (oK hK o149) (bd l149 s26) rfl ?_
      refine r_ifP (P := ¬ (M17 149 (Int.toNat l7)) = (0 : Int)) c131_161 rfl (fun hc27 => ?_) (fun hc27 => ?_)
      · replace h := h.1 hc27
        refine r_iconst c131_168 ?_
        refine r_iadd c131_169 ?_
        refine r_istore c131_170 (Nat.le_of_ble_eq_true rfl) ?_
        refine r_iinc c131_172 rfl ?_
        refine r_goto c131_175 ?_
        exact h
      · have hc28 := Classical.not_not.mp hc27
        replace h := h.2 hc28
        refine r_iconst c131_164 ?_
        refine r_goto c131_165 ?_
        refine r_iadd c131_169 ?_
        refine r_istore c131_170 (Nat.le_of_ble_eq_true rfl) ?_
        refine r_iinc c131_172 rfl ?_
        refine r_goto c131_175 ?_
        exact h
    · have hc25 := Classical.not_not.mp hc24
      replace h := h.2 hc25
      refine r_iload c131_123 rfl ?_
      refine r_goto c131_125 ?_
      refine r_istore c131_135 (Nat.le_of_ble_eq_true rfl) ?_
      refine r_iload c131_137 rfl ?_
      refine r_iload c131_139 rfl ?_
      refine r_max c131_141 (Nat.le_of_ble_eq_true rfl) ?_
      refine r_istore c131_144 (Nat.le_of_ble_eq_true rfl) ?_
      refine r_iload c131_146 rfl ?_
      refine r_aload_n c131_148 rfl ?_
      refine r_getR c131_149 (oK hK o32) (FX.get (b := 147) x15 (by decide) (by decide +kernel) (by decide)) (by decide) ?_
      refine r_getR c131_152 (oK hK o147) (FX.get (b := 148) x15 (by decide) (by decide +kernel) (by decide)) (by decide) ?_
      refine r_getR c131_155 (oK hK o148) (FX.get (b := 149) x15 (by decide) (by decide +kernel) (by decide)) (by decide) ?_
      refine r_iload c131_158 rfl ?_
      obtain ⟨s29, h⟩ := h
      refine r_iae c131_160 (oK hK o149) (bd l149 s29) rfl ?_
      refine r_ifP (P := ¬ (M17 149 (Int.toNat l7)) = (0 : Int)) c131_161 rfl (fun hc30 => ?_) (fun hc30 => ?_)
      · replace h := h.1 hc30
        refine r_iconst c131_168 ?_
        refine r_iadd c131_169 ?_
        refine r_istore c131_170 (Nat.le_of_ble_eq_true rfl) ?_
        refine r_iinc c131_172 rfl ?_
        refine r_goto c131_175 ?_
        exact h
      · have hc31 := Classical.not_not.mp hc30
        replace h := h.2 hc31
        refine r_iconst c131_164 ?_
        refine r_goto c131_165 ?_
        refine r_iadd c131_169 ?_
        refine r_istore c131_170 (Nat.le_of_ble_eq_true rfl) ?_
        refine r_iinc c131_172 rfl ?_
        refine r_goto c131_175 ?_
        exact h
theorem u251_0 {d : Nat} {l1 : Int} {l2 : Int} {l3 : Int} {l4 : Int} {l5 : Int} {M : Mem} {K : KK} {Q : RR → Mem → KK → Prop} (hK : K.1 = 923) (hX : FX M)  (h : (¬ ((1 ≤ l2 ∧ l2 ≤ 96) ∧ (0 ≤ l3 ∧ l3 ≤ 16) ∧ (0 ≤ l4 ∧ l4 ≤ 16)) → (∀ (M6 : Mem), FX M6 → BadM 1 1 (mset M 440 0 (0 : Int)) M6 → Q (.inl (some (vI (0 : Int)))) M6 K)) ∧ (((1 ≤ l2 ∧ l2 ≤ 96) ∧ (0 ≤ l3 ∧ l3 ≤ 16) ∧ (0 ≤ l4 ∧ l4 ≤ 16)) → (((0 : Int) ≤ l5 ∧ l5 ≤ (3 : Int)) → ∃ c8 : Mem, ∃ s9 : Mem, ∃ L10 : LC, ∃ n11 : Nat, (l2 = (n11 : Int) ∧ SM (mset M 440 0 (0 : Int)) 888 c8 s9 (-1) ∧ LM (mset M 440 0 (0 : Int)) L10 ∧ s9 4 0 + (n11 : Int) ≤ 2000) ∧ (∀ (M15 : Mem), FX M15 → (FrS9 (mset M 440 0 (0 : Int)) M15 ∧ (∃ dr, SM M15 889 c8 (sumI c8 L10 l3 l4 s9 l1 n11).1 dr) ∧ M15 440 48 = ((sumI c8 L10 l3 l4 s9 l1 n11).2.2.1 : Int) ∧ M15 440 49 = ((sumI c8 L10 l3 l4 s9 l1 n11).2.2.2 : Int)) → (l5 = (0 : Int) → ∃ c16 : Mem, ∃ s17 : Mem, ∃ dr18 : Int, SM M15 889 c16 s17 dr18 ∧ Q (.inl (some (vI (greyS c16 s17)))) M15 K) ∧ (l5 = (1 : Int) → ∃ c20 : Mem, ∃ s21 : Mem, ∃ dr22 : Int, SM M15 889 c20 s21 dr22 ∧ Q (.inl (some (vI (whiteS c20 s21 : Int)))) M15 K) ∧ (l5 = (2 : Int) → Q (.inl (some (vI (M15 440 48)))) M15 K) ∧ (l5 < (0 : Int) ∨ (2 : Int) < l5 → Q (.inl (some (vI (M15 440 49)))) M15 K))) ∧ (¬ ((0 : Int) ≤ l5 ∧ l5 ≤ (3 : Int)) → (∀ (M26 : Mem), FX M26 → BadM 1 1 (mset M 440 0 (0 : Int)) M26 → Q (.inl (some (vI (0 : Int)))) M26 K)))) : Wp (d + 7) 251 0 [vR 440, vI l1, vI l2, vI l3, vI l4, vI l5] [] M K Q := by
  refine r_aload_n c251_0 rfl ?_
  refine r_iconst c251_1 ?_
  refine r_putI c251_2 (oK hK o440) ?_
  have x1 := FX.set (v := (0 : Int)) (a := 440) (k := 0) hX (by decide +kernel)
  refine r_aload_n c251_5 rfl ?_
  refine r_iload_n c251_6 rfl ?_
  refine r_iload_n c251_7 rfl ?_
  refine r_iload c251_8 rfl ?_
  refine r_call c251_10 rfl rfl (Nat.le_of_ble_eq_true rfl) (okc_s rfl rfl rfl) (g250 hK x1  (Bk_v ?_))
  refine r_ifP (P := ¬ ((1 ≤ l2 ∧ l2 ≤ 96) ∧ (0 ≤ l3 ∧ l3 ≤ 16) ∧ (0 ≤ l4 ∧ l4 ≤ 16))) c251_13 bI_eq (fun hc2 => ?_) (fun hc2 => ?_)
  · replace h := h.1 hc2
    refine r_iconst c251_26 ?_
    refine r_goto c251_27 ?_
    refine r_iconst c251_31 ?_
    refine r_iconst c251_32 ?_
    refine r_call c251_33 rfl rfl (Nat.le_of_ble_eq_true rfl) (okc_r rfl rfl (oK hK o440)) (b152_1 (cd := 1) (ix := 1) hK x1 ms_eq (by decide) (by decide) (fun M6 x4 p5 => Bk_v ?_))
    replace h := h M6 x4 p5
    refine r_ifP (P := (1 : Int) = (0 : Int)) c251_36 rfl (fun hc => absurd hc (by decide)) (fun hc => ?_)
    refine r_iconst c251_39 ?_
    exact r_iret c251_40 (Or.inl rfl) h
  · have hc3 := Classical.not_not.mp hc2
    replace h := h.2 hc3
    refine r_iload c251_16 rfl ?_
    refine r_iconst c251_18 ?_
    refine r_iconst c251_19 ?_
    refine r_call c251_20 rfl rfl (Nat.le_of_ble_eq_true rfl) (okc_s rfl rfl rfl) (g153 hK x1  (Bk_v ?_))
    refine r_ifP (P := ((0 : Int) ≤ l5 ∧ l5 ≤ (3 : Int))) c251_23 bI_ne (fun hc7 => ?_) (fun hc7 => ?_)
    · replace h := h.1 hc7
      refine r_iconst c251_30 ?_
      refine r_iconst c251_31 ?_
      refine r_iconst c251_32 ?_
      refine r_call c251_33 rfl rfl (Nat.le_of_ble_eq_true rfl) (okc_r rfl rfl (oK hK o440)) (b152_0 hK x1 ms_eq (Bk_v ?_))
      refine r_ifP (P := (0 : Int) = (0 : Int)) c251_36 rfl (fun hc => ?_) (fun hc => absurd (by decide) hc)
      refine r_aload_n c251_41 rfl ?_
      refine r_iload_n c251_42 rfl ?_
      refine r_iload_n c251_43 rfl ?_
      refine r_iload_n c251_44 rfl ?_
      refine r_iload c251_45 rfl ?_
      obtain ⟨c8, h⟩ := h
      obtain ⟨s9, h⟩ := h
      obtain ⟨L10, h⟩ := h
      obtain ⟨n11, h⟩ := h
      obtain ⟨p12, h⟩ := h
      refine r_call c251_47 rfl rfl (Nat.le_of_ble_eq_true rfl) (okc_r rfl rfl (oK hK o440)) (g249z hK x1 p12 (fun M15 x13 p14 => Bk_n ?_))
      replace h := h M15 x13 p14
      refine r_iload c251_50 rfl ?_
      refine r_tsw c251_52 ?_
      by_cases hv0 : l5 = (0 : Int)
      · rw [show tsw 52 51 0 2 #[28, 37, 46] l5 = 80 from by rw [hv0]; decide]
        replace h := h.1 hv0
        refine r_aload_n c251_80 rfl ?_
        refine r_aload_n c251_81 rfl ?_
        refine r_getR c251_82 (oK hK o440) (FX.get (b := 889) x13 (by decide) (by decide +kernel) (by decide)) (by decide) ?_
        obtain ⟨c16, h⟩ := h
        obtain ⟨s17, h⟩ := h
        obtain ⟨dr18, h⟩ := h
        obtain ⟨p19, h⟩ := h
        refine r_call c251_85 rfl rfl (Nat.le_of_ble_eq_true rfl) (okc_r rfl rfl (oK hK o440)) (g204 hK x13 o889 l889 p19 (Bk_v ?_))
        exact r_iret c251_88 (Or.inl rfl) h
      by_cases hv1 : l5 = (1 : Int)
      · rw [show tsw 52 51 0 2 #[28, 37, 46] l5 = 89 from by rw [hv1]; decide]
        replace h := h.2.1 hv1
        refine r_aload_n c251_89 rfl ?_
        refine r_aload_n c251_90 rfl ?_
        refine r_getR c251_91 (oK hK o440) (FX.get (b := 889) x13 (by decide) (by decide +kernel) (by decide)) (by decide) ?_
        obtain ⟨c20, h⟩ := h
        obtain ⟨s21, h⟩ := h
        obtain ⟨dr22, h⟩ := h
        obtain ⟨p23, h⟩ := h
        refine r_call c251_94 rfl rfl (Nat.le_of_ble_eq_true rfl) (okc_r rfl rfl (oK hK o440)) (g205 hK x13 o889 l889 p23 (Bk_v ?_))
        exact r_iret c251_97 (Or.inl rfl) h
      by_cases hv2 : l5 = (2 : Int)
      · rw [show tsw 52 51 0 2 #[28, 37, 46] l5 = 98 from by rw [hv2]; decide]
        replace h := h.2.2.1 hv2
        refine r_aload_n c251_98 rfl ?_
        refine r_getIe c251_99 (oK hK o440) rfl ?_
        exact r_iret c251_102 (Or.inl rfl) h
      have hvd : l5 < (0 : Int) ∨ (2 : Int) < l5 := by omega
      rw [show tsw 52 51 0 2 #[28, 37, 46] l5 = 103 from by unfold tsw; rw [if_pos hvd]; decide]
      replace h := h.2.2.2 hvd
      refine r_aload_n c251_103 rfl ?_
      refine r_getIe c251_104 (oK hK o440) rfl ?_
      exact r_iret c251_107 (Or.inl rfl) h
    · replace h := h.2 hc7
      refine r_iconst c251_26 ?_
      refine r_goto c251_27 ?_
      refine r_iconst c251_31 ?_
      refine r_iconst c251_32 ?_
      refine r_call c251_33 rfl rfl (Nat.le_of_ble_eq_true rfl) (okc_r rfl rfl (oK hK o440)) (b152_1 (cd := 1) (ix := 1) hK x1 ms_eq (by decide) (by decide) (fun M26 x24 p25 => Bk_v ?_))
      replace h := h M26 x24 p25
      refine r_ifP (P := (1 : Int) = (0 : Int)) c251_36 rfl (fun hc => absurd hc (by decide)) (fun hc => ?_)
      refine r_iconst c251_39 ?_
      exact r_iret c251_40 (Or.inl rfl) h
theorem u252_0 {d : Nat} {l1 : Int} {l2 : Int} {l3 : Int} {l4 : Int} {l5 : Int} {l6 : Int} {l7 : Int} {M : Mem} {K : KK} {Q : RR → Mem → KK → Prop} (hK : K.1 = 923) (hX : FX M)  (h : (¬ ((1 : Int) ≤ l2 ∧ l2 ≤ (20 : Int)) → (∀ (M6 : Mem), FX M6 → BadM 1 1 (mset M 440 0 (0 : Int)) M6 → Q (.inl (some (vI (0 : Int)))) M6 K)) ∧ (((1 : Int) ≤ l2 ∧ l2 ≤ (20 : Int)) → (¬ ((1 ≤ l3 ∧ l3 ≤ 96) ∧ (0 ≤ l4 ∧ l4 ≤ 16) ∧ (0 ≤ l5 ∧ l5 ≤ 16)) → (∀ (M11 : Mem), FX M11 → BadM 1 1 (mset M 440 0 (0 : Int)) M11 → Q (.inl (some (vI (0 : Int)))) M11 K)) ∧ (((1 ≤ l3 ∧ l3 ≤ 96) ∧ (0 ≤ l4 ∧ l4 ≤ 16) ∧ (0 ≤ l5 ∧ l5 ≤ 16)) → (¬ ((0 : Int) ≤ l6 ∧ l6 ≤ (2 : Int)) → (∀ (M16 : Mem), FX M16 → BadM 1 1 (mset M 440 0 (0 : Int)) M16 → Q (.inl (some (vI (0 : Int)))) M16 K)) ∧ (((0 : Int) ≤ l6 ∧ l6 ≤ (2 : Int)) → ∃ n17 : Nat, StM (mset M 440 0 (0 : Int)) n17 ∧ ((0 ≤ l7 ∧ l7 < (n17 : Int)) → Wp (d + 7) 252 73 [vR 440, vI l1, vI l2, vI l3, vI l4, vI l5, vI l6, vI l7, vI (-1 : Int), vI (0 : Int), vI (0 : Int), vI (0 : Int), vU] [] (mset M 440 0 (0 : Int)) K Q) ∧ (¬ (0 ≤ l7 ∧ l7 < (n17 : Int)) → (∀ (M22 : Mem), FX M22 → BadM 1 1 (mset M 440 0 (0 : Int)) M22 → Q (.inl (some (vI (0 : Int)))) M22 K)))))) : Wp (d + 7) 252 0 [vR 440, vI l1, vI l2, vI l3, vI l4, vI l5, vI l6, vI l7, vU, vU, vU, vU, vU] [] M K Q := by
  refine r_aload_n c252_0 rfl ?_
  refine r_iconst c252_1 ?_
  refine r_putI c252_2 (oK hK o440) ?_
  have x1 := FX.set (v := (0 : Int)) (a := 440) (k := 0) hX (by decide +kernel)
  refine r_aload_n c252_5 rfl ?_
  refine r_iload_n c252_6 rfl ?_
  refine r_iconst c252_7 ?_
  refine r_bipush c252_8 ?_
  refine r_call c252_10 rfl rfl (Nat.le_of_ble_eq_true rfl) (okc_s rfl rfl rfl) (g153 hK x1  (Bk_v ?_))
  refine r_ifP (P := ¬ ((1 : Int) ≤ l2 ∧ l2 ≤ (20 : Int))) c252_13 bI_eq (fun hc2 => ?_) (fun hc2 => ?_)
  · replace h := h.1 hc2
    refine r_iconst c252_46 ?_
    refine r_goto c252_47 ?_
    refine r_iconst c252_51 ?_
    refine r_iconst c252_52 ?_
    refine r_call c252_53 rfl rfl (Nat.le_of_ble_eq_true rfl) (okc_r rfl rfl (oK hK o440)) (b152_1 (cd := 1) (ix := 1) hK x1 ms_eq (by decide) (by decide) (fun M6 x4 p5 => Bk_v ?_))
    replace h := h M6 x4 p5
    refine r_ifP (P := (1 : Int) = (0 : Int)) c252_56 rfl (fun hc => absurd hc (by decide)) (fun hc => ?_)
    refine r_iconst c252_59 ?_
    exact r_iret c252_60 (Or.inl rfl) h
  · have hc3 := Classical.not_not.mp hc2
    replace h := h.2 hc3
    refine r_iload_n c252_16 rfl ?_
    refine r_iload c252_17 rfl ?_
    refine r_iload c252_19 rfl ?_
    refine r_call c252_21 rfl rfl (Nat.le_of_ble_eq_true rfl) (okc_s rfl rfl rfl) (g250 hK x1  (Bk_v ?_))
    refine r_ifP (P := ¬ ((1 ≤ l3 ∧ l3 ≤ 96) ∧ (0 ≤ l4 ∧ l4 ≤ 16) ∧ (0 ≤ l5 ∧ l5 ≤ 16))) c252_24 bI_eq (fun hc7 => ?_) (fun hc7 => ?_)
    · replace h := h.1 hc7
      refine r_iconst c252_46 ?_
      refine r_goto c252_47 ?_
      refine r_iconst c252_51 ?_
      refine r_iconst c252_52 ?_
      refine r_call c252_53 rfl rfl (Nat.le_of_ble_eq_true rfl) (okc_r rfl rfl (oK hK o440)) (b152_1 (cd := 1) (ix := 1) hK x1 ms_eq (by decide) (by decide) (fun M11 x9 p10 => Bk_v ?_))
      replace h := h M11 x9 p10
      refine r_ifP (P := (1 : Int) = (0 : Int)) c252_56 rfl (fun hc => absurd hc (by decide)) (fun hc => ?_)
      refine r_iconst c252_59 ?_
      exact r_iret c252_60 (Or.inl rfl) h
    · have hc8 := Classical.not_not.mp hc7
      replace h := h.2 hc8
      refine r_iload c252_27 rfl ?_
      refine r_iconst c252_29 ?_
      refine r_iconst c252_30 ?_
      refine r_call c252_31 rfl rfl (Nat.le_of_ble_eq_true rfl) (okc_s rfl rfl rfl) (g153 hK x1  (Bk_v ?_))
      refine r_ifP (P := ¬ ((0 : Int) ≤ l6 ∧ l6 ≤ (2 : Int))) c252_34 bI_eq (fun hc12 => ?_) (fun hc12 => ?_)
      · replace h := h.1 hc12
        refine r_iconst c252_46 ?_
        refine r_goto c252_47 ?_
        refine r_iconst c252_51 ?_
        refine r_iconst c252_52 ?_
        refine r_call c252_53 rfl rfl (Nat.le_of_ble_eq_true rfl) (okc_r rfl rfl (oK hK o440)) (b152_1 (cd := 1) (ix := 1) hK x1 ms_eq (by decide) (by decide) (fun M16 x14 p15 => Bk_v ?_))
        replace h := h M16 x14 p15
        refine r_ifP (P := (1 : Int) = (0 : Int)) c252_56 rfl (fun hc => absurd hc (by decide)) (fun hc => ?_)
        refine r_iconst c252_59 ?_
        exact r_iret c252_60 (Or.inl rfl) h
      · have hc13 := Classical.not_not.mp hc12
        replace h := h.2 hc13
        refine r_aload_n c252_37 rfl ?_
        refine r_iload c252_38 rfl ?_
        obtain ⟨n17, h⟩ := h
        obtain ⟨p18, h⟩ := h
        refine r_call c252_40 rfl rfl (Nat.le_of_ble_eq_true rfl) (okc_r rfl rfl (oK hK o440)) (g208 hK x1 p18 (Bk_v ?_))
        refine r_ifP (P := (0 ≤ l7 ∧ l7 < (n17 : Int))) c252_43 bI_ne (fun hc19 => ?_) (fun hc19 => ?_)
        · replace h := h.1 hc19
          refine r_iconst c252_50 ?_
          refine r_iconst c252_51 ?_
          refine r_iconst c252_52 ?_
          refine r_call c252_53 rfl rfl (Nat.le_of_ble_eq_true rfl) (okc_r rfl rfl (oK hK o440)) (b152_0 hK x1 ms_eq (Bk_v ?_))
          refine r_ifP (P := (0 : Int) = (0 : Int)) c252_56 rfl (fun hc => ?_) (fun hc => absurd (by decide) hc)
          refine r_iconst c252_61 ?_
          refine r_istore c252_62 (Nat.le_of_ble_eq_true rfl) ?_
          refine r_iconst c252_64 ?_
          refine r_istore c252_65 (Nat.le_of_ble_eq_true rfl) ?_
          refine r_iconst c252_67 ?_
          refine r_istore c252_68 (Nat.le_of_ble_eq_true rfl) ?_
          refine r_iconst c252_70 ?_
          refine r_istore c252_71 (Nat.le_of_ble_eq_true rfl) ?_
          exact h
        · replace h := h.2 hc19
          refine r_iconst c252_46 ?_
          refine r_goto c252_47 ?_
          refine r_iconst c252_51 ?_
          refine r_iconst c252_52 ?_
          refine r_call c252_53 rfl rfl (Nat.le_of_ble_eq_true rfl) (okc_r rfl rfl (oK hK o440)) (b152_1 (cd := 1) (ix := 1) hK x1 ms_eq (by decide) (by decide) (fun M22 x20 p21 => Bk_v ?_))
          replace h := h M22 x20 p21
          refine r_ifP (P := (1 : Int) = (0 : Int)) c252_56 rfl (fun hc => absurd hc (by decide)) (fun hc => ?_)
          refine r_iconst c252_59 ?_
          exact r_iret c252_60 (Or.inl rfl) h
theorem u252_73 {d : Nat} {l1 : Int} {l2 : Int} {l3 : Int} {l4 : Int} {l5 : Int} {l6 : Int} {l7 : Int} {l8 : Int} {l9 : Int} {l10 : Int} {l11 : Int} {l12 : PV} {M : Mem} {K : KK} {Q : RR → Mem → KK → Prop} (hK : K.1 = 923) (hX : FX M)  (h : (l2 ≤ l11 → (¬ l6 = (0 : Int) → (¬ l6 = (1 : Int) → Q (.inl (some (vI l10))) M K) ∧ (l6 = (1 : Int) → Q (.inl (some (vI l9))) M K)) ∧ (l6 = (0 : Int) → Q (.inl (some (vI l8))) M K)) ∧ (¬ (l2 ≤ l11) → ∃ c6 : Mem, ∃ s7 : Mem, ∃ L8 : LC, ∃ n9 : Nat, (l3 = (n9 : Int) ∧ SM M 888 c6 s7 (-1) ∧ LM M L8 ∧ s7 4 0 + (n9 : Int) ≤ 2000) ∧ (∀ (M13 : Mem), FX M13 → (FrS9 M M13 ∧ (∃ dr, SM M13 889 c6 (sumI c6 L8 l4 l5 s7 (w32 (l1 + l11)) n9).1 dr) ∧ M13 440 48 = ((sumI c6 L8 l4 l5 s7 (w32 (l1 + l11)) n9).2.2.1 : Int) ∧ M13 440 49 = ((sumI c6 L8 l4 l5 s7 (w32 (l1 + l11)) n9).2.2.2 : Int)) → ∃ c14 : Mem, ∃ s15 : Mem, ∃ dr16 : Int, SM M13 889 c14 s15 dr16 ∧ (¬ l8 = (-1 : Int) → (0 ≤ (w32 ((6 : Int) + l7)) ∧ (w32 ((6 : Int) + l7)) < (27 : Int)) ∧ (¬ (M13 889 (Int.toNat (w32 ((6 : Int) + l7)))) = (0 : Int) → Wp (d + 7) 252 73 [vR 440, vI l1, vI l2, vI l3, vI l4, vI l5, vI l6, vI l7, vI (min l8 (greyS c14 s15)), vI (max l9 (greyS c14 s15)), vI (w32 (l10 + (0 : Int))), vI (w32 (l11 + 1)), vI (greyS c14 s15)] [] M13 K Q) ∧ ((M13 889 (Int.toNat (w32 ((6 : Int) + l7)))) = (0 : Int) → Wp (d + 7) 252 73 [vR 440, vI l1, vI l2, vI l3, vI l4, vI l5, vI l6, vI l7, vI (min l8 (greyS c14 s15)), vI (max l9 (greyS c14 s15)), vI (w32 (l10 + (1 : Int))), vI (w32 (l11 + 1)), vI (greyS c14 s15)] [] M13 K Q)) ∧ (l8 = (-1 : Int) → (0 ≤ (w32 ((6 : Int) + l7)) ∧ (w32 ((6 : Int) + l7)) < (27 : Int)) ∧ (¬ (M13 889 (Int.toNat (w32 ((6 : Int) + l7)))) = (0 : Int) → Wp (d + 7) 252 73 [vR 440, vI l1, vI l2, vI l3, vI l4, vI l5, vI l6, vI l7, vI (greyS c14 s15), vI (max l9 (greyS c14 s15)), vI (w32 (l10 + (0 : Int))), vI (w32 (l11 + 1)), vI (greyS c14 s15)] [] M13 K Q) ∧ ((M13 889 (Int.toNat (w32 ((6 : Int) + l7)))) = (0 : Int) → Wp (d + 7) 252 73 [vR 440, vI l1, vI l2, vI l3, vI l4, vI l5, vI l6, vI l7, vI (greyS c14 s15), vI (max l9 (greyS c14 s15)), vI (w32 (l10 + (1 : Int))), vI (w32 (l11 + 1)), vI (greyS c14 s15)] [] M13 K Q))))) : Wp (d + 7) 252 73 [vR 440, vI l1, vI l2, vI l3, vI l4, vI l5, vI l6, vI l7, vI l8, vI l9, vI l10, vI l11, l12] [] M K Q := by
  refine r_iload c252_73 rfl ?_
  refine r_iload_n c252_75 rfl ?_
  refine r_icmpP (P := l2 ≤ l11) c252_76 rfl (fun hc1 => ?_) (fun hc1 => ?_)
  · replace h := h.1 hc1
    refine r_iload c252_160 rfl ?_
    refine r_ifP (P := ¬ l6 = (0 : Int)) c252_162 rfl (fun hc2 => ?_) (fun hc2 => ?_)
    · replace h := h.1 hc2
      refine r_iload c252_170 rfl ?_
      refine r_iconst c252_172 ?_
      refine r_icmpP (P := ¬ l6 = (1 : Int)) c252_173 rfl (fun hc4 => ?_) (fun hc4 => ?_)
      · replace h := h.1 hc4
        refine r_iload c252_181 rfl ?_
        exact r_iret c252_183 (Or.inl rfl) h
      · have hc5 := Classical.not_not.mp hc4
        replace h := h.2 hc5
        refine r_iload c252_176 rfl ?_
        refine r_goto c252_178 ?_
        exact r_iret c252_183 (Or.inl rfl) h
    · have hc3 := Classical.not_not.mp hc2
      replace h := h.2 hc3
      refine r_iload c252_165 rfl ?_
      refine r_goto c252_167 ?_
      exact r_iret c252_183 (Or.inl rfl) h
  · replace h := h.2 hc1
    refine r_aload_n c252_79 rfl ?_
    refine r_iload_n c252_80 rfl ?_
    refine r_iload c252_81 rfl ?_
    refine r_iadd c252_83 ?_
    refine r_iload_n c252_84 rfl ?_
    refine r_iload c252_85 rfl ?_
    refine r_iload c252_87 rfl ?_
    obtain ⟨c6, h⟩ := h
    obtain ⟨s7, h⟩ := h
    obtain ⟨L8, h⟩ := h
    obtain ⟨n9, h⟩ := h
    obtain ⟨p10, h⟩ := h
    refine r_call c252_89 rfl rfl (Nat.le_of_ble_eq_true rfl) (okc_r rfl rfl (oK hK o440)) (g249z hK hX p10 (fun M13 x11 p12 => Bk_n ?_))
    replace h := h M13 x11 p12
    refine r_aload_n c252_92 rfl ?_
    refine r_aload_n c252_93 rfl ?_
    refine r_getR c252_94 (oK hK o440) (FX.get (b := 889) x11 (by decide) (by decide +kernel) (by decide)) (by decide) ?_
    obtain ⟨c14, h⟩ := h
    obtain ⟨s15, h⟩ := h
    obtain ⟨dr16, h⟩ := h
    obtain ⟨p17, h⟩ := h
    refine r_call c252_97 rfl rfl (Nat.le_of_ble_eq_true rfl) (okc_r rfl rfl (oK hK o440)) (g204 hK x11 o889 l889 p17 (Bk_v ?_))
    refine r_istore c252_100 (Nat.le_of_ble_eq_true rfl) ?_
    refine r_iload c252_102 rfl ?_
    refine r_iconst c252_104 ?_
    refine r_icmpP (P := ¬ l8 = (-1 : Int)) c252_105 rfl (fun hc18 => ?_) (fun hc18 => ?_)
    · replace h := h.1 hc18
      refine r_iload c252_113 rfl ?_
      refine r_iload c252_115 rfl ?_
      refine r_call c252_117 rfl rfl (Nat.le_of_ble_eq_true rfl) (okc_s rfl rfl rfl) (g154 hK x11  (Bk_v ?_))
      refine r_istore c252_120 (Nat.le_of_ble_eq_true rfl) ?_
      refine r_iload c252_122 rfl ?_
      refine r_iload c252_124 rfl ?_
      refine r_call c252_126 rfl rfl (Nat.le_of_ble_eq_true rfl) (okc_s rfl rfl rfl) (g155 hK x11  (Bk_v ?_))
      refine r_istore c252_129 (Nat.le_of_ble_eq_true rfl) ?_
      refine r_iload c252_131 rfl ?_
      refine r_aload_n c252_133 rfl ?_
      refine r_getR c252_134 (oK hK o440) (FX.get (b := 889) x11 (by decide) (by decide +kernel) (by decide)) (by decide) ?_
      refine r_bipush c252_137 ?_
      refine r_iload c252_139 rfl ?_
      refine r_iadd c252_141 ?_
      obtain ⟨s20, h⟩ := h
      refine r_iae c252_142 (oK hK o889) (bd l889 s20) rfl ?_
      refine r_ifP (P := ¬ (M13 889 (Int.toNat (w32 ((6 : Int) + l7)))) = (0 : Int)) c252_143 rfl (fun hc21 => ?_) (fun hc21 => ?_)
      · replace h := h.1 hc21
        refine r_iconst c252_150 ?_
        refine r_iadd c252_151 ?_
        refine r_istore c252_152 (Nat.le_of_ble_eq_true rfl) ?_
        refine r_iinc c252_154 rfl ?_
        refine r_goto c252_157 ?_
        exact h
      · have hc22 := Classical.not_not.mp hc21
        replace h := h.2 hc22
        refine r_iconst c252_146 ?_
        refine r_goto c252_147 ?_
        refine r_iadd c252_151 ?_
        refine r_istore c252_152 (Nat.le_of_ble_eq_true rfl) ?_
        refine r_iinc c252_154 rfl ?_
        refine r_goto c252_157 ?_
        exact h
    · have hc19 := Classical.not_not.mp hc18
      replace h := h.2 hc19
      refine r_iload c252_108 rfl ?_
      refine r_goto c252_110 ?_
      refine r_istore c252_120 (Nat.le_of_ble_eq_true rfl) ?_
      refine r_iload c252_122 rfl ?_
      refine r_iload c252_124 rfl ?_
      refine r_call c252_126 rfl rfl (Nat.le_of_ble_eq_true rfl) (okc_s rfl rfl rfl) (g155 hK x11  (Bk_v ?_))
      refine r_istore c252_129 (Nat.le_of_ble_eq_true rfl) ?_
      refine r_iload c252_131 rfl ?_
      refine r_aload_n c252_133 rfl ?_
      refine r_getR c252_134 (oK hK o440) (FX.get (b := 889) x11 (by decide) (by decide +kernel) (by decide)) (by decide) ?_
      refine r_bipush c252_137 ?_
      refine r_iload c252_139 rfl ?_
      refine r_iadd c252_141 ?_
      obtain ⟨s23, h⟩ := h
      refine r_iae c252_142 (oK hK o889) (bd l889 s23) rfl ?_
      refine r_ifP (P := ¬ (M13 889 (Int.toNat (w32 ((6 : Int) + l7)))) = (0 : Int)) c252_143 rfl (fun hc24 => ?_) (fun hc24 => ?_)
      · replace h := h.1 hc24
        refine r_iconst c252_150 ?_
        refine r_iadd c252_151 ?_
        refine r_istore c252_152 (Nat.le_of_ble_eq_true rfl) ?_
        refine r_iinc c252_154 rfl ?_
        refine r_goto c252_157 ?_
        exact h
      · have hc25 := Classical.not_not.mp hc24
        replace h := h.2 hc25
        refine r_iconst c252_146 ?_
        refine r_goto c252_147 ?_
        refine r_iadd c252_151 ?_
        refine r_istore c252_152 (Nat.le_of_ble_eq_true rfl) ?_
        refine r_iinc c252_154 rfl ?_
        refine r_goto c252_157 ?_
        exact h
/-! the questions summer and span -/
abbrev smOK (a b e : Int) : Prop := (1 ≤ a ∧ a ≤ 96) ∧ (0 ≤ b ∧ b ≤ 16) ∧ (0 ≤ e ∧ e ≤ 16)
def smrS (c : Mem) (L : LC) (q m : Int) (s : Mem) (v : Int) (n : Nat) (w : Int) : Int := if w = 0 then greyS c (sumI c L q m s v n).1 else if w = 1 then (whiteS c (sumI c L q m s v n).1 : Int) else if w = 2 then ((sumI c L q m s v n).2.2.1 : Int) else ((sumI c L q m s v n).2.2.2 : Int)
/-- least, most, white, of the seeds below i -/
def snpF (c : Mem) (L : LC) (q m : Int) (s : Mem) (v : Int) (n p : Nat) : Nat → Int × Int × Nat
  | 0 => (-1, -1, 0)
  | i + 1 => (if (snpF c L q m s v n p i).1 = -1 then greyS c (sumI c L q m s (w32 (v + (i : Int))) n).1 else min (snpF c L q m s v n p i).1 (greyS c (sumI c L q m s (w32 (v + (i : Int))) n).1), max (snpF c L q m s v n p i).2.1 (greyS c (sumI c L q m s (w32 (v + (i : Int))) n).1), (snpF c L q m s v n p i).2.2 + (if (sumI c L q m s (w32 (v + (i : Int))) n).1 1 p = 0 then 1 else 0))
def spnS (z : Int × Int × Nat) (w : Int) : Int := if w = 0 then z.1 else if w = 1 then z.2.1 else (z.2.2 : Int)
section OP9
variable {d : Nat} {M M' : Mem} {K : KK} {Q : RR → Mem → KK → Prop} {c s : Mem} {L Y : LC} {v days q m w many str : Int}
theorem FrS8.qc (h : FrS8 M M') : FrQc M M' := ⟨fun b k p => h b k (fun e => p (Or.inl e)) (fun e => p (Or.inr (Or.inr (by omega)))) (fun e => p (Or.inr (Or.inr (by omega)))), fun h9 => h9.of (h _ _ (by unfold scL; omega) (by omega) (by omega)) (h _ _ (by unfold scL; omega) (by omega) (by omega))⟩
theorem FrS9.qm (h : FrS9 M M') : FrQm M M' := fun a k p => h a k (by unfold scM at p; omega) (by unfold scM at p; omega) (by unfold scM at p; omega) (by unfold scM at p; omega)
theorem greyS_rg {t : Mem} (ht : LW c t) (hN : nSt c ≤ 6) : 0 ≤ greyS c t ∧ greyS c t ≤ 594 := by
  have := sumF_bd (f := t 1) (b := 99) (by decide) (nSt c) (fun i hi => by have := ht.1 i hi; omega)
  unfold greyS; omega
theorem snpF_rg (hw : LW c s) (hd : s 4 0 ≤ 500) (hN : nSt c ≤ 6) {n p : Nat} (hn : n ≤ 96) : ∀ i, (i = 0 ∨ (0 ≤ (snpF c L q m s v n p i).2.1)) ∧ -1 ≤ (snpF c L q m s v n p i).2.1 ∧ (snpF c L q m s v n p i).2.2 ≤ i := by
  intro i
  induction i with
  | zero => exact ⟨Or.inl rfl, Int.le_refl _, Nat.le_refl _⟩
  | succ i ih =>
    have hg := greyS_rg (sumI_w (L := L) (q := q) (m := m) (v := w32 (v + (i : Int))) hw n (by omega)).1 hN
    simp only [snpF]
    refine ⟨Or.inr (by omega), by omega, ?_⟩
    split <;> omega
theorem c130 (hK : K.1 = 923) (hX : FX M) (h : GC M c L s) (hd : s 4 0 ≤ 500) (k : QC Q M K True (smOK days q m ∧ (0 ≤ w ∧ w ≤ 3)) (vI (smrS c L q m s v days.toNat w))) : Wm (d + 5) 130 [vR 32, vI v, vI days, vI q, vI m, vI w] M K Q := by
  obtain ⟨cm, l, a, b, e, f⟩ := h
  refine u130_0 hK hX ⟨fun h1 => k.2.1 trivial (fun h9 => h1 h9.1), fun h1 => ⟨fun h2 => k.2.1 trivial (fun h9 => h2 h9.2), fun h2 => ⟨cm, a, b, c, s, L, l, days.toNat, ⟨by omega, by omega, e, f, by omega⟩, fun M1 x1 ⟨f1, l1, w1', n1, n2⟩ => ?_⟩⟩⟩
  have k := k.2.2 trivial ⟨h1, h2⟩ M1 x1 f1.qc
  unfold smrS at k
  have m1 : M1 32 11 = (cm : Int) := (f1 _ _ (by unfold scL; omega) (by omega) (by omega)).trans a
  have e1 : SKc M1 cm 148 c (sumI c L q m s v days.toNat).1 := ⟨e.1.s8 b f1, e.2.1, l1, w1'⟩
  refine ⟨?_, ?_, ?_, ?_⟩
  · rintro rfl; exact ⟨cm, m1, b, c, _, e1, k⟩
  · rintro rfl; exact ⟨cm, m1, b, c, _, e1, k⟩
  · rintro rfl; rw [n1]; exact k
  · intro h9
    have : w = 3 := by omega
    subst this
    rw [n2]; exact k
theorem m251 (hK : K.1 = 923) (hX : FX M) (h : GM M c L s) (hd : s 4 0 ≤ 500) (k : QM Q M K True (smOK days q m ∧ (0 ≤ w ∧ w ≤ 3)) 1 (vI 0) (vI (smrS c L q m s v days.toNat w))) : Wm (d + 7) 251 [vR 440, vI v, vI days, vI q, vI m, vI w] M K Q := by
  have h' := h.q FrQm.t0
  refine u251_0 hK hX ⟨fun h1 => k.bad trivial (fun h9 => h1 h9.1), fun h1 => ⟨fun h2 => ⟨c, s, L, days.toNat, ⟨by omega, h'.1, h'.2, by omega⟩, fun M1 x1 ⟨f1, ⟨dr, e1⟩, n1, n2⟩ => ?_⟩, fun h2 => k.bad trivial (fun h9 => h2 h9.2)⟩⟩
  have k := k.2.2 trivial ⟨h1, h2⟩ M1 x1 (FrQm.t0.tr f1.qm) ((f1 _ _ (by decide) (by decide) (by decide) (by omega)).trans ms_eq)
  unfold smrS at k
  refine ⟨?_, ?_, ?_, ?_⟩
  · rintro rfl; exact ⟨c, _, dr, e1, k⟩
  · rintro rfl; exact ⟨c, _, dr, e1, k⟩
  · rintro rfl; rw [n1]; exact k
  · intro h9
    have : w = 3 := by omega
    subst this
    rw [n2]; exact k
abbrev spOK (c : Mem) (many days q m w str : Int) : Prop := (1 ≤ many ∧ many ≤ 20) ∧ smOK days q m ∧ (0 ≤ w ∧ w ≤ 2) ∧ (0 ≤ str ∧ str < (nSt c : Int))
theorem c131 (hK : K.1 = 923) (hX : FX M) (h : GC M c L s) (hd : s 4 0 ≤ 500) (k : QC Q M K True (spOK c many days q m w str) (vI (spnS (snpF c L q m s v days.toNat str.toNat many.toNat) w))) : Wm (d + 5) 131 [vR 32, vI v, vI many, vI days, vI q, vI m, vI w, vI str] M K Q := by
  obtain ⟨cm, l, a, b, e, f⟩ := h
  have hN := e.2.1.n.1
  have e6 := (e.1.g e.2.1).2.1
  refine u131_0 hK hX ⟨fun h1 => k.2.1 trivial (fun h9 => h1 h9.1), fun h1 => ⟨fun h2 => k.2.1 trivial (fun h9 => h2 h9.2.1), fun h2 => ⟨fun h3 => k.2.1 trivial (fun h9 => h3 h9.2.2.1), fun h3 => ⟨cm, a, b, ?_⟩⟩⟩⟩
  rw [e6, w32_id (by omega)]
  refine ⟨fun h4 => ?_, fun h4 => k.2.1 trivial (fun h9 => h4 (by have := h9.2.2.2; omega))⟩
  have kk := k.2.2 trivial ⟨h1, h2, h3, by omega⟩
  obtain ⟨N, rfl⟩ : ∃ N : Nat, many = (N : Int) := ⟨many.toNat, by omega⟩
  obtain ⟨n, rfl⟩ : ∃ n : Nat, days = (n : Int) := ⟨days.toNat, by omega⟩
  obtain ⟨p, rfl⟩ : ∃ p : Nat, str = (p : Int) := ⟨str.toNat, by omega⟩
  rw [Int.toNat_natCast, Int.toNat_natCast, Int.toNat_natCast] at kk
  unfold spnS at kk
  have loop : ∀ fu i, i + fu = N → ∀ (v9 : PV) M1, FX M1 → FrS8 M M1 → Wp (d + 5) 131 71 [vR 32, vI v, vI (N : Int), vI (n : Int), vI q, vI m, vI w, vI (p : Int), vI (snpF c L q m s v n p i).1, vI (snpF c L q m s v n p i).2.1, vI ((snpF c L q m s v n p i).2.2 : Int), vI (i : Int), v9] [] M1 K Q := by
    intro fu
    induction fu with
    | zero =>
      intro i hi v9 M1 x1 f1
      have hin : i = N := by omega
      subst hin
      have k := kk M1 x1 f1.qc
      refine u131_71 hK x1 ⟨fun _ => ⟨fun h9 => ⟨fun h8 => ?_, fun h8 => ?_⟩, fun h9 => ?_⟩, fun h8 => absurd (Int.le_refl _) h8⟩
      · rw [if_neg h9, if_neg h8] at k; exact k
      · rw [if_neg h9, if_pos h8] at k; exact k
      · rw [if_pos h9] at k; exact k
    | succ fu ih =>
      intro i hi v9 M1 x1 f1
      have m1 : M1 32 11 = (cm : Int) := (f1 _ _ (by unfold scL; omega) (by omega) (by omega)).trans a
      have e1 : SKc M1 cm 40 c s := ⟨e.1.s8 b f1, e.2.1, e.2.2.1.fr (fun b j h1 h2 => f1 b j (by unfold scL; omega) (by omega) (by omega)), e.2.2.2⟩
      have rg := snpF_rg (L := L) (q := q) (m := m) (v := v) (p := p) e.2.2.2 hd hN.2 (show n ≤ 96 by omega) i
      refine u131_71 hK x1 ⟨fun h8 => absurd h8 (by omega), fun _ => ⟨cm, m1, b, c, s, L, l, n, ⟨rfl, by omega, e1, f.s8 b f1, by omega⟩, fun M2 x2 ⟨f2, l2, w2, n1, n2⟩ => ?_⟩⟩
      have f12 : FrS8 M M2 := fun b k h1 h2 h3 => (f2 b k h1 h2 h3).trans (f1 b k h1 h2 h3)
      have m2 : M2 32 11 = (cm : Int) := (f12 _ _ (by unfold scL; omega) (by omega) (by omega)).trans a
      have e2 : SKc M2 cm 148 c (sumI c L q m s (w32 (v + (i : Int))) n).1 := ⟨e.1.s8 b f12, e.2.1, l2, w2⟩
      have eg : M2 149 p = (sumI c L q m s (w32 (v + (i : Int))) n).1 1 p := (l2.1 p (by omega)).2.1
      have nx := fun v9 => ih (i + 1) (by omega) v9 M2 x2 f12
      simp only [snpF] at nx
      refine ⟨cm, m2, b, c, _, e2, fun h9 => ⟨by omega, ?_⟩, fun h9 => ⟨by omega, ?_⟩⟩
      · rw [Int.toNat_natCast, eg, jmin_eq, jmax_eq, w1 (i := i) (by omega), w1 (by omega), w32_id (z := ((snpF c L q m s v n p i).2.2 : Int) + 0) (by omega)]
        refine ⟨fun h8 => ?_, fun h8 => ?_⟩
        · rw [if_neg h9, if_neg h8] at nx
          rw [Int.add_zero]; exact nx _
        · rw [if_neg h9, if_pos h8] at nx; exact nx _
      · rw [Int.toNat_natCast, eg, jmax_eq, w1 (i := i) (by omega), w1 (by omega), w32_id (z := ((snpF c L q m s v n p i).2.2 : Int) + 0) (by omega)]
        refine ⟨fun h8 => ?_, fun h8 => ?_⟩
        · rw [if_pos h9, if_neg h8] at nx
          rw [Int.add_zero]; exact nx _
        · rw [if_pos h9, if_pos h8] at nx; exact nx _
  exact loop N 0 (Nat.zero_add _) vU M hX (fun _ _ _ _ _ => rfl)
theorem m252 (hK : K.1 = 923) (hX : FX M) (h : GM M c L s) (hd : s 4 0 ≤ 500) (k : QM Q M K True (spOK c many days q m w str) 1 (vI 0) (vI (spnS (snpF c L q m s v days.toNat str.toNat many.toNat) w))) : Wm (d + 7) 252 [vR 440, vI v, vI many, vI days, vI q, vI m, vI w, vI str] M K Q := by
  have h' := h.q FrQm.t0
  have hst := h.stn
  have hN := hst.2
  refine u252_0 hK hX ⟨fun h1 => k.bad trivial (fun h9 => h1 h9.1), fun h1 => ⟨fun h2 => k.bad trivial (fun h9 => h2 h9.2.1), fun h2 => ⟨fun h3 => k.bad trivial (fun h9 => h3 h9.2.2.1), fun h3 => ⟨nSt c, hst.t0, fun h4 => ?_, fun h4 => k.bad trivial (fun h9 => h4 h9.2.2.2)⟩⟩⟩⟩
  have kk := k.2.2 trivial ⟨h1, h2, h3, h4⟩
  obtain ⟨N, rfl⟩ : ∃ N : Nat, many = (N : Int) := ⟨many.toNat, by omega⟩
  obtain ⟨n, rfl⟩ : ∃ n : Nat, days = (n : Int) := ⟨days.toNat, by omega⟩
  obtain ⟨p, rfl⟩ : ∃ p : Nat, str = (p : Int) := ⟨str.toNat, by omega⟩
  rw [Int.toNat_natCast, Int.toNat_natCast, Int.toNat_natCast] at kk
  unfold spnS at kk
  have hlw := h.1.2.2.2.1
  have loop : ∀ fu i, i + fu = N → ∀ (v9 : PV) M1, FX M1 → FrS9 (mset M 440 0 0) M1 → Wp (d + 7) 252 73 [vR 440, vI v, vI (N : Int), vI (n : Int), vI q, vI m, vI w, vI (p : Int), vI (snpF c L q m s v n p i).1, vI (max 0 (snpF c L q m s v n p i).2.1), vI ((snpF c L q m s v n p i).2.2 : Int), vI (i : Int), v9] [] M1 K Q := by
    intro fu
    induction fu with
    | zero =>
      intro i hi v9 M1 x1 f1
      have hin : i = N := by omega
      subst hin
      have rg := snpF_rg (L := L) (q := q) (m := m) (v := v) (p := p) hlw hd hN (show n ≤ 96 by omega) i
      have k := kk M1 x1 (FrQm.t0.tr f1.qm) ((f1 _ _ (by decide) (by decide) (by decide) (by omega)).trans ms_eq)
      have em : max 0 (snpF c L q m s v n p i).2.1 = (snpF c L q m s v n p i).2.1 := by omega
      rw [em]
      refine u252_73 hK x1 ⟨fun _ => ⟨fun h9 => ⟨fun h8 => ?_, fun h8 => ?_⟩, fun h9 => ?_⟩, fun h8 => absurd (Int.le_refl _) h8⟩
      · rw [if_neg h9, if_neg h8] at k; exact k
      · rw [if_neg h9, if_pos h8] at k; exact k
      · rw [if_pos h9] at k; exact k
    | succ fu ih =>
      intro i hi v9 M1 x1 f1
      have g1 := h'.q f1.qm
      have rg := snpF_rg (L := L) (q := q) (m := m) (v := v) (p := p) hlw hd hN (show n ≤ 96 by omega) i
      refine u252_73 hK x1 ⟨fun h8 => absurd h8 (by omega), fun _ => ⟨c, s, L, n, ⟨rfl, g1.1, g1.2, by omega⟩, fun M2 x2 ⟨f2, ⟨dr, e2⟩, n1, n2⟩ => ?_⟩⟩
      have f12 : FrS9 (mset M 440 0 0) M2 := fun b k h1 h2 h3 h4 => (f2 b k h1 h2 h3 h4).trans (f1 b k h1 h2 h3 h4)
      have hp6 : p < 6 := by omega
      have eg : M2 889 (6 + p) = (sumI c L q m s (w32 (v + (i : Int))) n).1 1 p := (e2.2.2.1.1 p (by omega)).2.1
      have hg := greyS_rg (sumI_w (L := L) (q := q) (m := m) (v := w32 (v + (i : Int))) hlw n (by omega)).1 hN
      have nx := fun v9 => ih (i + 1) (by omega) v9 M2 x2 f12
      simp only [snpF] at nx
      have em : max (max 0 (snpF c L q m s v n p i).2.1) (greyS c (sumI c L q m s (w32 (v + (i : Int))) n).1) = max 0 (max (snpF c L q m s v n p i).2.1 (greyS c (sumI c L q m s (w32 (v + (i : Int))) n).1)) := by omega
      refine ⟨c, _, dr, e2, fun h9 => ⟨bx6 hp6, ?_⟩, fun h9 => ⟨bx6 hp6, ?_⟩⟩
      · rw [ix6 hp6, eg, em, w1 (i := i) (by omega), w1 (by omega), w32_id (z := ((snpF c L q m s v n p i).2.2 : Int) + 0) (by omega)]
        refine ⟨fun h8 => ?_, fun h8 => ?_⟩
        · rw [if_neg h9, if_neg h8] at nx
          rw [Int.add_zero]; exact nx _
        · rw [if_neg h9, if_pos h8] at nx; exact nx _
      · rw [ix6 hp6, eg, em, w1 (i := i) (by omega), w1 (by omega), w32_id (z := ((snpF c L q m s v n p i).2.2 : Int) + 0) (by omega)]
        refine ⟨fun h8 => ?_, fun h8 => ?_⟩
        · rw [if_pos h9, if_neg h8] at nx
          rw [Int.add_zero]; exact nx _
        · rw [if_pos h9, if_pos h8] at nx; exact nx _
  exact loop N 0 (Nat.zero_add _) vU _ hX.t0 (fun _ _ _ _ _ _ => rfl)
end OP9
