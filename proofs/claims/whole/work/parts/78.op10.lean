theorem u103_0 {d : Nat}  {M : Mem} {K : KK} {Q : RR → Mem → KK → Prop} (hK : K.1 = 923) (hX : FX M)  (h : Q (.inl (some (vI (M 33 7)))) M K) : Wp d 103 0 [vR 32] [] M K Q := by
  refine r_aload_n c103_0 rfl ?_
  refine r_getR c103_1 (oK hK o32) (FX.get (b := 33) hX (by decide) (by decide +kernel) (by decide)) (by decide) ?_
  refine r_getIe c103_4 (oK hK o33) rfl ?_
  exact r_iret c103_7 (Or.inl rfl) h
theorem u104_0 {d : Nat}  {M : Mem} {K : KK} {Q : RR → Mem → KK → Prop} (hK : K.1 = 923) (hX : FX M)  (h : ∃ c1 : Mem, ∃ H2 : List Mem, (PH M 50 c1 H2 ∧ CW c1 ∧ (40 + 4 < 50 ∨ 50 + 81 < 40)) ∧ (∀ (M6 : Mem), FX M6 → ((∀ b j, ¬ scL b → ¬ (b = 50 ∧ j = 1) → ¬ (40 ≤ b ∧ b ≤ 40 + 4) → M6 b j = M b j) ∧ PH M6 50 c1 H2.dropLast ∧ (H2 ≠ [] → LK M6 40 c1 (H2.getD (H2.length - 1) c00)) ∧ (H2 = [] → M6 = M)) → ((H2 ≠ []) → Q (.inl (some (vI (M6 50 1)))) (mset M6 32 17 (0 : Int)) K) ∧ (¬ (H2 ≠ []) → Q (.inl (some (vI (-1 : Int)))) M6 K))) : Wp (d + 2) 104 0 [vR 32] [] M K Q := by
  refine r_aload_n c104_0 rfl ?_
  refine r_getR c104_1 (oK hK o32) (FX.get (b := 50) hX (by decide) (by decide +kernel) (by decide)) (by decide) ?_
  refine r_aload_n c104_4 rfl ?_
  refine r_getR c104_5 (oK hK o32) (FX.get (b := 40) hX (by decide) (by decide +kernel) (by decide)) (by decide) ?_
  obtain ⟨c1, h⟩ := h
  obtain ⟨H2, h⟩ := h
  obtain ⟨p3, h⟩ := h
  refine r_call c104_8 rfl rfl (Nat.le_of_ble_eq_true rfl) (okc_r rfl rfl (oK hK o50)) (g61 hK hX o50 o40 p3 (fun M6 x4 p5 => Bk_v ?_))
  replace h := h M6 x4 p5
  refine r_ifP (P := (H2 ≠ [])) c104_11 bI_ne (fun hc7 => ?_) (fun hc7 => ?_)
  · replace h := h.1 hc7
    refine r_aload_n c104_16 rfl ?_
    refine r_iconst c104_17 ?_
    refine r_putI c104_18 (oK hK o32) ?_
    have x8 := FX.set (v := (0 : Int)) (a := 32) (k := 17) x4 (by decide +kernel)
    refine r_aload_n c104_21 rfl ?_
    refine r_getR c104_22 (oK hK o32) (FX.get (b := 50) x8 (by decide) (by decide +kernel) (by decide)) (by decide) ?_
    refine r_getIe c104_25 (oK hK o50) (ms_na (by decide)) ?_
    exact r_iret c104_28 (Or.inl rfl) h
  · replace h := h.2 hc7
    refine r_iconst c104_14 ?_
    exact r_iret c104_15 (Or.inl rfl) h
theorem u132_0 {d : Nat}  {M : Mem} {K : KK} {Q : RR → Mem → KK → Prop} (hK : K.1 = 923) (hX : FX M)  (h : ((M 32 16) < (3 : Int) → (0 ≤ (M 32 16) ∧ (M 32 16) < (3 : Int)) ∧ ∃ c4 : Mem, ∃ s5 : Mem, (((179 + 87 * Int.toNat (M 32 16)) + 4 < 40 ∨ 40 + 4 < (179 + 87 * Int.toNat (M 32 16))) ∧ CW c4 ∧ LK M 40 c4 s5) ∧ (∀ (M9 : Mem), FX M9 → (FrI (179 + 87 * Int.toNat (M 32 16)) M M9 ∧ LK M9 (179 + 87 * Int.toNat (M 32 16)) c4 s5 ∧ (∀ b j, 40 ≤ b → b ≤ 40 + 4 → M9 b j = M b j)) → (0 ≤ (M9 32 16) ∧ (M9 32 16) < (3 : Int)) ∧ ∃ c12 : Mem, ∃ H13 : List Mem, (PH M9 50 c12 H13 ∧ CW c12 ∧ (184 + 87 * Int.toNat (M9 32 16)) ≠ 50) ∧ (∀ (M17 : Mem), FX M17 → (FrP6 (184 + 87 * Int.toNat (M9 32 16)) M9 M17 ∧ PH M17 (184 + 87 * Int.toNat (M9 32 16)) c12 H13) → Q (.inl (some (vI (w32 ((M17 32 16) + (1 : Int)))))) (mset M17 32 16 (w32 ((M17 32 16) + (1 : Int)))) K))) ∧ (¬ ((M 32 16) < (3 : Int)) → Q (.inl (some (vI (-1 : Int)))) M K)) : Wp (d + 2) 132 0 [vR 32] [] M K Q := by
  refine r_aload_n c132_0 rfl ?_
  refine r_getIe c132_1 (oK hK o32) rfl ?_
  refine r_iconst c132_4 ?_
  refine r_icmpP (P := (M 32 16) < (3 : Int)) c132_5 rfl (fun hc1 => ?_) (fun hc1 => ?_)
  · replace h := h.1 hc1
    refine r_aload_n c132_10 rfl ?_
    refine r_getR c132_11 (oK hK o32) (FX.get (b := 132) hX (by decide) (by decide +kernel) (by decide)) (by decide) ?_
    refine r_aload_n c132_14 rfl ?_
    refine r_getIe c132_15 (oK hK o32) rfl ?_
    obtain ⟨s2, h⟩ := h
    have k3 := ro132 s2
    refine r_aa c132_18 (mrw3 o132 hK) (bd l132 s2) (rf132 hX s2) (by omega) ?_
    refine r_aload_n c132_19 rfl ?_
    refine r_getR c132_20 (oK hK o32) (FX.get (b := 40) hX (by decide) (by decide +kernel) (by decide)) (by decide) ?_
    obtain ⟨c4, h⟩ := h
    obtain ⟨s5, h⟩ := h
    obtain ⟨p6, h⟩ := h
    refine r_call c132_23 rfl rfl (Nat.le_of_ble_eq_true rfl) (okc_r rfl rfl (oK hK k3)) (g30 hK hX k3 o40 p6 (fun M9 x7 p8 => Bk_n ?_))
    replace h := h M9 x7 p8
    refine r_aload_n c132_26 rfl ?_
    refine r_getR c132_27 (oK hK o32) (FX.get (b := 133) x7 (by decide) (by decide +kernel) (by decide)) (by decide) ?_
    refine r_aload_n c132_30 rfl ?_
    refine r_getIe c132_31 (oK hK o32) rfl ?_
    obtain ⟨s10, h⟩ := h
    have k11 := ro133 s10
    refine r_aa c132_34 (mrw6 o133 hK) (bd l133 s10) (rf133 x7 s10) (by omega) ?_
    refine r_aload_n c132_35 rfl ?_
    refine r_getR c132_36 (oK hK o32) (FX.get (b := 50) x7 (by decide) (by decide +kernel) (by decide)) (by decide) ?_
    obtain ⟨c12, h⟩ := h
    obtain ⟨H13, h⟩ := h
    obtain ⟨p14, h⟩ := h
    refine r_call c132_39 rfl rfl (Nat.le_of_ble_eq_true rfl) (okc_r rfl rfl (oK hK k11)) (g62 hK x7 k11 o50 p14 (fun M17 x15 p16 => Bk_n ?_))
    replace h := h M17 x15 p16
    refine r_aload_n c132_42 rfl ?_
    refine r_dupr c132_43 ?_
    refine r_getIe c132_44 (oK hK o32) rfl ?_
    refine r_iconst c132_47 ?_
    refine r_iadd c132_48 ?_
    refine r_putI c132_49 (oK hK o32) ?_
    have x18 := FX.set (v := (w32 ((M17 32 16) + (1 : Int)))) (a := 32) (k := 16) x15 (by decide +kernel)
    refine r_aload_n c132_52 rfl ?_
    refine r_getIe c132_53 (oK hK o32) ms_eq ?_
    exact r_iret c132_56 (Or.inl rfl) h
  · replace h := h.2 hc1
    refine r_iconst c132_8 ?_
    exact r_iret c132_9 (Or.inl rfl) h
theorem u133_0 {d : Nat}  {M : Mem} {K : KK} {Q : RR → Mem → KK → Prop} (hK : K.1 = 923) (hX : FX M)  (h : ((0 : Int) < (M 32 16) → (0 ≤ (w32 ((M 32 16) - (1 : Int))) ∧ (w32 ((M 32 16) - (1 : Int))) < (3 : Int)) ∧ ∃ c5 : Mem, ∃ s6 : Mem, ((40 + 4 < (179 + 87 * Int.toNat (w32 ((M 32 16) - (1 : Int)))) ∨ (179 + 87 * Int.toNat (w32 ((M 32 16) - (1 : Int)))) + 4 < 40) ∧ CW c5 ∧ LK (mset M 32 16 (w32 ((M 32 16) - (1 : Int)))) (179 + 87 * Int.toNat (w32 ((M 32 16) - (1 : Int)))) c5 s6) ∧ (∀ (M10 : Mem), FX M10 → (FrI 40 (mset M 32 16 (w32 ((M 32 16) - (1 : Int)))) M10 ∧ LK M10 40 c5 s6 ∧ (∀ b j, (179 + 87 * Int.toNat (w32 ((M 32 16) - (1 : Int)))) ≤ b → b ≤ (179 + 87 * Int.toNat (w32 ((M 32 16) - (1 : Int)))) + 4 → M10 b j = (mset M 32 16 (w32 ((M 32 16) - (1 : Int)))) b j)) → (0 ≤ (M10 32 16) ∧ (M10 32 16) < (3 : Int)) ∧ ∃ c13 : Mem, ∃ H14 : List Mem, (PH M10 (184 + 87 * Int.toNat (M10 32 16)) c13 H14 ∧ CW c13 ∧ 50 ≠ (184 + 87 * Int.toNat (M10 32 16))) ∧ (∀ (M18 : Mem), FX M18 → (FrP6 50 M10 M18 ∧ PH M18 50 c13 H14) → Q (.inl (some (vI (M18 32 16)))) (mset M18 32 17 (0 : Int)) K))) ∧ (¬ ((0 : Int) < (M 32 16)) → Q (.inl (some (vI (-1 : Int)))) M K)) : Wp (d + 2) 133 0 [vR 32] [] M K Q := by
  refine r_aload_n c133_0 rfl ?_
  refine r_getIe c133_1 (oK hK o32) rfl ?_
  refine r_ifP (P := (0 : Int) < (M 32 16)) c133_4 rfl (fun hc1 => ?_) (fun hc1 => ?_)
  · replace h := h.1 hc1
    refine r_aload_n c133_9 rfl ?_
    refine r_dupr c133_10 ?_
    refine r_getIe c133_11 (oK hK o32) rfl ?_
    refine r_iconst c133_14 ?_
    refine r_isub c133_15 ?_
    refine r_putI c133_16 (oK hK o32) ?_
    have x2 := FX.set (v := (w32 ((M 32 16) - (1 : Int)))) (a := 32) (k := 16) hX (by decide +kernel)
    refine r_aload_n c133_19 rfl ?_
    refine r_getR c133_20 (oK hK o32) (FX.get (b := 40) x2 (by decide) (by decide +kernel) (by decide)) (by decide) ?_
    refine r_aload_n c133_23 rfl ?_
    refine r_getR c133_24 (oK hK o32) (FX.get (b := 132) x2 (by decide) (by decide +kernel) (by decide)) (by decide) ?_
    refine r_aload_n c133_27 rfl ?_
    refine r_getIe c133_28 (oK hK o32) ms_eq ?_
    obtain ⟨s3, h⟩ := h
    have k4 := ro132 s3
    refine r_aa c133_31 (mrw3 o132 hK) (bd l132 s3) (rf132 x2 s3) (by omega) ?_
    obtain ⟨c5, h⟩ := h
    obtain ⟨s6, h⟩ := h
    obtain ⟨p7, h⟩ := h
    refine r_call c133_32 rfl rfl (Nat.le_of_ble_eq_true rfl) (okc_r rfl rfl (oK hK o40)) (g30 hK x2 o40 k4 p7 (fun M10 x8 p9 => Bk_n ?_))
    replace h := h M10 x8 p9
    refine r_aload_n c133_35 rfl ?_
    refine r_getR c133_36 (oK hK o32) (FX.get (b := 50) x8 (by decide) (by decide +kernel) (by decide)) (by decide) ?_
    refine r_aload_n c133_39 rfl ?_
    refine r_getR c133_40 (oK hK o32) (FX.get (b := 133) x8 (by decide) (by decide +kernel) (by decide)) (by decide) ?_
    refine r_aload_n c133_43 rfl ?_
    refine r_getIe c133_44 (oK hK o32) rfl ?_
    obtain ⟨s11, h⟩ := h
    have k12 := ro133 s11
    refine r_aa c133_47 (mrw6 o133 hK) (bd l133 s11) (rf133 x8 s11) (by omega) ?_
    obtain ⟨c13, h⟩ := h
    obtain ⟨H14, h⟩ := h
    obtain ⟨p15, h⟩ := h
    refine r_call c133_48 rfl rfl (Nat.le_of_ble_eq_true rfl) (okc_r rfl rfl (oK hK o50)) (g62 hK x8 o50 k12 p15 (fun M18 x16 p17 => Bk_n ?_))
    replace h := h M18 x16 p17
    refine r_aload_n c133_51 rfl ?_
    refine r_iconst c133_52 ?_
    refine r_putI c133_53 (oK hK o32) ?_
    have x19 := FX.set (v := (0 : Int)) (a := 32) (k := 17) x16 (by decide +kernel)
    refine r_aload_n c133_56 rfl ?_
    refine r_getIe c133_57 (oK hK o32) (ms_nk (by decide)) ?_
    exact r_iret c133_60 (Or.inl rfl) h
  · replace h := h.2 hc1
    refine r_iconst c133_7 ?_
    exact r_iret c133_8 (Or.inl rfl) h
theorem u134_0 {d : Nat} {l1 : Int} {M : Mem} {K : KK} {Q : RR → Mem → KK → Prop} (hK : K.1 = 923) (hX : FX M)  (h : (¬ l1 = (0 : Int) → (¬ l1 = (1 : Int) → Q (.inl (some (vI (-1 : Int)))) M K) ∧ (l1 = (1 : Int) → Q (.inl (some (vI (M 32 19)))) M K)) ∧ (l1 = (0 : Int) → Q (.inl (some (vI (M 32 18)))) M K)) : Wp d 134 0 [vR 32, vI l1] [] M K Q := by
  refine r_iload_n c134_0 rfl ?_
  refine r_ifP (P := ¬ l1 = (0 : Int)) c134_1 rfl (fun hc1 => ?_) (fun hc1 => ?_)
  · replace h := h.1 hc1
    refine r_iload_n c134_11 rfl ?_
    refine r_iconst c134_12 ?_
    refine r_icmpP (P := ¬ l1 = (1 : Int)) c134_13 rfl (fun hc3 => ?_) (fun hc3 => ?_)
    · replace h := h.1 hc3
      refine r_iconst c134_23 ?_
      exact r_iret c134_24 (Or.inl rfl) h
    · have hc4 := Classical.not_not.mp hc3
      replace h := h.2 hc4
      refine r_aload_n c134_16 rfl ?_
      refine r_getIe c134_17 (oK hK o32) rfl ?_
      refine r_goto c134_20 ?_
      exact r_iret c134_24 (Or.inl rfl) h
  · have hc2 := Classical.not_not.mp hc1
    replace h := h.2 hc2
    refine r_aload_n c134_4 rfl ?_
    refine r_getIe c134_5 (oK hK o32) rfl ?_
    refine r_goto c134_8 ?_
    exact r_iret c134_24 (Or.inl rfl) h
theorem u135_0 {d : Nat} {l1 : Int} {M : Mem} {K : KK} {Q : RR → Mem → KK → Prop} (hK : K.1 = 923) (hX : FX M)  (h : (l1 = (0 : Int) → Q (.inl (some (vI (M 32 16)))) M K) ∧ (l1 = (1 : Int) → Q (.inl (some (vI (M 33 1)))) M K) ∧ (l1 = (2 : Int) → Q (.inl (some (vI (M 50 1)))) M K) ∧ (l1 < (0 : Int) ∨ (2 : Int) < l1 → Q (.inl (some (vI (-1 : Int)))) M K)) : Wp d 135 0 [vR 32, vI l1] [] M K Q := by
  refine r_iload_n c135_0 rfl ?_
  refine r_tsw c135_1 ?_
  by_cases hv0 : l1 = (0 : Int)
  · rw [show tsw 1 48 0 2 #[27, 32, 40] l1 = 28 from by rw [hv0]; decide]
    replace h := h.1 hv0
    refine r_aload_n c135_28 rfl ?_
    refine r_getIe c135_29 (oK hK o32) rfl ?_
    exact r_iret c135_32 (Or.inl rfl) h
  by_cases hv1 : l1 = (1 : Int)
  · rw [show tsw 1 48 0 2 #[27, 32, 40] l1 = 33 from by rw [hv1]; decide]
    replace h := h.2.1 hv1
    refine r_aload_n c135_33 rfl ?_
    refine r_getR c135_34 (oK hK o32) (FX.get (b := 33) hX (by decide) (by decide +kernel) (by decide)) (by decide) ?_
    refine r_getIe c135_37 (oK hK o33) rfl ?_
    exact r_iret c135_40 (Or.inl rfl) h
  by_cases hv2 : l1 = (2 : Int)
  · rw [show tsw 1 48 0 2 #[27, 32, 40] l1 = 41 from by rw [hv2]; decide]
    replace h := h.2.2.1 hv2
    refine r_aload_n c135_41 rfl ?_
    refine r_getR c135_42 (oK hK o32) (FX.get (b := 50) hX (by decide) (by decide +kernel) (by decide)) (by decide) ?_
    refine r_getIe c135_45 (oK hK o50) rfl ?_
    exact r_iret c135_48 (Or.inl rfl) h
  have hvd : l1 < (0 : Int) ∨ (2 : Int) < l1 := by omega
  rw [show tsw 1 48 0 2 #[27, 32, 40] l1 = 49 from by unfold tsw; rw [if_pos hvd]; decide]
  replace h := h.2.2.2 hvd
  refine r_iconst c135_49 ?_
  exact r_iret c135_50 (Or.inl rfl) h
/-! fault, undo, image, restore, status, count: the class -/
/-- unchanged is what belongs to no game and no image -/
def KpL (M M' : Mem) : Prop := ∀ b k, 32 ≤ b → b < 179 → ¬ scL b → ¬ (33 ≤ b ∧ b ≤ 49) → ¬ (50 ≤ b ∧ b ≤ 131) → ¬ (b = 32 ∧ (k = 16 ∨ k = 17)) → M' b k = M b k
section SOP
variable {d : Nat} {M M' : Mem} {K : KK} {Q : RR → Mem → KK → Prop} {nB : Nat} {B : BY} {fp : Int} {c : Mem} {L : LC} {s : Mem} {H : List Mem} {I : List IMG} {Y : LC} {rf ms wr : Int}
theorem GmC.upd {s' : Mem} (hf : KpL M M') (h : GmC M c L s) (hl : LK M' 40 c s') (hw : LW c s') : GmC M' c L s' := by
  obtain ⟨cm, l, cm2, l2, l3, ⟨a, b, e, f⟩, ⟨a2, b2, n2, e2, o2⟩, ⟨a3, o3⟩, d1, d2, d3⟩ := h
  have g := rg0 b
  have g2 := rg0 b2
  have gl := rg2 f.2.1
  have k32 : ∀ k, k ≠ 16 → k ≠ 17 → M' 32 k = M 32 k := fun k h1 h2 => hf _ _ (by omega) (by omega) (by unfold scL; omega) (by omega) (by omega) (by omega)
  refine ⟨cm, l, cm2, l2, l3, ⟨(k32 _ (by decide) (by decide)).trans a, b, ⟨e.1.eq (fun b k h1 h2 => hf _ _ (by omega) (by omega) (by unfold scL; omega) (by omega) (by omega) (by omega)), e.2.1, hl, hw⟩, ?_⟩, ⟨(k32 _ (by decide) (by decide)).trans a2, b2, n2, (hf _ _ (by omega) (by omega) (by unfold scL; omega) (by omega) (by omega) (by omega)).trans e2, o2⟩, ⟨(k32 _ (by decide) (by decide)).trans a3, o3⟩, d1, d2, d3⟩
  exact f.eq (fun k => hf _ _ (by omega) (by omega) (by unfold scL; omega) (by omega) (by omega) (by omega)) (fun k => hf _ _ (by omega) (by omega) (by unfold scL; omega) (by omega) (by omega) (by omega)) (fun k => hf _ _ (by omega) (by omega) (by unfold scL; omega) (by omega) (by omega) (by omega))
theorem SyC.upd (hf : KpL M M') (h : SyC M Y) : SyC M' Y := by
  obtain ⟨y, y2, ⟨a, b, e⟩, a2, b2, n2⟩ := h
  have g := rg8 b
  have k32 : ∀ k, k ≠ 16 → k ≠ 17 → M' 32 k = M 32 k := fun k h1 h2 => hf _ _ (by omega) (by omega) (by unfold scL; omega) (by omega) (by omega) (by omega)
  exact ⟨y, y2, ⟨(k32 _ (by decide) (by decide)).trans a, b, e.eq (fun k => hf _ _ (by omega) (by omega) (by unfold scL; omega) (by omega) (by omega) (by omega))⟩, (k32 _ (by decide) (by decide)).trans a2, b2, n2⟩
/-- another game, another past, other images -/
theorem CS.upd {nB' : Nat} {B' : BY} {fp' : Int} {s' : Mem} {H' : List Mem} {I' : List IMG} {rf' : Int} (h : CS M nB B fp c L s H I Y rf ms wr) (hf : KpL M M') (ht : TpC M' nB' B' fp') (hl : LK M' 40 c s') (hw : LW c s') (hp : PH M' 50 c H') (hi : ImC M' c I') (hr : M' 32 17 = rf') : CS M' nB' B' fp' c L s' H' I' Y rf' ms wr := by
  obtain ⟨a, b, e, f, g, ⟨r1, r2, r3⟩, o⟩ := h
  have k32 : ∀ k, k ≠ 16 → k ≠ 17 → M' 32 k = M 32 k := fun k h1 h2 => hf _ _ (by omega) (by omega) (by unfold scL; omega) (by omega) (by omega) (by omega)
  exact ⟨ht, b.upd hf hl hw, e.upd hf, hp, hi, ⟨hr, (k32 _ (by decide) (by decide)).trans r2, (k32 _ (by decide) (by decide)).trans r3⟩, o.of (hf _ _ (by omega) (by omega) (by unfold scL; omega) (by omega) (by omega) (by omega)) (hf _ _ (by omega) (by omega) (by unfold scL; omega) (by omega) (by omega) (by omega))⟩
theorem CS.lk (h : CS M nB B fp c L s H I Y rf ms wr) : CW c ∧ LK M 40 c s ∧ LW c s := by
  obtain ⟨cm, l, cm2, l2, l3, ⟨a, b, e, f⟩, -⟩ := h.2.1
  exact ⟨e.2.1, e.2.2.1, e.2.2.2⟩
theorem c103 (hK : K.1 = 923) (hX : FX M) (h : CS M nB B fp c L s H I Y rf ms wr) (k : Q (.inl (some (vI fp))) M K) : Wm d 103 [vR 32] M K Q := by
  refine u103_0 hK hX ?_
  rw [h.1.2.2]; exact k
def statS (ms wr v : Int) : Int := if v = 0 then ms else if v = 1 then wr else -1
theorem c134 {v : Int} (hK : K.1 = 923) (hX : FX M) (h : CS M nB B fp c L s H I Y rf ms wr) (k : Q (.inl (some (vI (statS ms wr v)))) M K) : Wm d 134 [vR 32, vI v] M K Q := by
  unfold statS at k
  refine u134_0 hK hX ⟨fun h1 => ⟨fun h2 => ?_, fun h2 => ?_⟩, fun h1 => ?_⟩
  · rw [if_neg h1, if_neg h2] at k; exact k
  · rw [if_neg h1, if_pos h2] at k; rw [h.2.2.2.2.2.1.2.2]; exact k
  · rw [if_pos h1] at k; rw [h.2.2.2.2.2.1.2.1]; exact k
def cntS (nB : Nat) (H : List Mem) (I : List IMG) (v : Int) : Int := if v = 0 then (I.length : Int) else if v = 1 then (nB : Int) else if v = 2 then (H.length : Int) else -1
theorem c135 {v : Int} (hK : K.1 = 923) (hX : FX M) (h : CS M nB B fp c L s H I Y rf ms wr) (k : Q (.inl (some (vI (cntS nB H I v)))) M K) : Wm d 135 [vR 32, vI v] M K Q := by
  unfold cntS at k
  refine u135_0 hK hX ⟨?_, ?_, ?_, fun h9 => ?_⟩
  · rintro rfl; rw [h.2.2.2.2.1.1]; exact k
  · rintro rfl; rw [h.1.1]; exact k
  · rintro rfl; rw [h.2.2.2.1.1]; exact k
  · rw [if_neg (by omega), if_neg (by omega), if_neg (by omega)] at k; exact k
theorem o50' : isO 923 50 6 = true := by decide +kernel
theorem LWs.last (h : LWs c H) (hne : H ≠ []) : LWd c (H.getD (H.length - 1) c00) := h.2 _ (by have := List.length_pos_iff.mpr hne; omega)
theorem LWs.drop (h : LWs c H) : LWs c H.dropLast := by
  refine ⟨by simp; have := h.1; omega, fun i hi => ?_⟩
  simp at hi
  have : H.dropLast.getD i c00 = H.getD i c00 := by
    have h1 : i < H.dropLast.length := by simp; omega
    simp only [List.getD, List.getElem?_eq_getElem h1, List.getElem?_eq_getElem (show i < H.length by omega), List.getElem_dropLast]
  rw [this]; exact h.2 i (by omega)
/-- the game behind an undo -/
def unS (s : Mem) (H : List Mem) : Mem := if H = [] then s else H.getD (H.length - 1) c00
theorem c104 (hK : K.1 = 923) (hX : FX M) (hI : IV nB B c s H I Y) (h : CS M nB B fp c L s H I Y rf ms wr) (k : ∀ M', FX M' → HiC M M' → CS M' nB B fp c L (unS s H) H.dropLast I Y (if H = [] then rf else 0) ms wr → Q (.inl (some (vI (if H = [] then -1 else (H.length : Int) - 1)))) M' K) : Wm (d + 2) 104 [vR 32] M K Q := by
  obtain ⟨hw, hl, hlw⟩ := h.lk
  refine u104_0 hK hX ⟨c, H, ⟨h.2.2.2.1, hw, by omega⟩, fun M1 x1 ⟨f1, p1, l1, e1⟩ => ⟨fun hne => ?_, fun hne => ?_⟩⟩
  · have hlast := hI.2.2.2.1.last hne
    unfold unS at k
    rw [if_neg hne, if_neg hne, if_neg hne] at k
    have kp : KpL M (mset M1 32 17 0) := fun b j h1 h2 h3 h4 h5 h6 => by
      rw [show mset M1 32 17 0 b j = M1 b j by unfold mset; rw [if_neg (fun h9 => by omega)]]
      exact f1 b j h3 (by omega) (by omega)
    have hk := k (mset M1 32 17 0) (x1.set (by decide +kernel)) (fun a j h9 => by
      rw [ms_na (by omega)]; exact f1 a j (by unfold scL; omega) (by omega) (by omega)) (h.upd kp ?_ ((l1 hne).fr (fun b j h1 h2 => ms_na (by omega))) hlast.1 (p1.fr (fun b j h1 h2 => ms_na (by omega))) ?_ ms_eq)
    · have e50 : M1 50 1 = (H.length : Int) - 1 := by
        rw [p1.1]; have := List.length_pos_iff.mpr hne; simp; omega
      rw [e50]; exact hk
    · exact ⟨(ms_na (by decide)).trans ((f1 _ _ (by unfold scL; omega) (by omega) (by omega)).trans h.1.1), fun i hi => (ms_na (by decide)).trans ((f1 _ _ (by unfold scL; omega) (by omega) (by omega)).trans (h.1.2.1 i hi)), (ms_na (by decide)).trans ((f1 _ _ (by unfold scL; omega) (by omega) (by omega)).trans h.1.2.2)⟩
    · have hi := h.2.2.2.2.1
      refine ⟨(ms_nk (by decide)).trans ((f1 _ _ (by unfold scL; omega) (by omega) (by omega)).trans hi.1), fun i hlt => ⟨(hi.2 i hlt).1.fr (fun b j h1 h2 => (ms_na (by omega)).trans (f1 _ _ (by unfold scL; omega) (by omega) (by omega))), (hi.2 i hlt).2.fr (fun b j h1 h2 => (ms_na (by omega)).trans (f1 _ _ (by unfold scL; omega) (by omega) (by omega)))⟩⟩
  · have hn : H = [] := Classical.not_not.mp hne
    have hM := e1 hn
    subst hM
    unfold unS at k
    rw [if_pos hn, if_pos hn, if_pos hn] at k
    refine k _ hX (fun _ _ _ => rfl) ?_
    rw [hn] at h ⊢; exact h
theorem im_snoc {i : Nat} {x : IMG} (h : i < (I ++ [x]).length) : (i < I.length ∧ (I ++ [x]).getD i im0 = I.getD i im0) ∨ (i = I.length ∧ (I ++ [x]).getD i im0 = x) := by
  simp at h
  by_cases hi : i < I.length
  · exact Or.inl ⟨hi, by simp [List.getD, List.getElem?_append_left hi]⟩
  · have : i = I.length := by omega
    subst this
    exact Or.inr ⟨rfl, by simp⟩
theorem im_drop {i : Nat} (h : i < I.dropLast.length) : i < I.length ∧ I.dropLast.getD i im0 = I.getD i im0 := by
  simp at h
  refine ⟨by omega, ?_⟩
  have h1 : i < I.dropLast.length := by simp; omega
  simp only [List.getD, List.getElem?_eq_getElem h1, List.getElem?_eq_getElem (show i < I.length by omega), List.getElem_dropLast]
theorem c132 (hK : K.1 = 923) (hX : FX M) (hI : IV nB B c s H I Y) (h : CS M nB B fp c L s H I Y rf ms wr) (k : ∀ M', FX M' → HiC M M' → CS M' nB B fp c L s H (if I.length < 3 then I ++ [(s, H)] else I) Y rf ms wr → Q (.inl (some (vI (if I.length < 3 then (I.length : Int) + 1 else -1)))) M' K) : Wm (d + 2) 132 [vR 32] M K Q := by
  obtain ⟨hw, hl, hlw⟩ := h.lk
  have hi := h.2.2.2.2.1
  have hp := h.2.2.2.1
  have h3 := hI.2.2.2.2.1.1
  have h16 := hp.2.1
  refine u132_0 hK hX ?_
  rw [hi.1, Int.toNat_natCast]
  refine ⟨fun h9 => ⟨by omega, c, s, ⟨by omega, hw, hl⟩, fun M1 x1 ⟨f1, l1, s1⟩ => ?_⟩, fun h9 => ?_⟩
  · have e16 : M1 32 16 = (I.length : Int) := (f1 _ _ (by unfold scL; omega) (by omega)).trans hi.1
    rw [e16, Int.toNat_natCast]
    refine ⟨by omega, c, H, ⟨hp.fr (fun b j h1 h2 => f1 _ _ (by unfold scL; omega) (by omega)), hw, by omega⟩, fun M2 x2 ⟨f2, p2⟩ => ?_⟩
    have e16' : M2 32 16 = (I.length : Int) := (f2 _ _ (by unfold scL; omega) (by omega)).trans e16
    rw [e16', w32_id (by omega)]
    rw [if_pos (by omega), if_pos (by omega)] at k
    have f12 : ∀ b j, ¬ scL b → ¬ (179 + 87 * I.length ≤ b ∧ b ≤ 179 + 87 * I.length + 86) → M2 b j = M b j := fun b j h1 h2 => (f2 b j h1 (by omega)).trans (f1 b j h1 (by omega))
    have fa : ∀ b j, ¬ scL b → ¬ (179 + 87 * I.length ≤ b ∧ b ≤ 179 + 87 * I.length + 86) → ¬ (b = 32 ∧ j = 16) → mset M2 32 16 ((I.length : Int) + 1) b j = M b j := fun b j h1 h2 h4 => by
      rw [show mset M2 32 16 ((I.length : Int) + 1) b j = M2 b j by unfold mset; rw [if_neg h4]]; exact f12 b j h1 h2
    refine k _ (x2.set (by decide +kernel)) (fun a j h8 => fa a j (by unfold scL; omega) (by omega) (by omega)) (h.upd (fun b j h1 h2 h4 h5 h6 h7 => fa b j h4 (by omega) (by omega)) ⟨(fa _ _ (by unfold scL; omega) (by omega) (by omega)).trans h.1.1, fun i hi => (fa _ _ (by unfold scL; omega) (by omega) (by omega)).trans (h.1.2.1 i hi), (fa _ _ (by unfold scL; omega) (by omega) (by omega)).trans h.1.2.2⟩ (hl.fr (fun b j h1 h2 => fa _ _ (by unfold scL; omega) (by omega) (by omega))) hlw (hp.fr (fun b j h1 h2 => fa _ _ (by unfold scL; omega) (by omega) (by omega))) ⟨?_, fun i hlt => ?_⟩ ((fa _ _ (by unfold scL; omega) (by omega) (by omega)).trans h.2.2.2.2.2.1.1))
    · rw [ms_eq]; simp
    · rcases im_snoc hlt with ⟨hi9, e9⟩ | ⟨hi9, e9⟩
      · rw [e9]
        exact ⟨(hi.2 i hi9).1.fr (fun b j h1 h2 => fa _ _ (by unfold scL; omega) (by omega) (by omega)), (hi.2 i hi9).2.fr (fun b j h1 h2 => fa _ _ (by unfold scL; omega) (by omega) (by omega))⟩
      · rw [e9]
        subst hi9
        exact ⟨l1.fr (fun b j h1 h2 => (ms_na (by omega)).trans (f2 _ _ (by unfold scL; omega) (by omega))), p2.fr (fun b j h1 h2 => ms_na (by omega))⟩
  · rw [if_neg (by omega), if_neg (by omega)] at k
    exact k M hX (fun _ _ _ => rfl) h
/-- the image that comes back -/
def imL (I : List IMG) : IMG := I.getD (I.length - 1) im0
theorem c133 (hK : K.1 = 923) (hX : FX M) (hI : IV nB B c s H I Y) (h : CS M nB B fp c L s H I Y rf ms wr) (k : ∀ M', FX M' → HiC M M' → CS M' nB B fp c L (if I = [] then s else (imL I).1) (if I = [] then H else (imL I).2) I.dropLast Y (if I = [] then rf else 0) ms wr → Q (.inl (some (vI ((I.length : Int) - 1)))) M' K) : Wm (d + 2) 133 [vR 32] M K Q := by
  obtain ⟨hw, hl, hlw⟩ := h.lk
  have hi := h.2.2.2.2.1
  have hp := h.2.2.2.1
  have h3 := hI.2.2.2.2.1
  refine u133_0 hK hX ?_
  rw [hi.1]
  refine ⟨fun h9 => ?_, fun h9 => ?_⟩
  · have hne : I ≠ [] := by rintro rfl; simp at h9
    rw [if_neg hne, if_neg hne, if_neg hne] at k
    obtain ⟨n, hn⟩ : ∃ n, I.length = n + 1 := ⟨I.length - 1, by omega⟩
    have eI : imL I = I.getD n im0 := by unfold imL; rw [hn]; rfl
    rw [eI] at k
    rw [hn]
    have e1 : ((n + 1 : Nat) : Int) - 1 = (n : Int) := by omega
    rw [e1, w32_id (by omega), Int.toNat_natCast]
    have kk := k
    rw [hn, e1] at kk
    obtain ⟨li, pi⟩ := hi.2 n (by omega)
    have lwi := h3.2 n (by omega)
    refine ⟨by omega, c, (I.getD n im0).1, ⟨by omega, hw, li.fr (fun b j h1 h2 => ms_na (by omega))⟩, fun M1 x1 ⟨f1, l1, s1⟩ => ?_⟩
    have e16 : M1 32 16 = (n : Int) := (f1 _ _ (by unfold scL; omega) (by omega)).trans ms_eq
    rw [e16, Int.toNat_natCast]
    have f1' : ∀ b j, ¬ scL b → ¬ (40 ≤ b ∧ b ≤ 44) → ¬ (b = 32 ∧ j = 16) → M1 b j = M b j := fun b j h1 h2 h4 => (f1 b j h1 (by omega)).trans (by unfold mset; rw [if_neg h4])
    refine ⟨by omega, c, (I.getD n im0).2, ⟨pi.fr (fun b j h1 h2 => f1' _ _ (by unfold scL; omega) (by omega) (by omega)), hw, by omega⟩, fun M2 x2 ⟨f2, p2⟩ => ?_⟩
    have e16' : M2 32 16 = (n : Int) := (f2 _ _ (by unfold scL; omega) (by omega)).trans e16
    rw [e16']
    have fa : ∀ b j, ¬ scL b → ¬ (40 ≤ b ∧ b ≤ 44) → ¬ (50 ≤ b ∧ b ≤ 131) → ¬ (b = 32 ∧ (j = 16 ∨ j = 17)) → mset M2 32 17 0 b j = M b j := fun b j h1 h2 h4 h5 => by
      rw [show mset M2 32 17 0 b j = M2 b j by unfold mset; rw [if_neg (by omega)]]
      exact (f2 b j h1 (by omega)).trans (f1' b j h1 h2 (by omega))
    refine kk _ (x2.set (by decide +kernel)) (fun a j h8 => fa a j (by unfold scL; omega) (by omega) (by omega) (by omega)) (h.upd (fun b j h1 h2 h4 h5 h6 h7 => fa b j h4 (by omega) (by omega) (by omega)) ⟨(fa _ _ (by unfold scL; omega) (by omega) (by omega) (by omega)).trans h.1.1, fun i hi => (fa _ _ (by unfold scL; omega) (by omega) (by omega) (by omega)).trans (h.1.2.1 i hi), (fa _ _ (by unfold scL; omega) (by omega) (by omega) (by omega)).trans h.1.2.2⟩ (l1.fr (fun b j h1 h2 => (ms_na (by omega)).trans (f2 _ _ (by unfold scL; omega) (by omega)))) lwi.1.1 (p2.fr (fun b j h1 h2 => ms_na (by omega))) ⟨?_, fun i hlt => ?_⟩ ms_eq)
    · rw [ms_nk (by decide), e16']; simp; omega
    · obtain ⟨hi9, e9⟩ := im_drop hlt
      rw [e9]
      have hi8 : i < n := by simp at hlt; omega
      exact ⟨(hi.2 i hi9).1.fr (fun b j h1 h2 => fa _ _ (by unfold scL; omega) (by omega) (by omega) (by omega)), (hi.2 i hi9).2.fr (fun b j h1 h2 => fa _ _ (by unfold scL; omega) (by omega) (by omega) (by omega))⟩
  · have hn : I = [] := by
      cases I with
      | nil => rfl
      | cons x t => exact absurd (by simp) h9
    subst hn
    rw [if_pos rfl, if_pos rfl, if_pos rfl] at k
    exact k M hX (fun _ _ _ => rfl) h
end SOP
