/-! a day, a mole: the class -/
def dayS (c : Mem) (L : LC) (s : Mem) (rain : Int) : Mem := fun b p => if b = 1 then max 0 (s 1 p - whN c s L p rain) else if b = 2 ∨ b = 3 then 0 else if b = 4 ∧ p = 0 then s 4 0 + 1 else s b p
def digS (c s : Mem) (cell : Int) : Mem := if lyOn c s cell = -1 then s else mset s 1 (lyOn c s cell).toNat (min 99 (s 1 (lyOn c s cell).toNat + 5))
/-- strips below i have the day behind them -/
def dayP (c : Mem) (L : LC) (s : Mem) (rain : Int) (i : Nat) : Mem := fun b p => if (b = 1 ∨ b = 2 ∨ b = 3) ∧ p < i then dayS c L s rain b p else s b p
theorem dayS_w {c s : Mem} {L : LC} {rain : Int} (h : LW c s) (hd : s 4 0 < 2000) : LW c (dayS c L s rain) := by
  obtain ⟨h1, h2, h3, h4⟩ := h
  refine ⟨fun p hp => ?_, ?_, ?_, ?_⟩
  · obtain ⟨a1, a2, a3, a4⟩ := h1 p hp
    have := whN_rg (c := c) (s := s) (L := L) (p := p) (rain := rain)
    simp only [dayS]
    refine ⟨a1, ?_, ?_, ?_⟩
    · simp; omega
    · simp
    · simp
  · simp only [dayS]; simp; omega
  · simp only [dayS]; simp; omega
  · intro p q hp hq hpq
    simp only [dayS]
    simpa using h4 p q hp hq hpq
theorem dayP_w {c s : Mem} {L : LC} {rain : Int} {i : Nat} (h : LW c s) : LW c (dayP c L s rain i) := by
  obtain ⟨h1, h2, h3, h4⟩ := h
  refine ⟨fun p hp => ?_, ?_, ?_, ?_⟩
  · obtain ⟨a1, a2, a3, a4⟩ := h1 p hp
    have := whN_rg (c := c) (s := s) (L := L) (p := p) (rain := rain)
    by_cases hpi : p < i
    · simp only [dayP, dayS]
      simp [hpi]; omega
    · simp only [dayP]
      simp [hpi]; omega
  · simp only [dayP]; simp; omega
  · simp only [dayP]; simp; omega
  · intro p q hp hq hpq
    simp only [dayP]
    simpa using h4 p q hp hq hpq
theorem dayP_wh {c s : Mem} {L : LC} {rain : Int} {i : Nat} : whN c (dayP c L s rain i) L i rain = whN c s L i rain := by
  unfold whN
  simp [dayP]
theorem digS_w {c s : Mem} {cell : Int} (h : LW c s) : LW c (digS c s cell) := by
  unfold digS
  split
  · exact h
  · obtain ⟨h1, h2, h3, h4⟩ := h
    refine ⟨fun p hp => ?_, ?_, ?_, ?_⟩
    · obtain ⟨a1, a2, a3, a4⟩ := h1 p hp
      simp only [mset]
      refine ⟨by simpa using a1, ?_, by simpa using a3, by simpa using a4⟩
      split
      · rename_i h; obtain ⟨-, rfl⟩ := h; omega
      · exact a2
    · simpa [mset] using h2
    · simpa [mset] using h3
    · intro p q hp hq hpq
      simpa [mset] using h4 p q hp hq hpq
/-- only the linen a and the laws' scratch have changed -/
def FrI (a : Nat) (M M' : Mem) : Prop := ∀ b k, ¬ scL b → ¬ (a ≤ b ∧ b ≤ a + 4) → M' b k = M b k
theorem FrI.rf {a : Nat} {M : Mem} : FrI a M M := fun _ _ _ _ => rfl
theorem FrI.tr {a : Nat} {M M1 M2 : Mem} (h1 : FrI a M M1) (h2 : FrI a M1 M2) : FrI a M M2 := fun b k p q => (h2 b k p q).trans (h1 b k p q)
theorem FrW.I {a : Nat} {M M' : Mem} (h : FrW M M') : FrI a M M' := fun b k p _ => h b k p
theorem FrI.up {a : Nat} {M M1 : Mem} {b k : Nat} {v : Int} (h : FrI a M M1) (hb : a ≤ b ∧ b ≤ a + 4) : FrI a M (mset M1 b k v) := by
  intro b' k' p q
  unfold mset
  rw [if_neg (by rintro ⟨rfl, rfl⟩; exact q hb)]
  exact h b' k' p q
section DY0
variable {M M' : Mem} {cm a l : Nat} {c s : Mem} {L : LC}
theorem CC.i (hcm : isO 923 cm 0 = true) (ha : isO 923 a 3 = true) (hf : FrI a M M') (h : CC M cm c) : CC M' cm c := by
  have hr := rg0 hcm
  have hr3 := rg3 ha
  exact ⟨fun k hk => (hf cm (5 + k) (by unfold scL; omega) (by omega)).trans (h.1 k hk), fun b h1 h2 i hi => (hf (cm + b) i (by unfold scL; omega) (by omega)).trans (h.2 b h1 h2 i hi)⟩
theorem LWC.i (hcm : isO 923 cm 0 = true) (ha : isO 923 a 3 = true) (hf : FrI a M M') (h : LWC M cm L l) : LWC M' cm L l := by
  have hr := rg0 hcm
  have hr2 := rg2 h.2.1
  have hr3 := rg3 ha
  refine ⟨(hf cm 11 (by unfold scL; omega) (by omega)).trans h.1, h.2.1, ⟨(hf l 3 (by unfold scL; omega) (by omega)).trans h.2.2.1.1, h.2.2.1.2.1, fun i hi => (hf (l + 2) i (by unfold scL; omega) (by omega)).trans (h.2.2.1.2.2 i hi)⟩, h.2.2.2⟩
/-- the class's array of a block -/
def blk (b : Nat) : Nat := if b = 0 then 2 else if b = 1 then 1 else if b = 2 then 3 else 4
theorem LK.set1 (h : LK M a c s) {b p : Nat} {v : Int} (hb : b < 4) : LK (mset M (a + blk b) p v) a c (mset s b p v) := by
  refine ⟨fun q hq => ?_, ?_, ?_⟩
  · obtain ⟨f0, f1, f2, f3⟩ := h.1 q hq
    simp only [mset, blk]
    rcases (show b = 0 ∨ b = 1 ∨ b = 2 ∨ b = 3 by omega) with rfl | rfl | rfl | rfl
    · by_cases hqp : q = p
      · subst hqp; simp; exact ⟨f1, f2, f3⟩
      · simp [hqp]; exact ⟨f0, f1, f2, f3⟩
    · by_cases hqp : q = p
      · subst hqp; simp; exact ⟨f0, f2, f3⟩
      · simp [hqp]; exact ⟨f0, f1, f2, f3⟩
    · by_cases hqp : q = p
      · subst hqp; simp; exact ⟨f0, f1, f3⟩
      · simp [hqp]; exact ⟨f0, f1, f2, f3⟩
    · by_cases hqp : q = p
      · subst hqp; simp; exact ⟨f0, f1, f2⟩
      · simp [hqp]; exact ⟨f0, f1, f2, f3⟩
  · have : 1 ≤ blk b := by unfold blk; split; omega; split; omega; split <;> omega
    rw [ms_na (by omega), ms_na (by omega)]; exact h.2.1
  · have : 1 ≤ blk b := by unfold blk; split; omega; split; omega; split <;> omega
    rw [ms_na (by omega), ms_na (by omega)]; exact h.2.2
end DY0
theorem u35_0 {d : Nat} {l0 : Nat} {l1 : Nat} {l2 : Int} {M : Mem} {K : KK} {Q : RR → Mem → KK → Prop} (hK : K.1 = 923) (hX : FX M) (k0 : isO 923 l0 3 = true) (k1 : isO 923 l1 0 = true) (h : ∃ c1 : Mem, ∃ s2 : Mem, SKc M l1 l0 c1 s2 ∧ (¬ (lyOn c1 s2 l2) = (-1 : Int) → (0 ≤ (lyOn c1 s2 l2) ∧ (lyOn c1 s2 l2) < (6 : Int)) ∧ (0 ≤ (lyOn c1 s2 l2) ∧ (lyOn c1 s2 l2) < (6 : Int)) ∧ Q (.inl (some (vI (1 : Int)))) (mset M (l0 + 1) (Int.toNat (lyOn c1 s2 l2)) (jmin (99 : Int) (w32 ((M (l0 + 1) (Int.toNat (lyOn c1 s2 l2))) + (5 : Int))))) K) ∧ ((lyOn c1 s2 l2) = (-1 : Int) → Q (.inl (some (vI (0 : Int)))) M K)) : Wp (d + 1) 35 0 [vR l0, vR l1, vI l2, vU] [] M K Q := by
  refine r_aload_n c35_0 rfl ?_
  refine r_aload_n c35_1 rfl ?_
  refine r_iload_n c35_2 rfl ?_
  obtain ⟨c1, h⟩ := h
  obtain ⟨s2, h⟩ := h
  obtain ⟨p3, h⟩ := h
  refine r_call c35_3 rfl rfl (Nat.le_of_ble_eq_true rfl) (okc_r rfl rfl (oK hK k0)) (g38 hK hX k0 k1 p3 (Bk_v ?_))
  refine r_istore_n c35_6 (Nat.le_of_ble_eq_true rfl) ?_
  refine r_iload_n c35_7 rfl ?_
  refine r_iconst c35_8 ?_
  refine r_icmpP (P := ¬ (lyOn c1 s2 l2) = (-1 : Int)) c35_9 rfl (fun hc4 => ?_) (fun hc4 => ?_)
  · replace h := h.1 hc4
    refine r_aload_n c35_14 rfl ?_
    refine r_getR c35_15 (oK hK k0) (fx3_0 hX k0) (by omega) ?_
    refine r_iload_n c35_18 rfl ?_
    refine r_bipush c35_19 ?_
    refine r_aload_n c35_21 rfl ?_
    refine r_getR c35_22 (oK hK k0) (fx3_0 hX k0) (by omega) ?_
    refine r_iload_n c35_25 rfl ?_
    obtain ⟨s6, h⟩ := h
    refine r_iae c35_26 (oK hK (q3_0 k0)) (bd (z3_0 k0) s6) rfl ?_
    refine r_iconst c35_27 ?_
    refine r_iadd c35_28 ?_
    refine r_min c35_29 (Nat.le_of_ble_eq_true rfl) ?_
    obtain ⟨s7, h⟩ := h
    refine r_ias c35_32 (oK hK (q3_0 k0)) (bd (z3_0 k0) s7) ?_
    have x8 := FX.set (v := (jmin (99 : Int) (w32 ((M (l0 + 1) (Int.toNat (lyOn c1 s2 l2))) + (5 : Int))))) (a := (l0 + 1)) (k := (Int.toNat (lyOn c1 s2 l2))) hX (nfa (q3_0 k0) _)
    refine r_iconst c35_33 ?_
    exact r_iret c35_34 (by decide) h
  · have hc5 := Classical.not_not.mp hc4
    replace h := h.2 hc5
    refine r_iconst c35_12 ?_
    exact r_iret c35_13 (by decide) h
theorem u36_0 {d : Nat} {l0 : Nat} {l1 : Nat} {l2 : Int} {M : Mem} {K : KK} {Q : RR → Mem → KK → Prop} (hK : K.1 = 923) (hX : FX M) (k0 : isO 923 l0 3 = true) (k1 : isO 923 l1 0 = true) (h : Wp (d + 3) 36 2 [vR l0, vR l1, vI l2, vI (0 : Int)] [] M K Q) : Wp (d + 3) 36 0 [vR l0, vR l1, vI l2, vU] [] M K Q := by
  refine r_iconst c36_0 ?_
  refine r_istore_n c36_1 (Nat.le_of_ble_eq_true rfl) ?_
  exact h
theorem u36_2 {d : Nat} {l0 : Nat} {l1 : Nat} {l2 : Int} {l3 : Int} {M : Mem} {K : KK} {Q : RR → Mem → KK → Prop} (hK : K.1 = 923) (hX : FX M) (k0 : isO 923 l0 3 = true) (k1 : isO 923 l1 0 = true) (h : ((M l1 6) ≤ l3 → Q (.inl none) (mset M l0 4 (w32 ((M l0 4) + (1 : Int)))) K) ∧ (¬ ((M l1 6) ≤ l3) → (0 ≤ l3 ∧ l3 < (6 : Int)) ∧ ((M (l0 + 2) (Int.toNat l3)) = (-1 : Int) → (0 ≤ l3 ∧ l3 < (6 : Int)) ∧ (0 ≤ l3 ∧ l3 < (6 : Int)) ∧ Wp (d + 3) 36 2 [vR l0, vR l1, vI l2, vI (w32 (l3 + 1))] [] (mset (mset M (l0 + 3) (Int.toNat l3) (0 : Int)) (l0 + 4) (Int.toNat l3) (0 : Int)) K Q) ∧ (¬ ((M (l0 + 2) (Int.toNat l3)) = (-1 : Int)) → (0 ≤ l3 ∧ l3 < (6 : Int)) ∧ ((M (l0 + 1) (Int.toNat l3)) ≤ (0 : Int) → (0 ≤ l3 ∧ l3 < (6 : Int)) ∧ (0 ≤ l3 ∧ l3 < (6 : Int)) ∧ Wp (d + 3) 36 2 [vR l0, vR l1, vI l2, vI (w32 (l3 + 1))] [] (mset (mset M (l0 + 3) (Int.toNat l3) (0 : Int)) (l0 + 4) (Int.toNat l3) (0 : Int)) K Q) ∧ (¬ ((M (l0 + 1) (Int.toNat l3)) ≤ (0 : Int)) → (0 ≤ l3 ∧ l3 < (6 : Int)) ∧ ∃ c16 : Mem, ∃ s17 : Mem, ∃ L18 : LC, ∃ la19 : Nat, ∃ p20 : Nat, (l3 = (p20 : Int) ∧ SKc M l1 l0 c16 s17 ∧ LWC M l1 L18 la19 ∧ p20 < nSt c16) ∧ (∀ (M24 : Mem), FX M24 → FrW M M24 → (0 ≤ l3 ∧ l3 < (6 : Int)) ∧ (0 ≤ l3 ∧ l3 < (6 : Int)) ∧ (0 ≤ l3 ∧ l3 < (6 : Int)) ∧ Wp (d + 3) 36 2 [vR l0, vR l1, vI l2, vI (w32 (l3 + 1))] [] (mset (mset (mset M24 (l0 + 1) (Int.toNat l3) (jmax (0 : Int) (w32 ((M (l0 + 1) (Int.toNat l3)) - (whN c16 s17 L18 p20 l2))))) (l0 + 3) (Int.toNat l3) (0 : Int)) (l0 + 4) (Int.toNat l3) (0 : Int)) K Q))))) : Wp (d + 3) 36 2 [vR l0, vR l1, vI l2, vI l3] [] M K Q := by
  refine r_iload_n c36_2 rfl ?_
  refine r_aload_n c36_3 rfl ?_
  refine r_getIe c36_4 (oK hK k1) rfl ?_
  refine r_icmpP (P := (M l1 6) ≤ l3) c36_7 rfl (fun hc1 => ?_) (fun hc1 => ?_)
  · replace h := h.1 hc1
    refine r_aload_n c36_73 rfl ?_
    refine r_dupr c36_74 ?_
    refine r_getIe c36_75 (oK hK k0) rfl ?_
    refine r_iconst c36_78 ?_
    refine r_iadd c36_79 ?_
    refine r_putI c36_80 (oK hK k0) ?_
    have x2 := FX.set (v := (w32 ((M l0 4) + (1 : Int)))) (a := l0) (k := 4) hX (nf3 k0 (by decide))
    exact r_ret c36_83 h
  · replace h := h.2 hc1
    refine r_aload_n c36_10 rfl ?_
    refine r_getR c36_11 (oK hK k0) (fx3_1 hX k0) (by omega) ?_
    refine r_iload_n c36_14 rfl ?_
    obtain ⟨s3, h⟩ := h
    refine r_iae c36_15 (oK hK (q3_1 k0)) (bd (z3_1 k0) s3) rfl ?_
    refine r_iconst c36_16 ?_
    refine r_icmpP (P := (M (l0 + 2) (Int.toNat l3)) = (-1 : Int)) c36_17 rfl (fun hc4 => ?_) (fun hc4 => ?_)
    · replace h := h.1 hc4
      refine r_aload_n c36_53 rfl ?_
      refine r_getR c36_54 (oK hK k0) (fx3_2 hX k0) (by omega) ?_
      refine r_iload_n c36_57 rfl ?_
      refine r_iconst c36_58 ?_
      obtain ⟨s5, h⟩ := h
      refine r_ias c36_59 (oK hK (q3_2 k0)) (bd (z3_2 k0) s5) ?_
      have x6 := FX.set (v := (0 : Int)) (a := (l0 + 3)) (k := (Int.toNat l3)) hX (nfa (q3_2 k0) _)
      refine r_aload_n c36_60 rfl ?_
      refine r_getR c36_61 (oK hK k0) (fx3_3 x6 k0) (by omega) ?_
      refine r_iload_n c36_64 rfl ?_
      refine r_iconst c36_65 ?_
      obtain ⟨s7, h⟩ := h
      refine r_ias c36_66 (oK hK (q3_3 k0)) (bd (z3_3 k0) s7) ?_
      have x8 := FX.set (v := (0 : Int)) (a := (l0 + 4)) (k := (Int.toNat l3)) x6 (nfa (q3_3 k0) _)
      refine r_iinc c36_67 rfl ?_
      refine r_goto c36_70 ?_
      exact h
    · replace h := h.2 hc4
      refine r_aload_n c36_20 rfl ?_
      refine r_getR c36_21 (oK hK k0) (fx3_0 hX k0) (by omega) ?_
      refine r_iload_n c36_24 rfl ?_
      obtain ⟨s9, h⟩ := h
      refine r_iae c36_25 (oK hK (q3_0 k0)) (bd (z3_0 k0) s9) rfl ?_
      refine r_ifP (P := (M (l0 + 1) (Int.toNat l3)) ≤ (0 : Int)) c36_26 rfl (fun hc10 => ?_) (fun hc10 => ?_)
      · replace h := h.1 hc10
        refine r_aload_n c36_53 rfl ?_
        refine r_getR c36_54 (oK hK k0) (fx3_2 hX k0) (by omega) ?_
        refine r_iload_n c36_57 rfl ?_
        refine r_iconst c36_58 ?_
        obtain ⟨s11, h⟩ := h
        refine r_ias c36_59 (oK hK (q3_2 k0)) (bd (z3_2 k0) s11) ?_
        have x12 := FX.set (v := (0 : Int)) (a := (l0 + 3)) (k := (Int.toNat l3)) hX (nfa (q3_2 k0) _)
        refine r_aload_n c36_60 rfl ?_
        refine r_getR c36_61 (oK hK k0) (fx3_3 x12 k0) (by omega) ?_
        refine r_iload_n c36_64 rfl ?_
        refine r_iconst c36_65 ?_
        obtain ⟨s13, h⟩ := h
        refine r_ias c36_66 (oK hK (q3_3 k0)) (bd (z3_3 k0) s13) ?_
        have x14 := FX.set (v := (0 : Int)) (a := (l0 + 4)) (k := (Int.toNat l3)) x12 (nfa (q3_3 k0) _)
        refine r_iinc c36_67 rfl ?_
        refine r_goto c36_70 ?_
        exact h
      · replace h := h.2 hc10
        refine r_aload_n c36_29 rfl ?_
        refine r_getR c36_30 (oK hK k0) (fx3_0 hX k0) (by omega) ?_
        refine r_iload_n c36_33 rfl ?_
        refine r_iconst c36_34 ?_
        refine r_aload_n c36_35 rfl ?_
        refine r_getR c36_36 (oK hK k0) (fx3_0 hX k0) (by omega) ?_
        refine r_iload_n c36_39 rfl ?_
        obtain ⟨s15, h⟩ := h
        refine r_iae c36_40 (oK hK (q3_0 k0)) (bd (z3_0 k0) s15) rfl ?_
        refine r_aload_n c36_41 rfl ?_
        refine r_aload_n c36_42 rfl ?_
        refine r_iload_n c36_43 rfl ?_
        refine r_iload_n c36_44 rfl ?_
        obtain ⟨c16, h⟩ := h
        obtain ⟨s17, h⟩ := h
        obtain ⟨L18, h⟩ := h
        obtain ⟨la19, h⟩ := h
        obtain ⟨p20, h⟩ := h
        obtain ⟨p21, h⟩ := h
        refine r_call c36_45 rfl rfl (Nat.le_of_ble_eq_true rfl) (okc_r rfl rfl (oK hK k0)) (g44 hK hX k0 k1 p21 (fun M24 x22 p23 => Bk_v ?_))
        replace h := h M24 x22 p23
        refine r_isub c36_48 ?_
        refine r_max c36_49 (Nat.le_of_ble_eq_true rfl) ?_
        obtain ⟨s25, h⟩ := h
        refine r_ias c36_52 (oK hK (q3_0 k0)) (bd (z3_0 k0) s25) ?_
        have x26 := FX.set (v := (jmax (0 : Int) (w32 ((M (l0 + 1) (Int.toNat l3)) - (whN c16 s17 L18 p20 l2))))) (a := (l0 + 1)) (k := (Int.toNat l3)) x22 (nfa (q3_0 k0) _)
        refine r_aload_n c36_53 rfl ?_
        refine r_getR c36_54 (oK hK k0) (fx3_2 x26 k0) (by omega) ?_
        refine r_iload_n c36_57 rfl ?_
        refine r_iconst c36_58 ?_
        obtain ⟨s27, h⟩ := h
        refine r_ias c36_59 (oK hK (q3_2 k0)) (bd (z3_2 k0) s27) ?_
        have x28 := FX.set (v := (0 : Int)) (a := (l0 + 3)) (k := (Int.toNat l3)) x26 (nfa (q3_2 k0) _)
        refine r_aload_n c36_60 rfl ?_
        refine r_getR c36_61 (oK hK k0) (fx3_3 x28 k0) (by omega) ?_
        refine r_iload_n c36_64 rfl ?_
        refine r_iconst c36_65 ?_
        obtain ⟨s29, h⟩ := h
        refine r_ias c36_66 (oK hK (q3_3 k0)) (bd (z3_3 k0) s29) ?_
        have x30 := FX.set (v := (0 : Int)) (a := (l0 + 4)) (k := (Int.toNat l3)) x28 (nfa (q3_3 k0) _)
        refine r_iinc c36_67 rfl ?_
        refine r_goto c36_70 ?_
        exact h
section DY
variable {d : Nat} {M : Mem} {K : KK} {Q : RR → Mem → KK → Prop} {cm a l p : Nat} {c s : Mem} {L : LC}
theorem g36 {rain : Int} (hK : K.1 = 923) (hX : FX M) (ha : isO 923 a 3 = true) (hcm : isO 923 cm 0 = true) (h : SKc M cm a c s ∧ LWC M cm L l ∧ s 4 0 < 2000) (k : ∀ M', FX M' → (FrI a M M' ∧ LK M' a c (dayS c L s rain)) → Q (.inl none) M' K) : Wm (d + 3) 36 [vR a, vR cm, vI rain] M K Q := by
  obtain ⟨⟨hc, hw, hl, hlw⟩, hL, hd⟩ := h
  have hn := hw.n.1
  obtain ⟨-, e6, -⟩ := hc.g hw
  have hr3 := rg3 ha
  have hr0 := rg0 hcm
  refine u36_0 hK hX ha hcm ?_
  have loop : ∀ f i, i + f = nSt c → ∀ M1, FX M1 → FrI a M M1 → LK M1 a c (dayP c L s rain i) → Wp (d + 3) 36 2 [vR a, vR cm, vI rain, vI (i : Int)] [] M1 K Q := by
    intro f
    induction f with
    | zero =>
      intro i hi M1 x1 f1 l1
      have hin : i = nSt c := by omega
      have e61 : M1 cm 6 = (nSt c : Int) := (f1 cm 6 (by unfold scL; omega) (by omega)).trans e6
      have e4 : M1 a 4 = s 4 0 := by have := l1.2.1; simpa [dayP] using this
      have hdy := hlw.2.1
      refine u36_2 hK x1 ha hcm ⟨fun _ => ?_, fun h => by omega⟩
      rw [e4, w32_id (by omega)]
      refine k _ (x1.set (nf3 ha (by decide))) ⟨f1.up (by omega), fun q hq => ?_, ?_, ?_⟩
      · rw [ms_na (by omega), ms_na (by omega), ms_na (by omega), ms_na (by omega)]
        have := l1.1 q hq
        have hqi : q < i := by omega
        simp [dayP, hqi] at this
        simpa [dayS] using this
      · rw [ms_eq]; simp [dayS]
      · rw [ms_nk (by decide), l1.2.2]; simp [dayP, dayS]
    | succ f ih =>
      intro i hi M1 x1 f1 l1
      have hin : i < nSt c := by omega
      have hi6 : 0 ≤ (i : Int) ∧ (i : Int) < 6 := by omega
      have e61 : M1 cm 6 = (nSt c : Int) := (f1 cm 6 (by unfold scL; omega) (by omega)).trans e6
      obtain ⟨v0, v1, v2, v3⟩ := l1.1 i hin
      have v0' : M1 (a + 2) i = s 0 i := by simpa [dayP] using v0
      have v1' : M1 (a + 1) i = s 1 i := by simpa [dayP] using v1
      obtain ⟨w0, w1', -⟩ := hlw.1 i hin
      have hwr := whN_rg (c := c) (s := s) (L := L) (p := i) (rain := rain)
      -- the strip's day is over
      have fin : ∀ (M2 : Mem), FX M2 → FrI a M M2 → (∀ q, q < nSt c → M2 (a + 2) q = s 0 q ∧ M2 (a + 1) q = dayP c L s rain (i + 1) 1 q ∧ (q ≠ i → M2 (a + 3) q = dayP c L s rain i 2 q ∧ M2 (a + 4) q = dayP c L s rain i 3 q)) → M2 a 4 = s 4 0 → M2 a 5 = s 4 1 → Wp (d + 3) 36 2 [vR a, vR cm, vI rain, vI (w32 ((i : Int) + 1))] [] (mset (mset M2 (a + 3) (Int.toNat (i : Int)) 0) (a + 4) (Int.toNat (i : Int)) 0) K Q := by
        intro M2 x2 f2 h2 e4 e5
        rw [w1 (by omega), Int.toNat_natCast]
        refine ih (i + 1) (by omega) _ ((x2.set (nfa (q3_2 ha) _)).set (nfa (q3_3 ha) _)) ((f2.up (by omega)).up (by omega)) ⟨fun q hq => ?_, ?_, ?_⟩
        · obtain ⟨h20, h21, h22⟩ := h2 q hq
          rw [ms_na (by omega), ms_na (by omega), ms_na (by omega), ms_na (by omega), h20, h21]
          refine ⟨by simp [dayP], rfl, ?_, ?_⟩
          · rw [ms_na (by omega)]
            by_cases hqi : q = i
            · subst hqi; rw [ms_eq]; simp [dayP, dayS]
            · rw [ms_nk hqi, (h22 hqi).1]
              have : (q < i + 1) ↔ q < i := by omega
              simp [dayP, this]
          · by_cases hqi : q = i
            · subst hqi; rw [ms_eq]; simp [dayP, dayS]
            · rw [ms_nk hqi, ms_na (by omega), (h22 hqi).2]
              have : (q < i + 1) ↔ q < i := by omega
              simp [dayP, this]
        · rw [ms_na (by omega), ms_na (by omega), e4]; simp [dayP]
        · rw [ms_na (by omega), ms_na (by omega), e5]; simp [dayP]
      have e4 : M1 a 4 = s 4 0 := by have := l1.2.1; simpa [dayP] using this
      have e5 : M1 a 5 = s 4 1 := by have := l1.2.2; simpa [dayP] using this
      -- nothing is whitened
      have stay : max 0 (s 1 i - whN c s L i rain) = s 1 i → Wp (d + 3) 36 2 [vR a, vR cm, vI rain, vI (w32 ((i : Int) + 1))] [] (mset (mset M1 (a + 3) (Int.toNat (i : Int)) 0) (a + 4) (Int.toNat (i : Int)) 0) K Q := by
        intro hst
        refine fin M1 x1 f1 (fun q hq => ?_) e4 e5
        obtain ⟨u0, u1, u2, u3⟩ := l1.1 q hq
        refine ⟨by simpa [dayP] using u0, ?_, fun hqi => ⟨u2, u3⟩⟩
        rw [u1]
        by_cases hqi : q = i
        · subst hqi; simp [dayP, dayS, hst]
        · have : (q < i + 1) ↔ q < i := by omega
          simp [dayP, this]
      have hb1 : ¬ M1 cm 6 ≤ (i : Int) := by omega
      refine u36_2 hK x1 ha hcm ⟨fun h => absurd h hb1, fun _ => ⟨hi6, fun h => ⟨hi6, hi6, stay ?_⟩, fun h => ⟨hi6, fun h2 => ⟨hi6, hi6, stay ?_⟩, fun h2 => ⟨hi6, c, dayP c L s rain i, L, l, i, ⟨rfl, ⟨hc.i hcm ha f1, hw, l1, dayP_w hlw⟩, hL.i hcm ha f1, hin⟩, fun M2 x2 f2 => ⟨hi6, hi6, hi6, ?_⟩⟩⟩⟩⟩
      · rw [Int.toNat_natCast, v0'] at h
        unfold whN; rw [if_pos h]; omega
      · rw [Int.toNat_natCast, v1'] at h2; omega
      · rw [dayP_wh]
        have ev : jmax 0 (w32 (M1 (a + 1) (Int.toNat (i : Int)) - whN c s L i rain)) = max 0 (s 1 i - whN c s L i rain) := by
          rw [Int.toNat_natCast, v1', w32_id (by omega), jmax_eq]
        rw [ev]
        have f2' : FrI a M M2 := f1.tr f2.I
        have rd : ∀ b k', a ≤ b → b ≤ a + 4 → M2 b k' = M1 b k' := fun b k' h1 h2 => f2 b k' (by unfold scL; omega)
        refine fin (mset M2 (a + 1) (Int.toNat (i : Int)) (max 0 (s 1 i - whN c s L i rain))) (x2.set (nfa (q3_0 ha) _)) (f2'.up (by omega)) (fun q hq => ?_) ?_ ?_
        · obtain ⟨u0, u1, u2, u3⟩ := l1.1 q hq
          rw [Int.toNat_natCast]
          refine ⟨?_, ?_, fun hqi => ⟨?_, ?_⟩⟩
          · rw [ms_na (by omega), rd _ _ (by omega) (by omega)]; simpa [dayP] using u0
          · by_cases hqi : q = i
            · subst hqi; rw [ms_eq]; simp [dayP, dayS]
            · have : (q < i + 1) ↔ q < i := by omega
              rw [ms_nk hqi, rd _ _ (by omega) (by omega), u1]; simp [dayP, this]
          · rw [ms_na (by omega), rd _ _ (by omega) (by omega), u2]
          · rw [ms_na (by omega), rd _ _ (by omega) (by omega), u3]
        · rw [ms_na (by omega), rd _ _ (by omega) (by omega)]; exact e4
        · rw [ms_na (by omega), rd _ _ (by omega) (by omega)]; exact e5
  refine loop (nSt c) 0 (by omega) M hX FrI.rf ?_
  have : dayP c L s rain 0 = s := by funext b p; simp [dayP]
  rw [this]; exact hl
theorem g35 {cell : Int} (hK : K.1 = 923) (hX : FX M) (ha : isO 923 a 3 = true) (hcm : isO 923 cm 0 = true) (h : SKc M cm a c s) (k : ∀ M', FX M' → (FrI a M M' ∧ LK M' a c (digS c s cell)) → Q (.inl (some (vI (bI (lyOn c s cell ≠ -1))))) M' K) : Wm (d + 1) 35 [vR a, vR cm, vI cell] M K Q := by
  have hs := h
  obtain ⟨hc, hw, hl, hlw⟩ := hs
  have hn := hw.n.1
  refine u35_0 hK hX ha hcm ⟨c, s, h, fun hne => ?_, fun he => ?_⟩
  · rcases lyOn_rg (c := c) (s := s) (cell := cell) with h9 | ⟨p, h9, hp, -⟩
    · exact absurd h9 hne
    · obtain ⟨-, f1, -⟩ := hl.1 p hp
      obtain ⟨-, w1', -⟩ := hlw.1 p hp
      rw [bI_t hne] at k
      have hdig : digS c s cell = mset s 1 p (min 99 (s 1 p + 5)) := by
        unfold digS; rw [if_neg hne, h9, Int.toNat_natCast]
      rw [hdig] at k
      have hb : 0 ≤ (p : Int) ∧ (p : Int) < 6 := by omega
      have ev : jmin 99 (w32 (M (a + 1) p + 5)) = min 99 (s 1 p + 5) := by rw [f1, w32_id (by omega), jmin_eq]
      rw [h9, Int.toNat_natCast, ev]
      refine ⟨hb, hb, k _ (hX.set (nfa (q3_0 ha) _)) ⟨FrI.rf.up (by omega), hl.set1 (b := 1) (by decide)⟩⟩
  · rw [bI_f (fun h => h he)] at k
    have hdig : digS c s cell = s := by unfold digS; rw [if_pos he]
    rw [hdig] at k
    exact k M hX ⟨FrI.rf, hl⟩
end DY
