/-! the model counts by its law -/
theorem u187_0 {d : Nat} {l0 : Int} {l1 : Int} {l2 : Int} {M : Mem} {K : KK} {Q : RR → Mem → KK → Prop} (hK : K.1 = 923) (hX : FX M)  (h : (l0 = (2 : Int) → Q (.inl (some (vI (w32 (l1 + l2))))) M K) ∧ (l0 = (3 : Int) → Q (.inl (some (vI (w32 (l1 - l2))))) M K) ∧ (l0 = (4 : Int) → Q (.inl (some (vI (w32 (l1 * l2))))) M K) ∧ (l0 = (5 : Int) → (¬ l2 = (0 : Int) → (¬ l2 = (-1 : Int) → l2 ≠ 0 ∧ Q (.inl (some (vI (w32 (Int.tdiv l1 l2))))) M K) ∧ (l2 = (-1 : Int) → Q (.inl (some (vI (w32 (-l1))))) M K)) ∧ (l2 = (0 : Int) → Q (.inl (some (vI (0 : Int)))) M K)) ∧ (l0 = (6 : Int) → (l2 = (0 : Int) → Q (.inl (some (vI (0 : Int)))) M K) ∧ (¬ (l2 = (0 : Int)) → (¬ l2 = (-1 : Int) → l2 ≠ 0 ∧ Q (.inl (some (vI (Int.tmod l1 l2)))) M K) ∧ (l2 = (-1 : Int) → Q (.inl (some (vI (0 : Int)))) M K))) ∧ (l0 = (7 : Int) → Q (.inl (some (vI (min l1 l2)))) M K) ∧ (l0 < (2 : Int) ∨ (7 : Int) < l0 → Q (.inl (some (vI (max l1 l2)))) M K)) : Wp (d + 1) 187 0 [vI l0, vI l1, vI l2] [] M K Q := by
  refine r_iload_n c187_0 rfl ?_
  refine r_tsw c187_1 ?_
  by_cases hv0 : l0 = (2 : Int)
  · rw [show tsw 1 96 2 7 #[39, 43, 47, 51, 73, 90] l0 = 40 from by rw [hv0]; decide]
    replace h := h.1 hv0
    refine r_iload_n c187_40 rfl ?_
    refine r_iload_n c187_41 rfl ?_
    refine r_iadd c187_42 ?_
    exact r_iret c187_43 (Or.inl rfl) h
  by_cases hv1 : l0 = (3 : Int)
  · rw [show tsw 1 96 2 7 #[39, 43, 47, 51, 73, 90] l0 = 44 from by rw [hv1]; decide]
    replace h := h.2.1 hv1
    refine r_iload_n c187_44 rfl ?_
    refine r_iload_n c187_45 rfl ?_
    refine r_isub c187_46 ?_
    exact r_iret c187_47 (Or.inl rfl) h
  by_cases hv2 : l0 = (4 : Int)
  · rw [show tsw 1 96 2 7 #[39, 43, 47, 51, 73, 90] l0 = 48 from by rw [hv2]; decide]
    replace h := h.2.2.1 hv2
    refine r_iload_n c187_48 rfl ?_
    refine r_iload_n c187_49 rfl ?_
    refine r_imul c187_50 ?_
    exact r_iret c187_51 (Or.inl rfl) h
  by_cases hv3 : l0 = (5 : Int)
  · rw [show tsw 1 96 2 7 #[39, 43, 47, 51, 73, 90] l0 = 52 from by rw [hv3]; decide]
    replace h := h.2.2.2.1 hv3
    refine r_iload_n c187_52 rfl ?_
    refine r_ifP (P := ¬ l2 = (0 : Int)) c187_53 rfl (fun hc1 => ?_) (fun hc1 => ?_)
    · replace h := h.1 hc1
      refine r_iload_n c187_60 rfl ?_
      refine r_iconst c187_61 ?_
      refine r_icmpP (P := ¬ l2 = (-1 : Int)) c187_62 rfl (fun hc3 => ?_) (fun hc3 => ?_)
      · replace h := h.1 hc3
        refine r_iload_n c187_70 rfl ?_
        refine r_iload_n c187_71 rfl ?_
        obtain ⟨s5, h⟩ := h
        refine r_idiv c187_72 s5 ?_
        exact r_iret c187_73 (Or.inl rfl) h
      · have hc4 := Classical.not_not.mp hc3
        replace h := h.2 hc4
        refine r_iload_n c187_65 rfl ?_
        refine r_ineg c187_66 ?_
        refine r_goto c187_67 ?_
        exact r_iret c187_73 (Or.inl rfl) h
    · have hc2 := Classical.not_not.mp hc1
      replace h := h.2 hc2
      refine r_iconst c187_56 ?_
      refine r_goto c187_57 ?_
      exact r_iret c187_73 (Or.inl rfl) h
  by_cases hv4 : l0 = (6 : Int)
  · rw [show tsw 1 96 2 7 #[39, 43, 47, 51, 73, 90] l0 = 74 from by rw [hv4]; decide]
    replace h := h.2.2.2.2.1 hv4
    refine r_iload_n c187_74 rfl ?_
    refine r_ifP (P := l2 = (0 : Int)) c187_75 rfl (fun hc6 => ?_) (fun hc6 => ?_)
    · replace h := h.1 hc6
      refine r_iconst c187_83 ?_
      refine r_goto c187_84 ?_
      exact r_iret c187_90 (Or.inl rfl) h
    · replace h := h.2 hc6
      refine r_iload_n c187_78 rfl ?_
      refine r_iconst c187_79 ?_
      refine r_icmpP (P := ¬ l2 = (-1 : Int)) c187_80 rfl (fun hc7 => ?_) (fun hc7 => ?_)
      · replace h := h.1 hc7
        refine r_iload_n c187_87 rfl ?_
        refine r_iload_n c187_88 rfl ?_
        obtain ⟨s9, h⟩ := h
        refine r_irem c187_89 s9 ?_
        exact r_iret c187_90 (Or.inl rfl) h
      · have hc8 := Classical.not_not.mp hc7
        replace h := h.2 hc8
        refine r_iconst c187_83 ?_
        refine r_goto c187_84 ?_
        exact r_iret c187_90 (Or.inl rfl) h
  by_cases hv5 : l0 = (7 : Int)
  · rw [show tsw 1 96 2 7 #[39, 43, 47, 51, 73, 90] l0 = 91 from by rw [hv5]; decide]
    replace h := h.2.2.2.2.2.1 hv5
    refine r_iload_n c187_91 rfl ?_
    refine r_iload_n c187_92 rfl ?_
    refine r_call c187_93 rfl rfl (Nat.le_of_ble_eq_true rfl) (okc_s rfl rfl rfl) (g154 hK hX  (Bk_v ?_))
    exact r_iret c187_96 (Or.inl rfl) h
  have hvd : l0 < (2 : Int) ∨ (7 : Int) < l0 := by omega
  rw [show tsw 1 96 2 7 #[39, 43, 47, 51, 73, 90] l0 = 97 from by unfold tsw; rw [if_pos hvd]; decide]
  replace h := h.2.2.2.2.2.2 hvd
  refine r_iload_n c187_97 rfl ?_
  refine r_iload_n c187_98 rfl ?_
  refine r_call c187_99 rfl rfl (Nat.le_of_ble_eq_true rfl) (okc_s rfl rfl rfl) (g155 hK hX  (Bk_v ?_))
  exact r_iret c187_102 (Or.inl rfl) h
section BA
variable {d : Nat} {M : Mem} {K : KK} {Q : RR → Mem → KK → Prop}
theorem tdiv_m1 {a : Int} : a.tdiv (-1) = -a := by rw [Int.tdiv_neg, Int.tdiv_one]
theorem tmod_m1 {a : Int} : a.tmod (-1) = 0 := by rw [Int.tmod_neg, Int.tmod_one]
theorem g187 {c a b : Int} (hK : K.1 = 923) (hX : FX M) (h : 2 ≤ c ∧ c ≤ 8) (k : Q (.inl (some (vI (opV c a b)))) M K) : Wm (d + 1) 187 [vI c, vI a, vI b] M K Q := by
  refine u187_0 hK hX ⟨fun e => ?_, fun e => ?_, fun e => ?_, fun e => ⟨fun hb => ⟨fun h1 => ⟨hb, ?_⟩, fun h1 => ?_⟩, fun hb => ?_⟩, fun e => ⟨fun hb => ?_, fun hb => ⟨fun h1 => ⟨hb, ?_⟩, fun h1 => ?_⟩⟩, fun e => ?_, fun e => ?_⟩
  · subst e; exact k
  · subst e; exact k
  · subst e; exact k
  · subst e; simp only [opV] at k; rw [if_neg hb] at k; exact k
  · subst e; subst h1; simp only [opV, tdiv_m1] at k; exact k
  · subst e; subst hb; exact k
  · subst e; subst hb; exact k
  · subst e; rw [show opV 6 a b = a.tmod b from by simp [opV, hb]] at k; exact k
  · subst e; subst h1; simp only [opV, tmod_m1] at k; exact k
  · subst e; exact k
  · have : c = 8 := by omega
    subst this; exact k
end BA
theorem u188_0 {d : Nat}  {M : Mem} {K : KK} {Q : RR → Mem → KK → Prop} (hK : K.1 = 923) (hX : FX M)  (h : (max (1 : Int) (M 806 1)) ≠ 0 ∧ Wp (d + 2) 188 43 [vR 440, vI (0 : Int), vI (0 : Int)] [] (mset M 805 0 (w32 ((w32 ((w32 (Int.tdiv (M 806 0) (max (1 : Int) (M 806 1)))) + (M 806 3))) + (w32 ((2 : Int) * (M 806 4)))))) K Q) : Wp (d + 2) 188 0 [vR 440, vU, vU] [] M K Q := by
  refine r_iconst c188_0 ?_
  refine r_istore_n c188_1 (Nat.le_of_ble_eq_true rfl) ?_
  refine r_aload_n c188_2 rfl ?_
  refine r_getR c188_3 (oK hK o440) (FX.get (b := 805) hX (by decide) (by decide +kernel) (by decide)) (by decide) ?_
  refine r_iconst c188_6 ?_
  refine r_aload_n c188_7 rfl ?_
  refine r_getR c188_8 (oK hK o440) (FX.get (b := 806) hX (by decide) (by decide +kernel) (by decide)) (by decide) ?_
  refine r_iconst c188_11 ?_
  refine r_iae c188_12 (oK hK o806) (bd l806 (by decide)) rfl ?_
  refine r_iconst c188_13 ?_
  refine r_aload_n c188_14 rfl ?_
  refine r_getR c188_15 (oK hK o440) (FX.get (b := 806) hX (by decide) (by decide +kernel) (by decide)) (by decide) ?_
  refine r_iconst c188_18 ?_
  refine r_iae c188_19 (oK hK o806) (bd l806 (by decide)) rfl ?_
  refine r_call c188_20 rfl rfl (Nat.le_of_ble_eq_true rfl) (okc_s rfl rfl rfl) (g155 hK hX  (Bk_v ?_))
  obtain ⟨s1, h⟩ := h
  refine r_idiv c188_23 s1 ?_
  refine r_aload_n c188_24 rfl ?_
  refine r_getR c188_25 (oK hK o440) (FX.get (b := 806) hX (by decide) (by decide +kernel) (by decide)) (by decide) ?_
  refine r_iconst c188_28 ?_
  refine r_iae c188_29 (oK hK o806) (bd l806 (by decide)) rfl ?_
  refine r_iadd c188_30 ?_
  refine r_iconst c188_31 ?_
  refine r_aload_n c188_32 rfl ?_
  refine r_getR c188_33 (oK hK o440) (FX.get (b := 806) hX (by decide) (by decide +kernel) (by decide)) (by decide) ?_
  refine r_iconst c188_36 ?_
  refine r_iae c188_37 (oK hK o806) (bd l806 (by decide)) rfl ?_
  refine r_imul c188_38 ?_
  refine r_iadd c188_39 ?_
  refine r_ias c188_40 (oK hK o805) (bd l805 (by decide)) ?_
  have x2 := FX.set (v := (w32 ((w32 ((w32 (Int.tdiv (M 806 0) (max (1 : Int) (M 806 1)))) + (M 806 3))) + (w32 ((2 : Int) * (M 806 4)))))) (a := 805) (k := 0) hX (nfa o805 _)
  refine r_iconst c188_41 ?_
  refine r_istore_n c188_42 (Nat.le_of_ble_eq_true rfl) ?_
  exact h
theorem u188_43 {d : Nat} {l1 : Int} {l2 : Int} {M : Mem} {K : KK} {Q : RR → Mem → KK → Prop} (hK : K.1 = 923) (hX : FX M)  (h : ((M 440 21) ≤ l2 → Q (.inl (some (vI (min (99 : Int) (max (0 : Int) (M 805 0)))))) M K) ∧ (¬ ((M 440 21) ≤ l2) → (0 ≤ l2 ∧ l2 < (160 : Int)) ∧ ((2 : Int) ≤ (M (466 + Int.toNat l2) 0) → (0 ≤ l2 ∧ l2 < (160 : Int)) ∧ (0 ≤ (w32 ((w32 (l1 + (-1))) - (1 : Int))) ∧ (w32 ((w32 (l1 + (-1))) - (1 : Int))) < (160 : Int)) ∧ (0 ≤ (w32 (l1 + (-1))) ∧ (w32 (l1 + (-1))) < (160 : Int)) ∧ (2 ≤ (M (466 + Int.toNat l2) 0) ∧ (M (466 + Int.toNat l2) 0) ≤ 8) ∧ (0 ≤ (w32 ((w32 (l1 + (-1))) - (1 : Int))) ∧ (w32 ((w32 (l1 + (-1))) - (1 : Int))) < (160 : Int)) ∧ Wp (d + 2) 188 43 [vR 440, vI (w32 (l1 + (-1))), vI (w32 (l2 + 1))] [] (mset M 805 (Int.toNat (w32 ((w32 (l1 + (-1))) - (1 : Int)))) (opV (M (466 + Int.toNat l2) 0) (M 805 (Int.toNat (w32 ((w32 (l1 + (-1))) - (1 : Int))))) (M 805 (Int.toNat (w32 (l1 + (-1))))))) K Q) ∧ (¬ ((2 : Int) ≤ (M (466 + Int.toNat l2) 0)) → (0 ≤ l2 ∧ l2 < (160 : Int)) ∧ (¬ (M (466 + Int.toNat l2) 0) = (0 : Int) → (0 ≤ l2 ∧ l2 < (160 : Int)) ∧ (0 ≤ (M (466 + Int.toNat l2) 1) ∧ (M (466 + Int.toNat l2) 1) < (8 : Int)) ∧ (0 ≤ l1 ∧ l1 < (160 : Int)) ∧ Wp (d + 2) 188 43 [vR 440, vI (w32 (l1 + 1)), vI (w32 (l2 + 1))] [] (mset M 805 (Int.toNat l1) (M 806 (Int.toNat (M (466 + Int.toNat l2) 1)))) K Q) ∧ ((M (466 + Int.toNat l2) 0) = (0 : Int) → (0 ≤ l2 ∧ l2 < (160 : Int)) ∧ (0 ≤ l1 ∧ l1 < (160 : Int)) ∧ Wp (d + 2) 188 43 [vR 440, vI (w32 (l1 + 1)), vI (w32 (l2 + 1))] [] (mset M 805 (Int.toNat l1) (M (466 + Int.toNat l2) 1)) K Q)))) : Wp (d + 2) 188 43 [vR 440, vI l1, vI l2] [] M K Q := by
  refine r_iload_n c188_43 rfl ?_
  refine r_aload_n c188_44 rfl ?_
  refine r_getIe c188_45 (oK hK o440) rfl ?_
  refine r_icmpP (P := (M 440 21) ≤ l2) c188_48 rfl (fun hc1 => ?_) (fun hc1 => ?_)
  · replace h := h.1 hc1
    refine r_bipush c188_152 ?_
    refine r_iconst c188_154 ?_
    refine r_aload_n c188_155 rfl ?_
    refine r_getR c188_156 (oK hK o440) (FX.get (b := 805) hX (by decide) (by decide +kernel) (by decide)) (by decide) ?_
    refine r_iconst c188_159 ?_
    refine r_iae c188_160 (oK hK o805) (bd l805 (by decide)) rfl ?_
    refine r_call c188_161 rfl rfl (Nat.le_of_ble_eq_true rfl) (okc_s rfl rfl rfl) (g155 hK hX  (Bk_v ?_))
    refine r_call c188_164 rfl rfl (Nat.le_of_ble_eq_true rfl) (okc_s rfl rfl rfl) (g154 hK hX  (Bk_v ?_))
    exact r_iret c188_167 (Or.inl rfl) h
  · replace h := h.2 hc1
    refine r_aload_n c188_51 rfl ?_
    refine r_getR c188_52 (oK hK o440) (FX.get (b := 465) hX (by decide) (by decide +kernel) (by decide)) (by decide) ?_
    refine r_iload_n c188_55 rfl ?_
    obtain ⟨s2, h⟩ := h
    refine r_aa c188_56 (mrw o465 hK) (bd l465 s2) (rf465 hX s2) (by omega) ?_
    refine r_iconst c188_57 ?_
    refine r_iae c188_58 (oK hK (ro465 s2)) (bd (rz465 s2) (by decide)) rfl ?_
    refine r_iconst c188_59 ?_
    refine r_icmpP (P := (2 : Int) ≤ (M (466 + Int.toNat l2) 0)) c188_60 rfl (fun hc3 => ?_) (fun hc3 => ?_)
    · replace h := h.1 hc3
      refine r_iinc c188_110 rfl ?_
      refine r_aload_n c188_113 rfl ?_
      refine r_getR c188_114 (oK hK o440) (FX.get (b := 805) hX (by decide) (by decide +kernel) (by decide)) (by decide) ?_
      refine r_iload_n c188_117 rfl ?_
      refine r_iconst c188_118 ?_
      refine r_isub c188_119 ?_
      refine r_aload_n c188_120 rfl ?_
      refine r_getR c188_121 (oK hK o440) (FX.get (b := 465) hX (by decide) (by decide +kernel) (by decide)) (by decide) ?_
      refine r_iload_n c188_124 rfl ?_
      obtain ⟨s4, h⟩ := h
      refine r_aa c188_125 (mrw o465 hK) (bd l465 s4) (rf465 hX s4) (by omega) ?_
      refine r_iconst c188_126 ?_
      refine r_iae c188_127 (oK hK (ro465 s4)) (bd (rz465 s4) (by decide)) rfl ?_
      refine r_aload_n c188_128 rfl ?_
      refine r_getR c188_129 (oK hK o440) (FX.get (b := 805) hX (by decide) (by decide +kernel) (by decide)) (by decide) ?_
      refine r_iload_n c188_132 rfl ?_
      refine r_iconst c188_133 ?_
      refine r_isub c188_134 ?_
      obtain ⟨s5, h⟩ := h
      refine r_iae c188_135 (oK hK o805) (bd l805 s5) rfl ?_
      refine r_aload_n c188_136 rfl ?_
      refine r_getR c188_137 (oK hK o440) (FX.get (b := 805) hX (by decide) (by decide +kernel) (by decide)) (by decide) ?_
      refine r_iload_n c188_140 rfl ?_
      obtain ⟨s6, h⟩ := h
      refine r_iae c188_141 (oK hK o805) (bd l805 s6) rfl ?_
      obtain ⟨p7, h⟩ := h
      refine r_call c188_142 rfl rfl (Nat.le_of_ble_eq_true rfl) (okc_s rfl rfl rfl) (g187 hK hX p7 (Bk_v ?_))
      obtain ⟨s8, h⟩ := h
      refine r_ias c188_145 (oK hK o805) (bd l805 s8) ?_
      have x9 := FX.set (v := (opV (M (466 + Int.toNat l2) 0) (M 805 (Int.toNat (w32 ((w32 (l1 + (-1))) - (1 : Int))))) (M 805 (Int.toNat (w32 (l1 + (-1))))))) (a := 805) (k := (Int.toNat (w32 ((w32 (l1 + (-1))) - (1 : Int))))) hX (nfa o805 _)
      refine r_iinc c188_146 rfl ?_
      refine r_goto c188_149 ?_
      exact h
    · replace h := h.2 hc3
      refine r_aload_n c188_63 rfl ?_
      refine r_getR c188_64 (oK hK o440) (FX.get (b := 805) hX (by decide) (by decide +kernel) (by decide)) (by decide) ?_
      refine r_iload_n c188_67 rfl ?_
      refine r_aload_n c188_68 rfl ?_
      refine r_getR c188_69 (oK hK o440) (FX.get (b := 465) hX (by decide) (by decide +kernel) (by decide)) (by decide) ?_
      refine r_iload_n c188_72 rfl ?_
      obtain ⟨s10, h⟩ := h
      refine r_aa c188_73 (mrw o465 hK) (bd l465 s10) (rf465 hX s10) (by omega) ?_
      refine r_iconst c188_74 ?_
      refine r_iae c188_75 (oK hK (ro465 s10)) (bd (rz465 s10) (by decide)) rfl ?_
      refine r_ifP (P := ¬ (M (466 + Int.toNat l2) 0) = (0 : Int)) c188_76 rfl (fun hc11 => ?_) (fun hc11 => ?_)
      · replace h := h.1 hc11
        refine r_aload_n c188_90 rfl ?_
        refine r_getR c188_91 (oK hK o440) (FX.get (b := 806) hX (by decide) (by decide +kernel) (by decide)) (by decide) ?_
        refine r_aload_n c188_94 rfl ?_
        refine r_getR c188_95 (oK hK o440) (FX.get (b := 465) hX (by decide) (by decide +kernel) (by decide)) (by decide) ?_
        refine r_iload_n c188_98 rfl ?_
        obtain ⟨s13, h⟩ := h
        refine r_aa c188_99 (mrw o465 hK) (bd l465 s13) (rf465 hX s13) (by omega) ?_
        refine r_iconst c188_100 ?_
        refine r_iae c188_101 (oK hK (ro465 s13)) (bd (rz465 s13) (by decide)) rfl ?_
        obtain ⟨s14, h⟩ := h
        refine r_iae c188_102 (oK hK o806) (bd l806 s14) rfl ?_
        obtain ⟨s15, h⟩ := h
        refine r_ias c188_103 (oK hK o805) (bd l805 s15) ?_
        have x16 := FX.set (v := (M 806 (Int.toNat (M (466 + Int.toNat l2) 1)))) (a := 805) (k := (Int.toNat l1)) hX (nfa o805 _)
        refine r_iinc c188_104 rfl ?_
        refine r_goto c188_107 ?_
        refine r_iinc c188_146 rfl ?_
        refine r_goto c188_149 ?_
        exact h
      · have hc12 := Classical.not_not.mp hc11
        replace h := h.2 hc12
        refine r_aload_n c188_79 rfl ?_
        refine r_getR c188_80 (oK hK o440) (FX.get (b := 465) hX (by decide) (by decide +kernel) (by decide)) (by decide) ?_
        refine r_iload_n c188_83 rfl ?_
        obtain ⟨s17, h⟩ := h
        refine r_aa c188_84 (mrw o465 hK) (bd l465 s17) (rf465 hX s17) (by omega) ?_
        refine r_iconst c188_85 ?_
        refine r_iae c188_86 (oK hK (ro465 s17)) (bd (rz465 s17) (by decide)) rfl ?_
        refine r_goto c188_87 ?_
        obtain ⟨s18, h⟩ := h
        refine r_ias c188_103 (oK hK o805) (bd l805 s18) ?_
        have x19 := FX.set (v := (M (466 + Int.toNat l2) 1)) (a := 805) (k := (Int.toNat l1)) hX (nfa o805 _)
        refine r_iinc c188_104 rfl ?_
        refine r_goto c188_107 ?_
        refine r_iinc c188_146 rfl ?_
        refine r_goto c188_149 ?_
        exact h
/-- the model's law in force -/
def LM (M : Mem) (L : LC) : Prop := M 440 21 = (L.length : Int) ∧ L.length ≤ 150 ∧ (∀ i, i < L.length → M (466 + i) 0 = (L.getD i (0, 0)).1 ∧ M (466 + i) 1 = (L.getD i (0, 0)).2) ∧ (L = [] ∨ Vd L 0 1)
/-- only the array a has changed -/
def Fr1 (a : Nat) (M M' : Mem) : Prop := ∀ b k, b ≠ a → M' b k = M b k
theorem Fr1.up {a : Nat} {M M1 : Mem} {i : Nat} {v : Int} (h : Fr1 a M M1) : Fr1 a M (mset M1 a i v) := by
  intro b k h1
  unfold mset
  rw [if_neg (fun q => h1 q.1)]
  exact h b k h1
theorem Fr1.fx {a : Nat} {M M' : Mem} (ha : isO 923 a 20 = true) (h : Fr1 a M M') (hX : FX M) : FX M' := hX.fr (fun b k hk => h b k (by
  rintro rfl
  have := nfa ha k
  omega))
section BB
variable {d : Nat} {M : Mem} {K : KK} {Q : RR → Mem → KK → Prop}
theorem clmp_mm {v : Int} : min (99 : Int) (max 0 v) = clmp v := by unfold clmp; omega
theorem g188 {L : LC} (hK : K.1 = 923) (hX : FX M) (h : LM M L ∧ 1 ≤ M 806 1) (k : ∀ M', FX M' → Fr1 805 M M' → Q (.inl (some (vI (wh (M 806) L)))) M' K) : Wm (d + 2) 188 [vR 440] M K Q := by
  obtain ⟨⟨hc1, hc2, hc3, hv⟩, hy⟩ := h
  refine u188_0 hK hX ⟨by omega, ?_⟩
  have f0 : Fr1 805 M (mset M 805 0 (w32 (w32 (w32 (Int.tdiv (M 806 0) (max 1 (M 806 1))) + M 806 3) + w32 (2 * M 806 4)))) := Fr1.up (fun _ _ _ => rfl)
  have x0 := f0.fx o805 hX
  rcases hv with rfl | hv
  · -- without a law
    refine u188_43 hK x0 ⟨fun _ => ?_, fun h => ?_⟩
    · have kk := k _ x0 f0
      rw [clmp_mm, ms_eq]
      have e : wh (M 806) [] = clmp (w32 (w32 (w32 (Int.tdiv (M 806 0) (max 1 (M 806 1))) + M 806 3) + w32 (2 * M 806 4))) := by
        have hm : max 1 (M 806 1) = M 806 1 := by omega
        have hz : ¬ M 806 1 = 0 := by omega
        simp [wh, eff, PL, evA, ex, opV, hm, hz, Int.mul_comm]
      rwa [e] at kk
    · rw [f0 440 21 (by decide), hc1] at h; exact absurd (Int.le_refl _) h
  · have hne : L ≠ [] := by rintro rfl; simp [Vd] at hv
    have e9 : eff L = L := by unfold eff; rw [if_neg hne]
    have key : ∀ (R P : LC) (M1 : Mem), L = P ++ R → Fr1 805 M M1 → Vd R (evA (M 806) P).1 1 → (evA (M 806) P).1 ≤ P.length → (∀ j, j < (evA (M 806) P).1 → M1 805 j = (evA (M 806) P).2 j) → Wp (d + 2) 188 43 [vR 440, vI ((evA (M 806) P).1 : Int), vI (P.length : Int)] [] M1 K Q := by
      intro R
      induction R with
      | nil =>
        intro P M1 hL hf hd ht hs
        have hx1 := hf.fx o805 hX
        simp only [List.append_nil] at hL
        subst hL
        simp only [Vd] at hd
        have e3 : M1 440 21 = (L.length : Int) := (hf 440 21 (by omega)).trans hc1
        refine u188_43 hK hx1 ⟨fun _ => ?_, fun hlt => by omega⟩
        have := k M1 hx1 hf
        rw [hs 0 (by omega), clmp_mm]
        simp only [wh, e9] at this; exact this
      | cons c R ih =>
        intro P M1 hL hf hd ht hs
        have hx1 := hf.fx o805 hX
        have hlen : L.length = P.length + (R.length + 1) := by rw [hL]; simp
        have e3 : M1 440 21 = (L.length : Int) := (hf 440 21 (by omega)).trans hc1
        have hci := hc3 P.length (by omega)
        have hcc : L.getD P.length (0, 0) = c := by rw [hL]; exact getD_mid
        rw [hcc] at hci
        have c0 : M1 (466 + Int.toNat (P.length : Int)) 0 = c.1 := by rw [Int.toNat_natCast, hf _ _ (by omega)]; exact hci.1
        have c1 : M1 (466 + Int.toNat (P.length : Int)) 1 = c.2 := by rw [Int.toNat_natCast, hf _ _ (by omega)]; exact hci.2
        simp only [Vd] at hd
        obtain ⟨hko, hd⟩ := hd
        have ih' := fun M1 => ih (P ++ [c]) M1 (by rw [hL]; simp)
        rw [evA_snoc] at ih'
        simp only [List.length_append, List.length_cons, List.length_nil] at ih'
        by_cases hk2 : c.1 < 2
        · rw [if_pos hk2] at hd
          simp only [ex, if_pos hk2] at ih'
          have hup : ∀ v, v = (if c.1 = 0 then c.2 else M 806 c.2.toNat) → Wp (d + 2) 188 43 [vR 440, vI (((evA (M 806) P).1 + 1 : Nat) : Int), vI ((P.length + 1 : Nat) : Int)] [] (mset M1 805 (evA (M 806) P).1 v) K Q := by
            intro v hv
            refine ih' _ hf.up hd (by omega) (fun j hj => ?_)
            by_cases hjj : j = (evA (M 806) P).1
            · subst hjj; rw [if_pos rfl, ms_eq]; exact hv
            · rw [if_neg hjj, ms_nk hjj]; exact hs j (by omega)
          refine u188_43 hK hx1 ⟨fun hge => by omega, fun hlt => ⟨by omega, fun h2 => by rw [c0] at h2; omega, fun _ => ⟨by omega, fun hne0 => ⟨by omega, ?_, by omega, ?_⟩, fun he0 => ⟨by omega, by omega, ?_⟩⟩⟩⟩
          · rw [c1]; rw [c0] at hne0
            rcases hko with h | h | h <;> omega
          · rw [w1 (by omega), w1 (by omega), c1, Int.toNat_natCast]
            rw [c0] at hne0
            refine hup _ ?_
            rw [if_neg hne0]; exact hf _ _ (by decide)
          · rw [w1 (by omega), w1 (by omega), c1, Int.toNat_natCast]
            rw [c0] at he0
            exact hup _ (by rw [if_pos he0])
        · rw [if_neg hk2] at hd
          simp only [ex, if_neg hk2] at ih'
          obtain ⟨h2, hd⟩ := hd
          have hk : 2 ≤ c.1 ∧ c.1 ≤ 8 := by rcases hko with h | h | h <;> omega
          have e1 : w32 (((evA (M 806) P).1 : Int) + -1) = (((evA (M 806) P).1 - 1 : Nat) : Int) := by rw [w32_id (by omega)]; omega
          have e2 : w32 ((((evA (M 806) P).1 - 1 : Nat) : Int) - 1) = (((evA (M 806) P).1 - 2 : Nat) : Int) := by rw [w32_id (by omega)]; omega
          refine u188_43 hK hx1 ⟨fun hge => by omega, fun hlt => ⟨by omega, fun _ => ⟨by omega, ?_, ?_, ?_, ?_, ?_⟩, fun hno => by rw [c0] at hno; omega⟩⟩
          · rw [e1, e2]; omega
          · rw [e1]; omega
          · rw [c0]; exact hk
          · rw [e1, e2]; omega
          · rw [e1, e2, w1 (by omega), c0]
            simp only [Int.toNat_natCast]
            refine ih' _ hf.up hd (by omega) (fun j hj => ?_)
            by_cases hjj : j = (evA (M 806) P).1 - 2
            · subst hjj
              rw [if_pos rfl, ms_eq, hs _ (by omega), hs _ (by omega)]
            · rw [if_neg hjj, ms_nk hjj]; exact hs j (by omega)
    exact key L [] _ rfl f0 hv (Nat.le_refl _) (fun j hj => by simp [evA] at hj)
end BB
