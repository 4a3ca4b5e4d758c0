theorem u202_0 {d : Nat} {l1 : Int} {M : Mem} {K : KK} {Q : RR → Mem → KK → Prop} (hK : K.1 = 923) (hX : FX M)  (h : (¬ ((0 : Int) ≤ l1 ∧ l1 ≤ (M 440 1)) → (∀ (M6 : Mem), FX M6 → BadM 1 1 (mset M 440 0 (0 : Int)) M6 → Q (.inl (some (vI (0 : Int)))) M6 K)) ∧ (((0 : Int) ≤ l1 ∧ l1 ≤ (M 440 1)) → (l1 ≤ (150 : Int) → (¬ (M 440 36) = (16 : Int) → ∃ n10 : Nat, (l1 = (n10 : Int) ∧ n10 ≤ 600) ∧ (∀ (M14 : Mem), FX M14 → (FrS (mset M 440 0 (0 : Int)) M14 ∧ TM ((mset M 440 0 (0 : Int)) 441) n10 M14 (.inl (sk ((mset M 440 0 (0 : Int)) 441) n10 0)) ∧ AtM M14 (.inl (sk ((mset M 440 0 (0 : Int)) 441) n10 0)) ∧ M14 440 1 = 0 ∧ M14 440 7 = 0 ∧ M14 440 8 = 0) → Wp (d + 3) 202 72 [vR 440, vI l1] [] (mset M14 440 30 (0 : Int)) K Q)) ∧ ((M 440 36) = (16 : Int) → Q (.inl (some (vI (-20 : Int)))) (mset (mset (mset M 440 0 (0 : Int)) 440 1 (0 : Int)) 440 3 (-1 : Int)) K)) ∧ (¬ (l1 ≤ (150 : Int)) → (∀ (M20 : Mem), FX M20 → BadM 1 1 (mset M 440 0 (0 : Int)) M20 → Q (.inl (some (vI (0 : Int)))) M20 K)))) : Wp (d + 3) 202 0 [vR 440, vI l1] [] M K Q := by
  refine r_aload_n c202_0 rfl ?_
  refine r_iconst c202_1 ?_
  refine r_putI c202_2 (oK hK o440) ?_
  have x1 := FX.set (v := (0 : Int)) (a := 440) (k := 0) hX (by decide +kernel)
  refine r_aload_n c202_5 rfl ?_
  refine r_iload_n c202_6 rfl ?_
  refine r_iconst c202_7 ?_
  refine r_aload_n c202_8 rfl ?_
  refine r_getIe c202_9 (oK hK o440) (ms_nk (by decide)) ?_
  refine r_call c202_12 rfl rfl (Nat.le_of_ble_eq_true rfl) (okc_s rfl rfl rfl) (g153 hK x1  (Bk_v ?_))
  refine r_ifP (P := ¬ ((0 : Int) ≤ l1 ∧ l1 ≤ (M 440 1))) c202_15 bI_eq (fun hc2 => ?_) (fun hc2 => ?_)
  · replace h := h.1 hc2
    refine r_iconst c202_25 ?_
    refine r_goto c202_26 ?_
    refine r_iconst c202_30 ?_
    refine r_iconst c202_31 ?_
    refine r_call c202_32 rfl rfl (Nat.le_of_ble_eq_true rfl) (okc_r rfl rfl (oK hK o440)) (b152_1 (cd := 1) (ix := 1) hK x1 ms_eq (by decide) (by decide) (fun M6 x4 p5 => Bk_v ?_))
    replace h := h M6 x4 p5
    refine r_ifP (P := (1 : Int) = (0 : Int)) c202_35 rfl (fun hc => absurd hc (by decide)) (fun hc => ?_)
    refine r_iconst c202_38 ?_
    exact r_iret c202_39 (Or.inl rfl) h
  · have hc3 := Classical.not_not.mp hc2
    replace h := h.2 hc3
    refine r_iload_n c202_18 rfl ?_
    refine r_sipush c202_19 ?_
    refine r_icmpP (P := l1 ≤ (150 : Int)) c202_22 rfl (fun hc7 => ?_) (fun hc7 => ?_)
    · replace h := h.1 hc7
      refine r_iconst c202_29 ?_
      refine r_iconst c202_30 ?_
      refine r_iconst c202_31 ?_
      refine r_call c202_32 rfl rfl (Nat.le_of_ble_eq_true rfl) (okc_r rfl rfl (oK hK o440)) (b152_0 hK x1 ms_eq (Bk_v ?_))
      refine r_ifP (P := (0 : Int) = (0 : Int)) c202_35 rfl (fun hc => ?_) (fun hc => absurd (by decide) hc)
      refine r_aload_n c202_40 rfl ?_
      refine r_getIe c202_41 (oK hK o440) (ms_nk (by decide)) ?_
      refine r_bipush c202_44 ?_
      refine r_icmpP (P := ¬ (M 440 36) = (16 : Int)) c202_46 rfl (fun hc8 => ?_) (fun hc8 => ?_)
      · replace h := h.1 hc8
        refine r_aload_n c202_62 rfl ?_
        refine r_iload_n c202_63 rfl ?_
        obtain ⟨n10, h⟩ := h
        obtain ⟨p11, h⟩ := h
        refine r_call c202_64 rfl rfl (Nat.le_of_ble_eq_true rfl) (okc_r rfl rfl (oK hK o440)) (g171 hK x1 p11 (fun M14 x12 p13 => Bk_n ?_))
        replace h := h M14 x12 p13
        refine r_aload_n c202_67 rfl ?_
        refine r_iconst c202_68 ?_
        refine r_putI c202_69 (oK hK o440) ?_
        have x15 := FX.set (v := (0 : Int)) (a := 440) (k := 30) x12 (by decide +kernel)
        exact h
      · have hc9 := Classical.not_not.mp hc8
        replace h := h.2 hc9
        refine r_aload_n c202_49 rfl ?_
        refine r_iconst c202_50 ?_
        refine r_putI c202_51 (oK hK o440) ?_
        have x16 := FX.set (v := (0 : Int)) (a := 440) (k := 1) x1 (by decide +kernel)
        refine r_aload_n c202_54 rfl ?_
        refine r_iconst c202_55 ?_
        refine r_putI c202_56 (oK hK o440) ?_
        have x17 := FX.set (v := (-1 : Int)) (a := 440) (k := 3) x16 (by decide +kernel)
        refine r_bipush c202_59 ?_
        exact r_iret c202_61 (Or.inl rfl) h
    · replace h := h.2 hc7
      refine r_iconst c202_25 ?_
      refine r_goto c202_26 ?_
      refine r_iconst c202_30 ?_
      refine r_iconst c202_31 ?_
      refine r_call c202_32 rfl rfl (Nat.le_of_ble_eq_true rfl) (okc_r rfl rfl (oK hK o440)) (b152_1 (cd := 1) (ix := 1) hK x1 ms_eq (by decide) (by decide) (fun M20 x18 p19 => Bk_v ?_))
      replace h := h M20 x18 p19
      refine r_ifP (P := (1 : Int) = (0 : Int)) c202_35 rfl (fun hc => absurd hc (by decide)) (fun hc => ?_)
      refine r_iconst c202_38 ?_
      exact r_iret c202_39 (Or.inl rfl) h
theorem u202_72 {d : Nat} {l1 : Int} {M : Mem} {K : KK} {Q : RR → Mem → KK → Prop} (hK : K.1 = 923) (hX : FX M)  (h : (¬ (M 440 5) = (0 : Int) → Wm (d + 2) 172 [vR 440] M K (Bk (d + 2) 202 109 112 172 [vR 440, vI l1] [] Q)) ∧ ((M 440 5) = (0 : Int) → ((M 440 2) ≤ (M 440 4) → (0 ≤ (M 440 36) ∧ (M 440 36) < (16 : Int)) ∧ (isO 923 888 20 = true ∧ L27 888 ∧ isO 923 (891 + Int.toNat (M 440 36)) 20 = true ∧ L27 (891 + Int.toNat (M 440 36)) ∧ 888 ≠ (891 + Int.toNat (M 440 36))) ∧ (∀ (M9 : Mem), FX M9 → (Fr1 (891 + Int.toNat (M 440 36)) (mset M 440 3 (-1 : Int)) M9 ∧ ∀ j, j < 27 → M9 (891 + Int.toNat (M 440 36)) j = (mset M 440 3 (-1 : Int)) 888 j) → Wm (d + 2) 201 [vR 440, vI (0 : Int), vI (M9 440 30)] (mset (mset (mset (mset M9 440 36 (w32 ((M9 440 36) + (1 : Int)))) 440 40 (0 : Int)) 440 41 (0 : Int)) 440 37 (0 : Int)) K (Bk (d + 2) 202 165 168 201 [vR 440, vI l1] [] Q))) ∧ (¬ ((M 440 2) ≤ (M 440 4)) → Wm (d + 2) 190 [vR 440] M K (Bk (d + 2) 202 91 94 190 [vR 440, vI l1] [] Q)))) : Wp (d + 3) 202 72 [vR 440, vI l1] [] M K Q := by
  refine r_aload_n c202_72 rfl ?_
  refine r_getIe c202_73 (oK hK o440) rfl ?_
  refine r_ifP (P := ¬ (M 440 5) = (0 : Int)) c202_76 rfl (fun hc1 => ?_) (fun hc1 => ?_)
  · replace h := h.1 hc1
    refine r_aload_n c202_101 rfl ?_
    refine r_getIe c202_102 (oK hK o440) rfl ?_
    refine r_ifP (P := (M 440 5) = (0 : Int)) c202_105 rfl (fun hc => absurd hc hc1) (fun hc => ?_)
    refine r_aload_n c202_108 rfl ?_
    exact r_call c202_109 rfl rfl (Nat.le_of_ble_eq_true rfl) (okc_r rfl rfl (oK hK o440)) h
  · have hc2 := Classical.not_not.mp hc1
    replace h := h.2 hc2
    refine r_aload_n c202_79 rfl ?_
    refine r_getIe c202_80 (oK hK o440) rfl ?_
    refine r_aload_n c202_83 rfl ?_
    refine r_getIe c202_84 (oK hK o440) rfl ?_
    refine r_icmpP (P := (M 440 2) ≤ (M 440 4)) c202_87 rfl (fun hc3 => ?_) (fun hc3 => ?_)
    · replace h := h.1 hc3
      refine r_aload_n c202_101 rfl ?_
      refine r_getIe c202_102 (oK hK o440) rfl ?_
      refine r_ifP (P := (M 440 5) = (0 : Int)) c202_105 rfl (fun hc => ?_) (fun hc => absurd hc2 hc)
      refine r_aload_n c202_113 rfl ?_
      refine r_iconst c202_114 ?_
      refine r_putI c202_115 (oK hK o440) ?_
      have x4 := FX.set (v := (-1 : Int)) (a := 440) (k := 3) hX (by decide +kernel)
      refine r_aload_n c202_118 rfl ?_
      refine r_getR c202_119 (oK hK o440) (FX.get (b := 888) x4 (by decide) (by decide +kernel) (by decide)) (by decide) ?_
      refine r_aload_n c202_122 rfl ?_
      refine r_getR c202_123 (oK hK o440) (FX.get (b := 890) x4 (by decide) (by decide +kernel) (by decide)) (by decide) ?_
      refine r_aload_n c202_126 rfl ?_
      refine r_getIe c202_127 (oK hK o440) (ms_nk (by decide)) ?_
      obtain ⟨s5, h⟩ := h
      refine r_aa c202_130 (mrw o890 hK) (bd l890 s5) (rf890 x4 s5) (by omega) ?_
      obtain ⟨p6, h⟩ := h
      refine r_call c202_131 rfl rfl (Nat.le_of_ble_eq_true rfl) (okc_s rfl rfl rfl) (g178 hK x4 p6 (fun M9 x7 p8 => Bk_n ?_))
      replace h := h M9 x7 p8
      refine r_aload_n c202_134 rfl ?_
      refine r_dupr c202_135 ?_
      refine r_getIe c202_136 (oK hK o440) rfl ?_
      refine r_iconst c202_139 ?_
      refine r_iadd c202_140 ?_
      refine r_putI c202_141 (oK hK o440) ?_
      have x10 := FX.set (v := (w32 ((M9 440 36) + (1 : Int)))) (a := 440) (k := 36) x7 (by decide +kernel)
      refine r_aload_n c202_144 rfl ?_
      refine r_iconst c202_145 ?_
      refine r_putI c202_146 (oK hK o440) ?_
      have x11 := FX.set (v := (0 : Int)) (a := 440) (k := 40) x10 (by decide +kernel)
      refine r_aload_n c202_149 rfl ?_
      refine r_iconst c202_150 ?_
      refine r_putI c202_151 (oK hK o440) ?_
      have x12 := FX.set (v := (0 : Int)) (a := 440) (k := 41) x11 (by decide +kernel)
      refine r_aload_n c202_154 rfl ?_
      refine r_iconst c202_155 ?_
      refine r_putI c202_156 (oK hK o440) ?_
      have x13 := FX.set (v := (0 : Int)) (a := 440) (k := 37) x12 (by decide +kernel)
      refine r_aload_n c202_159 rfl ?_
      refine r_iconst c202_160 ?_
      refine r_aload_n c202_161 rfl ?_
      refine r_getIe c202_162 (oK hK o440) (Eq.trans (ms_nk (by decide)) (Eq.trans (ms_nk (by decide)) (Eq.trans (ms_nk (by decide)) (ms_nk (by decide))))) ?_
      exact r_call c202_165 rfl rfl (Nat.le_of_ble_eq_true rfl) (okc_r rfl rfl (oK hK o440)) h
    · replace h := h.2 hc3
      refine r_aload_n c202_90 rfl ?_
      exact r_call c202_91 rfl rfl (Nat.le_of_ble_eq_true rfl) (okc_r rfl rfl (oK hK o440)) h
theorem u202_94 {d : Nat} {l1 : Int} {M : Mem} {K : KK} {Q : RR → Mem → KK → Prop} (hK : K.1 = 923) (hX : FX M)  (h : ∃ B1 : BY, ∃ n2 : Nat, ∃ st3 : ST, TM B1 n2 M st3 ∧ (∀ (M7 : Mem), FX M7 → (FrM M M7 ∧ TM B1 n2 M7 st3 ∧ AtM M7 st3) → Wp (d + 3) 202 72 [vR 440, vI l1] [] M7 K Q)) : Wp (d + 3) 202 94 [vR 440, vI l1] [] M K Q := by
  refine r_aload_n c202_94 rfl ?_
  obtain ⟨B1, h⟩ := h
  obtain ⟨n2, h⟩ := h
  obtain ⟨st3, h⟩ := h
  obtain ⟨p4, h⟩ := h
  refine r_call c202_95 rfl rfl (Nat.le_of_ble_eq_true rfl) (okc_r rfl rfl (oK hK o440)) (g159 hK hX p4 (fun M7 x5 p6 => Bk_n ?_))
  replace h := h M7 x5 p6
  refine r_goto c202_98 ?_
  exact h
theorem u202_112 {d : Nat} {l1 : Int} {t0 : Int} {M : Mem} {K : KK} {Q : RR → Mem → KK → Prop} (hK : K.1 = 923) (hX : FX M)  (h : Q (.inl (some (vI t0))) M K) : Wp (d + 3) 202 112 [vR 440, vI l1] [vI t0] M K Q := by
  exact r_iret c202_112 (Or.inl rfl) h
theorem u202_168 {d : Nat} {l1 : Int} {M : Mem} {K : KK} {Q : RR → Mem → KK → Prop} (hK : K.1 = 923) (hX : FX M)  (h : Q (.inl (some (vI (M 440 41)))) M K) : Wp (d + 3) 202 168 [vR 440, vI l1] [] M K Q := by
  refine r_aload_n c202_168 rfl ?_
  refine r_getIe c202_169 (oK hK o440) rfl ?_
  exact r_iret c202_172 (Or.inl rfl) h
/-! texts read: the model; work -/
/-- unchanged is what belongs to no game, no image and no run -/
def KmW (M M' : Mem) : Prop := ∀ a k, 440 ≤ a → a < 922 → ¬ scM a k → ¬ (888 ≤ a ∧ a ≤ 910) → ¬ (a = 440 ∧ (36 ≤ k ∧ k ≤ 41)) → M' a k = M a k
section MWK
variable {d : Nat} {M M' : Mem} {K : KK} {Q : RR → Mem → KK → Prop} {nB : Nat} {B : BY} {fp : Int} {c : Mem} {L : LC} {s : Mem} {H : List Mem} {I : List IMG} {Y : LC} {rf ms wr : Int} {n : Nat}
theorem MS.updw {s' : Mem} {H' : List Mem} {I' : List IMG} {rf' : Int} (h : MS M nB B fp c L s H I Y rf ms wr) (hf : KmW M M') (hnb : nB ≤ 600) (hl : LMr M' 888 c s') (h26 : M' 888 26 = -1) (hw : LW c s') (hb : BfM M' c H') (hi : ImM M' c I') (hr : M' 440 37 = rf') : MS M' nB B fp c L s' H' I' Y rf' ms wr := by
  obtain ⟨⟨a1, a2, a3⟩, b, ⟨e1, e2, e3⟩, -, -, r1, r2, r3⟩ := h
  have u : ∀ a k, 440 ≤ a → a < 922 → ¬ scM a k → ¬ (888 ≤ a ∧ a ≤ 910) → ¬ (a = 440 ∧ (36 ≤ k ∧ k ≤ 41)) → M' a k = M a k := hf
  obtain ⟨⟨x1, x2, x3, x4, x5⟩, x6, x7, x8, x9⟩ := b
  have hn := x2.n
  refine ⟨⟨(u _ _ (by omega) (by omega) (by unfold scM; omega) (by omega) (by omega)).trans a1, fun i hi => (u _ _ (by omega) (by omega) (by unfold scM; omega) (by omega) (by omega)).trans (a2 i hi), (u _ _ (by omega) (by omega) (by unfold scM; omega) (by omega) (by omega)).trans a3⟩, ⟨⟨⟨fun k hk => (u _ _ (by omega) (by omega) (by unfold scM; omega) (by omega) (by omega)).trans (x1.1 k hk), fun i hi => (u _ _ (by omega) (by omega) (by unfold scM; omega) (by omega) (by omega)).trans (x1.2.1 i hi), fun i hi => ?_, fun i hi => (u _ _ (by omega) (by omega) (by unfold scM; omega) (by omega) (by omega)).trans (x1.2.2.2.1 i hi), fun i hi => (u _ _ (by omega) (by omega) (by unfold scM; omega) (by omega) (by omega)).trans (x1.2.2.2.2 i hi)⟩, x2, hl, hw, h26⟩, (u _ _ (by omega) (by omega) (by unfold scM; omega) (by omega) (by omega)).trans x6, x7, fun i hi => ?_, x9⟩, ⟨(u _ _ (by omega) (by omega) (by unfold scM; omega) (by omega) (by omega)).trans e1, e2, fun k hk => ⟨(u _ _ (by omega) (by omega) (by unfold scM; omega) (by omega) (by omega)).trans (e3 k hk).1, (u _ _ (by omega) (by omega) (by unfold scM; omega) (by omega) (by omega)).trans (e3 k hk).2⟩⟩, hb, hi, hr, (u _ _ (by omega) (by omega) (by unfold scM; omega) (by omega) (by omega)).trans r2, (u _ _ (by omega) (by omega) (by unfold scM; omega) (by omega) (by omega)).trans r3⟩
  · exact ⟨(u _ _ (by omega) (by omega) (by unfold scM; omega) (by omega) (by omega)).trans (x1.2.2.1 i hi).1, (u _ _ (by omega) (by omega) (by unfold scM; omega) (by omega) (by omega)).trans (x1.2.2.1 i hi).2⟩
  · exact ⟨(u _ _ (by omega) (by omega) (by unfold scM; omega) (by omega) (by omega)).trans (x8 i hi).1, (u _ _ (by omega) (by omega) (by unfold scM; omega) (by omega) (by omega)).trans (x8 i hi).2⟩
theorem RWm.eq {F F' : Mem} {i : Nat} (h1 : ∀ k, M' (808 + i) k = M (808 + i) k) (h2 : ∀ j, F' i j = F i j) (h : RWm M F i) : RWm M' F' i := by
  unfold RWm at h ⊢
  simp only [h1, h2]; exact h
abbrev F6 (B : BY) (n : Nat) (c : Mem) : XP → XP := stF B n (c 0 0) (c 0 1) (Olv B n (c 0 0) (c 0 1) 6)
theorem FrQ.km {i : Nat} (h : FrQ i M M') : KmR M M' := fun a k p1 p2 p3 p4 p5 p6 p7 p8 => h a k (by omega) (by omega)
theorem m202 {v : Int} (hK : K.1 = 923) (hX : FX M) (hI : IV nB B c s H I Y) (h : MS M nB B fp c L s H I Y rf ms wr) (kb : ¬ txOK nB v 150 → ∀ M', FX M' → BadM 1 1 M M' → Q (.inl (some (vI 0))) M' K) (k0 : txOK nB v 150 → ¬ H.length < 16 → ∀ M', FX M' → LoM M M' → M' 440 0 = 0 → MS M' 0 B (-1) c L s H I Y rf ms wr → Q (.inl (some (vI (-20)))) M' K) (k1 : txOK nB v 150 → H.length < 16 → ∀ p, (wkP B v.toNat c).1 = .inl p → LW c (runP c L (wkP B v.toNat c).2 s).1 → ∀ M', FX M' → LoM M M' → M' 440 0 = 0 → MS M' 0 B (-1) c L (runP c L (wkP B v.toNat c).2 s).1 (H ++ [s]) I Y ((runP c L (wkP B v.toNat c).2 s).2.2.2 : Int) ms wr → Q (.inl (some (vI ((runP c L (wkP B v.toNat c).2 s).2.2.1 : Int)))) M' K) (k2 : txOK nB v 150 → H.length < 16 → ∀ f, (wkP B v.toNat c).1 = .inr f → ∀ M', FX M' → LoM M M' → M' 440 0 = 0 → MS M' 0 B f.2 c L s H I Y rf ms wr → Q (.inl (some (vI (w32 (f.1 - 10))))) M' K) : Wm (d + 36) 202 [vR 440, vI v] M K Q := by
  have h1 := h.1.1
  have h36 := h.2.2.2.1.1
  have h600 := hI.1
  have hH16 := hI.2.2.2.1.1
  have hCN := h.2.1.1.2.1.n
  have hC8 := h.2.1.1.2.1.1
  have bad : ¬ txOK nB v 150 → ∀ M', FX M' → BadM 1 1 (mset M 440 0 0) M' → Q (.inl (some (vI 0))) M' K := fun hn M1 x1 b1 => kb hn M1 x1 (BadM.of FrQm.t0 b1 (by decide))
  refine u202_0 hK hX ⟨fun hv => bad (fun h9 => hv ⟨h9.1, by rw [h1]; exact h9.2.2⟩), fun hv => ⟨fun hv2 => ⟨fun hne => ?_, fun he => ?_⟩, fun hv2 => bad (fun h9 => hv2 h9.2.1)⟩⟩
  · rw [h1] at hv
    rw [h36] at hne
    have hl : H.length < 16 := by omega
    have kk1 := k1 ⟨hv.1, hv2, hv.2⟩ hl
    have kk2 := k2 ⟨hv.1, hv2, hv.2⟩ hl
    obtain ⟨n, rfl⟩ : ∃ n : Nat, v = (n : Int) := ⟨v.toNat, by omega⟩
    rw [Int.toNat_natCast] at kk1 kk2
    have hn : n ≤ 150 := by omega
    have hB0 : ∀ i, i < n → 0 ≤ B i := fun i hi => (hI.2.1 i (by omega)).1
    have kp : ∀ {M3 : Mem} (k : Nat), KmR M M3 → M3 444 k = M 444 k := fun k q => q 444 k (by decide) (by decide) (by unfold scM; omega) (by omega) (by decide) (by decide) (by decide) (by decide)
    have e443 : ∀ {M3 : Mem} (k : Nat), k < 4 → KmR M M3 → M3 444 k = c 0 k := fun k hk q => (kp k q).trans (h.2.1.1.1.1 k (by omega))
    refine ⟨n, ⟨rfl, by omega⟩, fun M1 x1 ⟨f1, t1, a1, z1, z7, z8⟩ => ?_⟩
    obtain ⟨t1, a1⟩ := TM.cg (fun i hi => (ms_na (by decide)).trans (h.1.2.1 i (by omega))) t1 a1
    have q1 : KmR M M1 := KmR.t0.tr f1.km
    have lo1 : LoM M M1 := (FrQm.t0 (M := M)).lo.tr (fun a k h9 => f1 a k (by omega))
    have z0 : M1 440 0 = 0 ∧ M1 440 1 = 0 := ⟨(f1 440 0 (by decide)).trans ms_eq, z1⟩
    have fault : ∀ (M3 : Mem) (f : Int × Int), FX M3 → KmR M M3 → LoM M M3 → (M3 440 0 = 0 ∧ M3 440 1 = 0) → TM B n M3 (.inr f) → (pPrg B n (c 0 0) (c 0 1)).1 = .inr f → Wp (d + 36) 202 72 [vR 440, vI (n : Int)] [] M3 K Q := by
      intro M3 f x3 q3 lo3 z3 t3 hp
      have tf := t3.f
      refine u202_72 hK x3 ⟨fun _ => ?_, fun h9 => absurd h9 (by rw [tf.1]; exact tf.2.2)⟩
      refine g172 hK x3 t3 (fun x5 => Bk_v (u202_112 hK x5 ?_))
      exact kk2 f hp _ x5 (fun a k h9 => (ms_na (by omega)).trans (lo3 a k h9)) ((ms_nk (by decide)).trans z3.1) (h.rd hI (q3.tr (KmR.set (by omega))) ⟨(ms_nk (by decide)).trans z3.2, fun i hi => absurd hi (by omega), ms_eq⟩)
    have fin : ∀ (p : Nat) (P : PG) (M3 : Mem), n ≤ p → pPrg B n (c 0 0) (c 0 1) = (.inl p, P) → FX M3 → KmR M M3 → LoM M M3 → (M3 440 0 = 0 ∧ M3 440 1 = 0) → TM B n M3 (.inl p) → AtM M3 (.inl p) → G3 (.inl p, P) → M3 440 30 = (P.1 : Int) → (∀ i, i < P.1 → RWm M3 P.2 i) → Wp (d + 36) 202 72 [vR 440, vI (n : Int)] [] M3 K Q := by
      intro p P M3 hpn hP x3 q3 lo3 z3 t3 a3 g3 h30 r3
      have ta := t3.a a3
      have p51 : P.1 ≤ 51 := g3.2
      unfold wkP at kk1
      rw [hP] at kk1
      have m4 := h.rd hI (q3.tr (KmR.set (k := 3) (v := -1) (by omega))) (nB' := 0) (B' := B) (fp' := -1) ⟨(ms_nk (by decide)).trans z3.2, fun i hi => absurd hi (by omega), ms_eq⟩
      have e36 : M3 440 36 = (H.length : Int) := (ms_nk (by decide)).symm.trans m4.2.2.2.1.1
      have vp : PVc c P ∧ NV P 6 0 P.1 := VP_c h.2.1.1.2.1 (by have := pPrg_ok (B := B) (n := n) (nC := c 0 0) (nS := c 0 1) (q := p) (by rw [hP]); rw [hP] at this; exact this)
      refine u202_72 hK x3 ⟨fun h9 => absurd t3.p h9, fun _ => ⟨fun _ => ?_, fun h9 => absurd (show M3 440 2 ≤ M3 440 4 by rw [ta.1, ta.2.1]; omega) h9⟩⟩
      rw [e36, Int.toNat_natCast]
      refine ⟨⟨by omega, by omega⟩, ⟨o888', z888, (bf_o _ hl).1, by unfold L27; exact (bf_o _ hl).2, by omega⟩, fun M9 x9 ⟨f9, e9⟩ => ?_⟩
      have e30 : M9 440 30 = (P.1 : Int) := (f9 _ _ (by omega)).trans ((ms_nk (by decide)).trans h30)
      have e36' : M9 440 36 = (H.length : Int) := (f9 _ _ (by omega)).trans ((ms_nk (by decide)).trans e36)
      rw [e30, e36', w1 (by omega)]
      have x10 : FX (mset (mset (mset (mset M9 440 36 ((H.length + 1 : Nat) : Int)) 440 40 (0 : Int)) 440 41 (0 : Int)) 440 37 (0 : Int)) := (((x9.set (nf440_s 36 (by omega))).set (nf440_s 40 (by omega))).set (nf440_s 41 (by omega))).set (nf440_s 37 (by omega))
      have u10 : ∀ a k, a ≠ 891 + H.length → ¬ (a = 440 ∧ (k = 36 ∨ k = 37 ∨ k = 40 ∨ k = 41)) → mset (mset (mset (mset M9 440 36 ((H.length + 1 : Nat) : Int)) 440 40 (0 : Int)) 440 41 (0 : Int)) 440 37 (0 : Int) a k = mset M3 440 3 (-1) a k := fun a k p1 p2 => by
        rw [← f9 a k p1]
        unfold mset
        rw [if_neg (by omega), if_neg (by omega), if_neg (by omega), if_neg (by omega)]
      have b36 : mset (mset (mset (mset M9 440 36 ((H.length + 1 : Nat) : Int)) 440 40 (0 : Int)) 440 41 (0 : Int)) 440 37 (0 : Int) 440 36 = ((H.length + 1 : Nat) : Int) := by rw [ms_nk (by decide), ms_nk (by decide), ms_nk (by decide), ms_eq]
      have b40 : mset (mset (mset (mset M9 440 36 ((H.length + 1 : Nat) : Int)) 440 40 (0 : Int)) 440 41 (0 : Int)) 440 37 (0 : Int) 440 40 = 0 := by rw [ms_nk (by decide), ms_nk (by decide), ms_eq]
      have b41 : mset (mset (mset (mset M9 440 36 ((H.length + 1 : Nat) : Int)) 440 40 (0 : Int)) 440 41 (0 : Int)) 440 37 (0 : Int) 440 41 = 0 := by rw [ms_nk (by decide), ms_eq]
      have b37 : mset (mset (mset (mset M9 440 36 ((H.length + 1 : Nat) : Int)) 440 40 (0 : Int)) 440 41 (0 : Int)) 440 37 (0 : Int) 440 37 = 0 := ms_eq
      have bro : ∀ j, j < 27 → mset (mset (mset (mset M9 440 36 ((H.length + 1 : Nat) : Int)) 440 40 (0 : Int)) 440 41 (0 : Int)) 440 37 (0 : Int) (891 + H.length) j = mset M3 440 3 (-1) 888 j := fun j hj => by
        rw [ms_na (by omega), ms_na (by omega), ms_na (by omega), ms_na (by omega)]; exact e9 j hj
      clear e9 f9 e30 e36' x9
      generalize mset (mset (mset (mset M9 440 36 ((H.length + 1 : Nat) : Int)) 440 40 (0 : Int)) 440 41 (0 : Int)) 440 37 (0 : Int) = M10 at *
      have wk : WKm M10 c L P (s, 0, 0, 0) := by
        obtain ⟨⟨x1, x2, x3, x4, x5⟩, x6, x7, x8, x9⟩ := m4.2.1
        have hn := x2.n
        exact ⟨⟨⟨fun k hk => (u10 _ _ (by omega) (by omega)).trans (x1.1 k hk), fun i hi => (u10 _ _ (by omega) (by omega)).trans (x1.2.1 i hi), fun i hi => ⟨(u10 _ _ (by omega) (by omega)).trans (x1.2.2.1 i hi).1, (u10 _ _ (by omega) (by omega)).trans (x1.2.2.1 i hi).2⟩, fun i hi => (u10 _ _ (by omega) (by omega)).trans (x1.2.2.2.1 i hi), fun i hi => (u10 _ _ (by omega) (by omega)).trans (x1.2.2.2.2 i hi)⟩, x2, x3.er (fun k => u10 _ _ (by omega) (by omega)), x4, (u10 _ _ (by omega) (by omega)).trans x5⟩, ⟨(u10 _ _ (by omega) (by omega)).trans x6, x7, fun i hi => ⟨(u10 _ _ (by omega) (by omega)).trans (x8 i hi).1, (u10 _ _ (by omega) (by omega)).trans (x8 i hi).2⟩, x9⟩, fun i hi => (r3 i hi).eq (fun k => (u10 _ _ (by omega) (by omega)).trans (ms_na (by omega))) (fun j => rfl), ⟨b40, b41, b37⟩, Nat.zero_le _, Nat.le_refl _, Nat.le_refl _⟩
      refine mrun_ok vp.1 p51 6 0 P.1 (Nat.le_refl _) vp.2 (d + 35) M10 K _ (s, 0, 0, 0) (by omega) hK x10 wk (fun M11 x11 f11 w11 => Bk_n (u202_168 hK x11 ?_))
      obtain ⟨⟨y1, y2, y3, y4, y5⟩, -, -, ⟨y6, y7, y8⟩, -⟩ := w11
      rw [y7]
      have u11 : ∀ a k, a ≠ 805 → a ≠ 806 → a ≠ 888 → a ≠ 891 + H.length → ¬ (a = 440 ∧ (k = 36 ∨ k = 37 ∨ k = 40 ∨ k = 41)) → M11 a k = mset M3 440 3 (-1) a k := fun a k p1 p2 p3 p4 p5 => (f11 a k p1 p2 p3 (by omega)).trans (u10 a k p4 p5)
      have hb := m4.2.2.2.1
      have hN := h.2.1.1.2.1.n.1.2
      have hI3 := hI.2.2.2.2.1.1
      refine kk1 p rfl y4 M11 x11 (fun a k h9 => (u11 a k (by omega) (by omega) (by omega) (by omega) (by omega)).trans ((ms_na (by omega)).trans (lo3 a k h9))) ((u11 _ _ (by omega) (by omega) (by omega) (by omega) (by omega)).trans ((ms_nk (by decide)).trans z3.1)) (m4.updw (fun a k p1 p2 p3 p4 p5 => u11 a k (by unfold scM at p3; omega) (by unfold scM at p3; omega) (by omega) (by omega) (by omega)) (by omega) y3 y5 y4 ⟨?_, fun i hi => ?_⟩ ⟨(u11 _ _ (by omega) (by omega) (by omega) (by omega) (by omega)).trans m4.2.2.2.2.1.1, fun i hi => ?_⟩ y8)
      · rw [f11 _ _ (by omega) (by omega) (by omega) (by omega), b36]; simp
      · have c11 : ∀ j, j < 27 → M11 (891 + H.length) j = mset M3 440 3 (-1) 888 j := fun j hj => (f11 _ _ (by omega) (by omega) (by omega) (by omega)).trans (bro j hj)
        by_cases hil : i < H.length
        · have e : (H ++ [s]).getD i c00 = H.getD i c00 := by simp [List.getD, List.getElem?_append_left hil]
          rw [e]
          exact ⟨(hb.2 i hil).1.er (fun k => u11 _ _ (by omega) (by omega) (by omega) (by omega) (by omega)), (u11 _ _ (by omega) (by omega) (by omega) (by omega) (by omega)).trans (hb.2 i hil).2⟩
        · have hie : i = H.length := by simp at hi; omega
          subst hie
          have e : (H ++ [s]).getD H.length c00 = s := by simp
          rw [e]
          exact ⟨row_cp hN c11 m4.2.1.1.2.2.1, (c11 26 (by decide)).trans m4.2.1.1.2.2.2.2⟩
      · obtain ⟨w1', w2, w3⟩ := m4.2.2.2.2.1.2 i hi
        exact ⟨(u11 _ _ (by omega) (by omega) (by omega) (by omega) (by omega)).trans w1', w2.eq (fun k => u11 _ _ (by omega) (by omega) (by omega) (by omega) (by omega)), fun j hj => (w3 j hj).eq (fun k => u11 _ _ (by omega) (by omega) (by omega) (by omega) (by omega))⟩
    have hgs : GS B n (F6 B n c) := stF_g hn (fun S h => by cases h; exact pSt_g hn 5)
    have hex : EXP (F6 B n c) := EXP_st (fun S h => by cases h; exact (pSt_ex 5).1)
    have loop : ∀ f p (P : PG) (M3 : Mem), 150 ≤ f + p → pPrg B n (c 0 0) (c 0 1) = ssL B n true (F6 B n c) f (.inl p, P) → FX M3 → KmR M M3 → LoM M M3 → (M3 440 0 = 0 ∧ M3 440 1 = 0) → TM B n M3 (.inl p) → AtM M3 (.inl p) → G3 (.inl p, P) → M3 440 30 = (P.1 : Int) → (∀ i, i < P.1 → RWm M3 P.2 i) → M3 440 8 = 0 → Wp (d + 36) 202 72 [vR 440, vI (n : Int)] [] M3 K Q := by
      intro f
      induction f with
      | zero =>
        intro p P M3 hfp hP x3 q3 lo3 z3 t3 a3 g3 h30 r3 h8
        exact fin p P M3 (by omega) hP x3 q3 lo3 z3 t3 a3 g3 h30 r3
      | succ f ih =>
        intro p P M3 hfp hP x3 q3 lo3 z3 t3 a3 g3 h30 r3 h8
        have ta := t3.a a3
        simp only [ssL] at hP
        by_cases hpn : n ≤ p
        · rw [if_pos (Or.inl (pk_end hpn))] at hP
          exact fin p P M3 hpn hP x3 q3 lo3 z3 t3 a3 g3 h30 r3
        have hpk : ¬ (pk B n (.inl p) = -1 ∨ (true = false ∧ pk B n (.inl p) = 93)) := by
          rintro (h9 | h9)
          · revert h9
            show ¬ (if p < n then B p else -1) = -1
            rw [if_pos (by omega)]; have := hB0 p (by omega); omega
          · exact absurd h9.1 (by decide)
        rw [if_neg hpk] at hP
        obtain ⟨w', g', l', m'⟩ := hgs (.inl p, P) t3.w g3
        have ex' := hex (.inl p, P)
        refine u202_72 hK x3 ⟨fun h9 => absurd t3.p h9, fun _ => ⟨fun h9 => absurd h9 (by rw [ta.1, ta.2.1]; omega), fun _ => ?_⟩⟩
        refine mSt_ok hn hB0 (by omega) (by omega) 6 (by decide) (d + 35) M3 K _ p P (by omega) hK x3 (e443 0 (by decide) q3) (e443 1 (by decide) q3) t3 h30 (g3.1 p rfl) (h8.trans (by decide)) (fun M4 x4 f4 t4 r4 => Bk_n (u202_94 hK x4 ⟨B, n, _, t4, fun M5 x5 ⟨f5, t5, a5⟩ => ?_⟩))
        have q5 : KmR M M5 := (q3.tr f4.km).tr f5.km
        have lo5 : LoM M M5 := (lo3.tr (fun a k h9 => f4 a k (by omega) (by omega))).tr (fun a k h9 => f5 a k (by omega))
        have z5 : M5 440 0 = 0 ∧ M5 440 1 = 0 := ⟨(f5 _ _ (by decide)).trans ((f4 _ _ (by omega) (by decide)).trans z3.1), (f5 _ _ (by decide)).trans ((f4 _ _ (by omega) (by decide)).trans z3.2)⟩
        cases hT : tSign B n 59 (F6 B n c (.inl p, P)).1 with
        | inr g =>
          have t5' : TM B n M5 (.inr g) := by rw [← hT]; exact t5
          refine fault M5 g x5 q5 lo5 z5 t5' ?_
          rw [hP, hT, ssL_FL]
        | inl q =>
          have t5' : TM B n M5 (.inl q) := by rw [← hT]; exact t5
          have a5' : AtM M5 (.inl q) := by rw [← hT]; exact a5
          rw [hT] at hP
          obtain ⟨q0, hq0⟩ := sign_ok hT
          obtain ⟨r1, r2, r8⟩ := r4 ⟨q0, hq0⟩
          have l1 := l' p q0 rfl hq0
          have l2 := sign_le (B := B) (n := n) (c := 59) _ _ hq0 hT
          have l3 := g'.1 q0 hq0
          have l4 := g'.2
          refine ih q (F6 B n c (.inl p, P)).2 M5 (by omega) hP x5 q5 lo5 z5 t5' a5' ⟨fun p9 h9 => ?_, l4⟩ ((f5 _ _ (by decide)).trans r1) (fun i hi => ?_) ((f5 _ _ (by decide)).trans (r8.trans (by decide)))
          · cases h9; dsimp only; omega
          · by_cases hiP : i < P.1
            · exact (r3 i hiP).eq (fun k => (f5 _ _ (by omega)).trans (f4 _ _ (by omega) (by omega))) (fun j => ex' i j hiP)
            · exact (r2 i (by omega) hi).eq (fun k => f5 _ _ (by omega)) (fun j => rfl)
    have x2 := x1.set (k := 30) (v := 0) (nf440_s 30 (by omega))
    refine loop 150 (sk B n 0) (0, fun _ _ => 0) _ (by omega) rfl x2 (q1.tr (KmR.set (by omega))) (fun a k h9 => (ms_na (by omega)).trans (lo1 a k h9)) ⟨(ms_nk (by decide)).trans z0.1, (ms_nk (by decide)).trans z0.2⟩ (t1.st (by decide)) ((ms_nk (by decide)).trans a1) ⟨fun p9 h9 => by dsimp only; omega, by dsimp only; omega⟩ ms_eq (fun i hi => absurd hi (by dsimp only; omega)) ((ms_nk (by decide)).trans z8)
  · rw [h1] at hv
    rw [h36] at he
    refine k0 ⟨hv.1, hv2, hv.2⟩ (by omega) _ (((hX.set (nf440_s 0 (by omega))).set (nf440_s 1 (by omega))).set (nf440_s 3 (by omega))) (fun a k h9 => ?_) ?_ (h.rd hI ((KmR.t0.tr (KmR.set (by omega))).tr (KmR.set (by omega))) ⟨?_, fun i hi => absurd hi (by omega), ms_eq⟩)
    · rw [ms_na (by omega), ms_na (by omega), ms_na (by omega)]
    · rw [ms_nk (by decide), ms_nk (by decide), ms_eq]
    · rw [ms_nk (by decide), ms_eq]; rfl
end MWK
