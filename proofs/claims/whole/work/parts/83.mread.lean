theorem u186_0 {d : Nat} {l1 : Int} {M : Mem} {K : KK} {Q : RR → Mem → KK → Prop} (hK : K.1 = 923) (hX : FX M)  (h : (¬ ((0 : Int) ≤ l1 ∧ l1 ≤ (M 440 1)) → (∀ (M6 : Mem), FX M6 → BadM 1 1 (mset M 440 0 (0 : Int)) M6 → Q (.inl (some (vI (0 : Int)))) M6 K)) ∧ (((0 : Int) ≤ l1 ∧ l1 ≤ (M 440 1)) → (l1 ≤ (150 : Int) → ∃ n8 : Nat, (l1 = (n8 : Int) ∧ n8 ≤ 600) ∧ (∀ (M12 : Mem), FX M12 → (FrS (mset M 440 0 (0 : Int)) M12 ∧ TM ((mset M 440 0 (0 : Int)) 441) n8 M12 (.inl (sk ((mset M 440 0 (0 : Int)) 441) n8 0)) ∧ AtM M12 (.inl (sk ((mset M 440 0 (0 : Int)) 441) n8 0)) ∧ M12 440 1 = 0 ∧ M12 440 7 = 0 ∧ M12 440 8 = 0) → Wm (d + 2) 182 [vR 440] (mset M12 440 22 (0 : Int)) K (Bk (d + 2) 186 51 54 182 [vR 440, vI l1] [] Q))) ∧ (¬ (l1 ≤ (150 : Int)) → (∀ (M16 : Mem), FX M16 → BadM 1 1 (mset M 440 0 (0 : Int)) M16 → Q (.inl (some (vI (0 : Int)))) M16 K)))) : Wp (d + 3) 186 0 [vR 440, vI l1] [] M K Q := by
  refine r_aload_n c186_0 rfl ?_
  refine r_iconst c186_1 ?_
  refine r_putI c186_2 (oK hK o440) ?_
  have x1 := FX.set (v := (0 : Int)) (a := 440) (k := 0) hX (by decide +kernel)
  refine r_aload_n c186_5 rfl ?_
  refine r_iload_n c186_6 rfl ?_
  refine r_iconst c186_7 ?_
  refine r_aload_n c186_8 rfl ?_
  refine r_getIe c186_9 (oK hK o440) (ms_nk (by decide)) ?_
  refine r_call c186_12 rfl rfl (Nat.le_of_ble_eq_true rfl) (okc_s rfl rfl rfl) (g153 hK x1  (Bk_v ?_))
  refine r_ifP (P := ¬ ((0 : Int) ≤ l1 ∧ l1 ≤ (M 440 1))) c186_15 bI_eq (fun hc2 => ?_) (fun hc2 => ?_)
  · replace h := h.1 hc2
    refine r_iconst c186_25 ?_
    refine r_goto c186_26 ?_
    refine r_iconst c186_30 ?_
    refine r_iconst c186_31 ?_
    refine r_call c186_32 rfl rfl (Nat.le_of_ble_eq_true rfl) (okc_r rfl rfl (oK hK o440)) (b152_1 (cd := 1) (ix := 1) hK x1 ms_eq (by decide) (by decide) (fun M6 x4 p5 => Bk_v ?_))
    replace h := h M6 x4 p5
    refine r_ifP (P := (1 : Int) = (0 : Int)) c186_35 rfl (fun hc => absurd hc (by decide)) (fun hc => ?_)
    refine r_iconst c186_38 ?_
    exact r_iret c186_39 (Or.inl rfl) h
  · have hc3 := Classical.not_not.mp hc2
    replace h := h.2 hc3
    refine r_iload_n c186_18 rfl ?_
    refine r_sipush c186_19 ?_
    refine r_icmpP (P := l1 ≤ (150 : Int)) c186_22 rfl (fun hc7 => ?_) (fun hc7 => ?_)
    · replace h := h.1 hc7
      refine r_iconst c186_29 ?_
      refine r_iconst c186_30 ?_
      refine r_iconst c186_31 ?_
      refine r_call c186_32 rfl rfl (Nat.le_of_ble_eq_true rfl) (okc_r rfl rfl (oK hK o440)) (b152_0 hK x1 ms_eq (Bk_v ?_))
      refine r_ifP (P := (0 : Int) = (0 : Int)) c186_35 rfl (fun hc => ?_) (fun hc => absurd (by decide) hc)
      refine r_aload_n c186_40 rfl ?_
      refine r_iload_n c186_41 rfl ?_
      obtain ⟨n8, h⟩ := h
      obtain ⟨p9, h⟩ := h
      refine r_call c186_42 rfl rfl (Nat.le_of_ble_eq_true rfl) (okc_r rfl rfl (oK hK o440)) (g171 hK x1 p9 (fun M12 x10 p11 => Bk_n ?_))
      replace h := h M12 x10 p11
      refine r_aload_n c186_45 rfl ?_
      refine r_iconst c186_46 ?_
      refine r_putI c186_47 (oK hK o440) ?_
      have x13 := FX.set (v := (0 : Int)) (a := 440) (k := 22) x10 (by decide +kernel)
      refine r_aload_n c186_50 rfl ?_
      exact r_call c186_51 rfl rfl (Nat.le_of_ble_eq_true rfl) (okc_r rfl rfl (oK hK o440)) h
    · replace h := h.2 hc7
      refine r_iconst c186_25 ?_
      refine r_goto c186_26 ?_
      refine r_iconst c186_30 ?_
      refine r_iconst c186_31 ?_
      refine r_call c186_32 rfl rfl (Nat.le_of_ble_eq_true rfl) (okc_r rfl rfl (oK hK o440)) (b152_1 (cd := 1) (ix := 1) hK x1 ms_eq (by decide) (by decide) (fun M16 x14 p15 => Bk_v ?_))
      replace h := h M16 x14 p15
      refine r_ifP (P := (1 : Int) = (0 : Int)) c186_35 rfl (fun hc => absurd hc (by decide)) (fun hc => ?_)
      refine r_iconst c186_38 ?_
      exact r_iret c186_39 (Or.inl rfl) h
theorem u186_54 {d : Nat} {l1 : Int} {M : Mem} {K : KK} {Q : RR → Mem → KK → Prop} (hK : K.1 = 923) (hX : FX M)  (h : ∃ B1 : BY, ∃ n2 : Nat, ∃ st3 : ST, TM B1 n2 M st3 ∧ (∀ (M7 : Mem), FX M7 → (FrM M M7 ∧ TM B1 n2 M7 st3 ∧ AtM M7 st3) → (¬ (M7 440 5) = (0 : Int) → Wm (d + 2) 172 [vR 440] M7 K (Bk (d + 2) 186 93 96 172 [vR 440, vI l1] [] Q)) ∧ ((M7 440 5) = (0 : Int) → ((M7 440 2) ≤ (M7 440 4) → Wm (d + 2) 177 [vR 626, vR 465, vI (M7 440 22)] (mset (mset M7 440 3 (-1 : Int)) 440 21 (M7 440 22)) K (Bk (d + 2) 186 122 125 177 [vR 440, vI l1] [] Q)) ∧ (¬ ((M7 440 2) ≤ (M7 440 4)) → ∃ B13 : BY, ∃ n14 : Nat, ∃ st15 : ST, (TM B13 n14 M7 st15 ∧ (1 : Int) ≠ 0) ∧ (∀ (M19 : Mem), FX M19 → (FrM M7 M19 ∧ TM B13 n14 M19 (tFail (1 : Int) (M7 440 4) st15) ∧ M19 440 4 = M7 440 4) → ((M19 440 5) = (0 : Int) → Wm (d + 2) 177 [vR 626, vR 465, vI (M19 440 22)] (mset (mset M19 440 3 (-1 : Int)) 440 21 (M19 440 22)) K (Bk (d + 2) 186 122 125 177 [vR 440, vI l1] [] Q)) ∧ (¬ ((M19 440 5) = (0 : Int)) → Wm (d + 2) 172 [vR 440] M19 K (Bk (d + 2) 186 93 96 172 [vR 440, vI l1] [] Q))))))) : Wp (d + 3) 186 54 [vR 440, vI l1] [] M K Q := by
  refine r_aload_n c186_54 rfl ?_
  obtain ⟨B1, h⟩ := h
  obtain ⟨n2, h⟩ := h
  obtain ⟨st3, h⟩ := h
  obtain ⟨p4, h⟩ := h
  refine r_call c186_55 rfl rfl (Nat.le_of_ble_eq_true rfl) (okc_r rfl rfl (oK hK o440)) (g159 hK hX p4 (fun M7 x5 p6 => Bk_n ?_))
  replace h := h M7 x5 p6
  refine r_aload_n c186_58 rfl ?_
  refine r_getIe c186_59 (oK hK o440) rfl ?_
  refine r_ifP (P := ¬ (M7 440 5) = (0 : Int)) c186_62 rfl (fun hc8 => ?_) (fun hc8 => ?_)
  · replace h := h.1 hc8
    refine r_aload_n c186_85 rfl ?_
    refine r_getIe c186_86 (oK hK o440) rfl ?_
    refine r_ifP (P := (M7 440 5) = (0 : Int)) c186_89 rfl (fun hc => absurd hc hc8) (fun hc => ?_)
    refine r_aload_n c186_92 rfl ?_
    exact r_call c186_93 rfl rfl (Nat.le_of_ble_eq_true rfl) (okc_r rfl rfl (oK hK o440)) h
  · have hc9 := Classical.not_not.mp hc8
    replace h := h.2 hc9
    refine r_aload_n c186_65 rfl ?_
    refine r_getIe c186_66 (oK hK o440) rfl ?_
    refine r_aload_n c186_69 rfl ?_
    refine r_getIe c186_70 (oK hK o440) rfl ?_
    refine r_icmpP (P := (M7 440 2) ≤ (M7 440 4)) c186_73 rfl (fun hc10 => ?_) (fun hc10 => ?_)
    · replace h := h.1 hc10
      refine r_aload_n c186_85 rfl ?_
      refine r_getIe c186_86 (oK hK o440) rfl ?_
      refine r_ifP (P := (M7 440 5) = (0 : Int)) c186_89 rfl (fun hc => ?_) (fun hc => absurd hc9 hc)
      refine r_aload_n c186_97 rfl ?_
      refine r_iconst c186_98 ?_
      refine r_putI c186_99 (oK hK o440) ?_
      have x11 := FX.set (v := (-1 : Int)) (a := 440) (k := 3) x5 (by decide +kernel)
      refine r_aload_n c186_102 rfl ?_
      refine r_aload_n c186_103 rfl ?_
      refine r_getIe c186_104 (oK hK o440) (ms_nk (by decide)) ?_
      refine r_putI c186_107 (oK hK o440) ?_
      have x12 := FX.set (v := (M7 440 22)) (a := 440) (k := 21) x11 (by decide +kernel)
      refine r_aload_n c186_110 rfl ?_
      refine r_getR c186_111 (oK hK o440) (FX.get (b := 626) x12 (by decide) (by decide +kernel) (by decide)) (by decide) ?_
      refine r_aload_n c186_114 rfl ?_
      refine r_getR c186_115 (oK hK o440) (FX.get (b := 465) x12 (by decide) (by decide +kernel) (by decide)) (by decide) ?_
      refine r_aload_n c186_118 rfl ?_
      refine r_getIe c186_119 (oK hK o440) ms_eq ?_
      exact r_call c186_122 rfl rfl (Nat.le_of_ble_eq_true rfl) (okc_s rfl rfl rfl) h
    · replace h := h.2 hc10
      refine r_aload_n c186_76 rfl ?_
      refine r_iconst c186_77 ?_
      refine r_aload_n c186_78 rfl ?_
      refine r_getIe c186_79 (oK hK o440) rfl ?_
      obtain ⟨B13, h⟩ := h
      obtain ⟨n14, h⟩ := h
      obtain ⟨st15, h⟩ := h
      obtain ⟨p16, h⟩ := h
      refine r_call c186_82 rfl rfl (Nat.le_of_ble_eq_true rfl) (okc_r rfl rfl (oK hK o440)) (g160 hK x5 p16 (fun M19 x17 p18 => Bk_n ?_))
      replace h := h M19 x17 p18
      refine r_aload_n c186_85 rfl ?_
      refine r_getIe c186_86 (oK hK o440) rfl ?_
      refine r_ifP (P := (M19 440 5) = (0 : Int)) c186_89 rfl (fun hc20 => ?_) (fun hc20 => ?_)
      · replace h := h.1 hc20
        refine r_aload_n c186_97 rfl ?_
        refine r_iconst c186_98 ?_
        refine r_putI c186_99 (oK hK o440) ?_
        have x21 := FX.set (v := (-1 : Int)) (a := 440) (k := 3) x17 (by decide +kernel)
        refine r_aload_n c186_102 rfl ?_
        refine r_aload_n c186_103 rfl ?_
        refine r_getIe c186_104 (oK hK o440) (ms_nk (by decide)) ?_
        refine r_putI c186_107 (oK hK o440) ?_
        have x22 := FX.set (v := (M19 440 22)) (a := 440) (k := 21) x21 (by decide +kernel)
        refine r_aload_n c186_110 rfl ?_
        refine r_getR c186_111 (oK hK o440) (FX.get (b := 626) x22 (by decide) (by decide +kernel) (by decide)) (by decide) ?_
        refine r_aload_n c186_114 rfl ?_
        refine r_getR c186_115 (oK hK o440) (FX.get (b := 465) x22 (by decide) (by decide +kernel) (by decide)) (by decide) ?_
        refine r_aload_n c186_118 rfl ?_
        refine r_getIe c186_119 (oK hK o440) ms_eq ?_
        exact r_call c186_122 rfl rfl (Nat.le_of_ble_eq_true rfl) (okc_s rfl rfl rfl) h
      · replace h := h.2 hc20
        refine r_aload_n c186_92 rfl ?_
        exact r_call c186_93 rfl rfl (Nat.le_of_ble_eq_true rfl) (okc_r rfl rfl (oK hK o440)) h
theorem u186_96 {d : Nat} {l1 : Int} {t0 : Int} {M : Mem} {K : KK} {Q : RR → Mem → KK → Prop} (hK : K.1 = 923) (hX : FX M)  (h : Q (.inl (some (vI t0))) M K) : Wp (d + 3) 186 96 [vR 440, vI l1] [vI t0] M K Q := by
  exact r_iret c186_96 (Or.inl rfl) h
theorem u186_125 {d : Nat} {l1 : Int} {M : Mem} {K : KK} {Q : RR → Mem → KK → Prop} (hK : K.1 = 923) (hX : FX M)  (h : Q (.inl (some (vI (1 : Int)))) M K) : Wp (d + 3) 186 125 [vR 440, vI l1] [] M K Q := by
  refine r_iconst c186_125 ?_
  exact r_iret c186_126 (Or.inl rfl) h
/-! texts read: the model; the law -/
section MRD
variable {d : Nat} {M M' : Mem} {K : KK} {Q : RR → Mem → KK → Prop} {nB : Nat} {B : BY} {fp : Int} {c : Mem} {L : LC} {s : Mem} {H : List Mem} {I : List IMG} {Y : LC} {rf ms wr : Int} {n : Nat}
theorem TM.p {p : Nat} (h : TM B n M (.inl p)) : M 440 5 = 0 := by
  obtain ⟨-, a, -, -, h6, -⟩ := h; exact h6
theorem TM.f {f : Int × Int} (h : TM B n M (.inr f)) : M 440 5 = f.1 ∧ M 440 6 = f.2 ∧ f.1 ≠ 0 := by
  obtain ⟨-, a, -, -, h6⟩ := h; exact h6
theorem TM.a {p : Nat} (h : TM B n M (.inl p)) (ha : AtM M (.inl p)) : M 440 4 = (p : Int) ∧ M 440 2 = (n : Int) ∧ p ≤ n := by
  obtain ⟨⟨h1, -, -⟩, a, h2, h3, -⟩ := h
  have ha : M 440 4 = (p : Int) := ha
  exact ⟨ha, h1, by omega⟩
theorem nf440_s (k : Nat) (h : k < 9 ∨ (21 ≤ k ∧ k ≤ 22) ∨ (35 ≤ k ∧ k ≤ 41) ∨ k = 30) : fxT 440 k = 0 := by
  have : ∀ k, k < 50 → (k < 9 ∨ (21 ≤ k ∧ k ≤ 22) ∨ (35 ≤ k ∧ k ≤ 41) ∨ k = 30) → fxT 440 k = 0 := by decide +kernel
  exact this k (by omega) h
/-- a fault's answer -/
theorem g172 {f : Int × Int} (hK : K.1 = 923) (hX : FX M) (h : TM B n M (.inr f)) (k : FX (mset M 440 3 f.2) → Q (.inl (some (vI (w32 (f.1 - 10))))) (mset M 440 3 f.2) K) : Wm d 172 [vR 440] M K Q := by
  have t := h.f
  refine u172_0 hK hX ?_
  rw [t.1, t.2.1]; exact k (hX.set (nf440_s 3 (by omega)))
/-- what a reading of the model may change: no game, no image -/
def KmR (M M' : Mem) : Prop := ∀ a k, 440 ≤ a → a < 922 → ¬ scM a k → ¬ (a = 440 ∧ (k < 9 ∨ k = 22 ∨ k = 30)) → ¬ (a = 443 ∨ a = 445 ∨ a = 447 ∨ a = 449 ∨ (452 ≤ a ∧ a ≤ 457)) → ¬ (627 ≤ a ∧ a ≤ 786) → ¬ (797 ≤ a ∧ a ≤ 804) → ¬ (807 ≤ a ∧ a ≤ 887) → M' a k = M a k
theorem KmR.tr {M1 M2 : Mem} (h1 : KmR M M1) (h2 : KmR M1 M2) : KmR M M2 := fun a k p1 p2 p3 p4 p5 p6 p7 p8 => (h2 a k p1 p2 p3 p4 p5 p6 p7 p8).trans (h1 a k p1 p2 p3 p4 p5 p6 p7 p8)
/-- the model's state behind a reading; law and lines may be others -/
theorem MS.rd {nB' : Nat} {B' : BY} {fp' : Int} (hI : IV nB B c s H I Y) (h : MS M nB B fp c L s H I Y rf ms wr) (hf : KmR M M') (ht : TpM M' nB' B' fp') : MS M' nB' B' fp' c L s H I Y rf ms wr := by
  obtain ⟨-, b, ⟨e1, e2, e3⟩, ⟨f1, f2⟩, ⟨g1, g2⟩, r1, r2, r3⟩ := h
  have u : ∀ a k, 440 ≤ a → a < 922 → ¬ scM a k → ¬ (a = 440 ∧ (k < 9 ∨ k = 22 ∨ k = 30)) → ¬ (a = 443 ∨ a = 445 ∨ a = 447 ∨ a = 449 ∨ (452 ≤ a ∧ a ≤ 457)) → ¬ (627 ≤ a ∧ a ≤ 786) → ¬ (797 ≤ a ∧ a ≤ 804) → ¬ (807 ≤ a ∧ a ≤ 887) → M' a k = M a k := hf
  have v : ∀ a k, 440 ≤ a → a < 922 → ¬ (a = 440 ∧ (k < 9 ∨ k = 22 ∨ k = 30 ∨ k = 39 ∨ 45 ≤ k)) → ¬ (a = 443 ∨ a = 445 ∨ a = 447 ∨ a = 449 ∨ (452 ≤ a ∧ a ≤ 457)) → ¬ (627 ≤ a ∧ a ≤ 786) → ¬ (797 ≤ a ∧ a ≤ 887) → ¬ (a = 889) → ¬ (911 ≤ a ∧ a ≤ 921) → M' a k = M a k := fun a k p1 p2 p3 p4 p5 p6 p7 p8 => u a k p1 p2 (by unfold scM; omega) (by omega) p4 p5 (by omega) (by omega)
  have hH := hI.2.2.2.1.1
  have hI3 := hI.2.2.2.2.1.1
  obtain ⟨⟨x1, x2, x3, x4, x5⟩, x6, x7, x8, x9⟩ := b
  have hn := x2.n
  refine ⟨ht, ⟨⟨⟨fun k hk => (v _ _ (by omega) (by omega) (by omega) (by omega) (by omega) (by omega) (by omega) (by omega)).trans (x1.1 k hk), fun i hi => (v _ _ (by omega) (by omega) (by omega) (by omega) (by omega) (by omega) (by omega) (by omega)).trans (x1.2.1 i hi), fun i hi => ⟨(v _ _ (by omega) (by omega) (by omega) (by omega) (by omega) (by omega) (by omega) (by omega)).trans (x1.2.2.1 i hi).1, (v _ _ (by omega) (by omega) (by omega) (by omega) (by omega) (by omega) (by omega) (by omega)).trans (x1.2.2.1 i hi).2⟩, fun i hi => (v _ _ (by omega) (by omega) (by omega) (by omega) (by omega) (by omega) (by omega) (by omega)).trans (x1.2.2.2.1 i hi), fun i hi => (v _ _ (by omega) (by omega) (by omega) (by omega) (by omega) (by omega) (by omega) (by omega)).trans (x1.2.2.2.2 i hi)⟩, x2, x3.er (fun k => v _ _ (by omega) (by omega) (by omega) (by omega) (by omega) (by omega) (by omega) (by omega)), x4, (v _ _ (by omega) (by omega) (by omega) (by omega) (by omega) (by omega) (by omega) (by omega)).trans x5⟩, (v _ _ (by omega) (by omega) (by omega) (by omega) (by omega) (by omega) (by omega) (by omega)).trans x6, x7, fun i hi => ⟨(v _ _ (by omega) (by omega) (by omega) (by omega) (by omega) (by omega) (by omega) (by omega)).trans (x8 i hi).1, (v _ _ (by omega) (by omega) (by omega) (by omega) (by omega) (by omega) (by omega) (by omega)).trans (x8 i hi).2⟩, x9⟩, ⟨(v _ _ (by omega) (by omega) (by omega) (by omega) (by omega) (by omega) (by omega) (by omega)).trans e1, e2, fun k hk => ⟨(v _ _ (by omega) (by omega) (by omega) (by omega) (by omega) (by omega) (by omega) (by omega)).trans (e3 k hk).1, (v _ _ (by omega) (by omega) (by omega) (by omega) (by omega) (by omega) (by omega) (by omega)).trans (e3 k hk).2⟩⟩, ⟨(v _ _ (by omega) (by omega) (by omega) (by omega) (by omega) (by omega) (by omega) (by omega)).trans f1, fun i hi => ⟨(f2 i hi).1.er (fun k => v _ _ (by omega) (by omega) (by omega) (by omega) (by omega) (by omega) (by omega) (by omega)), (v _ _ (by omega) (by omega) (by omega) (by omega) (by omega) (by omega) (by omega) (by omega)).trans (f2 i hi).2⟩⟩, ⟨(v _ _ (by omega) (by omega) (by omega) (by omega) (by omega) (by omega) (by omega) (by omega)).trans g1, fun i hi => ⟨(v _ _ (by omega) (by omega) (by omega) (by omega) (by omega) (by omega) (by omega) (by omega)).trans (g2 i hi).1, (g2 i hi).2.1.eq (fun k => v _ _ (by omega) (by omega) (by omega) (by omega) (by omega) (by omega) (by omega) (by omega)), fun j hj => ((g2 i hi).2.2 j hj).eq (fun k => v _ _ (by omega) (by omega) (by omega) (by omega) (by omega) (by omega) (by omega) (by omega))⟩⟩, (v _ _ (by omega) (by omega) (by omega) (by omega) (by omega) (by omega) (by omega) (by omega)).trans r1, (v _ _ (by omega) (by omega) (by omega) (by omega) (by omega) (by omega) (by omega) (by omega)).trans r2, (v _ _ (by omega) (by omega) (by omega) (by omega) (by omega) (by omega) (by omega) (by omega)).trans r3⟩
theorem spF_cg {P : Int → Bool} {B B' : BY} : ∀ k p, (∀ i, p ≤ i → i < p + k → B i = B' i) → spF P B k p = spF P B' k p := by
  intro k
  induction k with
  | zero => intro p _; rfl
  | succ k ih =>
    intro p h
    simp only [spF]
    rw [h p (by omega) (by omega), ih (p + 1) (fun i h1 h2 => h i (by omega) (by omega))]
theorem sk_cg {B B' : BY} {n : Nat} (h : ∀ i, i < n → B i = B' i) {p : Nat} (hp : p ≤ n) : sk B n p = sk B' n p := spF_cg _ _ (fun i h1 h2 => h i (by omega))
/-- other names of the same bytes -/
theorem TM.cg {B B' : BY} {n : Nat} (hB : ∀ i, i < n → B i = B' i) (h : TM B n M (.inl (sk B n 0))) (ha : AtM M (.inl (sk B n 0))) : TM B' n M (.inl (sk B' n 0)) ∧ AtM M (.inl (sk B' n 0)) := by
  have e0 := sk_cg hB (p := 0) (by omega)
  obtain ⟨⟨h1, h2, h3⟩, a, h4, h5, h6, h7⟩ := h
  rw [sk_cg hB h5, e0] at h7
  rw [e0] at ha
  exact ⟨⟨⟨h1, h2, fun i hi => (h3 i hi).trans (hB i hi)⟩, a, h4, h5, h6, h7⟩, ha⟩
theorem TM.st {st : ST} {k : Nat} {v : Int} (h : TM B n M st) (hk : ¬ (k = 2 ∨ (4 ≤ k ∧ k ≤ 6))) : TM B n (mset M 440 k v) st := by
  obtain ⟨⟨h1, h2, h3⟩, a, h4, h5, h6⟩ := h
  refine ⟨⟨(ms_nk (by omega)).trans h1, h2, fun i hi => (ms_na (by decide)).trans (h3 i hi)⟩, a, (ms_nk (by omega)).trans h4, h5, ?_⟩
  cases st with
  | inl p => exact ⟨(ms_nk (by omega)).trans h6.1, h6.2⟩
  | inr f => exact ⟨(ms_nk (by omega)).trans h6.1, (ms_nk (by omega)).trans h6.2.1, h6.2.2⟩
/-- another law -/
theorem MS.law {L' : LC} {nB' : Nat} (h : MS M nB B fp c L s H I Y rf ms wr) (hL : LM M' L') (hI : IV nB' B c s H I Y) (u : ∀ a k, ¬ (466 ≤ a ∧ a ≤ 625) → ¬ (a = 440 ∧ k = 21) → M' a k = M a k) : MS M' nB B fp c L' s H I Y rf ms wr := by
  obtain ⟨⟨a1, a2, a3⟩, b, ⟨e1, e2, e3⟩, ⟨f1, f2⟩, ⟨g1, g2⟩, r1, r2, r3⟩ := h
  have hH := hI.2.2.2.1.1
  have hI3 := hI.2.2.2.2.1.1
  obtain ⟨⟨x1, x2, x3, x4, x5⟩, -⟩ := b
  have hn := x2.n
  exact ⟨⟨(u _ _ (by omega) (by omega)).trans a1, fun i hi => (u _ _ (by omega) (by omega)).trans (a2 i hi), (u _ _ (by omega) (by omega)).trans a3⟩, ⟨⟨⟨fun k hk => (u _ _ (by omega) (by omega)).trans (x1.1 k hk), fun i hi => (u _ _ (by omega) (by omega)).trans (x1.2.1 i hi), fun i hi => ⟨(u _ _ (by omega) (by omega)).trans (x1.2.2.1 i hi).1, (u _ _ (by omega) (by omega)).trans (x1.2.2.1 i hi).2⟩, fun i hi => (u _ _ (by omega) (by omega)).trans (x1.2.2.2.1 i hi), fun i hi => (u _ _ (by omega) (by omega)).trans (x1.2.2.2.2 i hi)⟩, x2, x3.er (fun k => u _ _ (by omega) (by omega)), x4, (u _ _ (by omega) (by omega)).trans x5⟩, hL⟩, ⟨(u _ _ (by omega) (by omega)).trans e1, e2, fun k hk => ⟨(u _ _ (by omega) (by omega)).trans (e3 k hk).1, (u _ _ (by omega) (by omega)).trans (e3 k hk).2⟩⟩, ⟨(u _ _ (by omega) (by omega)).trans f1, fun i hi => ⟨(f2 i hi).1.er (fun k => u _ _ (by omega) (by omega)), (u _ _ (by omega) (by omega)).trans (f2 i hi).2⟩⟩, ⟨(u _ _ (by omega) (by omega)).trans g1, fun i hi => ⟨(u _ _ (by omega) (by omega)).trans (g2 i hi).1, (g2 i hi).2.1.eq (fun k => u _ _ (by omega) (by omega)), fun j hj => ((g2 i hi).2.2 j hj).eq (fun k => u _ _ (by omega) (by omega))⟩⟩, (u _ _ (by omega) (by omega)).trans r1, (u _ _ (by omega) (by omega)).trans r2, (u _ _ (by omega) (by omega)).trans r3⟩
theorem lawT : Nat.ble 30 (tg 465) = true ∧ isO 923 465 (tg 465) = true := by decide +kernel
theorem lawS : Nat.ble 30 (tg 626) = true ∧ isO 923 626 (tg 626) = true := by decide +kernel
theorem lawR : ln 465 = 160 ∧ ln 626 = 160 := by decide +kernel
theorem lawRT : ∀ i, i < 160 → isO 923 (465 + 1 + i) 20 = true ∧ ln (465 + 1 + i) = 2 ∧ fxT 465 i = 465 + 1 + i := by decide +kernel
theorem lawRS : ∀ i, i < 160 → isO 923 (626 + 1 + i) 20 = true ∧ ln (626 + 1 + i) = 2 ∧ fxT 626 i = 626 + 1 + i := by decide +kernel
theorem FrN.km (h : FrN M M') : KmR M M' := fun a k p1 p2 p3 p4 p5 p6 p7 p8 => h a k (by omega) (by omega)
theorem FrM.km (h : FrM M M') : KmR M M' := fun a k p1 p2 p3 p4 p5 p6 p7 p8 => h a k (by omega)
theorem FrS.km (h : FrS M M') : KmR M M' := fun a k p1 p2 p3 p4 p5 p6 p7 p8 => h a k (by omega)
theorem KmR.set {k : Nat} {v : Int} (hk : k < 9 ∨ k = 22 ∨ k = 30) : KmR M (mset M 440 k v) := fun a j p1 p2 p3 p4 p5 p6 p7 p8 => by unfold mset; rw [if_neg (by omega)]
theorem KmR.t0 : KmR M (mset M 440 0 0) := KmR.set (by omega)
/-- of the model alone -/
def MoR (M M' : Mem) : Prop := ∀ a k, (a < 440 ∨ 888 ≤ a) → M' a k = M a k
theorem m186 {v : Int} (hK : K.1 = 923) (hX : FX M) (hI : IV nB B c s H I Y) (h : MS M nB B fp c L s H I Y rf ms wr) (kb : ¬ txOK nB v 150 → ∀ M', FX M' → BadM 1 1 M M' → Q (.inl (some (vI 0))) M' K) (k : txOK nB v 150 → ∀ M', FX M' → LoM M M' → M' 440 0 = 0 → MS M' 0 B (fpR (pLaw B v.toNat).1) c (lawL B v.toNat L) s H I Y rf ms wr → Q (.inl (some (vI (rdR (pLaw B v.toNat).1 1)))) M' K) : Wm (d + 90) 186 [vR 440, vI v] M K Q := by
  have h1 := h.1.1
  have h600 := hI.1
  have bad : ¬ txOK nB v 150 → ∀ M', FX M' → BadM 1 1 (mset M 440 0 0) M' → Q (.inl (some (vI 0))) M' K := fun hn M1 x1 b1 => kb hn M1 x1 (BadM.of FrQm.t0 b1 (by decide))
  refine u186_0 hK hX ⟨fun hv => bad (fun h9 => hv ⟨h9.1, by rw [h1]; exact h9.2.2⟩), fun hv => ⟨fun hv2 => ?_, fun hv2 => bad (fun h9 => hv2 h9.2.1)⟩⟩
  rw [h1] at hv
  have kk := k ⟨hv.1, hv2, hv.2⟩
  obtain ⟨n, rfl⟩ : ∃ n : Nat, v = (n : Int) := ⟨v.toNat, by omega⟩
  rw [Int.toNat_natCast] at kk
  have hn150 : n ≤ 150 := by omega
  refine ⟨n, ⟨rfl, by omega⟩, fun M1 x1 ⟨f1, t1, a1, z1, z7, z8⟩ => ?_⟩
  obtain ⟨t1, a1⟩ := TM.cg (fun i hi => (ms_na (by decide)).trans (h.1.2.1 i (by omega))) t1 a1
  have q1 : KmR M M1 := KmR.t0.tr f1.km
  have lo1 : LoM M M1 := (FrQm.t0 (M := M)).lo.tr (fun a k h9 => f1 a k (by omega))
  have z0 : M1 440 0 = 0 := (f1 440 0 (by decide)).trans ms_eq
  -- the sum
  have c0 : CMo (mset M1 440 22 0) (oo ((.inl (sk B n 0), []) : XL)) := ⟨ms_eq, fun i hi => absurd hi (by simp)⟩
  have t2 : TM B n (mset M1 440 22 0) (.inl (sk B n 0)) := t1.st (by decide)
  have gx := pSm_g (B := B) (n := n) 6 (.inl (sk B n 0), []) 0 (sk_w (by omega)) (fun p _ => by simp)
  refine mSm_ok hn150 6 (by decide) (d + 89) _ K _ (.inl (sk B n 0), []) 0 (by omega) hK (x1.set (nf440_s 22 (by omega))) t2 c0 (fun _ _ => (ms_nk (by decide)).trans z8) (fun p _ => by simp) (fun M2 x2 f2 t3 c2 _ => Bk_n ?_)
  have q2 : KmR M M2 := (q1.tr (KmR.set (by omega))).tr f2.km
  have lo2 : LoM M M2 := lo1.tr (fun a k h9 => by rw [f2 a k (by omega) (by omega), ms_na (by omega)])
  have z2 : M2 440 1 = 0 ∧ M2 440 0 = 0 := by
    constructor
    · rw [f2 _ _ (by omega) (by omega), ms_nk (by decide)]; exact z1
    · rw [f2 _ _ (by omega) (by omega), ms_nk (by decide)]; exact z0
  have wx : STw B n (pSm B n 6 (.inl (sk B n 0), [])).1 := gx.1
  have gl : GL 0 (pSm B n 6 (.inl (sk B n 0), [])) := gx.2
  have eL : (pLaw B n).2 = (pSm B n 6 (.inl (sk B n 0), [])).2 := rfl
  have e1 : (pLaw B n).1 = tEnd n (pSm B n 6 (.inl (sk B n 0), [])).1 := rfl
  refine u186_54 hK x2 ⟨B, n, _, t3, fun M3 x3 ⟨f3, t4, a4⟩ => ?_⟩
  have q3 : KmR M M3 := q2.tr f3.km
  have lo3 : LoM M M3 := lo2.tr (fun a k h9 => f3 a k (by omega))
  have z3 : M3 440 1 = 0 ∧ M3 440 0 = 0 := ⟨(f3 _ _ (by decide)).trans z2.1, (f3 _ _ (by decide)).trans z2.2⟩
  have c3 := CMo.m f3 c2
  -- a fault
  have flt : ∀ (f : Int × Int) M4, FX M4 → KmR M M4 → LoM M M4 → M4 440 1 = 0 ∧ M4 440 0 = 0 → TM B n M4 (.inr f) → (pLaw B n).1 = .inr f → Wm (d + 89) 172 [vR 440] M4 K (Bk (d + 89) 186 93 96 172 [vR 440, vI (n : Int)] [] Q) := by
    intro f M4 x4 q4 lo4 z4 t5 hp
    refine g172 hK x4 t5 (fun x5 => Bk_v (u186_96 hK x5 ?_))
    unfold rdR fpR lawL at kk
    rw [hp] at kk
    refine kk _ x5 (fun a k h9 => (ms_na (by omega)).trans (lo4 a k h9)) ((ms_nk (by decide)).trans z4.2) (h.rd hI (q4.tr (KmR.set (by omega))) ⟨(ms_nk (by decide)).trans z4.1, fun i hi => absurd hi (by omega), ms_eq⟩)
  cases hs : (pSm B n 6 (.inl (sk B n 0), [])).1 with
  | inr f =>
    rw [hs] at t4
    have tf := t4.f
    have hp : (pLaw B n).1 = .inr f := by rw [e1, hs]; rfl
    exact ⟨fun _ => flt f M3 x3 q3 lo3 z3 t4 hp, fun h9 => absurd (by rw [← tf.1]; exact h9) tf.2.2⟩
  | inl p =>
    rw [hs] at t4 a4
    have tp := t4.p
    have ta := t4.a a4
    refine ⟨fun h9 => absurd tp h9, fun _ => ⟨fun h9 => ?_, fun h9 => ?_⟩⟩
    · have hpn : ¬ p < n := by omega
      have hp : (pLaw B n).1 = .inl p := by rw [e1, hs]; show (if p < n then _ else _) = _; rw [if_neg hpn]
      have hoo : oo (pSm B n 6 (.inl (sk B n 0), [])) = some (pLaw B n).2 := by unfold oo; rw [hs]; rfl
      rw [hoo] at c3
      have c3' : CM M3 (pLaw B n).2 := c3
      have hV := pLaw_ok hp
      have hlen : (pLaw B n).2.length ≤ 150 := by have := gl p hs; rw [← eL] at this; omega
      rw [c3'.1]
      generalize hLL : (pLaw B n).2 = LL at *
      refine g177 (S := 626) (T := 465) (n := LL.length) (z := 2) hK ((x3.set (nf440_s 3 (by omega))).set (nf440_s 21 (by omega))) lawT lawS (by rw [lawR.1]; omega) (by rw [lawR.2]; omega) (by decide) (by omega) (fun i hi => lawRT i (by omega)) (fun i hi => lawRS i (by omega)) (by omega) (fun M4 x4 f4 r4 => Bk_n (u186_125 hK x4 ?_))
      unfold rdR fpR lawL at kk
      rw [hp] at kk
      dsimp only at kk
      rw [hLL] at kk
      have fa : ∀ a k, ¬ (466 ≤ a ∧ a ≤ 465 + LL.length) → ¬ (a = 440 ∧ (k = 3 ∨ k = 21)) → M4 a k = M3 a k := fun a k h1 h2 => by
        rw [f4 a k (by omega)]; unfold mset; rw [if_neg (by omega), if_neg (by omega)]
      have lm : LM M4 LL := by
        refine ⟨by rw [f4 _ _ (by omega), ms_eq], hlen, fun i hi => ?_, Or.inr hV⟩
        obtain ⟨y1, y2⟩ := c3'.2 i hi
        have w0 := r4 i 0 hi (by decide)
        have w1' := r4 i 1 hi (by decide)
        rw [show 465 + 1 + i = 466 + i by omega, show 626 + 1 + i = 627 + i by omega, ms_na (by omega), ms_na (by omega)] at w0 w1'
        exact ⟨w0.trans y1, w1'.trans y2⟩
      -- the state but for the law
      have hm : MS (fun a k => if (466 ≤ a ∧ a ≤ 465 + LL.length) ∨ (a = 440 ∧ k = 21) then M a k else M4 a k) 0 B (-1) c L s H I Y rf ms wr := by
        refine h.rd hI (fun a k p1 p2 p3 p4 p5 p6 p7 p8 => ?_) ⟨?_, fun i hi => absurd hi (by omega), ?_⟩
        · try dsimp only
          by_cases h8 : (466 ≤ a ∧ a ≤ 465 + LL.length) ∨ (a = 440 ∧ k = 21)
          · rw [if_pos h8]
          · rw [if_neg h8, fa a k (by omega) (by omega)]; exact q3 a k p1 p2 p3 p4 p5 p6 p7 p8
        · try dsimp only
          rw [if_neg (by omega), fa _ _ (by omega) (by omega)]; exact z3.1
        · try dsimp only
          rw [if_neg (by omega), f4 _ _ (by omega), ms_nk (by decide), ms_eq]
      refine kk M4 x4 (fun a k h9 => (fa a k (by omega) (by omega)).trans (lo3 a k h9)) ((fa _ _ (by omega) (by omega)).trans z3.2) (hm.law lm hI (fun a k h1 h2 => ?_))
      try dsimp only
      rw [if_neg (by omega)]
    · have hpn : p < n := by omega
      have hp : (pLaw B n).1 = .inr (1, (p : Int)) := by rw [e1, hs]; show (if p < n then _ else _) = _; rw [if_pos hpn]
      refine ⟨B, n, .inl p, ⟨t4, by decide⟩, fun M4 x4 ⟨f4, t5, a5⟩ => ?_⟩
      have t5' : TM B n M4 (.inr (1, (p : Int))) := by
        rw [ta.1] at t5; exact t5
      have tf := t5'.f
      exact ⟨fun h8 => absurd h8 (by rw [tf.1]; show ¬ (1 : Int) = 0; decide), fun _ => flt _ M4 x4 (q3.tr f4.km) (lo3.tr (fun a k h9 => f4 a k (by omega))) ⟨(f4 _ _ (by decide)).trans z3.1, (f4 _ _ (by decide)).trans z3.2⟩ t5' hp⟩
end MRD
