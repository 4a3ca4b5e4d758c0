/-! a run: the model -/
theorem u201_0 {d : Nat} {l1 : Int} {l2 : Int} {M : Mem} {K : KK} {Q : RR → Mem → KK → Prop} (hK : K.1 = 923) (hX : FX M)  (h : Wp (d + 1) 201 2 [vR 440, vI l1, vI l2, vI l1, vU] [] M K Q) : Wp (d + 1) 201 0 [vR 440, vI l1, vI l2, vU, vU] [] M K Q := by
  refine r_iload_n c201_0 rfl ?_
  refine r_istore_n c201_1 (Nat.le_of_ble_eq_true rfl) ?_
  exact h
theorem u201_2 {d : Nat} {l1 : Int} {l2 : Int} {l3 : Int} {l4 : PV} {M : Mem} {K : KK} {Q : RR → Mem → KK → Prop} (hK : K.1 = 923) (hX : FX M)  (h : (l2 ≤ l3 → Q (.inl none) M K) ∧ (¬ (l2 ≤ l3) → ((200 : Int) ≤ (M 440 40) → Q (.inl none) M K) ∧ (¬ ((200 : Int) ≤ (M 440 40)) → (0 ≤ l3 ∧ l3 < (80 : Int)) ∧ (¬ (M (808 + Int.toNat l3) 0) = (6 : Int) → (0 ≤ l3 ∧ l3 < (80 : Int)) ∧ Wm d 200 [vR 440, vR 888, vR (808 + Int.toNat l3)] (mset M 440 40 (w32 ((M 440 40) + (1 : Int)))) K (Bk d 201 101 104 200 [vR 440, vI l1, vI l2, vI l3, l4] [] Q)) ∧ ((M (808 + Int.toNat l3) 0) = (6 : Int) → Wp (d + 1) 201 43 [vR 440, vI l1, vI l2, vI l3, vI (0 : Int)] [] (mset M 440 40 (w32 ((M 440 40) + (1 : Int)))) K Q)))) : Wp (d + 1) 201 2 [vR 440, vI l1, vI l2, vI l3, l4] [] M K Q := by
  refine r_iload_n c201_2 rfl ?_
  refine r_iload_n c201_3 rfl ?_
  refine r_icmpP (P := l2 ≤ l3) c201_4 rfl (fun hc1 => ?_) (fun hc1 => ?_)
  · replace h := h.1 hc1
    exact r_ret c201_156 h
  · replace h := h.2 hc1
    refine r_aload_n c201_7 rfl ?_
    refine r_getIe c201_8 (oK hK o440) rfl ?_
    refine r_sipush c201_11 ?_
    refine r_icmpP (P := (200 : Int) ≤ (M 440 40)) c201_14 rfl (fun hc2 => ?_) (fun hc2 => ?_)
    · replace h := h.1 hc2
      exact r_ret c201_156 h
    · replace h := h.2 hc2
      refine r_aload_n c201_17 rfl ?_
      refine r_dupr c201_18 ?_
      refine r_getIe c201_19 (oK hK o440) rfl ?_
      refine r_iconst c201_22 ?_
      refine r_iadd c201_23 ?_
      refine r_putI c201_24 (oK hK o440) ?_
      have x3 := FX.set (v := (w32 ((M 440 40) + (1 : Int)))) (a := 440) (k := 40) hX (by decide +kernel)
      refine r_aload_n c201_27 rfl ?_
      refine r_getR c201_28 (oK hK o440) (FX.get (b := 807) x3 (by decide) (by decide +kernel) (by decide)) (by decide) ?_
      refine r_iload_n c201_31 rfl ?_
      obtain ⟨s4, h⟩ := h
      refine r_aa c201_32 (mrw o807 hK) (bd l807 s4) (rf807 x3 s4) (by omega) ?_
      refine r_iconst c201_33 ?_
      refine r_iae c201_34 (oK hK (ro807 s4)) (bd (rz807 s4) (by decide)) (ms_na (by omega)) ?_
      refine r_bipush c201_35 ?_
      refine r_icmpP (P := ¬ (M (808 + Int.toNat l3) 0) = (6 : Int)) c201_37 rfl (fun hc5 => ?_) (fun hc5 => ?_)
      · replace h := h.1 hc5
        refine r_aload_n c201_90 rfl ?_
        refine r_aload_n c201_91 rfl ?_
        refine r_getR c201_92 (oK hK o440) (FX.get (b := 888) x3 (by decide) (by decide +kernel) (by decide)) (by decide) ?_
        refine r_aload_n c201_95 rfl ?_
        refine r_getR c201_96 (oK hK o440) (FX.get (b := 807) x3 (by decide) (by decide +kernel) (by decide)) (by decide) ?_
        refine r_iload_n c201_99 rfl ?_
        obtain ⟨s7, h⟩ := h
        refine r_aa c201_100 (mrw o807 hK) (bd l807 s7) (rf807 x3 s7) (by omega) ?_
        exact r_call c201_101 rfl rfl (Nat.le_of_ble_eq_true rfl) (okc_r rfl rfl (oK hK o440)) h
      · have hc6 := Classical.not_not.mp hc5
        replace h := h.2 hc6
        refine r_iconst c201_40 ?_
        refine r_istore c201_41 (Nat.le_of_ble_eq_true rfl) ?_
        exact h
theorem u201_43 {d : Nat} {l1 : Int} {l2 : Int} {l3 : Int} {l4 : Int} {M : Mem} {K : KK} {Q : RR → Mem → KK → Prop} (hK : K.1 = 923) (hX : FX M)  (h : (0 ≤ l3 ∧ l3 < (80 : Int)) ∧ ((M (808 + Int.toNat l3) 1) ≤ l4 → (0 ≤ l3 ∧ l3 < (80 : Int)) ∧ Wp (d + 1) 201 2 [vR 440, vI l1, vI l2, vI (M (808 + Int.toNat l3) 3), vI l4] [] M K Q) ∧ (¬ ((M (808 + Int.toNat l3) 1) ≤ l4) → ((200 : Int) ≤ (M 440 40) → (0 ≤ l3 ∧ l3 < (80 : Int)) ∧ Wp (d + 1) 201 2 [vR 440, vI l1, vI l2, vI (M (808 + Int.toNat l3) 3), vI l4] [] M K Q) ∧ (¬ ((200 : Int) ≤ (M 440 40)) → (0 ≤ l3 ∧ l3 < (80 : Int)) ∧ Wm d 201 [vR 440, vI (w32 (l3 + (1 : Int))), vI (M (808 + Int.toNat l3) 3)] M K (Bk d 201 78 81 201 [vR 440, vI l1, vI l2, vI l3, vI l4] [] Q)))) : Wp (d + 1) 201 43 [vR 440, vI l1, vI l2, vI l3, vI l4] [] M K Q := by
  refine r_iload c201_43 rfl ?_
  refine r_aload_n c201_45 rfl ?_
  refine r_getR c201_46 (oK hK o440) (FX.get (b := 807) hX (by decide) (by decide +kernel) (by decide)) (by decide) ?_
  refine r_iload_n c201_49 rfl ?_
  obtain ⟨s1, h⟩ := h
  refine r_aa c201_50 (mrw o807 hK) (bd l807 s1) (rf807 hX s1) (by omega) ?_
  refine r_iconst c201_51 ?_
  refine r_iae c201_52 (oK hK (ro807 s1)) (bd (rz807 s1) (by decide)) rfl ?_
  refine r_icmpP (P := (M (808 + Int.toNat l3) 1) ≤ l4) c201_53 rfl (fun hc2 => ?_) (fun hc2 => ?_)
  · replace h := h.1 hc2
    refine r_goto c201_87 ?_
    refine r_aload_n c201_144 rfl ?_
    refine r_getR c201_145 (oK hK o440) (FX.get (b := 807) hX (by decide) (by decide +kernel) (by decide)) (by decide) ?_
    refine r_iload_n c201_148 rfl ?_
    obtain ⟨s3, h⟩ := h
    refine r_aa c201_149 (mrw o807 hK) (bd l807 s3) (rf807 hX s3) (by omega) ?_
    refine r_iconst c201_150 ?_
    refine r_iae c201_151 (oK hK (ro807 s3)) (bd (rz807 s3) (by decide)) rfl ?_
    refine r_istore_n c201_152 (Nat.le_of_ble_eq_true rfl) ?_
    refine r_goto c201_153 ?_
    exact h
  · replace h := h.2 hc2
    refine r_aload_n c201_56 rfl ?_
    refine r_getIe c201_57 (oK hK o440) rfl ?_
    refine r_sipush c201_60 ?_
    refine r_icmpP (P := (200 : Int) ≤ (M 440 40)) c201_63 rfl (fun hc4 => ?_) (fun hc4 => ?_)
    · replace h := h.1 hc4
      refine r_goto c201_87 ?_
      refine r_aload_n c201_144 rfl ?_
      refine r_getR c201_145 (oK hK o440) (FX.get (b := 807) hX (by decide) (by decide +kernel) (by decide)) (by decide) ?_
      refine r_iload_n c201_148 rfl ?_
      obtain ⟨s5, h⟩ := h
      refine r_aa c201_149 (mrw o807 hK) (bd l807 s5) (rf807 hX s5) (by omega) ?_
      refine r_iconst c201_150 ?_
      refine r_iae c201_151 (oK hK (ro807 s5)) (bd (rz807 s5) (by decide)) rfl ?_
      refine r_istore_n c201_152 (Nat.le_of_ble_eq_true rfl) ?_
      refine r_goto c201_153 ?_
      exact h
    · replace h := h.2 hc4
      refine r_aload_n c201_66 rfl ?_
      refine r_iload_n c201_67 rfl ?_
      refine r_iconst c201_68 ?_
      refine r_iadd c201_69 ?_
      refine r_aload_n c201_70 rfl ?_
      refine r_getR c201_71 (oK hK o440) (FX.get (b := 807) hX (by decide) (by decide +kernel) (by decide)) (by decide) ?_
      refine r_iload_n c201_74 rfl ?_
      obtain ⟨s6, h⟩ := h
      refine r_aa c201_75 (mrw o807 hK) (bd l807 s6) (rf807 hX s6) (by omega) ?_
      refine r_iconst c201_76 ?_
      refine r_iae c201_77 (oK hK (ro807 s6)) (bd (rz807 s6) (by decide)) rfl ?_
      exact r_call c201_78 rfl rfl (Nat.le_of_ble_eq_true rfl) (okc_r rfl rfl (oK hK o440)) h
theorem u201_81 {d : Nat} {l1 : Int} {l2 : Int} {l3 : Int} {l4 : Int} {M : Mem} {K : KK} {Q : RR → Mem → KK → Prop} (hK : K.1 = 923) (hX : FX M)  (h : Wp (d + 1) 201 43 [vR 440, vI l1, vI l2, vI l3, vI (w32 (l4 + 1))] [] M K Q) : Wp (d + 1) 201 81 [vR 440, vI l1, vI l2, vI l3, vI l4] [] M K Q := by
  refine r_iinc c201_81 rfl ?_
  refine r_goto c201_84 ?_
  exact h
theorem u201_104 {d : Nat} {l1 : Int} {l2 : Int} {l3 : Int} {l4 : PV} {t0 : Int} {M : Mem} {K : KK} {Q : RR → Mem → KK → Prop} (hK : K.1 = 923) (hX : FX M)  (h : (t0 = (0 : Int) → (0 ≤ l3 ∧ l3 < (80 : Int)) ∧ Wp (d + 1) 201 2 [vR 440, vI l1, vI l2, vI (M (808 + Int.toNat l3) 3), vI t0] [] (mset (mset M 440 41 (w32 ((M 440 41) + (0 : Int)))) 440 37 (w32 ((M 440 37) + (1 : Int)))) K Q) ∧ (¬ (t0 = (0 : Int)) → (0 ≤ l3 ∧ l3 < (80 : Int)) ∧ Wp (d + 1) 201 2 [vR 440, vI l1, vI l2, vI (M (808 + Int.toNat l3) 3), vI t0] [] (mset (mset M 440 41 (w32 ((M 440 41) + (1 : Int)))) 440 37 (w32 ((M 440 37) + (0 : Int)))) K Q)) : Wp (d + 1) 201 104 [vR 440, vI l1, vI l2, vI l3, l4] [vI t0] M K Q := by
  refine r_istore c201_104 (Nat.le_of_ble_eq_true rfl) ?_
  refine r_aload_n c201_106 rfl ?_
  refine r_dupr c201_107 ?_
  refine r_getIe c201_108 (oK hK o440) rfl ?_
  refine r_iload c201_111 rfl ?_
  refine r_ifP (P := t0 = (0 : Int)) c201_113 rfl (fun hc1 => ?_) (fun hc1 => ?_)
  · replace h := h.1 hc1
    refine r_iconst c201_120 ?_
    refine r_iadd c201_121 ?_
    refine r_putI c201_122 (oK hK o440) ?_
    have x2 := FX.set (v := (w32 ((M 440 41) + (0 : Int)))) (a := 440) (k := 41) hX (by decide +kernel)
    refine r_aload_n c201_125 rfl ?_
    refine r_dupr c201_126 ?_
    refine r_getIe c201_127 (oK hK o440) (ms_nk (by decide)) ?_
    refine r_iload c201_130 rfl ?_
    refine r_ifP (P := t0 = (0 : Int)) c201_132 rfl (fun hc => ?_) (fun hc => absurd hc1 hc)
    refine r_iconst c201_139 ?_
    refine r_iadd c201_140 ?_
    refine r_putI c201_141 (oK hK o440) ?_
    have x3 := FX.set (v := (w32 ((M 440 37) + (1 : Int)))) (a := 440) (k := 37) x2 (by decide +kernel)
    refine r_aload_n c201_144 rfl ?_
    refine r_getR c201_145 (oK hK o440) (FX.get (b := 807) x3 (by decide) (by decide +kernel) (by decide)) (by decide) ?_
    refine r_iload_n c201_148 rfl ?_
    obtain ⟨s4, h⟩ := h
    refine r_aa c201_149 (mrw o807 hK) (bd l807 s4) (rf807 x3 s4) (by omega) ?_
    refine r_iconst c201_150 ?_
    refine r_iae c201_151 (oK hK (ro807 s4)) (bd (rz807 s4) (by decide)) (Eq.trans (ms_na (by omega)) (ms_na (by omega))) ?_
    refine r_istore_n c201_152 (Nat.le_of_ble_eq_true rfl) ?_
    refine r_goto c201_153 ?_
    exact h
  · replace h := h.2 hc1
    refine r_iconst c201_116 ?_
    refine r_goto c201_117 ?_
    refine r_iadd c201_121 ?_
    refine r_putI c201_122 (oK hK o440) ?_
    have x5 := FX.set (v := (w32 ((M 440 41) + (1 : Int)))) (a := 440) (k := 41) hX (by decide +kernel)
    refine r_aload_n c201_125 rfl ?_
    refine r_dupr c201_126 ?_
    refine r_getIe c201_127 (oK hK o440) (ms_nk (by decide)) ?_
    refine r_iload c201_130 rfl ?_
    refine r_ifP (P := t0 = (0 : Int)) c201_132 rfl (fun hc => absurd hc hc1) (fun hc => ?_)
    refine r_iconst c201_135 ?_
    refine r_goto c201_136 ?_
    refine r_iadd c201_140 ?_
    refine r_putI c201_141 (oK hK o440) ?_
    have x6 := FX.set (v := (w32 ((M 440 37) + (0 : Int)))) (a := 440) (k := 37) x5 (by decide +kernel)
    refine r_aload_n c201_144 rfl ?_
    refine r_getR c201_145 (oK hK o440) (FX.get (b := 807) x6 (by decide) (by decide +kernel) (by decide)) (by decide) ?_
    refine r_iload_n c201_148 rfl ?_
    obtain ⟨s7, h⟩ := h
    refine r_aa c201_149 (mrw o807 hK) (bd l807 s7) (rf807 x6 s7) (by omega) ?_
    refine r_iconst c201_150 ?_
    refine r_iae c201_151 (oK hK (ro807 s7)) (bd (rz807 s7) (by decide)) (Eq.trans (ms_na (by omega)) (ms_na (by omega))) ?_
    refine r_istore_n c201_152 (Nat.le_of_ble_eq_true rfl) ?_
    refine r_goto c201_153 ?_
    exact h
theorem runL_cg {c : Mem} {L : LC} {P : PG} {AG AG' : Nat → WK → WK} {to : Nat} : ∀ f i w, (∀ j, i ≤ j → j < to → P.2 j 0 ≠ 6) → runL c L P AG to f i w = runL c L P AG' to f i w := by
  intro f
  induction f with
  | zero => intro i w _; rfl
  | succ f ih =>
    intro i w h
    simp only [runL]
    split
    · rfl
    · rename_i hc
      rw [if_neg (h i (Nat.le_refl _) (by omega)), if_neg (h i (Nat.le_refl _) (by omega))]
      exact ih _ _ (fun j h1 h2 => h j (by omega) h2)
/-- no more than r brackets in brackets -/
def NV (P : PG) : Nat → Nat → Nat → Prop
  | 0, i, to => ∀ j, i ≤ j → j < to → P.2 j 0 ≠ 6
  | r + 1, i, to => ∀ j, i ≤ j → j < to → P.2 j 0 = 6 → NV P r (j + 1) (P.2 j 3).toNat
def WKm (M : Mem) (c : Mem) (L : LC) (P : PG) (w : WK) : Prop := SM M 888 c w.1 (-1) ∧ LM M L ∧ (∀ i, i < P.1 → RWm M P.2 i) ∧ (M 440 40 = (w.2.1 : Int) ∧ M 440 41 = (w.2.2.1 : Int) ∧ M 440 37 = (w.2.2.2 : Int)) ∧ w.2.1 ≤ 200 ∧ w.2.2.1 ≤ w.2.1 ∧ w.2.2.2 ≤ w.2.1
def FrG (M M' : Mem) : Prop := ∀ a k, a ≠ 805 → a ≠ 806 → a ≠ 888 → ¬ (a = 440 ∧ (k = 40 ∨ k = 41 ∨ k = 37)) → M' a k = M a k
theorem FrG.rf {M : Mem} : FrG M M := fun _ _ _ _ _ _ => rfl
theorem FrG.tr {M M1 M2 : Mem} (h1 : FrG M M1) (h2 : FrG M1 M2) : FrG M M2 := fun a k p q t u => (h2 a k p q t u).trans (h1 a k p q t u)
theorem FrJ.G {M M' : Mem} (h : FrJ 888 M M') : FrG M M' := fun a k p q t _ => h a k p q t
theorem FrG.up {M M1 : Mem} {k : Nat} {v : Int} (h : FrG M M1) (hk : k = 40 ∨ k = 41 ∨ k = 37) : FrG M (mset M1 440 k v) := by
  intro b k' p q t u
  unfold mset
  rw [if_neg (by rintro ⟨rfl, rfl⟩; exact u ⟨rfl, hk⟩)]
  exact h b k' p q t u
section GO
variable {d : Nat} {M M' : Mem} {K : KK} {Q : RR → Mem → KK → Prop} {c : Mem} {L : LC} {P : PG} {w : WK} {dr : Int}
theorem z888 : L27 888 := by unfold L27; decide +kernel
theorem o888' : isO 923 888 20 = true := by decide +kernel
theorem MCc.gg (hw : CW c) (hf : FrG M M') (h : MCc M c) : MCc M' c := by
  obtain ⟨w0, w1', w2, w3, -⟩ := hw
  exact ⟨fun k hk => (hf 444 k (by omega) (by omega) (by omega) (by omega)).trans (h.1 k hk), fun i hi => (hf 446 i (by omega) (by omega) (by omega) (by omega)).trans (h.2.1 i hi), fun i hi => ⟨(hf _ 0 (by omega) (by omega) (by omega) (by omega)).trans (h.2.2.1 i hi).1, (hf _ 1 (by omega) (by omega) (by omega) (by omega)).trans (h.2.2.1 i hi).2⟩, fun i hi => (hf 448 i (by omega) (by omega) (by omega) (by omega)).trans (h.2.2.2.1 i hi), fun i hi => (hf 450 i (by omega) (by omega) (by omega) (by omega)).trans (h.2.2.2.2 i hi)⟩
theorem LM.gg (hf : FrG M M') (h : LM M L) : LM M' L := by
  have h9 := h.2.1
  exact ⟨(hf 440 21 (by decide) (by decide) (by decide) (by decide)).trans h.1, h.2.1, fun i hi => ⟨(hf _ 0 (by omega) (by omega) (by omega) (by omega)).trans (h.2.2.1 i hi).1, (hf _ 1 (by omega) (by omega) (by omega) (by omega)).trans (h.2.2.1 i hi).2⟩, h.2.2.2⟩
theorem RWm.gg {F : Mem} {i : Nat} (hi : i < 80) (hf : FrG M M') (h : RWm M F i) : RWm M' F i := by
  unfold RWm at h ⊢
  have e : ∀ k, M' (808 + i) k = M (808 + i) k := fun k => hf _ k (by omega) (by omega) (by omega) (by omega)
  simp only [e]; exact h
theorem LMr.s439 {s : Mem} {k : Nat} {v : Int} (h : LMr M 888 c s) : LMr (mset M 440 k v) 888 c s := by
  refine ⟨fun q hq => ?_, ?_, ?_⟩
  · rw [ms_na (by omega), ms_na (by omega), ms_na (by omega), ms_na (by omega)]; exact h.1 q hq
  · rw [ms_na (by omega)]; exact h.2.1
  · rw [ms_na (by omega)]; exact h.2.2
theorem WKm.st (hP1 : P.1 ≤ 51) (h : WKm M c L P w) (hf : FrG M M') {s' : Mem} (hl : LMr M' 888 c s') (hlw : LW c s') (h26 : M' 888 26 = -1) {w' : WK} (e : w'.1 = s') (e5 : M' 440 40 = (w'.2.1 : Int)) (e6 : M' 440 41 = (w'.2.2.1 : Int)) (e7 : M' 440 37 = (w'.2.2.2 : Int)) (hb : w'.2.1 ≤ 200 ∧ w'.2.2.1 ≤ w'.2.1 ∧ w'.2.2.2 ≤ w'.2.1) : WKm M' c L P w' := by
  obtain ⟨⟨hc, hw, -⟩, hL, hPr, -⟩ := h
  refine ⟨⟨hc.gg hw hf, hw, ?_, ?_, h26⟩, hL.gg hf, fun j hj => (hPr j hj).gg (by omega) hf, ⟨e5, e6, e7⟩, hb⟩
  · rw [e]; exact hl
  · rw [e]; exact hlw
theorem g201 {D : Nat} {R : Nat → Nat → WK → WK} (hP : PVc c P) (hP1 : P.1 ≤ 51) {i to : Nat} (hto : to ≤ P.1)
    (hR : ∀ j, i ≤ j → j < to → P.2 j 0 = 6 → ∀ (d : Nat) (M : Mem) (K : KK) (Q : RR → Mem → KK → Prop) (w : WK), D ≤ d → K.1 = 923 → FX M → WKm M c L P w → (∀ M', FX M' → FrG M M' → WKm M' c L P (R (j + 1) (P.2 j 3).toNat w) → Q (.inl none) M' K) → Wm d 201 [vR 440, vI ((j + 1 : Nat) : Int), vI (P.2 j 3)] M K Q)
    (hd : D + 1 ≤ d) (hd7 : 7 ≤ d) (hK : K.1 = 923) (hX : FX M) (h : WKm M c L P w)
    (k : ∀ M', FX M' → FrG M M' → WKm M' c L P (runL c L P (fun j w => runG (R (j + 1) (P.2 j 3).toNat) (P.2 j 1).toNat w) to 150 i w) → Q (.inl none) M' K) : Wm d 201 [vR 440, vI (i : Int), vI (to : Int)] M K Q := by
  obtain ⟨d, rfl⟩ : ∃ e, d = e + 7 := ⟨d - 7, by omega⟩
  refine u201_0 hK hX ?_
  generalize hW : runL c L P (fun j w => runG (R (j + 1) (P.2 j 3).toNat) (P.2 j 1).toNat w) to 150 i w = W9 at k
  have loop : ∀ f j, 150 ≤ f + j → i ≤ j → ∀ M1 wA (lx : PV), FX M1 → FrG M M1 → WKm M1 c L P wA → W9 = runL c L P (fun j w => runG (R (j + 1) (P.2 j 3).toNat) (P.2 j 1).toNat w) to f j wA → (lx = vU ∨ ∃ z, lx = vI z) → Wp (d + 7) 201 2 [vR 440, vI (i : Int), vI (to : Int), vI (j : Int), lx] [] M1 K Q := by
    intro f
    induction f with
    | zero =>
      intro j h1 hij M1 wA lx x1 f1 hwA e1 hlx
      refine u201_2 hK x1 ⟨fun _ => k M1 x1 f1 (by rw [e1]; exact hwA), fun h => absurd h (by omega)⟩
    | succ f ih =>
      intro j h1 hij M1 wA lx x1 f1 hwA e1 hlx
      have hwA' := hwA
      obtain ⟨hS, hL, hPr, ⟨e5, e6, e7⟩, hb⟩ := hwA'
      have stop : (to ≤ j ∨ 200 ≤ wA.2.1) → Q (.inl none) M1 K := by
        intro h
        simp only [runL] at e1
        rw [if_pos h] at e1
        exact k M1 x1 f1 (by rw [e1]; exact hwA)
      refine u201_2 hK x1 ⟨fun h => stop (by omega), fun h => ⟨fun h => stop (by omega), fun h2 => ?_⟩⟩
      have hj : j < P.1 := by omega
      have hjt : j < to := by omega
      have hb80 : 0 ≤ (j : Int) ∧ (j : Int) < 80 := by omega
      obtain ⟨ho, ⟨hv1, hv2⟩, hv3⟩ := hP j hj
      have hb2 : ¬ (to ≤ j ∨ 200 ≤ wA.2.1) := by omega
      have st := hwA.st (w' := (wA.1, wA.2.1 + 1, wA.2.2)) (M' := mset M1 440 40 ((wA.2.1 + 1 : Nat) : Int)) hP1 (FrG.rf.up (Or.inl rfl)) hS.2.2.1.s439 hS.2.2.2.1 (by rw [ms_na (by omega)]; exact hS.2.2.2.2) rfl (by rw [ms_eq]) (by rw [ms_nk (by decide), e6]) (by rw [ms_nk (by decide), e7]) (by dsimp only; omega)
      have fs : FrG M (mset M1 440 40 ((wA.2.1 + 1 : Nat) : Int)) := f1.up (Or.inl rfl)
      have xs : FX (mset M1 440 40 ((wA.2.1 + 1 : Nat) : Int)) := x1.set (by decide +kernel)
      have ro := (ro807_all j (by omega)).1
      have rz := (ro807_all j (by omega)).2.1
      rw [e5, w1 (i := wA.2.1) (by omega), Int.toNat_natCast]
      obtain ⟨q0, -⟩ := hPr j hj
      simp only [runL] at e1
      rw [if_neg hb2] at e1
      refine ⟨hb80, fun h6 => ⟨hb80, ?_⟩, fun h6 => ?_⟩
      · have hk6 : P.2 j 0 ≠ 6 := fun h9 => h6 (by rw [q0]; exact h9)
        rw [if_neg hk6] at e1
        have hr9 := st.2.2.1 j hj
        refine g200 hK xs o888' z888 ro rz st.1 st.2.1 ⟨hr9.1, hr9.2.1, hr9.2.2.1, hr9.2.2.2.1⟩ ho hk6 (fun M2 x2 f2 l2 h26 => Bk_v ?_)
        have rd : ∀ j', M2 440 j' = mset M1 440 40 ((wA.2.1 + 1 : Nat) : Int) 440 j' := fun j' => f2 440 j' (by decide) (by decide) (by decide)
        have r5 : M2 440 40 = ((wA.2.1 + 1 : Nat) : Int) := by rw [rd, ms_eq]
        have r6 : M2 440 41 = (wA.2.2.1 : Int) := by rw [rd, ms_nk (by decide), e6]
        have r7 : M2 440 37 = (wA.2.2.2 : Int) := by rw [rd, ms_nk (by decide), e7]
        have ers : rainM c wA.1 (-1) = rainS c (wA.1 4 0) := by unfold rainM; rw [if_pos rfl]
        dsimp only at l2
        rw [ers] at l2 ⊢
        have e9 : doW c L P j wA = ((stpR c L wA.1 (rainS c (wA.1 4 0)) (P.2 j 0) (P.2 j 1) (P.2 j 2)).getD wA.1, wA.2.1 + 1, if (stpR c L wA.1 (rainS c (wA.1 4 0)) (P.2 j 0) (P.2 j 1) (P.2 j 2)).isSome = true then (wA.2.2.1 + 1, wA.2.2.2) else (wA.2.2.1, wA.2.2.2 + 1)) := rfl
        have hlw' : LW c ((stpR c L wA.1 (rainS c (wA.1 4 0)) (P.2 j 0) (P.2 j 1) (P.2 j 2)).getD wA.1) := by
          cases hq : stpR c L wA.1 (rainS c (wA.1 4 0)) (P.2 j 0) (P.2 j 1) (P.2 j 2) with
          | none => exact hS.2.2.2.1
          | some s' => exact stpR_w hS.2.1 hS.2.2.2.1 ho hq
        have r93 : M2 (808 + j) 3 = ((j + 1 : Nat) : Int) := by
          rw [f2 (808 + j) 3 (by omega) (by omega) (by omega), hr9.2.2.2.2, hv3 hk6]; omega
        have fR : FrG M1 M2 := (FrG.rf.up (Or.inl rfl)).tr f2.G
        by_cases hsm : (stpR c L wA.1 (rainS c (wA.1 4 0)) (P.2 j 0) (P.2 j 1) (P.2 j 2)).isSome = true
        · rw [if_pos hsm] at e9
          rw [bI_t hsm]
          refine u201_104 hK x2 ⟨fun h => absurd h (by decide), fun _ => ⟨hb80, ?_⟩⟩
          rw [Int.toNat_natCast, r93, r6, r7, w1 (i := wA.2.2.1) (by omega), w32_id (z := (wA.2.2.2 : Int) + 0) (by omega)]
          have st2 := hwA.st (M' := mset (mset M2 440 41 ((wA.2.2.1 + 1 : Nat) : Int)) 440 37 ((wA.2.2.2 : Int) + 0)) (w' := doW c L P j wA) hP1 ((fR.up (Or.inr (Or.inl rfl))).up (Or.inr (Or.inr rfl))) l2.s439.s439 hlw' (by rw [ms_na (by decide), ms_na (by decide)]; exact h26) (by rw [e9]) (by rw [e9, ms_nk (by decide), ms_nk (by decide), r5]) (by rw [e9, ms_nk (by decide), ms_eq]) (by rw [e9, ms_eq]; dsimp only; omega) (by rw [e9]; dsimp only; omega)
          exact ih (j + 1) (by omega) (by omega) _ _ _ ((x2.set (by decide +kernel)).set (by decide +kernel)) (f1.tr ((fR.up (Or.inr (Or.inl rfl))).up (Or.inr (Or.inr rfl)))) st2 e1 (Or.inr ⟨_, rfl⟩)
        · rw [if_neg hsm] at e9
          rw [bI_f hsm]
          refine u201_104 hK x2 ⟨fun _ => ⟨hb80, ?_⟩, fun h => absurd rfl h⟩
          rw [Int.toNat_natCast, r93, r6, r7, w1 (i := wA.2.2.2) (by omega), w32_id (z := (wA.2.2.1 : Int) + 0) (by omega)]
          have st2 := hwA.st (M' := mset (mset M2 440 41 ((wA.2.2.1 : Int) + 0)) 440 37 ((wA.2.2.2 + 1 : Nat) : Int)) (w' := doW c L P j wA) hP1 ((fR.up (Or.inr (Or.inl rfl))).up (Or.inr (Or.inr rfl))) l2.s439.s439 hlw' (by rw [ms_na (by decide), ms_na (by decide)]; exact h26) (by rw [e9]) (by rw [e9, ms_nk (by decide), ms_nk (by decide), r5]) (by rw [e9, ms_nk (by decide), ms_eq]; dsimp only; omega) (by rw [e9, ms_eq]) (by rw [e9]; dsimp only; omega)
          exact ih (j + 1) (by omega) (by omega) _ _ _ ((x2.set (by decide +kernel)).set (by decide +kernel)) (f1.tr ((fR.up (Or.inr (Or.inl rfl))).up (Or.inr (Or.inr rfl)))) st2 e1 (Or.inr ⟨_, rfl⟩)
      · have hk6 : P.2 j 0 = 6 := by rw [← q0]; exact h6
        rw [if_pos hk6] at e1
        have ha := ho.2.2.2 hk6
        have inner : ∀ g t, t + g = (P.2 j 1).toNat → ∀ M2 wB, FX M2 → FrG M M2 → WKm M2 c L P wB → W9 = runL c L P (fun j w => runG (R (j + 1) (P.2 j 3).toNat) (P.2 j 1).toNat w) to f (P.2 j 3).toNat (runG (R (j + 1) (P.2 j 3).toNat) g wB) → Wp (d + 7) 201 43 [vR 440, vI (i : Int), vI (to : Int), vI (j : Int), vI (t : Int)] [] M2 K Q := by
          intro g
          induction g with
          | zero =>
            intro t ht M2 wB x2 f2 hwB e2
            have hr9 := hwB.2.2.1 j hj
            have r91 : M2 (808 + j) 1 = P.2 j 1 := hr9.2.1 (Or.inr hk6)
            have r93 : M2 (808 + j) 3 = (((P.2 j 3).toNat : Nat) : Int) := by rw [hr9.2.2.2.2]; omega
            refine u201_43 hK x2 ⟨hb80, fun _ => ⟨hb80, ?_⟩, fun h => ?_⟩
            · rw [Int.toNat_natCast, r93]
              exact ih _ (by omega) (by omega) M2 wB _ x2 f2 hwB e2 (Or.inr ⟨_, rfl⟩)
            · rw [Int.toNat_natCast, r91] at h; exact absurd (by omega) h
          | succ g ihg =>
            intro t ht M2 wB x2 f2 hwB e2
            have hr9 := hwB.2.2.1 j hj
            have r91 : M2 (808 + j) 1 = P.2 j 1 := hr9.2.1 (Or.inr hk6)
            have r93 : M2 (808 + j) 3 = (((P.2 j 3).toNat : Nat) : Int) := by rw [hr9.2.2.2.2]; omega
            have b40 := hwB.2.2.2.1.1
            simp only [runG] at e2
            refine u201_43 hK x2 ⟨hb80, fun h => ?_, fun h => ⟨fun h2 => ⟨hb80, ?_⟩, fun h2 => ⟨hb80, ?_⟩⟩⟩
            · rw [Int.toNat_natCast, r91] at h; exact absurd h (by omega)
            · rw [Int.toNat_natCast, r93]
              rw [if_pos (by omega)] at e2
              exact ih _ (by omega) (by omega) M2 wB _ x2 f2 hwB e2 (Or.inr ⟨_, rfl⟩)
            · rw [if_neg (by omega)] at e2
              rw [Int.toNat_natCast, hr9.2.2.2.2, w1 (i := j) (by omega)]
              refine hR j hij hjt hk6 _ M2 K _ wB (by omega) hK x2 hwB (fun M3 x3 f3 w3 => Bk_n ?_)
              refine u201_81 hK x3 ?_
              rw [w1 (i := t) (by omega)]
              exact ihg (t + 1) (by omega) M3 _ x3 (f2.tr f3) w3 e2
        exact inner (P.2 j 1).toNat 0 (by omega) _ _ xs fs st e1
  exact loop 150 i (by omega) (Nat.le_refl _) M w _ hX FrG.rf h hW.symm (Or.inl rfl)
theorem mrun_ok (hP : PVc c P) (hP1 : P.1 ≤ 51) : ∀ r i to, to ≤ P.1 → NV P r i to → ∀ (d : Nat) (M : Mem) (K : KK) (Q : RR → Mem → KK → Prop) (w : WK), r + 7 ≤ d → K.1 = 923 → FX M → WKm M c L P w → (∀ M', FX M' → FrG M M' → WKm M' c L P (runN c L P r i to w) → Q (.inl none) M' K) → Wm d 201 [vR 440, vI (i : Int), vI (to : Int)] M K Q := by
  intro r
  induction r with
  | zero =>
    intro i to hto hv d M K Q w hd hK hX h k
    refine g201 (D := 0) (R := fun _ _ w => w) hP hP1 hto (fun j h1 h2 h6 => absurd h6 (hv j h1 h2)) (by omega) (by omega) hK hX h (fun M' x f hw => k M' x f ?_)
    have e := runL_cg (c := c) (L := L) (P := P) (AG := fun j w => runG (fun w => w) (P.2 j 1).toNat w) (AG' := fun _ w => w) (to := to) 150 i w hv
    rw [e] at hw
    exact hw
  | succ r ih =>
    intro i to hto hv d M K Q w hd hK hX h k
    refine g201 (D := r + 7) (R := fun a b => runN c L P r a b) hP hP1 hto (fun j h1 h2 h6 d M K Q w hd hK hX h k => ?_) (by omega) (by omega) hK hX h k
    obtain ⟨-, ⟨v1, v2⟩, -⟩ := hP j (by omega)
    have e : P.2 j 3 = (((P.2 j 3).toNat : Nat) : Int) := by omega
    rw [e]
    exact ih (j + 1) _ (by omega) (hv j h1 h2 h6) d M K Q w hd hK hX h k
end GO
