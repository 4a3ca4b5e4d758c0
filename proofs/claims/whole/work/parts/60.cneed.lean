theorem u136_0 {d : Nat} {l1 : Int} {M : Mem} {K : KK} {Q : RR → Mem → KK → Prop} (hK : K.1 = 923) (hX : FX M)  (h : (¬ l1 = (0 : Int) → Q (.inl none) M K) ∧ (l1 = (0 : Int) → Q (.inr 0) (mset M 32 19 (w32 ((M 32 19) + (1 : Int)))) (K.1, K.2.1 + 1, K.2.2 + 6))) : Wp d 136 0 [vR 32, vI l1] [] M K Q := by
  refine r_iload_n c136_0 rfl ?_
  refine r_ifP (P := ¬ l1 = (0 : Int)) c136_1 rfl (fun hc1 => ?_) (fun hc1 => ?_)
  · replace h := h.1 hc1
    exact r_ret c136_25 h
  · have hc2 := Classical.not_not.mp hc1
    replace h := h.2 hc2
    refine r_aload_n c136_4 rfl ?_
    refine r_dupr c136_5 ?_
    refine r_getIe c136_6 (oK hK o32) rfl ?_
    refine r_iconst c136_9 ?_
    refine r_iadd c136_10 ?_
    refine r_putI c136_11 (oK hK o32) ?_
    have x3 := FX.set (v := (w32 ((M 32 19) + (1 : Int)))) (a := 32) (k := 19) hX (by decide +kernel)
    exact r_throw (e := 0) c136_14 (Nat.le_of_ble_eq_true rfl) h
theorem u137_0 {d : Nat} {l1 : Int} {M : Mem} {K : KK} {Q : RR → Mem → KK → Prop} (hK : K.1 = 923) (hX : FX M)  (h : (¬ l1 = (0 : Int) → Q (.inl none) M K) ∧ (l1 = (0 : Int) → Q (.inr 1) (mset M 32 18 (w32 ((M 32 18) + (1 : Int)))) (K.1, K.2.1 + 1, K.2.2 + 6))) : Wp d 137 0 [vR 32, vI l1] [] M K Q := by
  refine r_iload_n c137_0 rfl ?_
  refine r_ifP (P := ¬ l1 = (0 : Int)) c137_1 rfl (fun hc1 => ?_) (fun hc1 => ?_)
  · replace h := h.1 hc1
    exact r_ret c137_25 h
  · have hc2 := Classical.not_not.mp hc1
    replace h := h.2 hc2
    refine r_aload_n c137_4 rfl ?_
    refine r_dupr c137_5 ?_
    refine r_getIe c137_6 (oK hK o32) rfl ?_
    refine r_iconst c137_9 ?_
    refine r_iadd c137_10 ?_
    refine r_putI c137_11 (oK hK o32) ?_
    have x3 := FX.set (v := (w32 ((M 32 18) + (1 : Int)))) (a := 32) (k := 18) hX (by decide +kernel)
    exact r_throw (e := 1) c137_14 (Nat.le_of_ble_eq_true rfl) h
theorem u142_0 {d : Nat} {l0 : Int} {l1 : Int} {l2 : Int} {M : Mem} {K : KK} {Q : RR → Mem → KK → Prop} (hK : K.1 = 923) (hX : FX M)  (h : (l0 < l1 → Q (.inl (some (vI (0 : Int)))) M K) ∧ (¬ (l0 < l1) → (l2 < l0 → Q (.inl (some (vI (0 : Int)))) M K) ∧ (¬ (l2 < l0) → Q (.inl (some (vI (1 : Int)))) M K))) : Wp d 142 0 [vI l0, vI l1, vI l2] [] M K Q := by
  refine r_iload_n c142_0 rfl ?_
  refine r_iload_n c142_1 rfl ?_
  refine r_icmpP (P := l0 < l1) c142_2 rfl (fun hc1 => ?_) (fun hc1 => ?_)
  · replace h := h.1 hc1
    refine r_iconst c142_14 ?_
    exact r_iret c142_15 (by decide) h
  · replace h := h.2 hc1
    refine r_iload_n c142_5 rfl ?_
    refine r_iload_n c142_6 rfl ?_
    refine r_icmpP (P := l2 < l0) c142_7 rfl (fun hc2 => ?_) (fun hc2 => ?_)
    · replace h := h.1 hc2
      refine r_iconst c142_14 ?_
      exact r_iret c142_15 (by decide) h
    · replace h := h.2 hc2
      refine r_iconst c142_10 ?_
      refine r_goto c142_11 ?_
      exact r_iret c142_15 (by decide) h
theorem u143_0 {d : Nat} {l0 : Int} {l1 : Int} {M : Mem} {K : KK} {Q : RR → Mem → KK → Prop} (hK : K.1 = 923) (hX : FX M)  (h : (l0 < (0 : Int) → Q (.inl (some (vI (0 : Int)))) M K) ∧ (¬ (l0 < (0 : Int)) → ((jshl (1 : Int) l1) ≤ l0 → Q (.inl (some (vI (0 : Int)))) M K) ∧ (¬ ((jshl (1 : Int) l1) ≤ l0) → Q (.inl (some (vI (1 : Int)))) M K))) : Wp d 143 0 [vI l0, vI l1] [] M K Q := by
  refine r_iload_n c143_0 rfl ?_
  refine r_ifP (P := l0 < (0 : Int)) c143_1 rfl (fun hc1 => ?_) (fun hc1 => ?_)
  · replace h := h.1 hc1
    refine r_iconst c143_15 ?_
    exact r_iret c143_16 (by decide) h
  · replace h := h.2 hc1
    refine r_iload_n c143_4 rfl ?_
    refine r_iconst c143_5 ?_
    refine r_iload_n c143_6 rfl ?_
    refine r_ishl c143_7 ?_
    refine r_icmpP (P := (jshl (1 : Int) l1) ≤ l0) c143_8 rfl (fun hc2 => ?_) (fun hc2 => ?_)
    · replace h := h.1 hc2
      refine r_iconst c143_15 ?_
      exact r_iret c143_16 (by decide) h
    · replace h := h.2 hc2
      refine r_iconst c143_11 ?_
      refine r_goto c143_12 ?_
      exact r_iret c143_16 (by decide) h
/-! the class's refusals; what a question of the class may change -/
def scC (b : Nat) : Prop := scL b ∨ (45 ≤ b ∧ b ≤ 49) ∨ (134 ≤ b ∧ b ≤ 152)
def OWx (M : Mem) : Prop := ∃ wa wb, OW M wa wb
def FrQc (M M' : Mem) : Prop := (∀ b k, ¬ scC b → M' b k = M b k) ∧ (OWx M → OWx M')
/-- a count more -/
abbrev inc (M : Mem) (j : Nat) : Mem := mset M 32 j (w32 (M 32 j + 1))
/-- an object more -/
abbrev K9 (K : KK) : KK := (K.1, K.2.1 + 1, K.2.2 + 6)
/-- the game as the class holds it -/
def GC (M c : Mem) (L : LC) (s : Mem) : Prop := ∃ cm l : Nat, M 32 11 = (cm : Int) ∧ isO 923 cm 0 = true ∧ SKc M cm 40 c s ∧ LWC M cm L l
def StN (M : Mem) (n : Nat) : Prop := ∃ cm : Nat, M 32 11 = (cm : Int) ∧ isO 923 cm 0 = true ∧ M cm 6 = (n : Int) ∧ n ≤ 6
def CeN (M : Mem) (n : Nat) : Prop := ∃ cm : Nat, M 32 11 = (cm : Int) ∧ isO 923 cm 0 = true ∧ M cm 5 = (n : Int) ∧ n ≤ 12
section ND
variable {d : Nat} {M M' : Mem} {K : KK} {Q : RR → Mem → KK → Prop} {c s : Mem} {L : LC}
theorem FrQc.rf : FrQc M M := ⟨fun _ _ _ => rfl, id⟩
theorem FrQc.tr {M1 M2 : Mem} (h1 : FrQc M M1) (h2 : FrQc M1 M2) : FrQc M M2 := ⟨fun a k h => (h2.1 a k h).trans (h1.1 a k h), fun h => h2.2 (h1.2 h)⟩
theorem OWx.of (h1 : M' 144 0 = M 144 0) (h2 : M' 144 1 = M 144 1) (h : OWx M) : OWx M' := by
  obtain ⟨wa, wb, a, b, e⟩ := h
  exact ⟨wa, wb, a, h1.trans b, h2.trans e⟩
theorem FrDl.qc (h : FrDl M M') : FrQc M M' := ⟨fun b k p => h b k (fun e => p (Or.inl e)) (fun e => p (Or.inr (Or.inr (by omega)))), fun h9 => h9.of (h _ _ (by unfold scL; omega) (by omega)) (h _ _ (by unfold scL; omega) (by omega))⟩
theorem FrW.qc (h : FrW M M') : FrQc M M' := ⟨fun b k p => h b k (fun e => p (Or.inl e)), fun h9 => h9.of (h _ _ (by unfold scL; omega)) (h _ _ (by unfold scL; omega))⟩
theorem GC.stn (h : GC M c L s) : StN M (nSt c) := by
  obtain ⟨cm, l, a, b, e, -⟩ := h
  have := e.2.1.2.1
  exact ⟨cm, a, b, (e.1.g e.2.1).2.1, by unfold nSt; omega⟩
theorem GC.cen (h : GC M c L s) : CeN M (nCe c) := by
  obtain ⟨cm, l, a, b, e, -⟩ := h
  have := e.2.1.1
  exact ⟨cm, a, b, (e.1.g e.2.1).1, by unfold nCe; omega⟩
theorem n136 {v : Int} (hK : K.1 = 923) (hX : FX M) (k1 : (¬ v = 0) → Q (.inl none) M K) (k2 : ¬ (¬ v = 0) → Q (.inr 0) (inc M 19) (K9 K)) : Wm d 136 [vR 32, vI v] M K Q :=
  u136_0 hK hX ⟨k1, fun h => k2 (fun h9 => h9 h)⟩
theorem n136_1 (hK : K.1 = 923) (hX : FX M) (k1 : Q (.inl none) M K) : Wm d 136 [vR 32, vI 1] M K Q := n136 hK hX (fun _ => k1) (fun h => absurd (by decide) h)
theorem n136_0 (hK : K.1 = 923) (hX : FX M) (k2 : Q (.inr 0) (inc M 19) (K9 K)) : Wm d 136 [vR 32, vI 0] M K Q := n136 hK hX (fun h => absurd rfl h) (fun _ => k2)
theorem n136b {P : Prop} [Decidable P] (hK : K.1 = 923) (hX : FX M) (k1 : P → Q (.inl none) M K) (k2 : ¬ P → Q (.inr 0) (inc M 19) (K9 K)) : Wm d 136 [vR 32, vI (bI P)] M K Q :=
  n136 hK hX (fun h => k1 (Classical.byContradiction fun h9 => h (bI_f h9))) (fun h => k2 (fun h9 => h (by rw [bI_t h9]; decide)))
theorem n137 {v : Int} (hK : K.1 = 923) (hX : FX M) (k1 : (¬ v = 0) → Q (.inl none) M K) (k2 : ¬ (¬ v = 0) → Q (.inr 1) (inc M 18) (K9 K)) : Wm d 137 [vR 32, vI v] M K Q :=
  u137_0 hK hX ⟨k1, fun h => k2 (fun h9 => h9 h)⟩
theorem n137b {P : Prop} [Decidable P] (hK : K.1 = 923) (hX : FX M) (k1 : P → Q (.inl none) M K) (k2 : ¬ P → Q (.inr 1) (inc M 18) (K9 K)) : Wm d 137 [vR 32, vI (bI P)] M K Q :=
  n137 hK hX (fun h => k1 (Classical.byContradiction fun h9 => h (bI_f h9))) (fun h => k2 (fun h9 => h (by rw [bI_t h9]; decide)))
theorem g142 {v lo hi : Int} (hK : K.1 = 923) (hX : FX M) (k : Q (.inl (some (vI (bI (lo ≤ v ∧ v ≤ hi))))) M K) : Wm d 142 [vI v, vI lo, vI hi] M K Q := by
  refine u142_0 hK hX ⟨fun h => ?_, fun h => ⟨fun h2 => ?_, fun h2 => ?_⟩⟩
  · rw [bI_f (by omega)] at k; exact k
  · rw [bI_f (by omega)] at k; exact k
  · rw [bI_t (by omega)] at k; exact k
theorem g143 {v n : Int} (hK : K.1 = 923) (hX : FX M) (h : 0 ≤ n ∧ n ≤ 12) (k : Q (.inl (some (vI (bI (0 ≤ v ∧ v < ((2 ^ n.toNat : Nat) : Int)))))) M K) : Wm d 143 [vI v, vI n] M K Q := by
  have e : jshl 1 n = ((2 ^ n.toNat : Nat) : Int) := by
    have := jshl_1 (k := n.toNat) (by omega)
    rw [Int.toNat_of_nonneg h.1] at this; exact this
  refine u143_0 hK hX ⟨fun h => ?_, fun h => ?_⟩
  · rw [bI_f (by omega)] at k; exact k
  · rw [e]
    refine ⟨fun h2 => ?_, fun h2 => ?_⟩
    · rw [bI_f (by omega)] at k; exact k
    · rw [bI_t (by omega)] at k; exact k
end ND
theorem u138_0 {d : Nat} {l1 : Int} {M : Mem} {K : KK} {Q : RR → Mem → KK → Prop} (hK : K.1 = 923) (hX : FX M)  (h : ∃ b1 : Nat, (M 32 11) = (b1 : Int) ∧ isO 923 b1 0 = true ∧ (((0 : Int) ≤ l1 ∧ l1 ≤ (w32 ((M b1 6) - (1 : Int)))) → Q (.inl none) M K) ∧ (¬ ((0 : Int) ≤ l1 ∧ l1 ≤ (w32 ((M b1 6) - (1 : Int)))) → Q (.inr 1) (mset M 32 18 (w32 ((M 32 18) + 1))) (K.1, K.2.1 + 1, K.2.2 + 6))) : Wp (d + 1) 138 0 [vR 32, vI l1] [] M K Q := by
  refine r_aload_n c138_0 rfl ?_
  refine r_iload_n c138_1 rfl ?_
  refine r_iconst c138_2 ?_
  refine r_aload_n c138_3 rfl ?_
  obtain ⟨b1, h⟩ := h
  obtain ⟨e2, h⟩ := h
  obtain ⟨k3, h⟩ := h
  refine r_getR c138_4 (oK hK o32) e2 (by have := (isO_d k3).1; omega) ?_
  refine r_getIe c138_7 (oK hK k3) rfl ?_
  refine r_iconst c138_10 ?_
  refine r_isub c138_11 ?_
  refine r_call c138_12 rfl rfl (Nat.le_of_ble_eq_true rfl) (okc_s rfl rfl rfl) (g142 hK hX  (Bk_v ?_))
  refine r_call c138_15 rfl rfl (Nat.le_of_ble_eq_true rfl) (okc_r rfl rfl (oK hK o32)) (n137b hK hX (fun hc => Bk_n ?_) (fun hc => Bk_e rfl rfl rfl ?_))
  · replace h := h.1 hc
    exact r_ret c138_18 h
  · replace h := h.2 hc
    exact h
theorem u139_0 {d : Nat} {l1 : Int} {M : Mem} {K : KK} {Q : RR → Mem → KK → Prop} (hK : K.1 = 923) (hX : FX M)  (h : ∃ b1 : Nat, (M 32 11) = (b1 : Int) ∧ isO 923 b1 0 = true ∧ (((0 : Int) ≤ l1 ∧ l1 ≤ (w32 ((M b1 5) - (1 : Int)))) → Q (.inl none) M K) ∧ (¬ ((0 : Int) ≤ l1 ∧ l1 ≤ (w32 ((M b1 5) - (1 : Int)))) → Q (.inr 1) (mset M 32 18 (w32 ((M 32 18) + 1))) (K.1, K.2.1 + 1, K.2.2 + 6))) : Wp (d + 1) 139 0 [vR 32, vI l1] [] M K Q := by
  refine r_aload_n c139_0 rfl ?_
  refine r_iload_n c139_1 rfl ?_
  refine r_iconst c139_2 ?_
  refine r_aload_n c139_3 rfl ?_
  obtain ⟨b1, h⟩ := h
  obtain ⟨e2, h⟩ := h
  obtain ⟨k3, h⟩ := h
  refine r_getR c139_4 (oK hK o32) e2 (by have := (isO_d k3).1; omega) ?_
  refine r_getIe c139_7 (oK hK k3) rfl ?_
  refine r_iconst c139_10 ?_
  refine r_isub c139_11 ?_
  refine r_call c139_12 rfl rfl (Nat.le_of_ble_eq_true rfl) (okc_s rfl rfl rfl) (g142 hK hX  (Bk_v ?_))
  refine r_call c139_15 rfl rfl (Nat.le_of_ble_eq_true rfl) (okc_r rfl rfl (oK hK o32)) (n137b hK hX (fun hc => Bk_n ?_) (fun hc => Bk_e rfl rfl rfl ?_))
  · replace h := h.1 hc
    exact r_ret c139_18 h
  · replace h := h.2 hc
    exact h
theorem u140_0 {d : Nat} {l1 : Int} {l2 : Int} {M : Mem} {K : KK} {Q : RR → Mem → KK → Prop} (hK : K.1 = 923) (hX : FX M)  (h : (¬ ((0 : Int) ≤ l1 ∧ l1 ≤ l2) → Q (.inl (some (vI (0 : Int)))) M K) ∧ (((0 : Int) ≤ l1 ∧ l1 ≤ l2) → ((M 33 1) < l1 → Q (.inl (some (vI (0 : Int)))) M K) ∧ (¬ ((M 33 1) < l1) → Q (.inl (some (vI (1 : Int)))) M K))) : Wp (d + 1) 140 0 [vR 32, vI l1, vI l2] [] M K Q := by
  refine r_iload_n c140_0 rfl ?_
  refine r_iconst c140_1 ?_
  refine r_iload_n c140_2 rfl ?_
  refine r_call c140_3 rfl rfl (Nat.le_of_ble_eq_true rfl) (okc_s rfl rfl rfl) (g142 hK hX  (Bk_v ?_))
  refine r_ifP (P := ¬ ((0 : Int) ≤ l1 ∧ l1 ≤ l2)) c140_6 bI_eq (fun hc1 => ?_) (fun hc1 => ?_)
  · replace h := h.1 hc1
    refine r_iconst c140_24 ?_
    exact r_iret c140_25 (by decide) h
  · have hc2 := Classical.not_not.mp hc1
    replace h := h.2 hc2
    refine r_iload_n c140_9 rfl ?_
    refine r_aload_n c140_10 rfl ?_
    refine r_getR c140_11 (oK hK o32) (FX.get (b := 33) hX (by decide) (by decide +kernel) (by decide)) (by decide) ?_
    refine r_getIe c140_14 (oK hK o33) rfl ?_
    refine r_icmpP (P := (M 33 1) < l1) c140_17 rfl (fun hc3 => ?_) (fun hc3 => ?_)
    · replace h := h.1 hc3
      refine r_iconst c140_24 ?_
      exact r_iret c140_25 (by decide) h
    · replace h := h.2 hc3
      refine r_iconst c140_20 ?_
      refine r_goto c140_21 ?_
      exact r_iret c140_25 (by decide) h
theorem u141_0 {d : Nat} {l0 : Int} {l1 : Int} {l2 : Int} {M : Mem} {K : KK} {Q : RR → Mem → KK → Prop} (hK : K.1 = 923) (hX : FX M)  (h : (¬ ((1 : Int) ≤ l0 ∧ l0 ≤ (96 : Int)) → Q (.inl (some (vI (0 : Int)))) M K) ∧ (((1 : Int) ≤ l0 ∧ l0 ≤ (96 : Int)) → (¬ ((0 : Int) ≤ l1 ∧ l1 ≤ (16 : Int)) → Q (.inl (some (vI (0 : Int)))) M K) ∧ (((0 : Int) ≤ l1 ∧ l1 ≤ (16 : Int)) → (¬ ((0 : Int) ≤ l2 ∧ l2 ≤ (16 : Int)) → Q (.inl (some (vI (0 : Int)))) M K) ∧ (((0 : Int) ≤ l2 ∧ l2 ≤ (16 : Int)) → Q (.inl (some (vI (1 : Int)))) M K)))) : Wp (d + 1) 141 0 [vI l0, vI l1, vI l2] [] M K Q := by
  refine r_iload_n c141_0 rfl ?_
  refine r_iconst c141_1 ?_
  refine r_bipush c141_2 ?_
  refine r_call c141_4 rfl rfl (Nat.le_of_ble_eq_true rfl) (okc_s rfl rfl rfl) (g142 hK hX  (Bk_v ?_))
  refine r_ifP (P := ¬ ((1 : Int) ≤ l0 ∧ l0 ≤ (96 : Int))) c141_7 bI_eq (fun hc1 => ?_) (fun hc1 => ?_)
  · replace h := h.1 hc1
    refine r_iconst c141_34 ?_
    exact r_iret c141_35 (by decide) h
  · have hc2 := Classical.not_not.mp hc1
    replace h := h.2 hc2
    refine r_iload_n c141_10 rfl ?_
    refine r_iconst c141_11 ?_
    refine r_bipush c141_12 ?_
    refine r_call c141_14 rfl rfl (Nat.le_of_ble_eq_true rfl) (okc_s rfl rfl rfl) (g142 hK hX  (Bk_v ?_))
    refine r_ifP (P := ¬ ((0 : Int) ≤ l1 ∧ l1 ≤ (16 : Int))) c141_17 bI_eq (fun hc3 => ?_) (fun hc3 => ?_)
    · replace h := h.1 hc3
      refine r_iconst c141_34 ?_
      exact r_iret c141_35 (by decide) h
    · have hc4 := Classical.not_not.mp hc3
      replace h := h.2 hc4
      refine r_iload_n c141_20 rfl ?_
      refine r_iconst c141_21 ?_
      refine r_bipush c141_22 ?_
      refine r_call c141_24 rfl rfl (Nat.le_of_ble_eq_true rfl) (okc_s rfl rfl rfl) (g142 hK hX  (Bk_v ?_))
      refine r_ifP (P := ¬ ((0 : Int) ≤ l2 ∧ l2 ≤ (16 : Int))) c141_27 bI_eq (fun hc5 => ?_) (fun hc5 => ?_)
      · replace h := h.1 hc5
        refine r_iconst c141_34 ?_
        exact r_iret c141_35 (by decide) h
      · have hc6 := Classical.not_not.mp hc5
        replace h := h.2 hc6
        refine r_iconst c141_30 ?_
        refine r_goto c141_31 ?_
        exact r_iret c141_35 (by decide) h
section NE
variable {d : Nat} {M M' : Mem} {K : KK} {Q : RR → Mem → KK → Prop} {c s : Mem} {L : LC}
theorem n138 {v : Int} {n : Nat} (hK : K.1 = 923) (hX : FX M) (h : StN M n) (k1 : (0 ≤ v ∧ v < (n : Int)) → Q (.inl none) M K) (k2 : ¬ (0 ≤ v ∧ v < (n : Int)) → Q (.inr 1) (inc M 18) (K9 K)) : Wm (d + 1) 138 [vR 32, vI v] M K Q := by
  obtain ⟨cm, a, b, e, f⟩ := h
  refine u138_0 hK hX ⟨cm, a, b, ?_⟩
  rw [e, w32_id (by omega)]
  exact ⟨fun h => k1 (by omega), fun h => k2 (by omega)⟩
theorem n139 {v : Int} {n : Nat} (hK : K.1 = 923) (hX : FX M) (h : CeN M n) (k1 : (0 ≤ v ∧ v < (n : Int)) → Q (.inl none) M K) (k2 : ¬ (0 ≤ v ∧ v < (n : Int)) → Q (.inr 1) (inc M 18) (K9 K)) : Wm (d + 1) 139 [vR 32, vI v] M K Q := by
  obtain ⟨cm, a, b, e, f⟩ := h
  refine u139_0 hK hX ⟨cm, a, b, ?_⟩
  rw [e, w32_id (by omega)]
  exact ⟨fun h => k1 (by omega), fun h => k2 (by omega)⟩
theorem g140 {v w : Int} (hK : K.1 = 923) (hX : FX M) (k : Q (.inl (some (vI (bI ((0 ≤ v ∧ v ≤ w) ∧ v ≤ M 33 1))))) M K) : Wm (d + 1) 140 [vR 32, vI v, vI w] M K Q := by
  refine u140_0 hK hX ⟨fun h => ?_, fun h => ⟨fun h2 => ?_, fun h2 => ?_⟩⟩
  · rw [bI_f (by omega)] at k; exact k
  · rw [bI_f (by omega)] at k; exact k
  · rw [bI_t (by omega)] at k; exact k
theorem g141 {a b e : Int} (hK : K.1 = 923) (hX : FX M) (k : Q (.inl (some (vI (bI ((1 ≤ a ∧ a ≤ 96) ∧ (0 ≤ b ∧ b ≤ 16) ∧ (0 ≤ e ∧ e ≤ 16)))))) M K) : Wm (d + 1) 141 [vI a, vI b, vI e] M K Q := by
  refine u141_0 hK hX ?_
  have kt : ((1 ≤ a ∧ a ≤ 96) ∧ (0 ≤ b ∧ b ≤ 16) ∧ (0 ≤ e ∧ e ≤ 16)) → Q (.inl (some (vI 1))) M K := fun h => by rw [bI_t h] at k; exact k
  have kf : ¬ ((1 ≤ a ∧ a ≤ 96) ∧ (0 ≤ b ∧ b ≤ 16) ∧ (0 ≤ e ∧ e ≤ 16)) → Q (.inl (some (vI 0))) M K := fun h => by rw [bI_f h] at k; exact k
  exact ⟨fun h => kf (fun h9 => h h9.1), fun h => ⟨fun h2 => kf (fun h9 => h2 h9.2.1), fun h2 => ⟨fun h3 => kf (fun h9 => h3 h9.2.2), fun h3 => kt ⟨h, h2, h3⟩⟩⟩⟩
end NE
